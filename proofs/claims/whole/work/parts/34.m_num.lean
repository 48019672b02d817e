/-! ===== numbers and sorts in the reference's reader ===== -/
abbrev dgt (c : Int) : Prop := 48 ≤ c ∧ c ≤ 57
def nx (v b : Int) : Int := if 100000 < 10 * v + b - 48 then 100000 else 10 * v + b - 48
def nmE (f : Nat → Int) (sz p : Nat) : Nat := if p < sz ∧ dgt (f p) then nmE f sz (p + 1) else p
termination_by sz - p
def nmV (f : Nat → Int) (sz p : Nat) (v : Int) : Int := if p < sz ∧ dgt (f p) then nmV f sz (p + 1) (nx v (f p)) else v
termination_by sz - p
set_option maxRecDepth 100000 in
theorem bt_d {f : Nat → Int} {sz p : Nat} (h : dgt (bt f sz p)) : p < sz ∧ dgt (f p) := by
  unfold bt dgt at h
  split at h
  · exact ⟨by assumption, h⟩
  · omega
set_option maxRecDepth 100000 in
theorem nmE_go {f : Nat → Int} {sz p : Nat} (h : dgt (bt f sz p)) : nmE f sz p = nmE f sz (p + 1) := by
  rw [nmE, if_pos (bt_d h)]
set_option maxRecDepth 100000 in
theorem nmE_stay {f : Nat → Int} {sz p : Nat} (h : ¬ dgt (bt f sz p)) : nmE f sz p = p := by
  rw [nmE, if_neg]
  rintro ⟨h1, h2⟩
  unfold bt at h
  rw [if_pos h1] at h
  exact h h2
set_option maxRecDepth 100000 in
theorem nmV_go {f : Nat → Int} {sz p : Nat} {v : Int} (h : dgt (bt f sz p)) : nmV f sz p v = nmV f sz (p + 1) (nx v (bt f sz p)) := by
  have h2 := bt_d h
  rw [nmV, if_pos h2, show bt f sz p = f p from if_pos h2.1]
set_option maxRecDepth 100000 in
theorem nmV_stay {f : Nat → Int} {sz p : Nat} {v : Int} (h : ¬ dgt (bt f sz p)) : nmV f sz p v = v := by
  rw [nmV, if_neg]
  rintro ⟨h1, h2⟩
  unfold bt at h
  rw [if_pos h1] at h
  exact h h2
set_option maxRecDepth 100000 in
theorem nx_range {v b : Int} (hv : 0 ≤ v ∧ v ≤ 100000) (hb : dgt b) : 0 ≤ nx v b ∧ nx v b ≤ 100000 := by
  unfold nx dgt at *
  split <;> omega
def numP (f : Nat → Int) (sz : Nat) (s : PSt) : PSt := if pFl s = 0 then (if dgt (hereC f sz s) then (if 9999 < nmV f sz (sk f sz (pAt s)) 0 then wFlP (wAtP s (nmE f sz (sk f sz (pAt s)))) 2 (sk f sz (pAt s) : Nat) else wAtP s (nmE f sz (sk f sz (pAt s)))) else wrongP (hereP f sz s) 1 (sk f sz (pAt s) : Nat)) else s
def numV (f : Nat → Int) (sz : Nat) (s : PSt) : Int := if pFl s = 0 then (if dgt (hereC f sz s) then nmV f sz (sk f sz (pAt s)) 0 else 0) else 0
section MNum
variable {d sz : Nat} {m : Mem} {I : Nat → Int} {A L : Nat → Nat → Int} {s : PSt} {Q : Nat → Option AV → Mem → Prop}
set_option maxRecDepth 100000 in
theorem f_number (hR : RdW m I A sz) (hG : Gd s) (h : Q 0 (some (vI (numV (A 2) sz s))) (PM m I A L (numP (A 2) sz s))) : Ex (d + 2) M_number 0 [some (vR aM), none, none] [] (PM m I A L s) Q := by
  have hM := hR.1
  have hsz := hR.2.2.1
  have hr := hereC_range hR s
  have hb := sk_bd (A 2) hG.1 (show sz ≤ 9000 by omega)
  unfold numP numV at h
  by_cases h0 : pFl s = 0
  · rw [if_pos h0, if_pos h0] at h
    have hloop : ∀ (r p : Nat) (v : Int), sz - p < r → p ≤ 9000 → 0 ≤ v ∧ v ≤ 100000 → Q 0 (some (vI (nmV (A 2) sz p v))) (PM m I A L (if 9999 < nmV (A 2) sz p v then wFlP (wAtP s (nmE (A 2) sz p)) 2 (sk (A 2) sz (pAt s) : Nat) else wAtP s (nmE (A 2) sz p))) → Ex (d + 2) M_number 37 [some (vR aM), some (vI ((sk (A 2) sz (pAt s) : Nat) : Int)), some (vI v)] [] (PM m I A L (wAtP s p)) Q := by
      intro r
      induction r with
      | zero => intro p v hr; omega
      | succ r ih =>
        intro p v hr hp hv h
        have hbp := bt_range hR.2.2.2 hsz p
        refine Ex_step (tk_M_number rfl) ?_
        refine Ex_step (tk_M_number rfl) ?_
        refine gMI (tk_M_number rfl) hM ?_
        refine Ex_cV0 (av := [vI (pI I (wAtP s p) 4)]) (tk_M_number rfl) mk_M_byteAt ⟨rfl, rfl, by decide, rfl, Nat.le_of_ble_eq_true rfl, Nat.le_of_ble_eq_true rfl⟩ (hM.k) (fun _ h => f_byteAt (k := p) hR rfl (by omega) h) ?_
        refine Ex_cS0 (av := [vI (bt (A 2) sz p)]) (tk_M_number rfl) mk_M_isDigit ⟨rfl, by decide, rfl, rfl, rfl, Nat.le_of_ble_eq_true rfl, Nat.le_of_ble_eq_true rfl⟩ (fun _ h => e_isDigit hbp h) ?_
        refine Ex_step (tk_M_number rfl) ⟨fun h48 => ?_, fun h48 => ?_⟩
        · try simp (disch := omega) only [cmpI, w32_b2i, b2i_0, b2i_1, w32_id, Classical.not_not, not_true_eq_false, not_false_eq_true] at h48
          rw [nmV_stay h48, nmE_stay h48] at h
          refine Ex_step (tk_M_number rfl) ?_
          refine Ex_step (tk_M_number rfl) ?_
          refine Ex_step (tk_M_number rfl) ⟨fun h90 => ?_, fun h90 => ?_⟩
          · try simp (disch := omega) only [cmpI, w32_b2i, b2i_0, b2i_1, w32_id, Classical.not_not, not_true_eq_false, not_false_eq_true] at h90
            first | rw [if_neg (by omega)] at h | (rw [show wrongP (wAtP s p) 2 ((sk (A 2) sz (pAt s) : Nat) : Int) = wFlP (wAtP s p) 2 ((sk (A 2) sz (pAt s) : Nat) : Int) from if_pos h0])
            refine Ex_step (tk_M_number rfl) ?_
            refine Ex_step (tk_M_number rfl) ⟨rfl, ?_⟩
            exact h
          · try simp (disch := omega) only [cmpI, w32_b2i, b2i_0, b2i_1, w32_id, Classical.not_not, not_true_eq_false, not_false_eq_true] at h90
            rw [if_pos (by omega)] at h
            refine Ex_step (tk_M_number rfl) ?_
            refine Ex_step (tk_M_number rfl) ?_
            refine Ex_step (tk_M_number rfl) ?_
            refine Ex_cV0 (av := [vI 2, vI ((sk (A 2) sz (pAt s) : Nat) : Int)]) (tk_M_number rfl) mk_M_wrong ⟨rfl, rfl, by decide, rfl, Nat.le_of_ble_eq_true rfl, Nat.le_of_ble_eq_true rfl⟩ (hM.k) (fun _ h => f_wrong (k := 2) hR hG.2.1 h) ?_
            first | rw [if_neg (by omega)] at h | (rw [show wrongP (wAtP s p) 2 ((sk (A 2) sz (pAt s) : Nat) : Int) = wFlP (wAtP s p) 2 ((sk (A 2) sz (pAt s) : Nat) : Int) from if_pos h0])
            refine Ex_step (tk_M_number rfl) ?_
            refine Ex_step (tk_M_number rfl) ⟨rfl, ?_⟩
            exact h
        · try simp (disch := omega) only [cmpI, w32_b2i, b2i_0, b2i_1, w32_id, Classical.not_not, not_true_eq_false, not_false_eq_true] at h48
          have hpz := (bt_d h48).1
          have hnx : (if w32 100000 < w32 (10 * v + bt (A 2) sz p - 48) then (100000 : Int) else 10 * v + bt (A 2) sz p - 48) = nx v (bt (A 2) sz p) := by
            rw [w32_id (by omega) (by omega), w32_id (by omega) (by omega)]
            rfl
          refine Ex_step (tk_M_number rfl) ?_
          refine Ex_step (tk_M_number rfl) ?_
          refine Ex_step (tk_M_number rfl) ?_
          refine Ex_step (tk_M_number rfl) ?_
          refine Ex_step (tk_M_number rfl) ?_
          refine Ex_step (tk_M_number rfl) ?_
          refine gMI (tk_M_number rfl) hM ?_
          refine Ex_cV0 (av := [vI (pI I (wAtP s p) 4)]) (tk_M_number rfl) mk_M_byteAt ⟨rfl, rfl, by decide, rfl, Nat.le_of_ble_eq_true rfl, Nat.le_of_ble_eq_true rfl⟩ (hM.k) (fun _ h => f_byteAt (k := p) hR rfl (by omega) h) ?_
          refine Ex_step (tk_M_number rfl) ?_
          refine Ex_step (tk_M_number rfl) ?_
          refine Ex_step (tk_M_number rfl) ?_
          refine Ex_cS0 (av := [vI 100000, vI (10 * v + bt (A 2) sz p - 48)]) (tk_M_number rfl) mk_M_less ⟨rfl, by decide, rfl, rfl, rfl, Nat.le_of_ble_eq_true rfl, Nat.le_of_ble_eq_true rfl⟩ (fun _ h => e_less h) ?_
          rw [hnx]
          refine Ex_step (tk_M_number rfl) ?_
          refine Ex_step (tk_M_number rfl) ?_
          refine Ex_step (tk_M_number rfl) ?_
          refine gMI (tk_M_number rfl) hM ?_
          refine Ex_step (tk_M_number rfl) ?_
          refine Ex_step (tk_M_number rfl) ?_
          refine pMI (tk_M_number rfl) hM ?_
          refine Ex_step (tk_M_number rfl) ?_
          rw [pI_at _ _ (p + 1) (by show (p : Int) + 1 = _; omega)]
          rw [nmV_go h48, nmE_go h48] at h
          exact ih (p + 1) _ (by omega) (by omega) (nx_range hv h48) h
    refine Ex_step (tk_M_number rfl) ?_
    refine Ex_cV0 (av := []) (tk_M_number rfl) mk_M_fine ⟨rfl, rfl, by decide, rfl, Nat.le_of_ble_eq_true rfl, Nat.le_of_ble_eq_true rfl⟩ (hM.k) (fun _ h => f_fine hR hG.2.1 h) ?_
    refine Ex_step (tk_M_number rfl) ⟨fun h4 => ?_, fun h4 => ?_⟩
    · try simp (disch := omega) only [cmpI, w32_b2i, b2i_0, b2i_1, w32_id, Classical.not_not, not_true_eq_false, not_false_eq_true] at h4
      refine Ex_step (tk_M_number rfl) ?_
      refine Ex_cV0 (av := []) (tk_M_number rfl) mk_M_here ⟨rfl, rfl, by decide, rfl, Nat.le_of_ble_eq_true rfl, Nat.le_of_ble_eq_true rfl⟩ (hM.k) (fun _ h => f_here hR hG.1 h) ?_
      refine Ex_cS0 (av := [vI (hereC (A 2) sz s)]) (tk_M_number rfl) mk_M_isDigit ⟨rfl, by decide, rfl, rfl, rfl, Nat.le_of_ble_eq_true rfl, Nat.le_of_ble_eq_true rfl⟩ (fun _ h => e_isDigit hr h) ?_
      refine Ex_step (tk_M_number rfl) ⟨fun h16 => ?_, fun h16 => ?_⟩
      · try simp (disch := omega) only [cmpI, w32_b2i, b2i_0, b2i_1, w32_id, Classical.not_not, not_true_eq_false, not_false_eq_true] at h16
        rw [if_pos h16, if_pos h16] at h
        refine Ex_step (tk_M_number rfl) ?_
        refine gMI (tk_M_number rfl) hM ?_
        refine Ex_step (tk_M_number rfl) ?_
        refine Ex_step (tk_M_number rfl) ?_
        refine Ex_step (tk_M_number rfl) ?_
        exact hloop (sz + 1) _ 0 (by omega) (by omega) (by omega) h
      · try simp (disch := omega) only [cmpI, w32_b2i, b2i_0, b2i_1, w32_id, Classical.not_not, not_true_eq_false, not_false_eq_true] at h16
        rw [if_neg h16, if_neg h16] at h
        refine Ex_step (tk_M_number rfl) ?_
        refine Ex_step (tk_M_number rfl) ?_
        refine Ex_step (tk_M_number rfl) ?_
        refine gMI (tk_M_number rfl) hM ?_
        refine Ex_cV0 (av := [vI 1, vI (pI I (hereP (A 2) sz s) 4)]) (tk_M_number rfl) mk_M_wrong ⟨rfl, rfl, by decide, rfl, Nat.le_of_ble_eq_true rfl, Nat.le_of_ble_eq_true rfl⟩ (hM.k) (fun _ h => f_wrong (k := 1) hR hG.2.1 h) ?_
        refine Ex_step (tk_M_number rfl) ?_
        refine Ex_step (tk_M_number rfl) ⟨rfl, ?_⟩
        exact h
    · try simp (disch := omega) only [cmpI, w32_b2i, b2i_0, b2i_1, w32_id, Classical.not_not, not_true_eq_false, not_false_eq_true] at h4
      exact absurd h0 h4
  · rw [if_neg h0, if_neg h0] at h
    refine Ex_step (tk_M_number rfl) ?_
    refine Ex_cV0 (av := []) (tk_M_number rfl) mk_M_fine ⟨rfl, rfl, by decide, rfl, Nat.le_of_ble_eq_true rfl, Nat.le_of_ble_eq_true rfl⟩ (hM.k) (fun _ h => f_fine hR hG.2.1 h) ?_
    refine Ex_step (tk_M_number rfl) ⟨fun h4 => ?_, fun h4 => ?_⟩
    · try simp (disch := omega) only [cmpI, w32_b2i, b2i_0, b2i_1, w32_id, Classical.not_not, not_true_eq_false, not_false_eq_true] at h4
      exact absurd h4 h0
    · try simp (disch := omega) only [cmpI, w32_b2i, b2i_0, b2i_1, w32_id, Classical.not_not, not_true_eq_false, not_false_eq_true] at h4
      refine Ex_step (tk_M_number rfl) ?_
      refine Ex_step (tk_M_number rfl) ⟨rfl, ?_⟩
      exact h
def sortC (c : Int) : Int := if c = 46 then 0 else if c = 35 then 1 else if c = 111 then 2 else if c = 116 then 3 else -1
set_option maxRecDepth 100000 in
theorem f_sortHere (hR : RdW m I A sz) (hp : pAt s ≤ 9000) (h : Q 0 (some (vI (sortC (hereC (A 2) sz s)))) (PM m I A L (hereP (A 2) sz s))) : Ex (d + 2) M_sortHere 0 [some (vR aM), none] [] (PM m I A L s) Q := by
  have hM := hR.1
  have hr := hereC_range hR s
  unfold sortC at h
  refine Ex_step (tk_M_sortHere rfl) ?_
  refine Ex_cV0 (av := []) (tk_M_sortHere rfl) mk_M_here ⟨rfl, rfl, by decide, rfl, Nat.le_of_ble_eq_true rfl, Nat.le_of_ble_eq_true rfl⟩ (hM.k) (fun _ h => f_here hR hp h) ?_
  refine Ex_step (tk_M_sortHere rfl) ?_
  refine Ex_step (tk_M_sortHere rfl) ?_
  refine Ex_step (tk_M_sortHere rfl) ?_
  refine Ex_step (tk_M_sortHere rfl) ⟨fun h8 => ?_, fun h8 => ?_⟩
  · try simp (disch := omega) only [cmpI, w32_b2i, b2i_0, b2i_1, w32_id, Classical.not_not, not_true_eq_false, not_false_eq_true] at h8
    refine Ex_step (tk_M_sortHere rfl) ?_
    refine Ex_step (tk_M_sortHere rfl) ?_
    refine Ex_step (tk_M_sortHere rfl) ⟨fun h18 => ?_, fun h18 => ?_⟩
    · try simp (disch := omega) only [cmpI, w32_b2i, b2i_0, b2i_1, w32_id, Classical.not_not, not_true_eq_false, not_false_eq_true] at h18
      refine Ex_step (tk_M_sortHere rfl) ?_
      refine Ex_step (tk_M_sortHere rfl) ?_
      refine Ex_step (tk_M_sortHere rfl) ⟨fun h28 => ?_, fun h28 => ?_⟩
      · try simp (disch := omega) only [cmpI, w32_b2i, b2i_0, b2i_1, w32_id, Classical.not_not, not_true_eq_false, not_false_eq_true] at h28
        refine Ex_step (tk_M_sortHere rfl) ?_
        refine Ex_step (tk_M_sortHere rfl) ?_
        refine Ex_step (tk_M_sortHere rfl) ⟨fun h38 => ?_, fun h38 => ?_⟩
        · try simp (disch := omega) only [cmpI, w32_b2i, b2i_0, b2i_1, w32_id, Classical.not_not, not_true_eq_false, not_false_eq_true] at h38
          rw [if_neg h8, if_neg h18, if_neg h28, if_neg h38] at h
          refine Ex_step (tk_M_sortHere rfl) ?_
          refine Ex_step (tk_M_sortHere rfl) ⟨rfl, ?_⟩
          exact h
        · try simp (disch := omega) only [cmpI, w32_b2i, b2i_0, b2i_1, w32_id, Classical.not_not, not_true_eq_false, not_false_eq_true] at h38
          rw [if_neg h8, if_neg h18, if_neg h28, if_pos h38] at h
          refine Ex_step (tk_M_sortHere rfl) ?_
          refine Ex_step (tk_M_sortHere rfl) ?_
          refine Ex_step (tk_M_sortHere rfl) ⟨rfl, ?_⟩
          exact h
      · try simp (disch := omega) only [cmpI, w32_b2i, b2i_0, b2i_1, w32_id, Classical.not_not, not_true_eq_false, not_false_eq_true] at h28
        rw [if_neg h8, if_neg h18, if_pos h28] at h
        refine Ex_step (tk_M_sortHere rfl) ?_
        refine Ex_step (tk_M_sortHere rfl) ?_
        refine Ex_step (tk_M_sortHere rfl) ⟨rfl, ?_⟩
        exact h
    · try simp (disch := omega) only [cmpI, w32_b2i, b2i_0, b2i_1, w32_id, Classical.not_not, not_true_eq_false, not_false_eq_true] at h18
      rw [if_neg h8, if_pos h18] at h
      refine Ex_step (tk_M_sortHere rfl) ?_
      refine Ex_step (tk_M_sortHere rfl) ?_
      refine Ex_step (tk_M_sortHere rfl) ⟨rfl, ?_⟩
      exact h
  · try simp (disch := omega) only [cmpI, w32_b2i, b2i_0, b2i_1, w32_id, Classical.not_not, not_true_eq_false, not_false_eq_true] at h8
    rw [if_pos h8] at h
    refine Ex_step (tk_M_sortHere rfl) ?_
    refine Ex_step (tk_M_sortHere rfl) ?_
    refine Ex_step (tk_M_sortHere rfl) ⟨rfl, ?_⟩
    exact h
end MNum
