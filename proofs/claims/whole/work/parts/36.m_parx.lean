/-! ===== the reference's parser runs so ===== -/
def LowW (m : Mem) : Prop := ∀ w, w < 10 → Txt m (30 + 2 * w) (31 + 2 * w) (wn w) (wg w)
def HS (sz : Nat) (k : Int) (s : PSt) : Prop := G2 sz s ∧ 2 * (pCd s : Int) ≤ 3 * (pAt s : Int) + k
set_option maxRecDepth 100000 in
theorem HS.bk {sz : Nat} {k l : Int} {s t : PSt} (h : HS sz k s) (b : Bk l s t) (g : G2 sz t) : HS sz (k + l) t := ⟨g, by have := b.2.2.1; have := h.2; omega⟩
set_option maxRecDepth 100000 in
theorem HS.gd {sz : Nat} {k : Int} {s : PSt} (h : HS sz k s) (hsz : sz ≤ 800) (hk : k ≤ 100) : Gd s := by
  obtain ⟨⟨h1, h2, h3, h4⟩, h5⟩ := h
  exact ⟨by omega, h1, by omega, by omega⟩
set_option maxRecDepth 100000 in
theorem HS.wk {sz : Nat} {k l : Int} {s : PSt} (h : HS sz k s) (hk : k ≤ l) : HS sz l s := ⟨h.1, by have := h.2; omega⟩
set_option maxRecDepth 100000 in
theorem inc_at (I : Nat → Int) (s : PSt) : up1 (pI I s) 4 (pI I s 4 + 1) = pI I (incP s) := pI_at I s (pAt s + 1) (by show (pAt s : Int) + 1 = _; omega)
set_option maxRecDepth 100000 in
theorem dec_op (I : Nat → Int) {s : PSt} (h : 1 ≤ pOp s) : up1 (pI I s) 14 (pI I s 14 - 1) = pI I (shutP s) := pI_op I s (pOp s - 1) (by show (pOp s : Int) - 1 = _; omega)
section MParx
variable {d sz n e : Nat} {m : Mem} {I : Nat → Int} {A L : Nat → Nat → Int} {s : PSt} {Q : Nat → Option AV → Mem → Prop}
set_option maxRecDepth 100000 in
theorem f_tk (w : Nat) (hw : w < 10) (hW : LowW m) (hR : RdW m I A sz) (hG : Gd s) (h : Q 0 (some (vI (b2i (tkB (A 2) sz w s = 1)))) (PM m I A L (tkS (A 2) sz w s))) : Ex (d + 4) M_takes 0 [some (vR aM), some (vR (30 + 2 * w)), none] [] (PM m I A L s) Q := by
  refine f_takes (by omega) (show 31 + 2 * w < 100 by omega) (hW w hw) hR hG ?_
  have e : b2i (tkB (A 2) sz w s = 1) = takesB (A 2) sz (wn w) (wg w) s := by
    rcases takesB_01 (A 2) sz (wn w) (wg w) s with q | q
    · rw [q]
      exact if_neg (by unfold tkB; rw [q]; decide)
    · rw [q]
      exact if_pos q
  rw [e] at h
  exact h
def Cq (m : Mem) (I : Nat → Int) (A L : Nat → Nat → Int) (e q : Nat) (s : PSt) (Q : Nat → Option AV → Mem → Prop) : Prop :=
  match q with
  | 0 => Ex (e + 6) M_unit 0 [some (vR aM), none, none, none] [] (PM m I A L s) Q
  | 1 => Ex (e + 6) M_product 4 [some (vR aM)] [] (PM m I A L s) Q
  | 2 => Ex (e + 6) M_product 0 [some (vR aM)] [] (PM m I A L s) Q
  | 3 => ∀ l1, Ex (e + 6) M_sum 4 [some (vR aM), l1] [] (PM m I A L s) Q
  | 4 => Ex (e + 6) M_sum 0 [some (vR aM), none] [] (PM m I A L s) Q
  | 5 => Ex (e + 6) M_fact 0 [some (vR aM), none, none, none] [] (PM m I A L s) Q
  | 6 => Ex (e + 6) M_facts 4 [some (vR aM)] [] (PM m I A L s) Q
  | 7 => Ex (e + 6) M_facts 0 [some (vR aM)] [] (PM m I A L s) Q
  | 8 => Ex (e + 6) M_test 4 [some (vR aM)] [] (PM m I A L s) Q
  | 9 => Ex (e + 6) M_test 0 [some (vR aM)] [] (PM m I A L s) Q
  | _ => True
def IHs (m : Mem) (I : Nat → Int) (A L : Nat → Nat → Int) (sz n : Nat) : Prop := ∀ (e q : Nat) (s : PSt) (Q : Nat → Option AV → Mem → Prop), 12 * (sz + 3 - pAt s) + q + 1 ≤ n → q + 8 * (5 - pOp s) ≤ e → HS sz (11 - lp q) s → Q 0 none (PM m I A L (ps (A 2) sz n q s)) → Cq m I A L e q s Q
set_option maxRecDepth 100000 in
theorem u_2 (ih : IHs m I A L sz n) (hR : RdW m I A sz) (hn : 12 * (sz + 3 - pAt s) + 2 + 1 ≤ n + 1) (hd : 2 + 8 * (5 - pOp s) ≤ e) (hS : HS sz 10 s) (h : Q 0 none (PM m I A L (ps (A 2) sz n 1 (ps (A 2) sz n 0 s)))) : Ex (e + 6) M_product 0 [some (vR aM)] [] (PM m I A L s) Q := by
  have hM := hR.1
  obtain ⟨e, rfl⟩ : ∃ e1, e = e1 + 1 := ⟨e - 1, by omega⟩
  have i := ps_ok (A 2) sz n 0 s hS.1
  have := i.1.1
  have := i.2.2.1
  refine Ex_step (tk_M_product rfl) ?_
  refine Ex_cV0 (av := []) (tk_M_product rfl) mk_M_unit ⟨rfl, rfl, by decide, rfl, Nat.le_of_ble_eq_true rfl, Nat.le_of_ble_eq_true rfl⟩ (hM.k) (fun _ h => ih e 0 s _ (by omega) (by omega) hS h) ?_
  exact ih (e + 1) 1 _ Q (by omega) (by omega) (hS.bk i.1 i.2.1) h
set_option maxRecDepth 100000 in
theorem u_1 (ih : IHs m I A L sz n) (hR : RdW m I A sz) (hn : 12 * (sz + 3 - pAt s) + 1 + 1 ≤ n + 1) (hd : 1 + 8 * (5 - pOp s) ≤ e) (hS : HS sz 11 s) (h : Q 0 none (PM m I A L (prodL (A 2) sz (ps (A 2) sz n) s))) : Ex (e + 6) M_product 4 [some (vR aM)] [] (PM m I A L s) Q := by
  have hM := hR.1
  have hsz := hR.2.2.1
  have hG := hS.gd hsz (by decide)
  have hr := hereC_range hR s
  obtain ⟨e, rfl⟩ : ∃ e1, e = e1 + 1 := ⟨e - 1, by omega⟩
  unfold prodL at h
  refine Ex_step (tk_M_product rfl) ?_
  refine Ex_cV0 (av := []) (tk_M_product rfl) mk_M_fine ⟨rfl, rfl, by decide, rfl, Nat.le_of_ble_eq_true rfl, Nat.le_of_ble_eq_true rfl⟩ (hM.k) (fun _ h => f_fine hR hG.2.1 h) ?_
  refine Ex_step (tk_M_product rfl) ⟨fun h8 => ?_, fun h8 => ?_⟩
  · try simp (disch := omega) only [cmpI, w32_b2i, b2i_0, b2i_1, w32_id, Classical.not_not, not_true_eq_false, not_false_eq_true] at h8
    first | rw [if_neg h8] at h | rw [if_neg h17] at h
    refine Ex_step (tk_M_product rfl) ⟨rfl, ?_⟩
    exact h
  · try simp (disch := omega) only [cmpI, w32_b2i, b2i_0, b2i_1, w32_id, Classical.not_not, not_true_eq_false, not_false_eq_true] at h8
    rw [if_pos h8] at h
    refine Ex_step (tk_M_product rfl) ?_
    refine Ex_cV0 (av := []) (tk_M_product rfl) mk_M_here ⟨rfl, rfl, by decide, rfl, Nat.le_of_ble_eq_true rfl, Nat.le_of_ble_eq_true rfl⟩ (hM.k) (fun _ h => f_here hR hG.1 h) ?_
    refine Ex_step (tk_M_product rfl) ?_
    refine Ex_step (tk_M_product rfl) ⟨fun h17 => ?_, fun h17 => ?_⟩
    · try simp (disch := omega) only [cmpI, w32_b2i, b2i_0, b2i_1, w32_id, Classical.not_not, not_true_eq_false, not_false_eq_true] at h17
      first | rw [if_neg h8] at h | rw [if_neg h17] at h
      refine Ex_step (tk_M_product rfl) ⟨rfl, ?_⟩
      exact h
    · try simp (disch := omega) only [cmpI, w32_b2i, b2i_0, b2i_1, w32_id, Classical.not_not, not_true_eq_false, not_false_eq_true] at h17
      rw [if_pos h17] at h
      have hat : sk (A 2) sz (pAt s) < sz := bt_ne h17 (by decide)
      have g1 : G2 sz (incP (hereP (A 2) sz s)) := hS.1.here.inc hat
      have s1 := (hS.bk Bk.here hS.1.here).bk Bk.inc g1
      have hk := (sk_le (A 2) sz (sz + 1) (pAt s) (by omega)).1
      have i := ps_ok (A 2) sz n 0 _ g1
      have i1 : sk (A 2) sz (pAt s) + 1 ≤ _ := i.1.1
      have i2 : _ = pOp s := i.2.2.1
      have s2 := s1.bk i.1 i.2.1
      have s3 := s2.bk (Bk.tells (c := 5)) i.2.1.tells
      refine Ex_step (tk_M_product rfl) ?_
      refine Ex_step (tk_M_product rfl) ?_
      refine gMI (tk_M_product rfl) hM ?_
      refine Ex_step (tk_M_product rfl) ?_
      refine Ex_step (tk_M_product rfl) ?_
      refine pMI (tk_M_product rfl) hM ?_
      rw [inc_at]
      refine Ex_step (tk_M_product rfl) ?_
      refine Ex_cV0 (av := []) (tk_M_product rfl) mk_M_unit ⟨rfl, rfl, by decide, rfl, Nat.le_of_ble_eq_true rfl, Nat.le_of_ble_eq_true rfl⟩ (hM.k) (fun _ h => ih e 0 (incP (hereP (A 2) sz s)) _ (by show 12 * (sz + 3 - (sk (A 2) sz (pAt s) + 1)) + 0 + 1 ≤ n; omega) (by show 0 + 8 * (5 - pOp s) ≤ e; omega) (s1.wk (by decide)) h) ?_
      refine Ex_step (tk_M_product rfl) ?_
      refine Ex_step (tk_M_product rfl) ?_
      refine Ex_cV0 (av := [vI 5]) (tk_M_product rfl) mk_M_tells ⟨rfl, rfl, by decide, rfl, Nat.le_of_ble_eq_true rfl, Nat.le_of_ble_eq_true rfl⟩ (hM.k) (fun _ h => f_tells hR (s2.gd hsz (by decide)) h) ?_
      refine Ex_step (tk_M_product rfl) ?_
      exact ih (e + 1) 1 _ Q (by rw [tells_at]; omega) (by rw [tells_op]; omega) (s3.wk (by decide)) h
set_option maxRecDepth 100000 in
theorem u_4 (ih : IHs m I A L sz n) (hR : RdW m I A sz) (hn : 12 * (sz + 3 - pAt s) + 4 + 1 ≤ n + 1) (hd : 4 + 8 * (5 - pOp s) ≤ e) (hS : HS sz 10 s) (h : Q 0 none (PM m I A L (ps (A 2) sz n 3 (ps (A 2) sz n 2 s)))) : Ex (e + 6) M_sum 0 [some (vR aM), none] [] (PM m I A L s) Q := by
  have hM := hR.1
  obtain ⟨e, rfl⟩ : ∃ e1, e = e1 + 1 := ⟨e - 1, by omega⟩
  have i := ps_ok (A 2) sz n 2 s hS.1
  have := i.1.1
  have := i.2.2.1
  refine Ex_step (tk_M_sum rfl) ?_
  refine Ex_cV0 (av := []) (tk_M_sum rfl) mk_M_product ⟨rfl, rfl, by decide, rfl, Nat.le_of_ble_eq_true rfl, Nat.le_of_ble_eq_true rfl⟩ (hM.k) (fun _ h => ih e 2 s _ (by omega) (by omega) hS h) ?_
  exact ih (e + 1) 3 _ Q (by omega) (by omega) (hS.bk i.1 i.2.1) h none
set_option maxRecDepth 100000 in
theorem u_7 (ih : IHs m I A L sz n) (hR : RdW m I A sz) (hn : 12 * (sz + 3 - pAt s) + 7 + 1 ≤ n + 1) (hd : 7 + 8 * (5 - pOp s) ≤ e) (hS : HS sz 10 s) (h : Q 0 none (PM m I A L (ps (A 2) sz n 6 (ps (A 2) sz n 5 s)))) : Ex (e + 6) M_facts 0 [some (vR aM)] [] (PM m I A L s) Q := by
  have hM := hR.1
  obtain ⟨e, rfl⟩ : ∃ e1, e = e1 + 1 := ⟨e - 1, by omega⟩
  have i := ps_ok (A 2) sz n 5 s hS.1
  have := i.1.1
  have := i.2.2.1
  refine Ex_step (tk_M_facts rfl) ?_
  refine Ex_cV0 (av := []) (tk_M_facts rfl) mk_M_fact ⟨rfl, rfl, by decide, rfl, Nat.le_of_ble_eq_true rfl, Nat.le_of_ble_eq_true rfl⟩ (hM.k) (fun _ h => ih e 5 s _ (by omega) (by omega) hS h) ?_
  exact ih (e + 1) 6 _ Q (by omega) (by omega) (hS.bk i.1 i.2.1) h
set_option maxRecDepth 100000 in
theorem u_9 (ih : IHs m I A L sz n) (hR : RdW m I A sz) (hn : 12 * (sz + 3 - pAt s) + 9 + 1 ≤ n + 1) (hd : 9 + 8 * (5 - pOp s) ≤ e) (hS : HS sz 10 s) (h : Q 0 none (PM m I A L (ps (A 2) sz n 8 (ps (A 2) sz n 7 s)))) : Ex (e + 6) M_test 0 [some (vR aM)] [] (PM m I A L s) Q := by
  have hM := hR.1
  obtain ⟨e, rfl⟩ : ∃ e1, e = e1 + 1 := ⟨e - 1, by omega⟩
  have i := ps_ok (A 2) sz n 7 s hS.1
  have := i.1.1
  have := i.2.2.1
  refine Ex_step (tk_M_test rfl) ?_
  refine Ex_cV0 (av := []) (tk_M_test rfl) mk_M_facts ⟨rfl, rfl, by decide, rfl, Nat.le_of_ble_eq_true rfl, Nat.le_of_ble_eq_true rfl⟩ (hM.k) (fun _ h => ih e 7 s _ (by omega) (by omega) hS h) ?_
  exact ih (e + 1) 8 _ Q (by omega) (by omega) (hS.bk i.1 i.2.1) h
end MParx
