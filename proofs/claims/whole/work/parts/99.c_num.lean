/-! ===== the class: numbers ===== -/
def cap4 (v : Int) : Int := if v < 10000 then v else 10000
set_option maxRecDepth 100000 in
theorem cap4_nx {v b : Int} (hv : 0 ≤ v ∧ v ≤ 100000) (hb : dgt b) : (if w32 10000 < w32 (10 * cap4 v + b - 48) then 10000 else 10 * cap4 v + b - 48) = cap4 (nx v b) := by
  have h1 : 0 ≤ cap4 v ∧ cap4 v ≤ 10000 := by unfold cap4; split <;> omega
  unfold dgt at hb
  rw [w32_id (x := 10 * cap4 v + b - 48) (by omega) (by omega), show w32 10000 = 10000 from rfl]
  unfold cap4 nx
  by_cases q : v < 10000
  · rw [if_pos q]
    split <;> split <;> split <;> omega
  · rw [if_neg q, if_pos (show (10000 : Int) < 10 * 10000 + b - 48 by omega)]
    split <;> split <;> omega
section CNum
variable {d c tp sz p fl : Nat} {pl : Int} {m : Mem} {F A L : Nat → Nat → Int} {Q : Nat → Option AV → Mem → Prop}
set_option maxRecDepth 100000 in
theorem c_takeNum (hW : ScW m c tp) (hS : ScF F c sz p fl pl) (hsz : sz ≤ 800) (hf : byts (A tp)) (hp : p ≤ 10000) (hfl : fl = 0) (hbad : 9999 < nmV (A tp) sz p 0 → Q 0 (some (vI 0)) (CM m (upF (upF F 515 c 2) 516 c (p : Int)) A L)) (hok : ¬ 9999 < nmV (A tp) sz p 0 → Q 0 (some (vI (nmV (A tp) sz p 0))) (CM m (upF F 514 c ((nmE (A tp) sz p : Nat) : Int)) A L)) : Ex (d + 1) Scan_takeNumber 0 [some (vR c), none, none] [] (CM m F A L) Q := by
  have hk8 := hW.1
  have hbad2 : 9999 < nmV (A tp) sz p 0 → Q 0 (some (vI 0)) (CM m (if fl = 0 then upF (upF F 515 c ((2 : Nat) : Int)) 516 c (p : Int) else F) A L) := fun z => by rw [if_pos hfl]; exact hbad z
  have h52 : ∀ V E : Int, V = nmV (A tp) sz p 0 → E = ((nmE (A tp) sz p : Nat) : Int) → 0 ≤ V ∧ V ≤ 100000 → Ex (d + 1) Scan_takeNumber 52 [some (vR c), some (vI E), some (vI (cap4 V))] [] (CM m F A L) Q := by
    intro V E hV hE hVb
    rw [← hV] at hbad2 hok
    rw [← hE] at hok
    have c1 : ¬ 9999 < V → cap4 V = V := fun z => if_pos (by omega)
    have c2 : 9999 < V → cap4 V = 10000 := fun z => if_neg (by omega)
    by_cases q : 9999 < V
    · have hx := hbad2 q
      rw [c2 q]
      refine Ex_step (tk_Scan_takeNumber rfl) ?_
      refine Ex_step (tk_Scan_takeNumber rfl) ?_
      refine Ex_step (tk_Scan_takeNumber rfl) ⟨fun h56 => ?_, fun h56 => ?_⟩
      · replace h56 : _ := h56
        exact absurd (show w32 10000 ≤ w32 9999 from h56) (by decide)
      · replace h56 : _ := h56
        refine Ex_step (tk_Scan_takeNumber rfl) ?_
        refine Ex_step (tk_Scan_takeNumber rfl) ?_
        refine Ex_cV0 (av := [vI ((2 : Nat) : Int)]) (tk_Scan_takeNumber rfl) mk_Scan_fail ⟨rfl, rfl, by decide, rfl, Nat.le_of_ble_eq_true rfl, Nat.le_of_ble_eq_true rfl⟩ (hk8) (fun _ h => c_fail hk8 hS (by omega) h) ?_
        refine Ex_step (tk_Scan_takeNumber rfl) ?_
        refine Ex_step (tk_Scan_takeNumber rfl) ⟨rfl, ?_⟩
        exact hx
    · have hx := hok q
      rw [c1 q]
      refine Ex_step (tk_Scan_takeNumber rfl) ?_
      refine Ex_step (tk_Scan_takeNumber rfl) ?_
      refine Ex_step (tk_Scan_takeNumber rfl) ⟨fun h56 => ?_, fun h56 => ?_⟩
      · try simp (disch := omega) only [cmpI, w32_b2i, b2i_0, b2i_1, w32_id, Classical.not_not, not_true_eq_false, not_false_eq_true] at h56
        refine Ex_step (tk_Scan_takeNumber rfl) ?_
        refine Ex_step (tk_Scan_takeNumber rfl) ?_
        refine pCI (tk_Scan_takeNumber rfl) (hk8) ?_
        refine Ex_step (tk_Scan_takeNumber rfl) ?_
        refine Ex_step (tk_Scan_takeNumber rfl) ⟨rfl, ?_⟩
        exact hx
      · try simp (disch := omega) only [cmpI, w32_b2i, b2i_0, b2i_1, w32_id, Classical.not_not, not_true_eq_false, not_false_eq_true] at h56
        omega
  have hloop : ∀ (n e : Nat) (v : Int), sz - e < n → e ≤ 10000 → 0 ≤ v ∧ v ≤ 100000 → nmV (A tp) sz e v = nmV (A tp) sz p 0 → nmE (A tp) sz e = nmE (A tp) sz p → Ex (d + 1) Scan_takeNumber 7 [some (vR c), some (vI (e : Int)), some (vI (cap4 v))] [] (CM m F A L) Q := by
    intro n
    induction n with
    | zero => intro e v hn; omega
    | succ n ih =>
      intro e v hn he hv hV hE
      have hb := bt_range hf hsz e
      by_cases hd : dgt (bt (A tp) sz e)
      · have hlt := (bt_d hd).1
        rw [nmV_go hd] at hV
        rw [nmE_go hd] at hE
        have hnx := ih (e + 1) (nx v (bt (A tp) sz e)) (by omega) (by omega) (nx_range hv hd) hV hE
        rw [← cap4_nx hv hd] at hnx
        refine Ex_step (tk_Scan_takeNumber rfl) ?_
        refine Ex_step (tk_Scan_takeNumber rfl) ?_
        refine gCI (tk_Scan_takeNumber rfl) (hk8) ?_
        rw [hS.1]
        refine Ex_step (tk_Scan_takeNumber rfl) ⟨fun h12 => ?_, fun h12 => ?_⟩
        · try simp (disch := omega) only [cmpI, w32_b2i, b2i_0, b2i_1, w32_id, Classical.not_not, not_true_eq_false, not_false_eq_true] at h12
          first | omega | exact absurd hd h23
        · try simp (disch := omega) only [cmpI, w32_b2i, b2i_0, b2i_1, w32_id, Classical.not_not, not_true_eq_false, not_false_eq_true] at h12
          refine Ex_step (tk_Scan_takeNumber rfl) ?_
          refine Ex_step (tk_Scan_takeNumber rfl) ?_
          refine Ex_cV0 (av := [vI (e : Int)]) (tk_Scan_takeNumber rfl) mk_Scan_byteAt ⟨rfl, rfl, by decide, rfl, Nat.le_of_ble_eq_true rfl, Nat.le_of_ble_eq_true rfl⟩ (hk8) (fun _ h => c_byteAt hW hS hsz rfl (by omega) h) ?_
          refine Ex_cS0 (av := [vI (bt (A tp) sz e)]) (tk_Scan_takeNumber rfl) mk_Scan_isDigit ⟨rfl, by decide, rfl, rfl, rfl, Nat.le_of_ble_eq_true rfl, Nat.le_of_ble_eq_true rfl⟩ (fun _ h => c_isDigit hb h) ?_
          refine Ex_step (tk_Scan_takeNumber rfl) ⟨fun h23 => ?_, fun h23 => ?_⟩
          · try simp (disch := omega) only [cmpI, w32_b2i, b2i_0, b2i_1, w32_id, Classical.not_not, not_true_eq_false, not_false_eq_true] at h23
            first | omega | exact absurd hd h23
          · try simp (disch := omega) only [cmpI, w32_b2i, b2i_0, b2i_1, w32_id, Classical.not_not, not_true_eq_false, not_false_eq_true] at h23
            refine Ex_step (tk_Scan_takeNumber rfl) ?_
            refine Ex_step (tk_Scan_takeNumber rfl) ?_
            refine Ex_step (tk_Scan_takeNumber rfl) ?_
            refine Ex_step (tk_Scan_takeNumber rfl) ?_
            refine Ex_step (tk_Scan_takeNumber rfl) ?_
            refine Ex_cV0 (av := [vI (e : Int)]) (tk_Scan_takeNumber rfl) mk_Scan_byteAt ⟨rfl, rfl, by decide, rfl, Nat.le_of_ble_eq_true rfl, Nat.le_of_ble_eq_true rfl⟩ (hk8) (fun _ h => c_byteAt hW hS hsz rfl (by omega) h) ?_
            refine Ex_step (tk_Scan_takeNumber rfl) ?_
            refine Ex_step (tk_Scan_takeNumber rfl) ?_
            refine Ex_step (tk_Scan_takeNumber rfl) ?_
            refine Ex_step (tk_Scan_takeNumber rfl) ?_
            refine Ex_min (tk_Scan_takeNumber rfl) rfl (Nat.le_of_ble_eq_true rfl) ?_
            refine Ex_step (tk_Scan_takeNumber rfl) ?_
            refine Ex_step (tk_Scan_takeNumber rfl) ?_
            refine Ex_step (tk_Scan_takeNumber rfl) ?_
            exact hnx
      · rw [nmV_stay hd] at hV
        rw [nmE_stay hd] at hE
        have hx := h52 v (e : Int) hV (by rw [hE]) hv
        refine Ex_step (tk_Scan_takeNumber rfl) ?_
        refine Ex_step (tk_Scan_takeNumber rfl) ?_
        refine gCI (tk_Scan_takeNumber rfl) (hk8) ?_
        rw [hS.1]
        refine Ex_step (tk_Scan_takeNumber rfl) ⟨fun h12 => ?_, fun h12 => ?_⟩
        · try simp (disch := omega) only [cmpI, w32_b2i, b2i_0, b2i_1, w32_id, Classical.not_not, not_true_eq_false, not_false_eq_true] at h12
          exact hx
        · try simp (disch := omega) only [cmpI, w32_b2i, b2i_0, b2i_1, w32_id, Classical.not_not, not_true_eq_false, not_false_eq_true] at h12
          refine Ex_step (tk_Scan_takeNumber rfl) ?_
          refine Ex_step (tk_Scan_takeNumber rfl) ?_
          refine Ex_cV0 (av := [vI (e : Int)]) (tk_Scan_takeNumber rfl) mk_Scan_byteAt ⟨rfl, rfl, by decide, rfl, Nat.le_of_ble_eq_true rfl, Nat.le_of_ble_eq_true rfl⟩ (hk8) (fun _ h => c_byteAt hW hS hsz rfl (by omega) h) ?_
          refine Ex_cS0 (av := [vI (bt (A tp) sz e)]) (tk_Scan_takeNumber rfl) mk_Scan_isDigit ⟨rfl, by decide, rfl, rfl, rfl, Nat.le_of_ble_eq_true rfl, Nat.le_of_ble_eq_true rfl⟩ (fun _ h => c_isDigit hb h) ?_
          refine Ex_step (tk_Scan_takeNumber rfl) ⟨fun h23 => ?_, fun h23 => ?_⟩
          · try simp (disch := omega) only [cmpI, w32_b2i, b2i_0, b2i_1, w32_id, Classical.not_not, not_true_eq_false, not_false_eq_true] at h23
            exact hx
          · try simp (disch := omega) only [cmpI, w32_b2i, b2i_0, b2i_1, w32_id, Classical.not_not, not_true_eq_false, not_false_eq_true] at h23
            exact absurd h23 hd
  have h7 := hloop (sz + 1) p 0 (by omega) hp (by decide) rfl rfl
  refine Ex_step (tk_Scan_takeNumber rfl) ?_
  refine gCI (tk_Scan_takeNumber rfl) (hk8) ?_
  rw [hS.2.1]
  refine Ex_step (tk_Scan_takeNumber rfl) ?_
  refine Ex_step (tk_Scan_takeNumber rfl) ?_
  refine Ex_step (tk_Scan_takeNumber rfl) ?_
  exact h7
end CNum
