/-! ===== the class: counts of a design ===== -/
set_option maxRecDepth 100000 in
theorem srt_FG {T : Nat → Int} {dd : Nat} (h : DsW T dd) : FG (T (bD dd + 1)) (T (bD dd + 2)) (srt T dd) := by
  have := h.2.1
  have := h.2.2.1
  refine ⟨by omega, fun x y => ⟨srt_r h x y, fun z => ?_⟩⟩
  obtain ⟨⟨q1, q2⟩, q3, q4⟩ := srt_in z
  omega
set_option maxRecDepth 100000 in
theorem cntR_sum {T : Nat → Int} {dd : Nat} (h : DsW T dd) (y : Nat) : ∀ k : Nat, cntR T dd 0 y k + cntR T dd 1 y k + cntR T dd 2 y k + cntR T dd 3 y k = (k : Int)
  | 0 => rfl
  | k + 1 => by
    have ih := cntR_sum h y k
    have r := srt_r h (k : Int) (y : Int)
    unfold cntR
    rcases (show srt T dd (k : Int) (y : Int) = 0 ∨ srt T dd (k : Int) (y : Int) = 1 ∨ srt T dd (k : Int) (y : Int) = 2 ∨ srt T dd (k : Int) (y : Int) = 3 by omega) with q | q | q | q <;> rw [q] <;> simp <;> omega
set_option maxRecDepth 100000 in
theorem cntA_sum {T : Nat → Int} {dd : Nat} (h : DsW T dd) (w : Nat) : ∀ y : Nat, cntA T dd 0 w y + cntA T dd 1 w y + cntA T dd 2 w y + cntA T dd 3 w y = (w : Int) * (y : Int)
  | 0 => by show (0 : Int) = (w : Int) * 0; rw [Int.mul_zero]
  | y + 1 => by
    have ih := cntA_sum h w y
    have r := cntR_sum h y w
    unfold cntA
    rw [show (w : Int) * ((y + 1 : Nat) : Int) = (w : Int) * (y : Int) + (w : Int) by rw [Int.natCast_add, Int.mul_add]; simp]
    omega
set_option maxRecDepth 100000 in
theorem cntS_sum {T : Nat → Int} {dd : Nat} (h : DsW T dd) : cntS T dd 0 + cntS T dd 1 + cntS T dd 2 + cntS T dd 3 = T (bD dd + 1) * T (bD dd + 2) := by
  have a := h.2.1
  have b := h.2.2.1
  unfold cntS
  rw [cntA_sum h, Int.toNat_of_nonneg (by omega), Int.toNat_of_nonneg (by omega)]
section CCount
variable {d a dd : Nat} {so : Int} {T : Nat → Int} {m : Mem} {F A L : Nat → Nat → Int} {Q : Nat → Option AV → Mem → Prop}
set_option maxRecDepth 100000 in
theorem c_countOf (hD : DW m a) (hG : DG F A a (T (bD dd + 1)) (T (bD dd + 2)) (srt T dd)) (hW : DsW T dd) (hs : -100 ≤ so ∧ so ≤ 100) (hq : Q 0 (some (vI (cntS T dd so))) (CM m F A L)) : Ex (d + 2) Des_countOfSort 0 [some (vR a), some (vI so), none, none, none] [] (CM m F A L) Q := by
  have hk3 := hD.1
  have hw := hW.2.1
  have hh := hW.2.2.1
  have hF := srt_FG hW
  obtain ⟨w, hwe⟩ : ∃ w : Nat, (w : Int) = T (bD dd + 1) := ⟨(T (bD dd + 1)).toNat, by omega⟩
  obtain ⟨g, hge⟩ : ∃ g : Nat, (g : Int) = T (bD dd + 2) := ⟨(T (bD dd + 2)).toNat, by omega⟩
  rw [show cntS T dd so = cntA T dd so w g by unfold cntS; rw [show (T (bD dd + 1)).toNat = w by omega, show (T (bD dd + 2)).toNat = g by omega]] at hq
  have hrow : ∀ (y : Nat) (c0 : Int), y < g → (∀ l4 : Option AV, Ex (d + 2) Des_countOfSort 44 [some (vR a), some (vI so), some (vI (c0 + cntR T dd so y w)), some (vI (y : Int)), l4] [] (CM m F A L) Q) → ∀ (r k : Nat), k + r = w → Ex (d + 2) Des_countOfSort 15 [some (vR a), some (vI so), some (vI (c0 + cntR T dd so y k)), some (vI (y : Int)), some (vI (k : Int))] [] (CM m F A L) Q := by
    intro y c0 hy h2 r
    induction r with
    | zero =>
      intro k hk
      have : k = w := by omega
      subst this
      refine Ex_step (tk_Des_countOfSort rfl) ?_
      refine Ex_step (tk_Des_countOfSort rfl) ?_
      refine gCI (tk_Des_countOfSort rfl) (hk3) ?_
      rw [hG.1]
      refine Ex_step (tk_Des_countOfSort rfl) ⟨fun h21 => ?_, fun h21 => ?_⟩
      · try simp (disch := omega) only [cmpI, w32_b2i, b2i_0, b2i_1, w32_id, Classical.not_not, not_true_eq_false, not_false_eq_true] at h21
        exact h2 _
      · try simp (disch := omega) only [cmpI, w32_b2i, b2i_0, b2i_1, w32_id, Classical.not_not, not_true_eq_false, not_false_eq_true] at h21
        omega
    | succ r ih =>
      intro k hk
      have hsr := srt_r hW (k : Int) (y : Int)
      have hnx := ih (k + 1) (by omega)
      unfold cntR at hnx
      refine Ex_step (tk_Des_countOfSort rfl) ?_
      refine Ex_step (tk_Des_countOfSort rfl) ?_
      refine gCI (tk_Des_countOfSort rfl) (hk3) ?_
      rw [hG.1]
      refine Ex_step (tk_Des_countOfSort rfl) ⟨fun h21 => ?_, fun h21 => ?_⟩
      · try simp (disch := omega) only [cmpI, w32_b2i, b2i_0, b2i_1, w32_id, Classical.not_not, not_true_eq_false, not_false_eq_true] at h21
        omega
      · try simp (disch := omega) only [cmpI, w32_b2i, b2i_0, b2i_1, w32_id, Classical.not_not, not_true_eq_false, not_false_eq_true] at h21
        refine Ex_step (tk_Des_countOfSort rfl) ?_
        refine Ex_step (tk_Des_countOfSort rfl) ?_
        refine Ex_step (tk_Des_countOfSort rfl) ?_
        refine Ex_cV0 (av := [vI (k : Int), vI (y : Int)]) (tk_Des_countOfSort rfl) mk_Des_sortAt ⟨rfl, rfl, by decide, rfl, Nat.le_of_ble_eq_true rfl, Nat.le_of_ble_eq_true rfl⟩ (hk3) (fun _ h => c_sortAt hD hG hF (by unfold okI; omega) (by unfold okI; omega) h) ?_
        refine Ex_step (tk_Des_countOfSort rfl) ?_
        refine Ex_step (tk_Des_countOfSort rfl) ⟨fun h32 => ?_, fun h32 => ?_⟩
        · try simp (disch := omega) only [cmpI, w32_b2i, b2i_0, b2i_1, w32_id, Classical.not_not, not_true_eq_false, not_false_eq_true] at h32
          refine Ex_step (tk_Des_countOfSort rfl) ?_
          refine Ex_step (tk_Des_countOfSort rfl) ?_
          first | exact hnx | (rw [if_neg (show ¬ srt T dd ((k : Nat) : Int) ((y : Nat) : Int) = so by omega), Int.add_zero] at hnx; exact hnx)
        · try simp (disch := omega) only [cmpI, w32_b2i, b2i_0, b2i_1, w32_id, Classical.not_not, not_true_eq_false, not_false_eq_true] at h32
          rw [if_pos (show srt T dd ((k : Nat) : Int) ((y : Nat) : Int) = so by omega), ← Int.add_assoc] at hnx
          refine Ex_step (tk_Des_countOfSort rfl) ?_
          refine Ex_step (tk_Des_countOfSort rfl) ?_
          refine Ex_step (tk_Des_countOfSort rfl) ?_
          first | exact hnx | (rw [if_neg (show ¬ srt T dd ((k : Nat) : Int) ((y : Nat) : Int) = so by omega), Int.add_zero] at hnx; exact hnx)
  have hall : ∀ (r y : Nat) (l4 : Option AV), y + r = g → Ex (d + 2) Des_countOfSort 4 [some (vR a), some (vI so), some (vI (cntA T dd so w y)), some (vI (y : Int)), l4] [] (CM m F A L) Q := by
    intro r
    induction r with
    | zero =>
      intro y l4 hy
      have : y = g := by omega
      subst this
      refine Ex_step (tk_Des_countOfSort rfl) ?_
      refine Ex_step (tk_Des_countOfSort rfl) ?_
      refine gCI (tk_Des_countOfSort rfl) (hk3) ?_
      rw [hG.2.1]
      refine Ex_step (tk_Des_countOfSort rfl) ⟨fun h9 => ?_, fun h9 => ?_⟩
      · try simp (disch := omega) only [cmpI, w32_b2i, b2i_0, b2i_1, w32_id, Classical.not_not, not_true_eq_false, not_false_eq_true] at h9
        refine Ex_step (tk_Des_countOfSort rfl) ?_
        refine Ex_step (tk_Des_countOfSort rfl) ⟨rfl, ?_⟩
        exact hq
      · try simp (disch := omega) only [cmpI, w32_b2i, b2i_0, b2i_1, w32_id, Classical.not_not, not_true_eq_false, not_false_eq_true] at h9
        omega
    | succ r ih =>
      intro y l4 hy
      have h44 : ∀ l4 : Option AV, Ex (d + 2) Des_countOfSort 44 [some (vR a), some (vI so), some (vI (cntA T dd so w y + cntR T dd so y w)), some (vI (y : Int)), l4] [] (CM m F A L) Q := by
        intro l4
        have hnx := ih (y + 1) l4 (by omega)
        unfold cntA at hnx
        refine Ex_step (tk_Des_countOfSort rfl) ?_
        refine Ex_step (tk_Des_countOfSort rfl) ?_
        exact hnx
      have h15 := hrow y (cntA T dd so w y) (by omega) h44 w 0 (by omega)
      rw [show cntR T dd so y 0 = 0 from rfl, Int.add_zero] at h15
      refine Ex_step (tk_Des_countOfSort rfl) ?_
      refine Ex_step (tk_Des_countOfSort rfl) ?_
      refine gCI (tk_Des_countOfSort rfl) (hk3) ?_
      rw [hG.2.1]
      refine Ex_step (tk_Des_countOfSort rfl) ⟨fun h9 => ?_, fun h9 => ?_⟩
      · try simp (disch := omega) only [cmpI, w32_b2i, b2i_0, b2i_1, w32_id, Classical.not_not, not_true_eq_false, not_false_eq_true] at h9
        omega
      · try simp (disch := omega) only [cmpI, w32_b2i, b2i_0, b2i_1, w32_id, Classical.not_not, not_true_eq_false, not_false_eq_true] at h9
        refine Ex_step (tk_Des_countOfSort rfl) ?_
        refine Ex_step (tk_Des_countOfSort rfl) ?_
        exact h15
  refine Ex_step (tk_Des_countOfSort rfl) ?_
  refine Ex_step (tk_Des_countOfSort rfl) ?_
  refine Ex_step (tk_Des_countOfSort rfl) ?_
  refine Ex_step (tk_Des_countOfSort rfl) ?_
  exact hall g 0 none (by omega)
set_option maxRecDepth 100000 in
theorem c_freedom (hD : DW m a) (hG : DG F A a (T (bD dd + 1)) (T (bD dd + 2)) (srt T dd)) (hW : DsW T dd) (hq : Q 0 (some (vI (1000 * (cntS T dd 0 + cntS T dd 1) / (T (bD dd + 1) * T (bD dd + 2))))) (CM m F A L)) : Ex (d + 3) Des_freedom 0 [some (vR a), none, none] [] (CM m F A L) Q := by
  have hk3 := hD.1
  have hw := hW.2.1
  have hh := hW.2.2.1
  have c0 := cntS_b hW 0
  have c1 := cntS_b hW 1
  have cs := cntS_sum hW
  have p1 : 1 ≤ T (bD dd + 1) * T (bD dd + 2) := Int.mul_pos (by omega) (by omega)
  have p2 : T (bD dd + 1) * T (bD dd + 2) ≤ 100 := Int.le_trans (Int.mul_le_mul hw.2 hh.2 (by omega) (by decide)) (by decide)
  have e : iDiv ((T (bD dd + 1) * T (bD dd + 2) - cntS T dd 2 - cntS T dd 3) * 1000) (T (bD dd + 1) * T (bD dd + 2)) = 1000 * (cntS T dd 0 + cntS T dd 1) / (T (bD dd + 1) * T (bD dd + 2)) := by
    rw [show (T (bD dd + 1) * T (bD dd + 2) - cntS T dd 2 - cntS T dd 3) * 1000 = 1000 * (cntS T dd 0 + cntS T dd 1) by omega]
    exact iDiv_nn (by omega) (by omega) p1 (by omega)
  rw [← e] at hq
  refine Ex_step (tk_Des_freedom rfl) ?_
  refine gCI (tk_Des_freedom rfl) (hk3) ?_
  rw [hG.1]
  refine Ex_step (tk_Des_freedom rfl) ?_
  refine gCI (tk_Des_freedom rfl) (hk3) ?_
  rw [hG.2.1]
  refine Ex_step (tk_Des_freedom rfl) ?_
  refine Ex_step (tk_Des_freedom rfl) ?_
  refine Ex_step (tk_Des_freedom rfl) ?_
  refine Ex_step (tk_Des_freedom rfl) ?_
  refine Ex_step (tk_Des_freedom rfl) ?_
  refine Ex_cV0 (av := [vI 2]) (tk_Des_freedom rfl) mk_Des_countOfSort ⟨rfl, rfl, by decide, rfl, Nat.le_of_ble_eq_true rfl, Nat.le_of_ble_eq_true rfl⟩ (hk3) (fun _ h => c_countOf hD hG hW (by decide) h) ?_
  refine Ex_step (tk_Des_freedom rfl) ?_
  refine Ex_step (tk_Des_freedom rfl) ?_
  refine Ex_step (tk_Des_freedom rfl) ?_
  refine Ex_cV0 (av := [vI 3]) (tk_Des_freedom rfl) mk_Des_countOfSort ⟨rfl, rfl, by decide, rfl, Nat.le_of_ble_eq_true rfl, Nat.le_of_ble_eq_true rfl⟩ (hk3) (fun _ h => c_countOf hD hG hW (by decide) h) ?_
  refine Ex_step (tk_Des_freedom rfl) ?_
  refine Ex_step (tk_Des_freedom rfl) ?_
  refine Ex_step (tk_Des_freedom rfl) ?_
  refine Ex_step (tk_Des_freedom rfl) ⟨fun h25 => ?_, fun h25 => ?_⟩
  · try simp (disch := omega) only [cmpI, w32_b2i, b2i_0, b2i_1, w32_id, Classical.not_not, not_true_eq_false, not_false_eq_true] at h25
    refine Ex_step (tk_Des_freedom rfl) ?_
    refine Ex_step (tk_Des_freedom rfl) ?_
    refine Ex_step (tk_Des_freedom rfl) ?_
    refine Ex_step (tk_Des_freedom rfl) ?_
    refine Ex_step (tk_Des_freedom rfl) ⟨by rw [w32_id (by omega) (by omega)]; omega, ?_⟩
    refine Ex_step (tk_Des_freedom rfl) ⟨rfl, ?_⟩
    exact hq
  · try simp (disch := omega) only [cmpI, w32_b2i, b2i_0, b2i_1, w32_id, Classical.not_not, not_true_eq_false, not_false_eq_true] at h25
    omega
end CCount
