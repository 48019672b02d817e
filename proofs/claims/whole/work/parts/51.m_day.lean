/-! ===== the reference: told, day ===== -/
section MDay
variable {d nn b : Nat} {i x z w : Int} {m : Mem} {I : Nat → Int} {A L : Nat → Nat → Int} {Q : Nat → Option AV → Mem → Prop}
set_option maxRecDepth 100000 in
theorem f_toldM (hM : MW m) (hi : okI i) (hbad : ¬ (0 ≤ i ∧ i ≤ 3) → Q 0 (some (vI 0)) (MS m (up1 (up1 I 0 0) 0 1) (refA 1 A) L)) (hok : 0 ≤ i ∧ i ≤ 3 → Q 0 (some (vI (if i < 2 then A 3 i.toNat else if i = 2 then I 2 else I 12))) (MS m (up1 I 0 0) A L)) : Ex (d + 1) M_told 0 [some (vR aM), some (vI i)] [] (MS m I A L) Q := by
  obtain ⟨hi1, hi2⟩ := hi
  have hA : ¬ (0 ≤ i ∧ i ≤ 3) → Ex (d + 1) M_told 20 [some (vR aM), some (vI i)] [vI 1, vR aM] (MS m (up1 I 0 0) A L) Q := by
    intro hq
    refine Ex_step (tk_M_told rfl) ?_
    refine Ex_step (tk_M_told rfl) ?_
    refine Ex_cV0 (av := [vI 1, vI 1, vI 1]) (tk_M_told rfl) mk_M_bad ⟨rfl, rfl, by decide, rfl, Nat.le_of_ble_eq_true rfl, Nat.le_of_ble_eq_true rfl⟩ (hM.k) (fun _ h => f_bad1 (r := 1) hM (by decide) (by decide) (up1_at _ _ _) h) ?_
    refine Ex_step (tk_M_told rfl) ⟨fun h25 => ?_, fun h25 => ?_⟩
    · replace h25 : _ := h25
      exact absurd (show w32 1 = w32 0 from h25) (by decide)
    · replace h25 : _ := h25
      refine Ex_step (tk_M_told rfl) ?_
      refine Ex_step (tk_M_told rfl) ⟨rfl, ?_⟩
      exact hbad hq
  have h30 : 0 ≤ i ∧ i ≤ 3 → Ex (d + 1) M_told 30 [some (vR aM), some (vI i)] [] (MS m (up1 I 0 0) A L) Q := by
    intro hq
    have h := hok hq
    refine Ex_step (tk_M_told rfl) ?_
    refine Ex_step (tk_M_told rfl) ?_
    refine Ex_step (tk_M_told rfl) ⟨fun h32 => ?_, fun h32 => ?_⟩
    · try simp (disch := omega) only [cmpI, w32_b2i, b2i_0, b2i_1, w32_id, Classical.not_not, not_true_eq_false, not_false_eq_true] at h32
      refine Ex_step (tk_M_told rfl) ?_
      refine Ex_step (tk_M_told rfl) ?_
      refine Ex_step (tk_M_told rfl) ⟨fun h46 => ?_, fun h46 => ?_⟩
      · try simp (disch := omega) only [cmpI, w32_b2i, b2i_0, b2i_1, w32_id, Classical.not_not, not_true_eq_false, not_false_eq_true] at h46
        rw [if_neg (by omega), if_neg (by omega)] at h
        refine Ex_step (tk_M_told rfl) ?_
        refine gMI (tk_M_told rfl) hM ?_
        refine Ex_step (tk_M_told rfl) ⟨rfl, ?_⟩
        exact h
      · try simp (disch := omega) only [cmpI, w32_b2i, b2i_0, b2i_1, w32_id, Classical.not_not, not_true_eq_false, not_false_eq_true] at h46
        rw [if_neg (by omega), if_pos (by omega)] at h
        refine Ex_step (tk_M_told rfl) ?_
        refine gMI (tk_M_told rfl) hM ?_
        refine Ex_step (tk_M_told rfl) ?_
        refine Ex_step (tk_M_told rfl) ⟨rfl, ?_⟩
        exact h
    · try simp (disch := omega) only [cmpI, w32_b2i, b2i_0, b2i_1, w32_id, Classical.not_not, not_true_eq_false, not_false_eq_true] at h32
      rw [if_pos (by omega)] at h
      refine Ex_step (tk_M_told rfl) ?_
      refine gMR (tk_M_told rfl) hM hM.r9 ?_
      refine Ex_step (tk_M_told rfl) ?_
      refine lMI (j := 3) (n := i.toNat) (tk_M_told rfl) (by decide) hM.k3 hM.n3 (by rw [w32_id (by omega) (by omega)]; omega) (by omega) ?_
      refine Ex_step (tk_M_told rfl) ?_
      refine Ex_step (tk_M_told rfl) ⟨rfl, ?_⟩
      exact h
  have hB : 0 ≤ i ∧ i ≤ 3 → Ex (d + 1) M_told 20 [some (vR aM), some (vI i)] [vI 0, vR aM] (MS m (up1 I 0 0) A L) Q := by
    intro hq
    refine Ex_step (tk_M_told rfl) ?_
    refine Ex_step (tk_M_told rfl) ?_
    refine Ex_cV0 (av := [vI 0, vI 1, vI 1]) (tk_M_told rfl) mk_M_bad ⟨rfl, rfl, by decide, rfl, Nat.le_of_ble_eq_true rfl, Nat.le_of_ble_eq_true rfl⟩ (hM.k) (fun _ h => f_bad0 (r := 1) hM (by decide) (by decide) (up1_at _ _ _) h) ?_
    refine Ex_step (tk_M_told rfl) ⟨fun h25 => ?_, fun h25 => ?_⟩
    · replace h25 : _ := h25
      exact h30 hq
    · replace h25 : _ := h25
      exact absurd rfl h25
  refine Ex_step (tk_M_told rfl) ?_
  refine Ex_step (tk_M_told rfl) ?_
  refine pMI (tk_M_told rfl) hM ?_
  refine Ex_step (tk_M_told rfl) ?_
  refine Ex_step (tk_M_told rfl) ?_
  refine Ex_step (tk_M_told rfl) ?_
  refine Ex_step (tk_M_told rfl) ?_
  refine Ex_cS0 (av := [vI i, vI 0, vI 3]) (tk_M_told rfl) mk_M_in ⟨rfl, by decide, rfl, rfl, rfl, Nat.le_of_ble_eq_true rfl, Nat.le_of_ble_eq_true rfl⟩ (fun _ h => e_in h) ?_
  refine Ex_step (tk_M_told rfl) ⟨fun h12 => ?_, fun h12 => ?_⟩
  · try simp (disch := omega) only [cmpI, w32_b2i, b2i_0, b2i_1, w32_id, Classical.not_not, not_true_eq_false, not_false_eq_true] at h12
    refine Ex_step (tk_M_told rfl) ?_
    first | exact hA h12 | exact hB h12
  · try simp (disch := omega) only [cmpI, w32_b2i, b2i_0, b2i_1, w32_id, Classical.not_not, not_true_eq_false, not_false_eq_true] at h12
    refine Ex_step (tk_M_told rfl) ?_
    refine Ex_step (tk_M_told rfl) ?_
    first | exact hA h12 | exact hB h12
end MDay
