/-! ===== the reference: day ===== -/
section MDay2
variable {d nn b : Nat} {i x : Int} {m : Mem} {I : Nat → Int} {A L : Nat → Nat → Int} {Q : Nat → Option AV → Mem → Prop}
set_option maxRecDepth 100000 in
theorem f_day (hM : MW m) (hN : NowW (A 3) nn) (hi : okI i) (hx : okI x) (hb : b ≤ 8) (h12 : I 12 = (b : Int)) (hb1 : ¬ (0 ≤ i ∧ i < (nn : Int)) → Q 0 (some (vI 0)) (MS m (up1 (up1 I 0 0) 0 1) (refA 0 A) L)) (hb2 : 0 ≤ i ∧ i < (nn : Int) → ¬ (0 ≤ x ∧ x ≤ 9999) → Q 0 (some (vI 0)) (MS m (up1 (up1 I 0 0) 0 2) (refA 1 A) L)) (hok : 0 ≤ i ∧ i < (nn : Int) → 0 ≤ x ∧ x ≤ 9999 → Q 0 (some (vI (A 3 (bD i.toNat)))) (MS m (up1 (up1 I 0 0) 12 (remB b : Nat)) (up1 (remA b A) 3 (up1 (A 3) (bD i.toNat) x)) L)) : Ex (d + 2) M_day 0 [some (vR aM), some (vI i), some (vI x), none] [] (MS m I A L) Q := by
  have hn6 := hN.1
  obtain ⟨hx1, hx2⟩ := hx
  have e3 : remA b A 3 = A 3 := remA_lo (by decide) A
  have hA : ¬ (0 ≤ i ∧ i < (nn : Int)) → Ex (d + 2) M_day 19 [some (vR aM), some (vI i), some (vI x), none] [vI 1, vR aM] (MS m (up1 I 0 0) A L) Q := by
    intro hq
    refine Ex_step (tk_M_day rfl) ?_
    refine Ex_step (tk_M_day rfl) ?_
    refine Ex_cV0 (av := [vI 1, vI 1, vI 0]) (tk_M_day rfl) mk_M_bad ⟨rfl, rfl, by decide, rfl, Nat.le_of_ble_eq_true rfl, Nat.le_of_ble_eq_true rfl⟩ (hM.k) (fun _ h => f_bad1 (r := 0) hM (by decide) (by decide) (up1_at _ _ _) h) ?_
    refine Ex_step (tk_M_day rfl) ⟨fun h24 => ?_, fun h24 => ?_⟩
    · replace h24 : _ := h24
      refine Ex_step (tk_M_day rfl) ?_
      refine Ex_step (tk_M_day rfl) ⟨rfl, ?_⟩
      exact hb1 hq
    · replace h24 : _ := h24
      exact absurd (show ¬ w32 1 = w32 0 by decide) h24
  have hA2 : 0 ≤ i ∧ i < (nn : Int) → ¬ (0 ≤ x ∧ x ≤ 9999) → Ex (d + 2) M_day 44 [some (vR aM), some (vI i), some (vI x), none] [vI 1, vR aM] (MS m (up1 I 0 0) A L) Q := by
    intro hq hq2
    refine Ex_step (tk_M_day rfl) ?_
    refine Ex_step (tk_M_day rfl) ?_
    refine Ex_cV0 (av := [vI 1, vI 2, vI 1]) (tk_M_day rfl) mk_M_bad ⟨rfl, rfl, by decide, rfl, Nat.le_of_ble_eq_true rfl, Nat.le_of_ble_eq_true rfl⟩ (hM.k) (fun _ h => f_bad1 (r := 1) hM (by decide) (by decide) (up1_at _ _ _) h) ?_
    refine Ex_step (tk_M_day rfl) ⟨fun h49 => ?_, fun h49 => ?_⟩
    · replace h49 : _ := h49
      exact absurd (show w32 1 = w32 0 from h49) (by decide)
    · replace h49 : _ := h49
      refine Ex_step (tk_M_day rfl) ?_
      refine Ex_step (tk_M_day rfl) ⟨rfl, ?_⟩
      exact hb2 hq hq2
  have hB2 : 0 ≤ i ∧ i < (nn : Int) → 0 ≤ x ∧ x ≤ 9999 → Ex (d + 2) M_day 44 [some (vR aM), some (vI i), some (vI x), none] [vI 0, vR aM] (MS m (up1 I 0 0) A L) Q := by
    intro hq hq2
    have h := hok hq hq2
    have hi2 : i = (i.toNat : Int) := by omega
    refine Ex_step (tk_M_day rfl) ?_
    refine Ex_step (tk_M_day rfl) ?_
    refine Ex_cV0 (av := [vI 0, vI 2, vI 1]) (tk_M_day rfl) mk_M_bad ⟨rfl, rfl, by decide, rfl, Nat.le_of_ble_eq_true rfl, Nat.le_of_ble_eq_true rfl⟩ (hM.k) (fun _ h => f_bad0 (r := 1) hM (by decide) (by decide) (up1_at _ _ _) h) ?_
    refine Ex_step (tk_M_day rfl) ⟨fun h49 => ?_, fun h49 => ?_⟩
    · replace h49 : _ := h49
      refine Ex_step (tk_M_day rfl) ?_
      refine Ex_cV0 (av := []) (tk_M_day rfl) mk_M_remembers ⟨rfl, rfl, by decide, rfl, Nat.le_of_ble_eq_true rfl, Nat.le_of_ble_eq_true rfl⟩ (hM.k) (fun _ h => f_remembers (b := b) hM hb h12 h) ?_
      refine Ex_step (tk_M_day rfl) ?_
      refine Ex_step (tk_M_day rfl) ?_
      refine Ex_cV0 (av := [vI i]) (tk_M_day rfl) mk_M_dayOf ⟨rfl, rfl, by decide, rfl, Nat.le_of_ble_eq_true rfl, Nat.le_of_ble_eq_true rfl⟩ (hM.k) (fun _ h => f_dayOf (dd := i.toNat) hM (by omega) hi2 h) ?_
      rw [e3]
      refine Ex_step (tk_M_day rfl) ?_
      refine Ex_step (tk_M_day rfl) ?_
      refine gMR (tk_M_day rfl) hM hM.r9 ?_
      refine Ex_step (tk_M_day rfl) ?_
      refine Ex_step (tk_M_day rfl) ?_
      refine Ex_step (tk_M_day rfl) ?_
      refine Ex_step (tk_M_day rfl) ?_
      refine Ex_step (tk_M_day rfl) ?_
      refine Ex_step (tk_M_day rfl) ?_
      refine tMI (j := 3) (n := bD i.toNat) (tk_M_day rfl) (by decide) hM.k3 hM.n3 (by unfold bD; rw [w32_id (by omega) (by omega)]; omega) (by unfold bD; omega) ?_
      rw [e3]
      refine Ex_step (tk_M_day rfl) ?_
      refine Ex_step (tk_M_day rfl) ⟨rfl, ?_⟩
      exact h
    · replace h49 : _ := h49
      exact absurd rfl h49
  have hB : 0 ≤ i ∧ i < (nn : Int) → Ex (d + 2) M_day 19 [some (vR aM), some (vI i), some (vI x), none] [vI 0, vR aM] (MS m (up1 I 0 0) A L) Q := by
    intro hq
    have h27 : Ex (d + 2) M_day 27 [some (vR aM), some (vI i), some (vI x), none] [] (MS m (up1 I 0 0) A L) Q := by
      refine Ex_step (tk_M_day rfl) ?_
      refine Ex_step (tk_M_day rfl) ?_
      refine Ex_step (tk_M_day rfl) ?_
      refine Ex_step (tk_M_day rfl) ?_
      refine Ex_cS0 (av := [vI x, vI 0, vI 9999]) (tk_M_day rfl) mk_M_in ⟨rfl, by decide, rfl, rfl, rfl, Nat.le_of_ble_eq_true rfl, Nat.le_of_ble_eq_true rfl⟩ (fun _ h => e_in h) ?_
      refine Ex_step (tk_M_day rfl) ⟨fun h36 => ?_, fun h36 => ?_⟩
      · try simp (disch := omega) only [cmpI, w32_b2i, b2i_0, b2i_1, w32_id, Classical.not_not, not_true_eq_false, not_false_eq_true] at h36
        refine Ex_step (tk_M_day rfl) ?_
        first | exact hA2 hq h36 | exact hB2 hq h36
      · try simp (disch := omega) only [cmpI, w32_b2i, b2i_0, b2i_1, w32_id, Classical.not_not, not_true_eq_false, not_false_eq_true] at h36
        refine Ex_step (tk_M_day rfl) ?_
        refine Ex_step (tk_M_day rfl) ?_
        first | exact hA2 hq h36 | exact hB2 hq h36
    refine Ex_step (tk_M_day rfl) ?_
    refine Ex_step (tk_M_day rfl) ?_
    refine Ex_cV0 (av := [vI 0, vI 1, vI 0]) (tk_M_day rfl) mk_M_bad ⟨rfl, rfl, by decide, rfl, Nat.le_of_ble_eq_true rfl, Nat.le_of_ble_eq_true rfl⟩ (hM.k) (fun _ h => f_bad0 (r := 0) hM (by decide) (by decide) (up1_at _ _ _) h) ?_
    refine Ex_step (tk_M_day rfl) ⟨fun h24 => ?_, fun h24 => ?_⟩
    · replace h24 : _ := h24
      exact absurd rfl h24
    · replace h24 : _ := h24
      exact h27
  refine Ex_step (tk_M_day rfl) ?_
  refine Ex_step (tk_M_day rfl) ?_
  refine pMI (tk_M_day rfl) hM ?_
  refine Ex_step (tk_M_day rfl) ?_
  refine Ex_step (tk_M_day rfl) ?_
  refine Ex_step (tk_M_day rfl) ?_
  refine Ex_cV0 (av := [vI i]) (tk_M_day rfl) mk_M_isDesign ⟨rfl, rfl, by decide, rfl, Nat.le_of_ble_eq_true rfl, Nat.le_of_ble_eq_true rfl⟩ (hM.k) (fun _ h => f_isDesign hM hN hi h) ?_
  refine Ex_step (tk_M_day rfl) ⟨fun h11 => ?_, fun h11 => ?_⟩
  · try simp (disch := omega) only [cmpI, w32_b2i, b2i_0, b2i_1, w32_id, Classical.not_not, not_true_eq_false, not_false_eq_true] at h11
    refine Ex_step (tk_M_day rfl) ?_
    first | exact hA h11 | exact hB h11
  · try simp (disch := omega) only [cmpI, w32_b2i, b2i_0, b2i_1, w32_id, Classical.not_not, not_true_eq_false, not_false_eq_true] at h11
    refine Ex_step (tk_M_day rfl) ?_
    refine Ex_step (tk_M_day rfl) ?_
    first | exact hA h11 | exact hB h11
end MDay2
