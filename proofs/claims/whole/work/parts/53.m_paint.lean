/-! ===== the reference: paint ===== -/
section MPaint
variable {d nn b : Nat} {i x z w : Int} {m : Mem} {I : Nat → Int} {A L : Nat → Nat → Int} {Q : Nat → Option AV → Mem → Prop}
set_option maxRecDepth 100000 in
theorem f_paint (hM : MW m) (hN : NowW (A 3) nn) (hi : okI i) (hx : okI x) (hz : okI z) (hw : okI w) (hb : b ≤ 8) (h12 : I 12 = (b : Int)) (hb1 : ¬ ((0 ≤ i ∧ i < (nn : Int)) ∧ inG (A 3) i.toNat x z) → Q 0 (some (vI 0)) (MS m (up1 (up1 I 0 0) 0 1) (refA 0 A) L)) (hb2 : (0 ≤ i ∧ i < (nn : Int)) ∧ inG (A 3) i.toNat x z → ¬ (0 ≤ w ∧ w ≤ 3) → Q 0 (some (vI 0)) (MS m (up1 (up1 I 0 0) 0 2) (refA 1 A) L)) (hok : (0 ≤ i ∧ i < (nn : Int)) ∧ inG (A 3) i.toNat x z → 0 ≤ w ∧ w ≤ 3 → Q 0 (some (vI (A 3 (bD i.toNat + 3 + (10 * z.toNat + x.toNat))))) (MS m (up1 (up1 I 0 0) 12 (remB b : Nat)) (up1 (remA b A) 3 (up1 (A 3) (bD i.toNat + 3 + (10 * z.toNat + x.toNat)) w)) L)) : Ex (d + 3) M_paint 0 [some (vR aM), some (vI i), some (vI x), some (vI z), some (vI w), none] [] (MS m I A L) Q := by
  have hn6 := hN.1
  obtain ⟨hw1, hw2⟩ := hw
  have e3 : remA b A 3 = A 3 := remA_lo (by decide) A
  have hA : ¬ ((0 ≤ i ∧ i < (nn : Int)) ∧ inG (A 3) i.toNat x z) → Ex (d + 3) M_paint 21 [some (vR aM), some (vI i), some (vI x), some (vI z), some (vI w), none] [vI 1, vR aM] (MS m (up1 I 0 0) A L) Q := by
    intro hq
    refine Ex_step (tk_M_paint rfl) ?_
    refine Ex_step (tk_M_paint rfl) ?_
    refine Ex_cV0 (av := [vI 1, vI 1, vI 0]) (tk_M_paint rfl) mk_M_bad ⟨rfl, rfl, by decide, rfl, Nat.le_of_ble_eq_true rfl, Nat.le_of_ble_eq_true rfl⟩ (hM.k) (fun _ h => f_bad1 (r := 0) hM (by decide) (by decide) (up1_at _ _ _) h) ?_
    refine Ex_step (tk_M_paint rfl) ⟨fun h26 => ?_, fun h26 => ?_⟩
    · replace h26 : _ := h26
      refine Ex_step (tk_M_paint rfl) ?_
      refine Ex_step (tk_M_paint rfl) ⟨rfl, ?_⟩
      exact hb1 hq
    · replace h26 : _ := h26
      exact absurd (show ¬ w32 1 = w32 0 by decide) h26
  have hA2 : (0 ≤ i ∧ i < (nn : Int)) ∧ inG (A 3) i.toNat x z → ¬ (0 ≤ w ∧ w ≤ 3) → Ex (d + 3) M_paint 45 [some (vR aM), some (vI i), some (vI x), some (vI z), some (vI w), none] [vI 1, vR aM] (MS m (up1 I 0 0) A L) Q := by
    intro hq hq2
    refine Ex_step (tk_M_paint rfl) ?_
    refine Ex_step (tk_M_paint rfl) ?_
    refine Ex_cV0 (av := [vI 1, vI 2, vI 1]) (tk_M_paint rfl) mk_M_bad ⟨rfl, rfl, by decide, rfl, Nat.le_of_ble_eq_true rfl, Nat.le_of_ble_eq_true rfl⟩ (hM.k) (fun _ h => f_bad1 (r := 1) hM (by decide) (by decide) (up1_at _ _ _) h) ?_
    refine Ex_step (tk_M_paint rfl) ⟨fun h50 => ?_, fun h50 => ?_⟩
    · replace h50 : _ := h50
      exact absurd (show w32 1 = w32 0 from h50) (by decide)
    · replace h50 : _ := h50
      refine Ex_step (tk_M_paint rfl) ?_
      refine Ex_step (tk_M_paint rfl) ⟨rfl, ?_⟩
      exact hb2 hq hq2
  have hB2 : (0 ≤ i ∧ i < (nn : Int)) ∧ inG (A 3) i.toNat x z → 0 ≤ w ∧ w ≤ 3 → Ex (d + 3) M_paint 45 [some (vR aM), some (vI i), some (vI x), some (vI z), some (vI w), none] [vI 0, vR aM] (MS m (up1 I 0 0) A L) Q := by
    intro hq hq2
    have h := hok hq hq2
    have hW := hN.2.2.2 i.toNat (by omega)
    have hg := hq.2
    have hww := hW.2.1
    have hhh := hW.2.2.1
    refine Ex_step (tk_M_paint rfl) ?_
    refine Ex_step (tk_M_paint rfl) ?_
    refine Ex_cV0 (av := [vI 0, vI 2, vI 1]) (tk_M_paint rfl) mk_M_bad ⟨rfl, rfl, by decide, rfl, Nat.le_of_ble_eq_true rfl, Nat.le_of_ble_eq_true rfl⟩ (hM.k) (fun _ h => f_bad0 (r := 1) hM (by decide) (by decide) (up1_at _ _ _) h) ?_
    refine Ex_step (tk_M_paint rfl) ⟨fun h50 => ?_, fun h50 => ?_⟩
    · replace h50 : _ := h50
      refine Ex_step (tk_M_paint rfl) ?_
      refine Ex_cV0 (av := []) (tk_M_paint rfl) mk_M_remembers ⟨rfl, rfl, by decide, rfl, Nat.le_of_ble_eq_true rfl, Nat.le_of_ble_eq_true rfl⟩ (hM.k) (fun _ h => f_remembers (b := b) hM hb h12 h) ?_
      refine Ex_step (tk_M_paint rfl) ?_
      refine gMR (tk_M_paint rfl) hM hM.r9 ?_
      refine Ex_step (tk_M_paint rfl) ?_
      refine Ex_step (tk_M_paint rfl) ?_
      refine Ex_step (tk_M_paint rfl) ?_
      refine Ex_step (tk_M_paint rfl) ?_
      refine Ex_cV0 (av := [vI i, vI x, vI z]) (tk_M_paint rfl) mk_M_cellAt ⟨rfl, rfl, by decide, rfl, Nat.le_of_ble_eq_true rfl, Nat.le_of_ble_eq_true rfl⟩ (hM.k) (fun _ h => f_cellAt h) ?_
      refine lMI (j := 3) (n := (bD i.toNat + 3 + (10 * z.toNat + x.toNat))) (tk_M_paint rfl) (by decide) hM.k3 hM.n3 (by unfold inG at hg; unfold bD at *; rw [w32_id (by omega) (by omega)]; omega) (by unfold inG at hg; unfold bD at *; omega) ?_
      rw [e3]
      refine Ex_step (tk_M_paint rfl) ?_
      refine Ex_step (tk_M_paint rfl) ?_
      refine gMR (tk_M_paint rfl) hM hM.r9 ?_
      refine Ex_step (tk_M_paint rfl) ?_
      refine Ex_step (tk_M_paint rfl) ?_
      refine Ex_step (tk_M_paint rfl) ?_
      refine Ex_step (tk_M_paint rfl) ?_
      refine Ex_cV0 (av := [vI i, vI x, vI z]) (tk_M_paint rfl) mk_M_cellAt ⟨rfl, rfl, by decide, rfl, Nat.le_of_ble_eq_true rfl, Nat.le_of_ble_eq_true rfl⟩ (hM.k) (fun _ h => f_cellAt h) ?_
      refine Ex_step (tk_M_paint rfl) ?_
      refine tMI (j := 3) (n := (bD i.toNat + 3 + (10 * z.toNat + x.toNat))) (tk_M_paint rfl) (by decide) hM.k3 hM.n3 (by unfold inG at hg; unfold bD at *; rw [w32_id (by omega) (by omega)]; omega) (by unfold inG at hg; unfold bD at *; omega) ?_
      rw [e3]
      refine Ex_step (tk_M_paint rfl) ?_
      refine Ex_step (tk_M_paint rfl) ⟨rfl, ?_⟩
      exact h
    · replace h50 : _ := h50
      exact absurd rfl h50
  have hB : (0 ≤ i ∧ i < (nn : Int)) ∧ inG (A 3) i.toNat x z → Ex (d + 3) M_paint 21 [some (vR aM), some (vI i), some (vI x), some (vI z), some (vI w), none] [vI 0, vR aM] (MS m (up1 I 0 0) A L) Q := by
    intro hq
    have h29 : Ex (d + 3) M_paint 29 [some (vR aM), some (vI i), some (vI x), some (vI z), some (vI w), none] [] (MS m (up1 I 0 0) A L) Q := by
      refine Ex_step (tk_M_paint rfl) ?_
      refine Ex_step (tk_M_paint rfl) ?_
      refine Ex_step (tk_M_paint rfl) ?_
      refine Ex_step (tk_M_paint rfl) ?_
      refine Ex_cS0 (av := [vI w, vI 0, vI 3]) (tk_M_paint rfl) mk_M_in ⟨rfl, by decide, rfl, rfl, rfl, Nat.le_of_ble_eq_true rfl, Nat.le_of_ble_eq_true rfl⟩ (fun _ h => e_in h) ?_
      refine Ex_step (tk_M_paint rfl) ⟨fun h37 => ?_, fun h37 => ?_⟩
      · try simp (disch := omega) only [cmpI, w32_b2i, b2i_0, b2i_1, w32_id, Classical.not_not, not_true_eq_false, not_false_eq_true] at h37
        refine Ex_step (tk_M_paint rfl) ?_
        first | exact hA2 hq h37 | exact hB2 hq h37
      · try simp (disch := omega) only [cmpI, w32_b2i, b2i_0, b2i_1, w32_id, Classical.not_not, not_true_eq_false, not_false_eq_true] at h37
        refine Ex_step (tk_M_paint rfl) ?_
        refine Ex_step (tk_M_paint rfl) ?_
        first | exact hA2 hq h37 | exact hB2 hq h37
    refine Ex_step (tk_M_paint rfl) ?_
    refine Ex_step (tk_M_paint rfl) ?_
    refine Ex_cV0 (av := [vI 0, vI 1, vI 0]) (tk_M_paint rfl) mk_M_bad ⟨rfl, rfl, by decide, rfl, Nat.le_of_ble_eq_true rfl, Nat.le_of_ble_eq_true rfl⟩ (hM.k) (fun _ h => f_bad0 (r := 0) hM (by decide) (by decide) (up1_at _ _ _) h) ?_
    refine Ex_step (tk_M_paint rfl) ⟨fun h26 => ?_, fun h26 => ?_⟩
    · replace h26 : _ := h26
      exact absurd rfl h26
    · replace h26 : _ := h26
      exact h29
  refine Ex_step (tk_M_paint rfl) ?_
  refine Ex_step (tk_M_paint rfl) ?_
  refine pMI (tk_M_paint rfl) hM ?_
  refine Ex_step (tk_M_paint rfl) ?_
  refine Ex_step (tk_M_paint rfl) ?_
  refine Ex_step (tk_M_paint rfl) ?_
  refine Ex_step (tk_M_paint rfl) ?_
  refine Ex_step (tk_M_paint rfl) ?_
  refine Ex_cV0 (av := [vI i, vI x, vI z]) (tk_M_paint rfl) mk_M_isCell ⟨rfl, rfl, by decide, rfl, Nat.le_of_ble_eq_true rfl, Nat.le_of_ble_eq_true rfl⟩ (hM.k) (fun _ h => f_isCell hM hN hi hx hz h) ?_
  refine Ex_step (tk_M_paint rfl) ⟨fun h13 => ?_, fun h13 => ?_⟩
  · try simp (disch := omega) only [cmpI, w32_b2i, b2i_0, b2i_1, w32_id, Classical.not_not, not_true_eq_false, not_false_eq_true] at h13
    refine Ex_step (tk_M_paint rfl) ?_
    first | exact hA h13 | exact hB h13
  · try simp (disch := omega) only [cmpI, w32_b2i, b2i_0, b2i_1, w32_id, Classical.not_not, not_true_eq_false, not_false_eq_true] at h13
    refine Ex_step (tk_M_paint rfl) ?_
    refine Ex_step (tk_M_paint rfl) ?_
    first | exact hA h13 | exact hB h13
end MPaint
