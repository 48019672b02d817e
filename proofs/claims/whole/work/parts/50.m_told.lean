/-! ===== the reference: refusals by literals; told, cell ===== -/
section MTold
variable {d nn : Nat} {i x z w : Int} {m : Mem} {I : Nat → Int} {A L : Nat → Nat → Int} {Q : Nat → Option AV → Mem → Prop}
def refA (r : Nat) (A : Nat → Nat → Int) : Nat → Nat → Int := up1 A 1 (up1 (A 1) r (A 1 r + 1))
set_option maxRecDepth 100000 in
theorem f_bad1 {r : Nat} (hM : MW m) (hw : 1 ≤ w ∧ w ≤ 2) (hr : r ≤ 1) (hI : I 0 = 0) (h : Q 0 (some (vI 1)) (MS m (up1 I 0 w) (refA r A) L)) : Ex d M_bad 0 [some (vR aM), some (vI 1), some (vI w), some (vI (r : Int))] [] (MS m I A L) Q := by
  have e1 : badI True w I = up1 I 0 w := if_pos ⟨trivial, hI⟩
  have e2 : badA True r I A = refA r A := if_pos ⟨trivial, hI⟩
  have e3 : b2i (¬ badI True w I 0 = 0) = 1 := b2i_t (by rw [e1, up1_at]; omega)
  have := f_bad (p := True) (d := d) (Q := Q) (L := L) (A := A) (I := I) hM hw hr (by omega) (by rw [e3, e1, e2]; exact h)
  exact this
set_option maxRecDepth 100000 in
theorem f_bad0 {r : Nat} (hM : MW m) (hw : 1 ≤ w ∧ w ≤ 2) (hr : r ≤ 1) (hI : I 0 = 0) (h : Q 0 (some (vI 0)) (MS m I A L)) : Ex d M_bad 0 [some (vR aM), some (vI 0), some (vI w), some (vI (r : Int))] [] (MS m I A L) Q := by
  have e1 : badI False w I = I := if_neg (fun q => q.1)
  have e2 : badA False r I A = A := if_neg (fun q => q.1)
  have e3 : b2i (¬ badI False w I 0 = 0) = 0 := b2i_f (by rw [e1]; exact fun q => q hI)
  have := f_bad (p := False) (d := d) (Q := Q) (L := L) (A := A) (I := I) hM hw hr (by omega) (by rw [e3, e1, e2]; exact h)
  exact this
set_option maxRecDepth 100000 in
theorem f_cell (hM : MW m) (hN : NowW (A 3) nn) (hi : okI i) (hx : okI x) (hz : okI z) (hbad : ¬ ((0 ≤ i ∧ i < (nn : Int)) ∧ inG (A 3) i.toNat x z) → Q 0 (some (vI 0)) (MS m (up1 (up1 I 0 0) 0 1) (refA 0 A) L)) (hok : (0 ≤ i ∧ i < (nn : Int)) ∧ inG (A 3) i.toNat x z → Q 0 (some (vI (srt (A 3) i.toNat x z))) (MS m (up1 I 0 0) A L)) : Ex (d + 3) M_cell 0 [some (vR aM), some (vI i), some (vI x), some (vI z)] [] (MS m I A L) Q := by
  have hn6 := hN.1
  have hA : ¬ ((0 ≤ i ∧ i < (nn : Int)) ∧ inG (A 3) i.toNat x z) → Ex (d + 3) M_cell 21 [some (vR aM), some (vI i), some (vI x), some (vI z)] [vI 1, vR aM] (MS m (up1 I 0 0) A L) Q := by
    intro hq
    refine Ex_step (tk_M_cell rfl) ?_
    refine Ex_step (tk_M_cell rfl) ?_
    refine Ex_cV0 (av := [vI 1, vI 1, vI 0]) (tk_M_cell rfl) mk_M_bad ⟨rfl, rfl, by decide, rfl, Nat.le_of_ble_eq_true rfl, Nat.le_of_ble_eq_true rfl⟩ (hM.k) (fun _ h => f_bad1 (r := 0) hM (by decide) (by decide) (up1_at _ _ _) h) ?_
    refine Ex_step (tk_M_cell rfl) ⟨fun h26 => ?_, fun h26 => ?_⟩
    · replace h26 : _ := h26
      exact absurd (show w32 1 = w32 0 from h26) (by decide)
    · replace h26 : _ := h26
      refine Ex_step (tk_M_cell rfl) ?_
      refine Ex_step (tk_M_cell rfl) ?_
      refine Ex_step (tk_M_cell rfl) ⟨rfl, ?_⟩
      exact hbad hq
  have hB : (0 ≤ i ∧ i < (nn : Int)) ∧ inG (A 3) i.toNat x z → Ex (d + 3) M_cell 21 [some (vR aM), some (vI i), some (vI x), some (vI z)] [vI 0, vR aM] (MS m (up1 I 0 0) A L) Q := by
    intro hq
    have hi2 : i = (i.toNat : Int) := by omega
    refine Ex_step (tk_M_cell rfl) ?_
    refine Ex_step (tk_M_cell rfl) ?_
    refine Ex_cV0 (av := [vI 0, vI 1, vI 0]) (tk_M_cell rfl) mk_M_bad ⟨rfl, rfl, by decide, rfl, Nat.le_of_ble_eq_true rfl, Nat.le_of_ble_eq_true rfl⟩ (hM.k) (fun _ h => f_bad0 (r := 0) hM (by decide) (by decide) (up1_at _ _ _) h) ?_
    refine Ex_step (tk_M_cell rfl) ⟨fun h26 => ?_, fun h26 => ?_⟩
    · replace h26 : _ := h26
      refine Ex_step (tk_M_cell rfl) ?_
      refine Ex_step (tk_M_cell rfl) ?_
      refine Ex_step (tk_M_cell rfl) ?_
      refine Ex_step (tk_M_cell rfl) ?_
      refine Ex_cV0 (av := [vI i, vI x, vI z]) (tk_M_cell rfl) mk_M_sortOf ⟨rfl, rfl, by decide, rfl, Nat.le_of_ble_eq_true rfl, Nat.le_of_ble_eq_true rfl⟩ (hM.k) (fun _ h => f_sortOf (dd := i.toNat) hM (by omega) hi2 (hN.2.2.2 _ (by omega)) hx hz h) ?_
      refine Ex_step (tk_M_cell rfl) ⟨rfl, ?_⟩
      exact hok hq
    · replace h26 : _ := h26
      exact absurd rfl h26
  refine Ex_step (tk_M_cell rfl) ?_
  refine Ex_step (tk_M_cell rfl) ?_
  refine pMI (tk_M_cell rfl) hM ?_
  refine Ex_step (tk_M_cell rfl) ?_
  refine Ex_step (tk_M_cell rfl) ?_
  refine Ex_step (tk_M_cell rfl) ?_
  refine Ex_step (tk_M_cell rfl) ?_
  refine Ex_step (tk_M_cell rfl) ?_
  refine Ex_cV0 (av := [vI i, vI x, vI z]) (tk_M_cell rfl) mk_M_isCell ⟨rfl, rfl, by decide, rfl, Nat.le_of_ble_eq_true rfl, Nat.le_of_ble_eq_true rfl⟩ (hM.k) (fun _ h => f_isCell hM hN hi hx hz h) ?_
  refine Ex_step (tk_M_cell rfl) ⟨fun h13 => ?_, fun h13 => ?_⟩
  · try simp (disch := omega) only [cmpI, w32_b2i, b2i_0, b2i_1, w32_id, Classical.not_not, not_true_eq_false, not_false_eq_true] at h13
    refine Ex_step (tk_M_cell rfl) ?_
    first | exact hA h13 | exact hB h13
  · try simp (disch := omega) only [cmpI, w32_b2i, b2i_0, b2i_1, w32_id, Classical.not_not, not_true_eq_false, not_false_eq_true] at h13
    refine Ex_step (tk_M_cell rfl) ?_
    refine Ex_step (tk_M_cell rfl) ?_
    first | exact hA h13 | exact hB h13
end MTold
