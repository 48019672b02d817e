/-! ===== the reference: cells, undo, fault, status ===== -/
section MSimple
variable {d nn : Nat} {i x z : Int} {m : Mem} {I : Nat → Int} {A L : Nat → Nat → Int} {Q : Nat → Option AV → Mem → Prop}
set_option maxRecDepth 100000 in
theorem f_isCell (hM : MW m) (hN : NowW (A 3) nn) (hi : okI i) (hx : okI x) (hz : okI z) (h : Q 0 (some (vI (b2i ((0 ≤ i ∧ i < (nn : Int)) ∧ inG (A 3) i.toNat x z)))) (MS m I A L)) : Ex (d + 2) M_isCell 0 [some (vR aM), some (vI i), some (vI x), some (vI z)] [] (MS m I A L) Q := by
  have hn6 := hN.1
  obtain ⟨hx1, hx2⟩ := hx
  obtain ⟨hz1, hz2⟩ := hz
  refine Ex_step (tk_M_isCell rfl) ?_
  refine Ex_step (tk_M_isCell rfl) ?_
  refine Ex_cV0 (av := [vI i]) (tk_M_isCell rfl) mk_M_isDesign ⟨rfl, rfl, by decide, rfl, Nat.le_of_ble_eq_true rfl, Nat.le_of_ble_eq_true rfl⟩ (hM.k) (fun _ h => f_isDesign hM hN hi h) ?_
  refine Ex_step (tk_M_isCell rfl) ⟨fun h5 => ?_, fun h5 => ?_⟩
  · try simp (disch := omega) only [cmpI, w32_b2i, b2i_0, b2i_1, w32_id, Classical.not_not, not_true_eq_false, not_false_eq_true] at h5
    rw [b2i_f (show ¬ ((0 ≤ i ∧ i < (nn : Int)) ∧ inG (A 3) i.toNat x z) from fun q => by first | exact h5 q.1 | exact h20 q.2.1 | exact h35 q.2.2)] at h
    refine Ex_step (tk_M_isCell rfl) ?_
    refine Ex_step (tk_M_isCell rfl) ⟨rfl, by first | exact Or.inl rfl | exact Or.inr rfl | exact b2i_01 _ | assumption, ?_⟩
    exact h
  · try simp (disch := omega) only [cmpI, w32_b2i, b2i_0, b2i_1, w32_id, Classical.not_not, not_true_eq_false, not_false_eq_true] at h5
    have hW := hN.2.2.2 i.toNat (by omega)
    have hw := hW.2.1
    have hh := hW.2.2.1
    have hi2 : i = (i.toNat : Int) := by omega
    refine Ex_step (tk_M_isCell rfl) ?_
    refine Ex_step (tk_M_isCell rfl) ?_
    refine Ex_step (tk_M_isCell rfl) ?_
    refine Ex_step (tk_M_isCell rfl) ?_
    refine Ex_cV0 (av := [vI i]) (tk_M_isCell rfl) mk_M_wideOf ⟨rfl, rfl, by decide, rfl, Nat.le_of_ble_eq_true rfl, Nat.le_of_ble_eq_true rfl⟩ (hM.k) (fun _ h => f_wideOf (dd := i.toNat) hM (by omega) hi2 h) ?_
    refine Ex_step (tk_M_isCell rfl) ?_
    refine Ex_step (tk_M_isCell rfl) ?_
    refine Ex_cS0 (av := [vI x, vI 0, vI (A 3 (bD i.toNat + 1) - 1)]) (tk_M_isCell rfl) mk_M_in ⟨rfl, by decide, rfl, rfl, rfl, Nat.le_of_ble_eq_true rfl, Nat.le_of_ble_eq_true rfl⟩ (fun _ h => e_in h) ?_
    refine Ex_step (tk_M_isCell rfl) ⟨fun h20 => ?_, fun h20 => ?_⟩
    · try simp (disch := omega) only [cmpI, w32_b2i, b2i_0, b2i_1, w32_id, Classical.not_not, not_true_eq_false, not_false_eq_true] at h20
      rw [b2i_f (show ¬ ((0 ≤ i ∧ i < (nn : Int)) ∧ inG (A 3) i.toNat x z) from fun q => by first | exact h5 q.1 | exact h20 q.2.1 | exact h35 q.2.2)] at h
      refine Ex_step (tk_M_isCell rfl) ?_
      refine Ex_step (tk_M_isCell rfl) ⟨rfl, by first | exact Or.inl rfl | exact Or.inr rfl | exact b2i_01 _ | assumption, ?_⟩
      exact h
    · try simp (disch := omega) only [cmpI, w32_b2i, b2i_0, b2i_1, w32_id, Classical.not_not, not_true_eq_false, not_false_eq_true] at h20
      refine Ex_step (tk_M_isCell rfl) ?_
      refine Ex_step (tk_M_isCell rfl) ?_
      refine Ex_step (tk_M_isCell rfl) ?_
      refine Ex_step (tk_M_isCell rfl) ?_
      refine Ex_cV0 (av := [vI i]) (tk_M_isCell rfl) mk_M_highOf ⟨rfl, rfl, by decide, rfl, Nat.le_of_ble_eq_true rfl, Nat.le_of_ble_eq_true rfl⟩ (hM.k) (fun _ h => f_highOf (dd := i.toNat) hM (by omega) hi2 h) ?_
      refine Ex_step (tk_M_isCell rfl) ?_
      refine Ex_step (tk_M_isCell rfl) ?_
      refine Ex_cS0 (av := [vI z, vI 0, vI (A 3 (bD i.toNat + 2) - 1)]) (tk_M_isCell rfl) mk_M_in ⟨rfl, by decide, rfl, rfl, rfl, Nat.le_of_ble_eq_true rfl, Nat.le_of_ble_eq_true rfl⟩ (fun _ h => e_in h) ?_
      refine Ex_step (tk_M_isCell rfl) ⟨fun h35 => ?_, fun h35 => ?_⟩
      · try simp (disch := omega) only [cmpI, w32_b2i, b2i_0, b2i_1, w32_id, Classical.not_not, not_true_eq_false, not_false_eq_true] at h35
        rw [b2i_f (show ¬ ((0 ≤ i ∧ i < (nn : Int)) ∧ inG (A 3) i.toNat x z) from fun q => by first | exact h5 q.1 | exact h20 q.2.1 | exact h35 q.2.2)] at h
        refine Ex_step (tk_M_isCell rfl) ?_
        refine Ex_step (tk_M_isCell rfl) ⟨rfl, by first | exact Or.inl rfl | exact Or.inr rfl | exact b2i_01 _ | assumption, ?_⟩
        exact h
      · try simp (disch := omega) only [cmpI, w32_b2i, b2i_0, b2i_1, w32_id, Classical.not_not, not_true_eq_false, not_false_eq_true] at h35
        rw [b2i_t (show (0 ≤ i ∧ i < (nn : Int)) ∧ inG (A 3) i.toNat x z from ⟨h5, h20, h35⟩)] at h
        refine Ex_step (tk_M_isCell rfl) ?_
        refine Ex_step (tk_M_isCell rfl) ?_
        refine Ex_step (tk_M_isCell rfl) ⟨rfl, by first | exact Or.inl rfl | exact Or.inr rfl | exact b2i_01 _ | assumption, ?_⟩
        exact h
set_option maxRecDepth 100000 in
theorem f_undo {b : Nat} (hM : MW m) (hb : b ≤ 8) (h12 : I 12 = (b : Int)) (h0 : b = 0 → Q 0 (some (vI (-1))) (MS m (up1 I 0 0) A L)) (h1 : 1 ≤ b → Q 0 (some (vI ((b - 1 : Nat) : Int))) (MS m (up1 (up1 I 0 0) 12 ((b - 1 : Nat) : Int)) (up1 A 3 (cpK 1920 (A (6 + (b - 1))) (A 3))) L)) : Ex (d + 1) M_undo 0 [some (vR aM)] [] (MS m I A L) Q := by
  have e : up1 I 0 0 12 = (b : Int) := h12
  refine Ex_step (tk_M_undo rfl) ?_
  refine Ex_step (tk_M_undo rfl) ?_
  refine pMI (tk_M_undo rfl) hM ?_
  refine Ex_step (tk_M_undo rfl) ?_
  refine gMI (tk_M_undo rfl) hM ?_
  refine Ex_step (tk_M_undo rfl) ⟨fun h9 => ?_, fun h9 => ?_⟩
  · try simp (disch := omega) only [cmpI, w32_b2i, b2i_0, b2i_1, w32_id, Classical.not_not, not_true_eq_false, not_false_eq_true] at h9
    refine Ex_step (tk_M_undo rfl) ?_
    refine Ex_step (tk_M_undo rfl) ?_
    refine gMI (tk_M_undo rfl) hM ?_
    refine Ex_step (tk_M_undo rfl) ?_
    refine Ex_step (tk_M_undo rfl) ?_
    refine pMI (tk_M_undo rfl) hM ?_
    rw [show up1 I 0 0 12 - 1 = ((b - 1 : Nat) : Int) by omega]
    refine Ex_step (tk_M_undo rfl) ?_
    refine gMR (tk_M_undo rfl) hM hM.r11 ?_
    refine Ex_step (tk_M_undo rfl) ?_
    refine gMI (tk_M_undo rfl) hM ?_
    refine lMP (j := b - 1) hM (tk_M_undo rfl) (by rw [up1_at]; exact w32_id (by omega) (by omega)) (by omega) ?_
    refine Ex_step (tk_M_undo rfl) ?_
    refine gMR (tk_M_undo rfl) hM hM.r9 ?_
    refine Ex_cS0 (av := [vR (aM + (6 + (b - 1))), vR (aM + 3)]) (tk_M_undo rfl) mk_M_copies ⟨rfl, by decide, rfl, rfl, rfl, Nat.le_of_ble_eq_true rfl, Nat.le_of_ble_eq_true rfl⟩ (fun _ h => f_copies (by omega) (by decide) (by omega) (hM.pk (by omega)) (hM.pn (by omega)) hM.k3 hM.n3 h) ?_
    refine Ex_step (tk_M_undo rfl) ?_
    refine gMI (tk_M_undo rfl) hM ?_
    refine Ex_step (tk_M_undo rfl) ⟨rfl, ?_⟩
    rw [up1_at]
    exact h1 (by omega)
  · try simp (disch := omega) only [cmpI, w32_b2i, b2i_0, b2i_1, w32_id, Classical.not_not, not_true_eq_false, not_false_eq_true] at h9
    refine Ex_step (tk_M_undo rfl) ?_
    refine Ex_step (tk_M_undo rfl) ⟨rfl, ?_⟩
    exact h0 (by omega)
set_option maxRecDepth 100000 in
theorem f_fault (hM : MW m) (h : Q 0 (some (vI (I 5))) (MS m (up1 I 0 0) A L)) : Ex d M_fault 0 [some (vR aM)] [] (MS m I A L) Q := by
  refine Ex_step (tk_M_fault rfl) ?_
  refine Ex_step (tk_M_fault rfl) ?_
  refine pMI (tk_M_fault rfl) hM ?_
  refine Ex_step (tk_M_fault rfl) ?_
  refine gMI (tk_M_fault rfl) hM ?_
  refine Ex_step (tk_M_fault rfl) ⟨rfl, ?_⟩
  exact h
set_option maxRecDepth 100000 in
theorem f_status (hM : MW m) (hi : okI i) (h : Q 0 (some (vI (if 0 ≤ i ∧ i ≤ 1 then A 1 i.toNat else -1))) (MS m (up1 I 0 0) A L)) : Ex (d + 1) M_status 0 [some (vR aM), some (vI i)] [] (MS m I A L) Q := by
  obtain ⟨hi1, hi2⟩ := hi
  refine Ex_step (tk_M_status rfl) ?_
  refine Ex_step (tk_M_status rfl) ?_
  refine pMI (tk_M_status rfl) hM ?_
  refine Ex_step (tk_M_status rfl) ?_
  refine Ex_step (tk_M_status rfl) ?_
  refine Ex_step (tk_M_status rfl) ?_
  refine Ex_cS0 (av := [vI i, vI 0, vI 1]) (tk_M_status rfl) mk_M_in ⟨rfl, by decide, rfl, rfl, rfl, Nat.le_of_ble_eq_true rfl, Nat.le_of_ble_eq_true rfl⟩ (fun _ h => e_in h) ?_
  refine Ex_step (tk_M_status rfl) ⟨fun h11 => ?_, fun h11 => ?_⟩
  · try simp (disch := omega) only [cmpI, w32_b2i, b2i_0, b2i_1, w32_id, Classical.not_not, not_true_eq_false, not_false_eq_true] at h11
    rw [if_neg h11] at h
    refine Ex_step (tk_M_status rfl) ?_
    refine Ex_step (tk_M_status rfl) ⟨rfl, ?_⟩
    exact h
  · try simp (disch := omega) only [cmpI, w32_b2i, b2i_0, b2i_1, w32_id, Classical.not_not, not_true_eq_false, not_false_eq_true] at h11
    rw [if_pos h11] at h
    refine Ex_step (tk_M_status rfl) ?_
    refine gMR (tk_M_status rfl) hM hM.r1 ?_
    refine Ex_step (tk_M_status rfl) ?_
    refine lMI (j := 1) (n := i.toNat) (tk_M_status rfl) (by decide) hM.k1 hM.n1 (by rw [w32_id (by omega) (by omega)]; omega) (by omega) ?_
    refine Ex_step (tk_M_status rfl) ?_
    refine Ex_step (tk_M_status rfl) ⟨rfl, ?_⟩
    exact h
end MSimple
