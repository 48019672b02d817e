/-! ===== the reference: what stands in a row of designs ===== -/
def okI (x : Int) : Prop := -2147483648 ≤ x ∧ x ≤ 2147483647
/-- a design's room in the row: day, width, height, cells -/
abbrev bD (dd : Nat) : Nat := 2 + 103 * dd
/-- sizes and sorts of a design are of their kind -/
def DsW (T : Nat → Int) (dd : Nat) : Prop := (0 ≤ T (bD dd) ∧ T (bD dd) ≤ 9999) ∧ (1 ≤ T (bD dd + 1) ∧ T (bD dd + 1) ≤ 10) ∧ (1 ≤ T (bD dd + 2) ∧ T (bD dd + 2) ≤ 10) ∧ ∀ k, k < 100 → 0 ≤ T (bD dd + 3 + k) ∧ T (bD dd + 3 + k) ≤ 3
def NowW (T : Nat → Int) (nn : Nat) : Prop := nn ≤ 6 ∧ T 0 = (nn : Int) ∧ (T 1 = 0 ∨ T 1 = 1) ∧ ∀ dd, dd < nn → DsW T dd
abbrev inG (T : Nat → Int) (dd : Nat) (x y : Int) : Prop := (0 ≤ x ∧ x ≤ T (bD dd + 1) - 1) ∧ 0 ≤ y ∧ y ≤ T (bD dd + 2) - 1
def srt (T : Nat → Int) (dd : Nat) (x y : Int) : Int := if inG T dd x y then T (bD dd + 3 + (10 * y.toNat + x.toNat)) else 0
set_option maxRecDepth 100000 in
theorem srt_r {T : Nat → Int} {dd : Nat} (h : DsW T dd) (x y : Int) : 0 ≤ srt T dd x y ∧ srt T dd x y ≤ 3 := by
  unfold srt
  split
  · next q =>
    obtain ⟨⟨q1, q2⟩, q3, q4⟩ := q
    have := h.2.1
    have := h.2.2.1
    exact h.2.2.2 _ (by omega)
  · decide
section MGet
variable {d dd : Nat} {i x z : Int} {m : Mem} {I : Nat → Int} {A L : Nat → Nat → Int} {Q : Nat → Option AV → Mem → Prop}
set_option maxRecDepth 100000 in
theorem f_wideOf (hM : MW m) (hd : dd ≤ 5) (hi : i = (dd : Int)) (h : Q 0 (some (vI (A 3 (bD dd + 1)))) (MS m I A L)) : Ex d M_wideOf 0 [some (vR aM), some (vI i)] [] (MS m I A L) Q := by
  subst hi
  refine Ex_step (tk_M_wideOf rfl) ?_
  refine gMR (tk_M_wideOf rfl) hM hM.r9 ?_
  refine Ex_step (tk_M_wideOf rfl) ?_
  refine Ex_step (tk_M_wideOf rfl) ?_
  refine Ex_step (tk_M_wideOf rfl) ?_
  refine Ex_step (tk_M_wideOf rfl) ?_
  refine Ex_step (tk_M_wideOf rfl) ?_
  refine Ex_step (tk_M_wideOf rfl) ?_
  refine Ex_step (tk_M_wideOf rfl) ?_
  refine lMI (j := 3) (n := bD dd + 1) (tk_M_wideOf rfl) (by decide) hM.k3 hM.n3 (by unfold bD; rw [w32_id (by omega) (by omega)]; omega) (by unfold bD; omega) ?_
  refine Ex_step (tk_M_wideOf rfl) ⟨rfl, ?_⟩
  exact h
set_option maxRecDepth 100000 in
theorem f_highOf (hM : MW m) (hd : dd ≤ 5) (hi : i = (dd : Int)) (h : Q 0 (some (vI (A 3 (bD dd + 2)))) (MS m I A L)) : Ex d M_highOf 0 [some (vR aM), some (vI i)] [] (MS m I A L) Q := by
  subst hi
  refine Ex_step (tk_M_highOf rfl) ?_
  refine gMR (tk_M_highOf rfl) hM hM.r9 ?_
  refine Ex_step (tk_M_highOf rfl) ?_
  refine Ex_step (tk_M_highOf rfl) ?_
  refine Ex_step (tk_M_highOf rfl) ?_
  refine Ex_step (tk_M_highOf rfl) ?_
  refine Ex_step (tk_M_highOf rfl) ?_
  refine Ex_step (tk_M_highOf rfl) ?_
  refine Ex_step (tk_M_highOf rfl) ?_
  refine lMI (j := 3) (n := bD dd + 2) (tk_M_highOf rfl) (by decide) hM.k3 hM.n3 (by unfold bD; rw [w32_id (by omega) (by omega)]; omega) (by unfold bD; omega) ?_
  refine Ex_step (tk_M_highOf rfl) ⟨rfl, ?_⟩
  exact h
set_option maxRecDepth 100000 in
theorem f_dayOf (hM : MW m) (hd : dd ≤ 5) (hi : i = (dd : Int)) (h : Q 0 (some (vI (A 3 (bD dd)))) (MS m I A L)) : Ex d M_dayOf 0 [some (vR aM), some (vI i)] [] (MS m I A L) Q := by
  subst hi
  refine Ex_step (tk_M_dayOf rfl) ?_
  refine gMR (tk_M_dayOf rfl) hM hM.r9 ?_
  refine Ex_step (tk_M_dayOf rfl) ?_
  refine Ex_step (tk_M_dayOf rfl) ?_
  refine Ex_step (tk_M_dayOf rfl) ?_
  refine Ex_step (tk_M_dayOf rfl) ?_
  refine Ex_step (tk_M_dayOf rfl) ?_
  refine lMI (j := 3) (n := bD dd) (tk_M_dayOf rfl) (by decide) hM.k3 hM.n3 (by unfold bD; rw [w32_id (by omega) (by omega)]; omega) (by unfold bD; omega) ?_
  refine Ex_step (tk_M_dayOf rfl) ⟨rfl, ?_⟩
  exact h
set_option maxRecDepth 100000 in
theorem f_cellAt (h : Q 0 (some (vI (2 + 103 * i + 3 + 10 * z + x))) (MS m I A L)) : Ex d M_cellAt 0 [some (vR aM), some (vI i), some (vI x), some (vI z)] [] (MS m I A L) Q := by
  refine Ex_step (tk_M_cellAt rfl) ?_
  refine Ex_step (tk_M_cellAt rfl) ?_
  refine Ex_step (tk_M_cellAt rfl) ?_
  refine Ex_step (tk_M_cellAt rfl) ?_
  refine Ex_step (tk_M_cellAt rfl) ?_
  refine Ex_step (tk_M_cellAt rfl) ?_
  refine Ex_step (tk_M_cellAt rfl) ?_
  refine Ex_step (tk_M_cellAt rfl) ?_
  refine Ex_step (tk_M_cellAt rfl) ?_
  refine Ex_step (tk_M_cellAt rfl) ?_
  refine Ex_step (tk_M_cellAt rfl) ?_
  refine Ex_step (tk_M_cellAt rfl) ?_
  refine Ex_step (tk_M_cellAt rfl) ?_
  refine Ex_step (tk_M_cellAt rfl) ⟨rfl, ?_⟩
  exact h
set_option maxRecDepth 100000 in
theorem f_sortOf (hM : MW m) (hd : dd ≤ 5) (hi : i = (dd : Int)) (hW : DsW (A 3) dd) (hx : okI x) (hz : okI z) (h : Q 0 (some (vI (srt (A 3) dd x z))) (MS m I A L)) : Ex (d + 1) M_sortOf 0 [some (vR aM), some (vI i), some (vI x), some (vI z)] [] (MS m I A L) Q := by
  have hw := hW.2.1
  have hh := hW.2.2.1
  obtain ⟨hx1, hx2⟩ := hx
  obtain ⟨hz1, hz2⟩ := hz
  unfold srt at h
  refine Ex_step (tk_M_sortOf rfl) ?_
  refine Ex_step (tk_M_sortOf rfl) ?_
  refine Ex_step (tk_M_sortOf rfl) ?_
  refine Ex_step (tk_M_sortOf rfl) ?_
  refine Ex_cV0 (av := [vI i]) (tk_M_sortOf rfl) mk_M_wideOf ⟨rfl, rfl, by decide, rfl, Nat.le_of_ble_eq_true rfl, Nat.le_of_ble_eq_true rfl⟩ (hM.k) (fun _ h => f_wideOf hM hd hi h) ?_
  refine Ex_step (tk_M_sortOf rfl) ?_
  refine Ex_step (tk_M_sortOf rfl) ?_
  refine Ex_cS0 (av := [vI x, vI 0, vI (A 3 (bD dd + 1) - 1)]) (tk_M_sortOf rfl) mk_M_in ⟨rfl, by decide, rfl, rfl, rfl, Nat.le_of_ble_eq_true rfl, Nat.le_of_ble_eq_true rfl⟩ (fun _ h => e_in h) ?_
  refine Ex_step (tk_M_sortOf rfl) ⟨fun h12 => ?_, fun h12 => ?_⟩
  · try simp (disch := omega) only [cmpI, w32_b2i, b2i_0, b2i_1, w32_id, Classical.not_not, not_true_eq_false, not_false_eq_true] at h12
    rw [if_neg (show ¬ inG (A 3) dd x z from fun q => by first | exact h12 q.1 | exact h27 q.2)] at h
    refine Ex_step (tk_M_sortOf rfl) ?_
    refine Ex_step (tk_M_sortOf rfl) ⟨rfl, ?_⟩
    exact h
  · try simp (disch := omega) only [cmpI, w32_b2i, b2i_0, b2i_1, w32_id, Classical.not_not, not_true_eq_false, not_false_eq_true] at h12
    refine Ex_step (tk_M_sortOf rfl) ?_
    refine Ex_step (tk_M_sortOf rfl) ?_
    refine Ex_step (tk_M_sortOf rfl) ?_
    refine Ex_step (tk_M_sortOf rfl) ?_
    refine Ex_cV0 (av := [vI i]) (tk_M_sortOf rfl) mk_M_highOf ⟨rfl, rfl, by decide, rfl, Nat.le_of_ble_eq_true rfl, Nat.le_of_ble_eq_true rfl⟩ (hM.k) (fun _ h => f_highOf hM hd hi h) ?_
    refine Ex_step (tk_M_sortOf rfl) ?_
    refine Ex_step (tk_M_sortOf rfl) ?_
    refine Ex_cS0 (av := [vI z, vI 0, vI (A 3 (bD dd + 2) - 1)]) (tk_M_sortOf rfl) mk_M_in ⟨rfl, by decide, rfl, rfl, rfl, Nat.le_of_ble_eq_true rfl, Nat.le_of_ble_eq_true rfl⟩ (fun _ h => e_in h) ?_
    refine Ex_step (tk_M_sortOf rfl) ⟨fun h27 => ?_, fun h27 => ?_⟩
    · try simp (disch := omega) only [cmpI, w32_b2i, b2i_0, b2i_1, w32_id, Classical.not_not, not_true_eq_false, not_false_eq_true] at h27
      rw [if_neg (show ¬ inG (A 3) dd x z from fun q => by first | exact h12 q.1 | exact h27 q.2)] at h
      refine Ex_step (tk_M_sortOf rfl) ?_
      refine Ex_step (tk_M_sortOf rfl) ⟨rfl, ?_⟩
      exact h
    · try simp (disch := omega) only [cmpI, w32_b2i, b2i_0, b2i_1, w32_id, Classical.not_not, not_true_eq_false, not_false_eq_true] at h27
      refine Ex_step (tk_M_sortOf rfl) ?_
      refine gMR (tk_M_sortOf rfl) hM hM.r9 ?_
      refine Ex_step (tk_M_sortOf rfl) ?_
      refine Ex_step (tk_M_sortOf rfl) ?_
      refine Ex_step (tk_M_sortOf rfl) ?_
      refine Ex_step (tk_M_sortOf rfl) ?_
      refine Ex_cV0 (av := [vI i, vI x, vI z]) (tk_M_sortOf rfl) mk_M_cellAt ⟨rfl, rfl, by decide, rfl, Nat.le_of_ble_eq_true rfl, Nat.le_of_ble_eq_true rfl⟩ (hM.k) (fun _ h => f_cellAt h) ?_
      rw [if_pos (show inG (A 3) dd x z from ⟨h12, h27⟩)] at h
      refine lMI (j := 3) (n := bD dd + 3 + (10 * z.toNat + x.toNat)) (tk_M_sortOf rfl) (by decide) hM.k3 hM.n3 (by unfold bD at *; rw [w32_id (by omega) (by omega)]; omega) (by unfold bD at *; omega) ?_
      refine Ex_step (tk_M_sortOf rfl) ?_
      refine Ex_step (tk_M_sortOf rfl) ⟨rfl, ?_⟩
      exact h
set_option maxRecDepth 100000 in
theorem f_isDark (hM : MW m) (hd : dd ≤ 5) (hi : i = (dd : Int)) (hW : DsW (A 3) dd) (hx : okI x) (hz : okI z) (h : Q 0 (some (vI (b2i (srt (A 3) dd x z = 1 ∨ srt (A 3) dd x z = 3)))) (MS m I A L)) : Ex (d + 2) M_isDark 0 [some (vR aM), some (vI i), some (vI x), some (vI z), none] [] (MS m I A L) Q := by
  have hs := srt_r hW x z
  refine Ex_step (tk_M_isDark rfl) ?_
  refine Ex_step (tk_M_isDark rfl) ?_
  refine Ex_step (tk_M_isDark rfl) ?_
  refine Ex_step (tk_M_isDark rfl) ?_
  refine Ex_cV0 (av := [vI i, vI x, vI z]) (tk_M_isDark rfl) mk_M_sortOf ⟨rfl, rfl, by decide, rfl, Nat.le_of_ble_eq_true rfl, Nat.le_of_ble_eq_true rfl⟩ (hM.k) (fun _ h => f_sortOf hM hd hi hW hx hz h) ?_
  refine Ex_step (tk_M_isDark rfl) ?_
  refine Ex_step (tk_M_isDark rfl) ?_
  refine Ex_step (tk_M_isDark rfl) ?_
  refine Ex_step (tk_M_isDark rfl) ⟨fun h12 => ?_, fun h12 => ?_⟩
  · try simp (disch := omega) only [cmpI, w32_b2i, b2i_0, b2i_1, w32_id, Classical.not_not, not_true_eq_false, not_false_eq_true] at h12
    refine Ex_step (tk_M_isDark rfl) ?_
    refine Ex_step (tk_M_isDark rfl) ?_
    refine Ex_step (tk_M_isDark rfl) ⟨rfl, by first | exact Or.inl rfl | exact Or.inr rfl | exact b2i_01 _ | assumption, ?_⟩
    first | (rw [b2i_f (by omega)] at h; exact h) | (rw [b2i_t (by omega)] at h; exact h)
  · try simp (disch := omega) only [cmpI, w32_b2i, b2i_0, b2i_1, w32_id, Classical.not_not, not_true_eq_false, not_false_eq_true] at h12
    refine Ex_step (tk_M_isDark rfl) ?_
    refine Ex_step (tk_M_isDark rfl) ?_
    refine Ex_step (tk_M_isDark rfl) ⟨fun h18 => ?_, fun h18 => ?_⟩
    · try simp (disch := omega) only [cmpI, w32_b2i, b2i_0, b2i_1, w32_id, Classical.not_not, not_true_eq_false, not_false_eq_true] at h18
      refine Ex_step (tk_M_isDark rfl) ?_
      refine Ex_step (tk_M_isDark rfl) ⟨rfl, by first | exact Or.inl rfl | exact Or.inr rfl | exact b2i_01 _ | assumption, ?_⟩
      first | (rw [b2i_f (by omega)] at h; exact h) | (rw [b2i_t (by omega)] at h; exact h)
    · try simp (disch := omega) only [cmpI, w32_b2i, b2i_0, b2i_1, w32_id, Classical.not_not, not_true_eq_false, not_false_eq_true] at h18
      refine Ex_step (tk_M_isDark rfl) ?_
      refine Ex_step (tk_M_isDark rfl) ?_
      refine Ex_step (tk_M_isDark rfl) ⟨rfl, by first | exact Or.inl rfl | exact Or.inr rfl | exact b2i_01 _ | assumption, ?_⟩
      first | (rw [b2i_f (by omega)] at h; exact h) | (rw [b2i_t (by omega)] at h; exact h)
set_option maxRecDepth 100000 in
theorem f_isDesign {nn : Nat} (hM : MW m) (hN : NowW (A 3) nn) (hi : okI i) (h : Q 0 (some (vI (b2i (0 ≤ i ∧ i < (nn : Int))))) (MS m I A L)) : Ex (d + 1) M_isDesign 0 [some (vR aM), some (vI i)] [] (MS m I A L) Q := by
  obtain ⟨hi1, hi2⟩ := hi
  have hn6 := hN.1
  have h00 := hN.2.1
  have e : b2i (w32 0 ≤ w32 i ∧ w32 i ≤ w32 (A 3 0 - 1)) = b2i (0 ≤ i ∧ i < (nn : Int)) := by
    refine b2i_congr ?_
    rw [h00, w32_id (by omega) (by omega), w32_id (x := i) (by omega) (by omega), w32_id (by omega) (by omega)]
    omega
  refine Ex_step (tk_M_isDesign rfl) ?_
  refine Ex_step (tk_M_isDesign rfl) ?_
  refine Ex_step (tk_M_isDesign rfl) ?_
  refine gMR (tk_M_isDesign rfl) hM hM.r9 ?_
  refine Ex_step (tk_M_isDesign rfl) ?_
  refine lMI (j := 3) (n := 0) (tk_M_isDesign rfl) (by decide) hM.k3 hM.n3 (rfl) (by decide) ?_
  refine Ex_step (tk_M_isDesign rfl) ?_
  refine Ex_step (tk_M_isDesign rfl) ?_
  refine Ex_cS0 (av := [vI i, vI 0, vI (A 3 0 - 1)]) (tk_M_isDesign rfl) mk_M_in ⟨rfl, by decide, rfl, rfl, rfl, Nat.le_of_ble_eq_true rfl, Nat.le_of_ble_eq_true rfl⟩ (fun _ h => e_in h) ?_
  rw [e]
  refine Ex_step (tk_M_isDesign rfl) ⟨rfl, by first | exact Or.inl rfl | exact Or.inr rfl | exact b2i_01 _ | assumption, ?_⟩
  exact h
end MGet
