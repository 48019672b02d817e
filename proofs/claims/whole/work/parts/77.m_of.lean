/-! ===== the reference: of ===== -/
def KpA (A A' : Nat → Nat → Int) : Prop := ∀ j, j < 14 → A' j = A j
set_option maxRecDepth 100000 in
theorem KpA.rf (A : Nat → Nat → Int) : KpA A A := fun _ _ => rfl
set_option maxRecDepth 100000 in
theorem KpA.up (A : Nat → Nat → Int) {j : Nat} (hj : 14 ≤ j) (r : Nat → Int) : KpA A (up1 A j r) := fun k hk => up1_ne _ _ (by omega)
set_option maxRecDepth 100000 in
theorem KpA.f2 (A : Nat → Nat → Int) {j l : Nat} (hj : 14 ≤ j) (hl : 14 ≤ l) (r s : Nat → Int) : KpA A (F2 j l A r s) := fun k hk => F2_o (by omega) (by omega) _ _ _
noncomputable def ofS (T : Nat → Int) (nn dd : Nat) (be : Nat → Int) (w : Nat) : Int := match w with
  | 0 => T (bD dd)
  | 1 => T (bD dd + 1)
  | 2 => T (bD dd + 2)
  | 7 => edS T dd
  | 8 => (setS T dd True be).1
  | 9 => (setS T dd False be).1
  | 10 => lkS T dd 7
  | 11 => 1000 * (cntS T dd 0 + cntS T dd 1) / (T (bD dd + 1) * T (bD dd + 2))
  | 12 => b2i ((prS T dd nn).1 < (prS T dd nn).2.1)
  | w => cntS T dd ((w : Int) - 3)
section MOf
variable {d nn : Nat} {i w : Int} {m : Mem} {I : Nat → Int} {A L : Nat → Nat → Int} {Q : Nat → Option AV → Mem → Prop}
set_option maxRecDepth 100000 in
theorem f_of54 {dd wn : Nat} (hM : MW m) (hN : NowW (A 3) nn) (hd : dd < nn) (hi : i = (dd : Int)) (hwn : wn ≤ 12) (hok : ∀ (I' : Nat → Int) (A' L' : Nat → Nat → Int), KpJ I I' → KpA A A' → Q 0 (some (vI (ofS (A 3) nn dd (A 21) wn))) (MS m I' A' L')) : Ex (d + 6) M_of 54 [some (vR aM), some (vI i), some (vI (wn : Int))] [vI (wn : Int)] (MS m I A L) Q := by
  have hn6 := hN.1
  have hW := hN.2.2.2 dd hd
  have hw := hW.2.1
  have hd5 : dd ≤ 5 := by omega
  have hP := prS_B hN hd nn (Nat.le_refl _)
  rcases (show wn = 0 ∨ wn = 1 ∨ wn = 2 ∨ wn = 3 ∨ wn = 4 ∨ wn = 5 ∨ wn = 6 ∨ wn = 7 ∨ wn = 8 ∨ wn = 9 ∨ wn = 10 ∨ wn = 11 ∨ wn = 12 by omega) with rfl | rfl | rfl | rfl | rfl | rfl | rfl | rfl | rfl | rfl | rfl | rfl | rfl
  · have hx : Q 0 (some (vI (A 3 (bD dd)))) (MS m I A L) := hok I A L (KpJ.rf I) (KpA.rf A)
    refine Ex_step (tk_M_of rfl) ?_
    show Ex (d + 6) M_of 120 _ [] _ Q
    subst hi
    refine Ex_step (tk_M_of rfl) ?_
    refine gMR (tk_M_of rfl) hM hM.r9 ?_
    refine Ex_step (tk_M_of rfl) ?_
    refine Ex_step (tk_M_of rfl) ?_
    refine Ex_step (tk_M_of rfl) ?_
    refine Ex_step (tk_M_of rfl) ?_
    refine Ex_step (tk_M_of rfl) ?_
    refine Ex_step (tk_M_of rfl) ?_
    refine Ex_step (tk_M_of rfl) ?_
    refine lMI (j := 3) (n := bD dd) (tk_M_of rfl) (by decide) hM.k3 hM.n3 (by unfold bD; rw [w32_id (by omega) (by omega)]; omega) (by unfold bD; omega) ?_
    refine Ex_step (tk_M_of rfl) ⟨rfl, ?_⟩
    exact hx
  · have hx : Q 0 (some (vI (A 3 (bD dd + 1)))) (MS m I A L) := hok I A L (KpJ.rf I) (KpA.rf A)
    refine Ex_step (tk_M_of rfl) ?_
    show Ex (d + 6) M_of 120 _ [] _ Q
    subst hi
    refine Ex_step (tk_M_of rfl) ?_
    refine gMR (tk_M_of rfl) hM hM.r9 ?_
    refine Ex_step (tk_M_of rfl) ?_
    refine Ex_step (tk_M_of rfl) ?_
    refine Ex_step (tk_M_of rfl) ?_
    refine Ex_step (tk_M_of rfl) ?_
    refine Ex_step (tk_M_of rfl) ?_
    refine Ex_step (tk_M_of rfl) ?_
    refine Ex_step (tk_M_of rfl) ?_
    refine lMI (j := 3) (n := bD dd + 1) (tk_M_of rfl) (by decide) hM.k3 hM.n3 (by unfold bD; rw [w32_id (by omega) (by omega)]; omega) (by unfold bD; omega) ?_
    refine Ex_step (tk_M_of rfl) ⟨rfl, ?_⟩
    exact hx
  · have hx : Q 0 (some (vI (A 3 (bD dd + 2)))) (MS m I A L) := hok I A L (KpJ.rf I) (KpA.rf A)
    refine Ex_step (tk_M_of rfl) ?_
    show Ex (d + 6) M_of 120 _ [] _ Q
    subst hi
    refine Ex_step (tk_M_of rfl) ?_
    refine gMR (tk_M_of rfl) hM hM.r9 ?_
    refine Ex_step (tk_M_of rfl) ?_
    refine Ex_step (tk_M_of rfl) ?_
    refine Ex_step (tk_M_of rfl) ?_
    refine Ex_step (tk_M_of rfl) ?_
    refine Ex_step (tk_M_of rfl) ?_
    refine Ex_step (tk_M_of rfl) ?_
    refine Ex_step (tk_M_of rfl) ?_
    refine lMI (j := 3) (n := bD dd + 2) (tk_M_of rfl) (by decide) hM.k3 hM.n3 (by unfold bD; rw [w32_id (by omega) (by omega)]; omega) (by unfold bD; omega) ?_
    refine Ex_step (tk_M_of rfl) ⟨rfl, ?_⟩
    exact hx
  · have hx : Q 0 (some (vI (cntS (A 3) dd (((3 : Nat) : Int) - 3)))) (MS m I A L) := hok I A L (KpJ.rf I) (KpA.rf A)
    refine Ex_step (tk_M_of rfl) ?_
    show Ex (d + 6) M_of 188 _ [] _ Q
    refine Ex_step (tk_M_of rfl) ?_
    refine Ex_step (tk_M_of rfl) ?_
    refine Ex_step (tk_M_of rfl) ?_
    refine Ex_step (tk_M_of rfl) ?_
    refine Ex_step (tk_M_of rfl) ?_
    refine Ex_cV0 (av := [vI i, vI (((3 : Nat) : Int) - 3)]) (tk_M_of rfl) mk_M_countOf ⟨rfl, rfl, by decide, rfl, Nat.le_of_ble_eq_true rfl, Nat.le_of_ble_eq_true rfl⟩ (hM.k) (fun _ h => f_countOf hM hd5 hi hW (by decide) h) ?_
    refine Ex_step (tk_M_of rfl) ⟨rfl, ?_⟩
    exact hx
  · have hx : Q 0 (some (vI (cntS (A 3) dd (((4 : Nat) : Int) - 3)))) (MS m I A L) := hok I A L (KpJ.rf I) (KpA.rf A)
    refine Ex_step (tk_M_of rfl) ?_
    show Ex (d + 6) M_of 188 _ [] _ Q
    refine Ex_step (tk_M_of rfl) ?_
    refine Ex_step (tk_M_of rfl) ?_
    refine Ex_step (tk_M_of rfl) ?_
    refine Ex_step (tk_M_of rfl) ?_
    refine Ex_step (tk_M_of rfl) ?_
    refine Ex_cV0 (av := [vI i, vI (((4 : Nat) : Int) - 3)]) (tk_M_of rfl) mk_M_countOf ⟨rfl, rfl, by decide, rfl, Nat.le_of_ble_eq_true rfl, Nat.le_of_ble_eq_true rfl⟩ (hM.k) (fun _ h => f_countOf hM hd5 hi hW (by decide) h) ?_
    refine Ex_step (tk_M_of rfl) ⟨rfl, ?_⟩
    exact hx
  · have hx : Q 0 (some (vI (cntS (A 3) dd (((5 : Nat) : Int) - 3)))) (MS m I A L) := hok I A L (KpJ.rf I) (KpA.rf A)
    refine Ex_step (tk_M_of rfl) ?_
    show Ex (d + 6) M_of 188 _ [] _ Q
    refine Ex_step (tk_M_of rfl) ?_
    refine Ex_step (tk_M_of rfl) ?_
    refine Ex_step (tk_M_of rfl) ?_
    refine Ex_step (tk_M_of rfl) ?_
    refine Ex_step (tk_M_of rfl) ?_
    refine Ex_cV0 (av := [vI i, vI (((5 : Nat) : Int) - 3)]) (tk_M_of rfl) mk_M_countOf ⟨rfl, rfl, by decide, rfl, Nat.le_of_ble_eq_true rfl, Nat.le_of_ble_eq_true rfl⟩ (hM.k) (fun _ h => f_countOf hM hd5 hi hW (by decide) h) ?_
    refine Ex_step (tk_M_of rfl) ⟨rfl, ?_⟩
    exact hx
  · have hx : Q 0 (some (vI (cntS (A 3) dd (((6 : Nat) : Int) - 3)))) (MS m I A L) := hok I A L (KpJ.rf I) (KpA.rf A)
    refine Ex_step (tk_M_of rfl) ?_
    show Ex (d + 6) M_of 188 _ [] _ Q
    refine Ex_step (tk_M_of rfl) ?_
    refine Ex_step (tk_M_of rfl) ?_
    refine Ex_step (tk_M_of rfl) ?_
    refine Ex_step (tk_M_of rfl) ?_
    refine Ex_step (tk_M_of rfl) ?_
    refine Ex_cV0 (av := [vI i, vI (((6 : Nat) : Int) - 3)]) (tk_M_of rfl) mk_M_countOf ⟨rfl, rfl, by decide, rfl, Nat.le_of_ble_eq_true rfl, Nat.le_of_ble_eq_true rfl⟩ (hM.k) (fun _ h => f_countOf hM hd5 hi hW (by decide) h) ?_
    refine Ex_step (tk_M_of rfl) ⟨rfl, ?_⟩
    exact hx
  · have hx : Q 0 (some (vI (edS (A 3) dd))) (MS m I A L) := hok I A L (KpJ.rf I) (KpA.rf A)
    refine Ex_step (tk_M_of rfl) ?_
    show Ex (d + 6) M_of 134 _ [] _ Q
    refine Ex_step (tk_M_of rfl) ?_
    refine Ex_step (tk_M_of rfl) ?_
    refine Ex_cV0 (av := [vI i]) (tk_M_of rfl) mk_M_edgeOf ⟨rfl, rfl, by decide, rfl, Nat.le_of_ble_eq_true rfl, Nat.le_of_ble_eq_true rfl⟩ (hM.k) (fun _ h => f_edgeOf hM hd5 hi hW h) ?_
    refine Ex_step (tk_M_of rfl) ⟨rfl, ?_⟩
    exact hx
  · have hx : ∀ q, Q 0 (some (vI (setS (A 3) dd True (A 21)).1)) (MS m I (F2 21 22 A (setS (A 3) dd True (A 21)).2 q) L) := fun q => hok I _ L (KpJ.rf I) (KpA.f2 A (by decide) (by decide) _ _)
    refine Ex_step (tk_M_of rfl) ?_
    show Ex (d + 6) M_of 140 _ [] _ Q
    refine Ex_step (tk_M_of rfl) ?_
    refine Ex_step (tk_M_of rfl) ?_
    refine Ex_step (tk_M_of rfl) ?_
    refine Ex_cVK (av := [vI i, vI 1]) (tk_M_of rfl) mk_M_setsOf ⟨rfl, rfl, by decide, rfl, Nat.le_of_ble_eq_true rfl, Nat.le_of_ble_eq_true rfl⟩ (hM.k) (f_setsOf (dk := True) hM hN hd hi (fun q => ⟨rfl, ?_⟩))
    refine Ex_step (tk_M_of rfl) ⟨rfl, ?_⟩
    exact hx q
  · have hx : ∀ q, Q 0 (some (vI (setS (A 3) dd False (A 21)).1)) (MS m I (F2 21 22 A (setS (A 3) dd False (A 21)).2 q) L) := fun q => hok I _ L (KpJ.rf I) (KpA.f2 A (by decide) (by decide) _ _)
    refine Ex_step (tk_M_of rfl) ?_
    show Ex (d + 6) M_of 147 _ [] _ Q
    refine Ex_step (tk_M_of rfl) ?_
    refine Ex_step (tk_M_of rfl) ?_
    refine Ex_step (tk_M_of rfl) ?_
    refine Ex_cVK (av := [vI i, vI 0]) (tk_M_of rfl) mk_M_setsOf ⟨rfl, rfl, by decide, rfl, Nat.le_of_ble_eq_true rfl, Nat.le_of_ble_eq_true rfl⟩ (hM.k) (f_setsOf (dk := False) hM hN hd hi (fun q => ⟨rfl, ?_⟩))
    refine Ex_step (tk_M_of rfl) ⟨rfl, ?_⟩
    exact hx q
  · refine Ex_step (tk_M_of rfl) ?_
    show Ex (d + 6) M_of 154 _ [] _ Q
    refine Ex_step (tk_M_of rfl) ?_
    refine Ex_step (tk_M_of rfl) ?_
    refine Ex_cVK (av := [vI i]) (tk_M_of rfl) mk_M_looksOf ⟨rfl, rfl, by decide, rfl, Nat.le_of_ble_eq_true rfl, Nat.le_of_ble_eq_true rfl⟩ (hM.k) (f_looksOf hM hd5 hi hW (fun I' r k1 => ⟨rfl, ?_⟩))
    refine Ex_step (tk_M_of rfl) ⟨rfl, ?_⟩
    exact hok I' _ L k1.j (KpA.up A (by decide) _)
  · have hx : Q 0 (some (vI (1000 * (cntS (A 3) dd 0 + cntS (A 3) dd 1) / (A 3 (bD dd + 1) * A 3 (bD dd + 2))))) (MS m I A L) := hok I A L (KpJ.rf I) (KpA.rf A)
    refine Ex_step (tk_M_of rfl) ?_
    show Ex (d + 6) M_of 160 _ [] _ Q
    refine Ex_step (tk_M_of rfl) ?_
    refine Ex_step (tk_M_of rfl) ?_
    refine Ex_cV0 (av := [vI i]) (tk_M_of rfl) mk_M_freedomOf ⟨rfl, rfl, by decide, rfl, Nat.le_of_ble_eq_true rfl, Nat.le_of_ble_eq_true rfl⟩ (hM.k) (fun _ h => f_freedomOf hM hd5 hi hW h) ?_
    refine Ex_step (tk_M_of rfl) ⟨rfl, ?_⟩
    exact hx
  · obtain ⟨⟨v1, v2⟩, ⟨v3, v4⟩, ⟨v5, v6⟩, v7⟩ := hP
    have hx : ∀ (I' : Nat → Int) (A' L' : Nat → Nat → Int), KpJ I I' → KpA A A' → Q 0 (some (vI (b2i ((prS (A 3) dd nn).1 < (prS (A 3) dd nn).2.1)))) (MS m I' A' L') := hok
    refine Ex_step (tk_M_of rfl) ?_
    show Ex (d + 6) M_of 166 _ [] _ Q
    refine Ex_step (tk_M_of rfl) ?_
    refine Ex_step (tk_M_of rfl) ?_
    refine Ex_cVK (av := [vI i]) (tk_M_of rfl) mk_M_priors ⟨rfl, rfl, by decide, rfl, Nat.le_of_ble_eq_true rfl, Nat.le_of_ble_eq_true rfl⟩ (hM.k) (f_priors hM hN hd hi (fun I' r L' k1 k2 k3 => ⟨rfl, ?_⟩))
    obtain ⟨z1, z2, z3⟩ := k2
    have hx := hx I' (up1 A 14 r) L' k1 (KpA.up A (by decide) r)
    refine Ex_step (tk_M_of rfl) ?_
    refine gMI (tk_M_of rfl) hM ?_
    rw [z1]
    refine Ex_step (tk_M_of rfl) ?_
    refine gMI (tk_M_of rfl) hM ?_
    rw [z2]
    refine Ex_step (tk_M_of rfl) ⟨fun h179 => ?_, fun h179 => ?_⟩
    · try simp (disch := omega) only [cmpI, w32_b2i, b2i_0, b2i_1, w32_id, Classical.not_not, not_true_eq_false, not_false_eq_true] at h179
      rw [b2i_f (by omega)] at hx
      refine Ex_step (tk_M_of rfl) ?_
      refine Ex_step (tk_M_of rfl) ⟨rfl, ?_⟩
      exact hx
    · try simp (disch := omega) only [cmpI, w32_b2i, b2i_0, b2i_1, w32_id, Classical.not_not, not_true_eq_false, not_false_eq_true] at h179
      rw [b2i_t (by omega)] at hx
      refine Ex_step (tk_M_of rfl) ?_
      refine Ex_step (tk_M_of rfl) ?_
      refine Ex_step (tk_M_of rfl) ⟨rfl, ?_⟩
      exact hx
set_option maxRecDepth 100000 in
theorem f_of (hM : MW m) (hN : NowW (A 3) nn) (hi : okI i) (hwo : okI w) (hb1 : ¬ (0 ≤ i ∧ i < (nn : Int)) → Q 0 (some (vI 0)) (MS m (up1 (up1 I 0 0) 0 1) (refA 0 A) L)) (hb2 : 0 ≤ i ∧ i < (nn : Int) → ¬ (0 ≤ w ∧ w ≤ 12) → Q 0 (some (vI 0)) (MS m (up1 (up1 I 0 0) 0 2) (refA 1 A) L)) (hok : 0 ≤ i ∧ i < (nn : Int) → 0 ≤ w ∧ w ≤ 12 → ∀ (I' : Nat → Int) (A' L' : Nat → Nat → Int), KpJ (up1 I 0 0) I' → KpA A A' → Q 0 (some (vI (ofS (A 3) nn i.toNat (A 21) w.toNat))) (MS m I' A' L')) : Ex (d + 6) M_of 0 [some (vR aM), some (vI i), some (vI w)] [] (MS m I A L) Q := by
  obtain ⟨hw1, hw2⟩ := hwo
  have hA : ¬ (0 ≤ i ∧ i < (nn : Int)) → Ex (d + 6) M_of 19 [some (vR aM), some (vI i), some (vI w)] [vI 1, vR aM] (MS m (up1 I 0 0) A L) Q := by
    intro hq
    refine Ex_step (tk_M_of rfl) ?_
    refine Ex_step (tk_M_of rfl) ?_
    refine Ex_cV0 (av := [vI 1, vI 1, vI 0]) (tk_M_of rfl) mk_M_bad ⟨rfl, rfl, by decide, rfl, Nat.le_of_ble_eq_true rfl, Nat.le_of_ble_eq_true rfl⟩ (hM.k) (fun _ h => f_bad1 (r := 0) hM (by decide) (by decide) (up1_at _ _ _) h) ?_
    refine Ex_step (tk_M_of rfl) ⟨fun h24 => ?_, fun h24 => ?_⟩
    · replace h24 : _ := h24
      refine Ex_step (tk_M_of rfl) ?_
      refine Ex_step (tk_M_of rfl) ⟨rfl, ?_⟩
      exact hb1 hq
    · replace h24 : _ := h24
      exact absurd (show w32 1 = w32 0 from Classical.not_not.mp h24) (by decide)
  have hB : 0 ≤ i ∧ i < (nn : Int) → Ex (d + 6) M_of 19 [some (vR aM), some (vI i), some (vI w)] [vI 0, vR aM] (MS m (up1 I 0 0) A L) Q := by
    intro hq
    have hC : ¬ (0 ≤ w ∧ w ≤ 12) → Ex (d + 6) M_of 43 [some (vR aM), some (vI i), some (vI w)] [vI 1, vR aM] (MS m (up1 I 0 0) A L) Q := by
      intro hq2
      refine Ex_step (tk_M_of rfl) ?_
      refine Ex_step (tk_M_of rfl) ?_
      refine Ex_cV0 (av := [vI 1, vI 2, vI 1]) (tk_M_of rfl) mk_M_bad ⟨rfl, rfl, by decide, rfl, Nat.le_of_ble_eq_true rfl, Nat.le_of_ble_eq_true rfl⟩ (hM.k) (fun _ h => f_bad1 (r := 1) hM (by decide) (by decide) (up1_at _ _ _) h) ?_
      refine Ex_step (tk_M_of rfl) ⟨fun h48 => ?_, fun h48 => ?_⟩
      · replace h48 : _ := h48
        exact absurd (show w32 1 = w32 0 from h48) (by decide)
      · replace h48 : _ := h48
        refine Ex_step (tk_M_of rfl) ?_
        refine Ex_step (tk_M_of rfl) ⟨rfl, ?_⟩
        exact hb2 hq hq2
    have hD : 0 ≤ w ∧ w ≤ 12 → Ex (d + 6) M_of 43 [some (vR aM), some (vI i), some (vI w)] [vI 0, vR aM] (MS m (up1 I 0 0) A L) Q := by
      intro hq2
      have h54 := f_of54 (d := d) (L := L) (dd := i.toNat) (wn := w.toNat) (i := i) hM hN (by omega) (by omega) (by omega) (hok hq hq2)
      rw [show ((w.toNat : Nat) : Int) = w by omega] at h54
      refine Ex_step (tk_M_of rfl) ?_
      refine Ex_step (tk_M_of rfl) ?_
      refine Ex_cV0 (av := [vI 0, vI 2, vI 1]) (tk_M_of rfl) mk_M_bad ⟨rfl, rfl, by decide, rfl, Nat.le_of_ble_eq_true rfl, Nat.le_of_ble_eq_true rfl⟩ (hM.k) (fun _ h => f_bad0 (r := 1) hM (by decide) (by decide) (up1_at _ _ _) h) ?_
      refine Ex_step (tk_M_of rfl) ⟨fun h48 => ?_, fun h48 => ?_⟩
      · replace h48 : _ := h48
        refine Ex_step (tk_M_of rfl) ?_
        exact h54
      · replace h48 : _ := h48
        exact absurd rfl h48
    have h27 : Ex (d + 6) M_of 27 [some (vR aM), some (vI i), some (vI w)] [] (MS m (up1 I 0 0) A L) Q := by
      refine Ex_step (tk_M_of rfl) ?_
      refine Ex_step (tk_M_of rfl) ?_
      refine Ex_step (tk_M_of rfl) ?_
      refine Ex_step (tk_M_of rfl) ?_
      refine Ex_cS0 (av := [vI w, vI 0, vI 12]) (tk_M_of rfl) mk_M_in ⟨rfl, by decide, rfl, rfl, rfl, Nat.le_of_ble_eq_true rfl, Nat.le_of_ble_eq_true rfl⟩ (fun _ h => e_in h) ?_
      refine Ex_step (tk_M_of rfl) ⟨fun h35 => ?_, fun h35 => ?_⟩
      · try simp (disch := omega) only [cmpI, w32_b2i, b2i_0, b2i_1, w32_id, Classical.not_not, not_true_eq_false, not_false_eq_true] at h35
        refine Ex_step (tk_M_of rfl) ?_
        first | exact hC h35 | exact hD h35
      · try simp (disch := omega) only [cmpI, w32_b2i, b2i_0, b2i_1, w32_id, Classical.not_not, not_true_eq_false, not_false_eq_true] at h35
        refine Ex_step (tk_M_of rfl) ?_
        refine Ex_step (tk_M_of rfl) ?_
        first | exact hC h35 | exact hD h35
    refine Ex_step (tk_M_of rfl) ?_
    refine Ex_step (tk_M_of rfl) ?_
    refine Ex_cV0 (av := [vI 0, vI 1, vI 0]) (tk_M_of rfl) mk_M_bad ⟨rfl, rfl, by decide, rfl, Nat.le_of_ble_eq_true rfl, Nat.le_of_ble_eq_true rfl⟩ (hM.k) (fun _ h => f_bad0 (r := 0) hM (by decide) (by decide) (up1_at _ _ _) h) ?_
    refine Ex_step (tk_M_of rfl) ⟨fun h24 => ?_, fun h24 => ?_⟩
    · replace h24 : _ := h24
      exact absurd rfl h24
    · replace h24 : _ := h24
      exact h27
  refine Ex_step (tk_M_of rfl) ?_
  refine Ex_step (tk_M_of rfl) ?_
  refine pMI (tk_M_of rfl) hM ?_
  refine Ex_step (tk_M_of rfl) ?_
  refine Ex_step (tk_M_of rfl) ?_
  refine Ex_step (tk_M_of rfl) ?_
  refine Ex_cV0 (av := [vI i]) (tk_M_of rfl) mk_M_isDesign ⟨rfl, rfl, by decide, rfl, Nat.le_of_ble_eq_true rfl, Nat.le_of_ble_eq_true rfl⟩ (hM.k) (fun _ h => f_isDesign hM hN hi h) ?_
  refine Ex_step (tk_M_of rfl) ⟨fun h11 => ?_, fun h11 => ?_⟩
  · try simp (disch := omega) only [cmpI, w32_b2i, b2i_0, b2i_1, w32_id, Classical.not_not, not_true_eq_false, not_false_eq_true] at h11
    refine Ex_step (tk_M_of rfl) ?_
    first | exact hA h11 | exact hB h11
  · try simp (disch := omega) only [cmpI, w32_b2i, b2i_0, b2i_1, w32_id, Classical.not_not, not_true_eq_false, not_false_eq_true] at h11
    refine Ex_step (tk_M_of rfl) ?_
    refine Ex_step (tk_M_of rfl) ?_
    first | exact hA h11 | exact hB h11
end MOf
