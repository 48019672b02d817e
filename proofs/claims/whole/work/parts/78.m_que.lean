/-! ===== the reference: over, best, prior, infringes ===== -/
section MQue
variable {d nn : Nat} {i j w : Int} {m : Mem} {I : Nat → Int} {A L : Nat → Nat → Int} {Q : Nat → Option AV → Mem → Prop}
set_option maxRecDepth 100000 in
theorem f_over {tu dx dy : Int} (hM : MW m) (hN : NowW (A 3) nn) (hi : okI i) (hj : okI j) (hto : okI tu) (hxo : okI dx) (hyo : okI dy) (hwo : okI w) (hb1 : ¬ ((0 ≤ i ∧ i < (nn : Int)) ∧ 0 ≤ j ∧ j < (nn : Int)) → Q 0 (some (vI 0)) (MS m (up1 (up1 I 0 0) 0 1) (refA 0 A) L)) (hb2 : (0 ≤ i ∧ i < (nn : Int)) ∧ 0 ≤ j ∧ j < (nn : Int) → ¬ (i ≠ j ∧ (0 ≤ tu ∧ tu ≤ 7) ∧ (-20 ≤ dx ∧ dx ≤ 20) ∧ (-20 ≤ dy ∧ dy ≤ 20) ∧ 0 ≤ w ∧ w ≤ 1) → Q 0 (some (vI 0)) (MS m (up1 (up1 I 0 0) 0 2) (refA 1 A) L)) (hok : (0 ≤ i ∧ i < (nn : Int)) ∧ 0 ≤ j ∧ j < (nn : Int) → i ≠ j ∧ (0 ≤ tu ∧ tu ≤ 7) ∧ (-20 ≤ dx ∧ dx ≤ 20) ∧ (-20 ≤ dy ∧ dy ≤ 20) ∧ 0 ≤ w ∧ w ≤ 1 → ∀ (I' : Nat → Int) (A' L' : Nat → Nat → Int), KpJ (up1 I 0 0) I' → KpA A A' → Q 0 (some (vI (if w = 0 then smS (A 3) i.toNat j.toNat tu.toNat dx dy else ulS (A 3) i.toNat j.toNat tu.toNat dx dy))) (MS m I' A' L')) : Ex (d + 4) M_over 0 [some (vR aM), some (vI i), some (vI j), some (vI tu), some (vI dx), some (vI dy), some (vI w)] [] (MS m I A L) Q := by
  have hn6 := hN.1
  obtain ⟨hi1, hi2⟩ := id hi
  obtain ⟨hj1, hj2⟩ := id hj
  obtain ⟨ht1, ht2⟩ := hto
  obtain ⟨hx1, hx2⟩ := hxo
  obtain ⟨hy1, hy2⟩ := hyo
  obtain ⟨hw1, hw2⟩ := hwo
  have hA : ¬ ((0 ≤ i ∧ i < (nn : Int)) ∧ 0 ≤ j ∧ j < (nn : Int)) → Ex (d + 4) M_over 27 [some (vR aM), some (vI i), some (vI j), some (vI tu), some (vI dx), some (vI dy), some (vI w)] [vI 1, vR aM] (MS m (up1 I 0 0) A L) Q := by
    intro hq
    refine Ex_step (tk_M_over rfl) ?_
    refine Ex_step (tk_M_over rfl) ?_
    refine Ex_cV0 (av := [vI 1, vI 1, vI 0]) (tk_M_over rfl) mk_M_bad ⟨rfl, rfl, by decide, rfl, Nat.le_of_ble_eq_true rfl, Nat.le_of_ble_eq_true rfl⟩ (hM.k) (fun _ h => f_bad1 (r := 0) hM (by decide) (by decide) (up1_at _ _ _) h) ?_
    refine Ex_step (tk_M_over rfl) ⟨fun h32 => ?_, fun h32 => ?_⟩
    · replace h32 : _ := h32
      refine Ex_step (tk_M_over rfl) ?_
      refine Ex_step (tk_M_over rfl) ⟨rfl, ?_⟩
      exact hb1 hq
    · replace h32 : _ := h32
      exact absurd (show w32 1 = w32 0 from Classical.not_not.mp h32) (by decide)
  have hB : (0 ≤ i ∧ i < (nn : Int)) ∧ 0 ≤ j ∧ j < (nn : Int) → Ex (d + 4) M_over 27 [some (vR aM), some (vI i), some (vI j), some (vI tu), some (vI dx), some (vI dy), some (vI w)] [vI 0, vR aM] (MS m (up1 I 0 0) A L) Q := by
    intro hq
    have hC : ¬ (i ≠ j ∧ (0 ≤ tu ∧ tu ≤ 7) ∧ (-20 ≤ dx ∧ dx ≤ 20) ∧ (-20 ≤ dy ∧ dy ≤ 20) ∧ 0 ≤ w ∧ w ≤ 1) → Ex (d + 4) M_over 90 [some (vR aM), some (vI i), some (vI j), some (vI tu), some (vI dx), some (vI dy), some (vI w)] [vI 1, vR aM] (MS m (up1 I 0 0) A L) Q := by
      intro hq2
      refine Ex_step (tk_M_over rfl) ?_
      refine Ex_step (tk_M_over rfl) ?_
      refine Ex_cV0 (av := [vI 1, vI 2, vI 1]) (tk_M_over rfl) mk_M_bad ⟨rfl, rfl, by decide, rfl, Nat.le_of_ble_eq_true rfl, Nat.le_of_ble_eq_true rfl⟩ (hM.k) (fun _ h => f_bad1 (r := 1) hM (by decide) (by decide) (up1_at _ _ _) h) ?_
      refine Ex_step (tk_M_over rfl) ⟨fun h95 => ?_, fun h95 => ?_⟩
      · replace h95 : _ := h95
        exact absurd (show w32 1 = w32 0 from h95) (by decide)
      · replace h95 : _ := h95
        refine Ex_step (tk_M_over rfl) ?_
        refine Ex_step (tk_M_over rfl) ⟨rfl, ?_⟩
        exact hb2 hq hq2
    have hD : i ≠ j ∧ (0 ≤ tu ∧ tu ≤ 7) ∧ (-20 ≤ dx ∧ dx ≤ 20) ∧ (-20 ≤ dy ∧ dy ≤ 20) ∧ 0 ≤ w ∧ w ≤ 1 → Ex (d + 4) M_over 90 [some (vR aM), some (vI i), some (vI j), some (vI tu), some (vI dx), some (vI dy), some (vI w)] [vI 0, vR aM] (MS m (up1 I 0 0) A L) Q := by
      intro hq2
      have h := hok hq hq2
      obtain ⟨a, rfl⟩ : ∃ a : Nat, i = (a : Int) := ⟨i.toNat, by omega⟩
      obtain ⟨b, rfl⟩ : ∃ b : Nat, j = (b : Int) := ⟨j.toNat, by omega⟩
      obtain ⟨t, rfl⟩ : ∃ t : Nat, tu = (t : Int) := ⟨tu.toNat, by omega⟩
      have hWa := hN.2.2.2 a (by omega)
      have hWb := hN.2.2.2 b (by omega)
      have hgo : Ex (d + 4) M_over 100 [some (vR aM), some (vI (a : Int)), some (vI (b : Int)), some (vI (t : Int)), some (vI dx), some (vI dy), some (vI w)] [] (MS m (up1 I 0 0) A L) Q := by
        refine Ex_step (tk_M_over rfl) ?_
        refine Ex_step (tk_M_over rfl) ?_
        refine Ex_cVK (av := [vI (a : Int)]) (tk_M_over rfl) mk_M_laysA ⟨rfl, rfl, by decide, rfl, Nat.le_of_ble_eq_true rfl, Nat.le_of_ble_eq_true rfl⟩ (hM.k) (f_laysA (b := a) hM (by omega) rfl hWa (fun D E b1 b2 => ⟨rfl, ?_⟩))
        refine Ex_step (tk_M_over rfl) ?_
        refine Ex_step (tk_M_over rfl) ?_
        refine Ex_step (tk_M_over rfl) ?_
        refine Ex_cVK (av := [vI (b : Int), vI (t : Int)]) (tk_M_over rfl) mk_M_laysB ⟨rfl, rfl, by decide, rfl, Nat.le_of_ble_eq_true rfl, Nat.le_of_ble_eq_true rfl⟩ (hM.k) (f_laysB (b := b) hM (by omega) rfl hWb (by omega) (fun r D2 E2 b3 b4 => ⟨rfl, ?_⟩))
        refine Ex_step (tk_M_over rfl) ?_
        refine Ex_step (tk_M_over rfl) ?_
        refine Ex_step (tk_M_over rfl) ?_
        refine Ex_cVK (av := [vI dx, vI dy]) (tk_M_over rfl) mk_M_lies ⟨rfl, rfl, by decide, rfl, Nat.le_of_ble_eq_true rfl, Nat.le_of_ble_eq_true rfl⟩ (hM.k) (f_lies (T := A 3) (a := a) (b := b) (t := t) hM hWa hWb (by omega) (by omega) b1 b2 b3 b4 ⟨rfl, ?_⟩)
        have h0 : w = 0 → ∀ (I' : Nat → Int) (A' L' : Nat → Nat → Int), KpJ (up1 I 0 0) I' → KpA A A' → Q 0 (some (vI (smS (A 3) a b t dx dy))) (MS m I' A' L') := fun q I' A' L' k1 k2 => by have hx := h I' A' L' k1 k2; rw [if_pos q] at hx; exact hx
        have h1 : ¬ w = 0 → ∀ (I' : Nat → Int) (A' L' : Nat → Nat → Int), KpJ (up1 I 0 0) I' → KpA A A' → Q 0 (some (vI (ulS (A 3) a b t dx dy))) (MS m I' A' L') := fun q I' A' L' k1 k2 => by have hx := h I' A' L' k1 k2; rw [if_neg q] at hx; exact hx
        refine Ex_step (tk_M_over rfl) ?_
        refine Ex_step (tk_M_over rfl) ⟨fun h121 => ?_, fun h121 => ?_⟩
        · try simp (disch := omega) only [cmpI, w32_b2i, b2i_0, b2i_1, w32_id, Classical.not_not, not_true_eq_false, not_false_eq_true] at h121
          refine Ex_step (tk_M_over rfl) ?_
          refine gMI (tk_M_over rfl) hM ?_
          try rw [F2_b (by decide)]
          refine Ex_step (tk_M_over rfl) ⟨rfl, ?_⟩
          first | exact h0 (by omega) _ _ _ (((KpI.rf _).f2 (by decide) (by decide) _ _).f2 (by decide) (by decide) _ _).j (KpA.up A (by decide) _) | exact h1 (by omega) _ _ _ (((KpI.rf _).f2 (by decide) (by decide) _ _).f2 (by decide) (by decide) _ _).j (KpA.up A (by decide) _)
        · try simp (disch := omega) only [cmpI, w32_b2i, b2i_0, b2i_1, w32_id, Classical.not_not, not_true_eq_false, not_false_eq_true] at h121
          refine Ex_step (tk_M_over rfl) ?_
          refine gMI (tk_M_over rfl) hM ?_
          rw [F2_a]
          refine Ex_step (tk_M_over rfl) ?_
          try rw [F2_b (by decide)]
          refine Ex_step (tk_M_over rfl) ⟨rfl, ?_⟩
          first | exact h0 (by omega) _ _ _ (((KpI.rf _).f2 (by decide) (by decide) _ _).f2 (by decide) (by decide) _ _).j (KpA.up A (by decide) _) | exact h1 (by omega) _ _ _ (((KpI.rf _).f2 (by decide) (by decide) _ _).f2 (by decide) (by decide) _ _).j (KpA.up A (by decide) _)
      refine Ex_step (tk_M_over rfl) ?_
      refine Ex_step (tk_M_over rfl) ?_
      refine Ex_cV0 (av := [vI 0, vI 2, vI 1]) (tk_M_over rfl) mk_M_bad ⟨rfl, rfl, by decide, rfl, Nat.le_of_ble_eq_true rfl, Nat.le_of_ble_eq_true rfl⟩ (hM.k) (fun _ h => f_bad0 (r := 1) hM (by decide) (by decide) (up1_at _ _ _) h) ?_
      refine Ex_step (tk_M_over rfl) ⟨fun h95 => ?_, fun h95 => ?_⟩
      · replace h95 : _ := h95
        exact hgo
      · replace h95 : _ := h95
        exact absurd rfl h95
    have h2nd : Ex (d + 4) M_over 35 [some (vR aM), some (vI i), some (vI j), some (vI tu), some (vI dx), some (vI dy), some (vI w)] [] (MS m (up1 I 0 0) A L) Q := by
      refine Ex_step (tk_M_over rfl) ?_
      refine Ex_step (tk_M_over rfl) ?_
      refine Ex_step (tk_M_over rfl) ?_
      refine Ex_step (tk_M_over rfl) ⟨fun h38 => ?_, fun h38 => ?_⟩
      · try simp (disch := omega) only [cmpI, w32_b2i, b2i_0, b2i_1, w32_id, Classical.not_not, not_true_eq_false, not_false_eq_true] at h38
        have hx := hC (fun z => by first | exact z.1 h38 | exact h48 z.2.1 | exact h60 z.2.2.1 | exact h72 z.2.2.2.1 | exact h82 z.2.2.2.2)
        refine Ex_step (tk_M_over rfl) ?_
        refine Ex_step (tk_M_over rfl) ?_
        exact hx
      · try simp (disch := omega) only [cmpI, w32_b2i, b2i_0, b2i_1, w32_id, Classical.not_not, not_true_eq_false, not_false_eq_true] at h38
        refine Ex_step (tk_M_over rfl) ?_
        refine Ex_step (tk_M_over rfl) ?_
        refine Ex_step (tk_M_over rfl) ?_
        refine Ex_cS0 (av := [vI tu, vI 0, vI 7]) (tk_M_over rfl) mk_M_in ⟨rfl, by decide, rfl, rfl, rfl, Nat.le_of_ble_eq_true rfl, Nat.le_of_ble_eq_true rfl⟩ (fun _ h => e_in h) ?_
        refine Ex_step (tk_M_over rfl) ⟨fun h48 => ?_, fun h48 => ?_⟩
        · try simp (disch := omega) only [cmpI, w32_b2i, b2i_0, b2i_1, w32_id, Classical.not_not, not_true_eq_false, not_false_eq_true] at h48
          have hx := hC (fun z => by first | exact z.1 h38 | exact h48 z.2.1 | exact h60 z.2.2.1 | exact h72 z.2.2.2.1 | exact h82 z.2.2.2.2)
          refine Ex_step (tk_M_over rfl) ?_
          refine Ex_step (tk_M_over rfl) ?_
          exact hx
        · try simp (disch := omega) only [cmpI, w32_b2i, b2i_0, b2i_1, w32_id, Classical.not_not, not_true_eq_false, not_false_eq_true] at h48
          refine Ex_step (tk_M_over rfl) ?_
          refine Ex_step (tk_M_over rfl) ?_
          refine Ex_step (tk_M_over rfl) ?_
          refine Ex_cS0 (av := [vI dx, vI (-20), vI 20]) (tk_M_over rfl) mk_M_in ⟨rfl, by decide, rfl, rfl, rfl, Nat.le_of_ble_eq_true rfl, Nat.le_of_ble_eq_true rfl⟩ (fun _ h => e_in h) ?_
          refine Ex_step (tk_M_over rfl) ⟨fun h60 => ?_, fun h60 => ?_⟩
          · try simp (disch := omega) only [cmpI, w32_b2i, b2i_0, b2i_1, w32_id, Classical.not_not, not_true_eq_false, not_false_eq_true] at h60
            have hx := hC (fun z => by first | exact z.1 h38 | exact h48 z.2.1 | exact h60 z.2.2.1 | exact h72 z.2.2.2.1 | exact h82 z.2.2.2.2)
            refine Ex_step (tk_M_over rfl) ?_
            refine Ex_step (tk_M_over rfl) ?_
            exact hx
          · try simp (disch := omega) only [cmpI, w32_b2i, b2i_0, b2i_1, w32_id, Classical.not_not, not_true_eq_false, not_false_eq_true] at h60
            refine Ex_step (tk_M_over rfl) ?_
            refine Ex_step (tk_M_over rfl) ?_
            refine Ex_step (tk_M_over rfl) ?_
            refine Ex_cS0 (av := [vI dy, vI (-20), vI 20]) (tk_M_over rfl) mk_M_in ⟨rfl, by decide, rfl, rfl, rfl, Nat.le_of_ble_eq_true rfl, Nat.le_of_ble_eq_true rfl⟩ (fun _ h => e_in h) ?_
            refine Ex_step (tk_M_over rfl) ⟨fun h72 => ?_, fun h72 => ?_⟩
            · try simp (disch := omega) only [cmpI, w32_b2i, b2i_0, b2i_1, w32_id, Classical.not_not, not_true_eq_false, not_false_eq_true] at h72
              have hx := hC (fun z => by first | exact z.1 h38 | exact h48 z.2.1 | exact h60 z.2.2.1 | exact h72 z.2.2.2.1 | exact h82 z.2.2.2.2)
              refine Ex_step (tk_M_over rfl) ?_
              refine Ex_step (tk_M_over rfl) ?_
              exact hx
            · try simp (disch := omega) only [cmpI, w32_b2i, b2i_0, b2i_1, w32_id, Classical.not_not, not_true_eq_false, not_false_eq_true] at h72
              refine Ex_step (tk_M_over rfl) ?_
              refine Ex_step (tk_M_over rfl) ?_
              refine Ex_step (tk_M_over rfl) ?_
              refine Ex_cS0 (av := [vI w, vI 0, vI 1]) (tk_M_over rfl) mk_M_in ⟨rfl, by decide, rfl, rfl, rfl, Nat.le_of_ble_eq_true rfl, Nat.le_of_ble_eq_true rfl⟩ (fun _ h => e_in h) ?_
              refine Ex_step (tk_M_over rfl) ⟨fun h82 => ?_, fun h82 => ?_⟩
              · try simp (disch := omega) only [cmpI, w32_b2i, b2i_0, b2i_1, w32_id, Classical.not_not, not_true_eq_false, not_false_eq_true] at h82
                have hx := hD ⟨h38, h48, h60, h72, h82⟩
                refine Ex_step (tk_M_over rfl) ?_
                exact hx
              · try simp (disch := omega) only [cmpI, w32_b2i, b2i_0, b2i_1, w32_id, Classical.not_not, not_true_eq_false, not_false_eq_true] at h82
                have hx := hC (fun z => by first | exact z.1 h38 | exact h48 z.2.1 | exact h60 z.2.2.1 | exact h72 z.2.2.2.1 | exact h82 z.2.2.2.2)
                refine Ex_step (tk_M_over rfl) ?_
                refine Ex_step (tk_M_over rfl) ?_
                exact hx
    refine Ex_step (tk_M_over rfl) ?_
    refine Ex_step (tk_M_over rfl) ?_
    refine Ex_cV0 (av := [vI 0, vI 1, vI 0]) (tk_M_over rfl) mk_M_bad ⟨rfl, rfl, by decide, rfl, Nat.le_of_ble_eq_true rfl, Nat.le_of_ble_eq_true rfl⟩ (hM.k) (fun _ h => f_bad0 (r := 0) hM (by decide) (by decide) (up1_at _ _ _) h) ?_
    refine Ex_step (tk_M_over rfl) ⟨fun h32 => ?_, fun h32 => ?_⟩
    · replace h32 : _ := h32
      exact absurd rfl h32
    · replace h32 : _ := h32
      exact h2nd
  refine Ex_step (tk_M_over rfl) ?_
  refine Ex_step (tk_M_over rfl) ?_
  refine pMI (tk_M_over rfl) hM ?_
  refine Ex_step (tk_M_over rfl) ?_
  refine Ex_step (tk_M_over rfl) ?_
  refine Ex_step (tk_M_over rfl) ?_
  refine Ex_cV0 (av := [vI i]) (tk_M_over rfl) mk_M_isDesign ⟨rfl, rfl, by decide, rfl, Nat.le_of_ble_eq_true rfl, Nat.le_of_ble_eq_true rfl⟩ (hM.k) (fun _ h => f_isDesign hM hN hi h) ?_
  refine Ex_step (tk_M_over rfl) ⟨fun h11 => ?_, fun h11 => ?_⟩
  · try simp (disch := omega) only [cmpI, w32_b2i, b2i_0, b2i_1, w32_id, Classical.not_not, not_true_eq_false, not_false_eq_true] at h11
    have hx := hA (fun z => by first | exact h11 z.1 | exact h19 z.2)
    refine Ex_step (tk_M_over rfl) ?_
    refine Ex_step (tk_M_over rfl) ?_
    exact hx
  · try simp (disch := omega) only [cmpI, w32_b2i, b2i_0, b2i_1, w32_id, Classical.not_not, not_true_eq_false, not_false_eq_true] at h11
    refine Ex_step (tk_M_over rfl) ?_
    refine Ex_step (tk_M_over rfl) ?_
    refine Ex_cV0 (av := [vI j]) (tk_M_over rfl) mk_M_isDesign ⟨rfl, rfl, by decide, rfl, Nat.le_of_ble_eq_true rfl, Nat.le_of_ble_eq_true rfl⟩ (hM.k) (fun _ h => f_isDesign hM hN hj h) ?_
    refine Ex_step (tk_M_over rfl) ⟨fun h19 => ?_, fun h19 => ?_⟩
    · try simp (disch := omega) only [cmpI, w32_b2i, b2i_0, b2i_1, w32_id, Classical.not_not, not_true_eq_false, not_false_eq_true] at h19
      have hx := hB ⟨h11, h19⟩
      refine Ex_step (tk_M_over rfl) ?_
      exact hx
    · try simp (disch := omega) only [cmpI, w32_b2i, b2i_0, b2i_1, w32_id, Classical.not_not, not_true_eq_false, not_false_eq_true] at h19
      have hx := hA (fun z => by first | exact h11 z.1 | exact h19 z.2)
      refine Ex_step (tk_M_over rfl) ?_
      refine Ex_step (tk_M_over rfl) ?_
      exact hx
def bstV (s : BSt) (w : Int) : Int := if w < 2 then trm s.1.toNat s.2.1.toNat w else if w = 2 then s.2.2.1 else if w = 3 then s.2.2.2.1 else s.2.2.2.2
set_option maxRecDepth 100000 in
theorem f_best (hM : MW m) (hN : NowW (A 3) nn) (hi : okI i) (hj : okI j) (hwo : okI w) (hb1 : ¬ ((0 ≤ i ∧ i < (nn : Int)) ∧ 0 ≤ j ∧ j < (nn : Int)) → Q 0 (some (vI 0)) (MS m (up1 (up1 I 0 0) 0 1) (refA 0 A) L)) (hb2 : (0 ≤ i ∧ i < (nn : Int)) ∧ 0 ≤ j ∧ j < (nn : Int) → ¬ (i ≠ j ∧ 0 ≤ w ∧ w ≤ 4) → Q 0 (some (vI 0)) (MS m (up1 (up1 I 0 0) 0 2) (refA 1 A) L)) (hok : (0 ≤ i ∧ i < (nn : Int)) ∧ 0 ≤ j ∧ j < (nn : Int) → i ≠ j ∧ 0 ≤ w ∧ w ≤ 4 → ∀ (I' : Nat → Int) (A' L' : Nat → Nat → Int), KpJ (up1 I 0 0) I' → KpA A A' → Q 0 (some (vI (bstV (bestS (A 3) i.toNat j.toNat) w))) (MS m I' A' L')) : Ex (d + 5) M_best 0 [some (vR aM), some (vI i), some (vI j), some (vI w)] [] (MS m I A L) Q := by
  have hn6 := hN.1
  obtain ⟨hi1, hi2⟩ := id hi
  obtain ⟨hj1, hj2⟩ := id hj
  obtain ⟨hw1, hw2⟩ := hwo
  have hA : ¬ ((0 ≤ i ∧ i < (nn : Int)) ∧ 0 ≤ j ∧ j < (nn : Int)) → Ex (d + 5) M_best 27 [some (vR aM), some (vI i), some (vI j), some (vI w)] [vI 1, vR aM] (MS m (up1 I 0 0) A L) Q := by
    intro hq
    refine Ex_step (tk_M_best rfl) ?_
    refine Ex_step (tk_M_best rfl) ?_
    refine Ex_cV0 (av := [vI 1, vI 1, vI 0]) (tk_M_best rfl) mk_M_bad ⟨rfl, rfl, by decide, rfl, Nat.le_of_ble_eq_true rfl, Nat.le_of_ble_eq_true rfl⟩ (hM.k) (fun _ h => f_bad1 (r := 0) hM (by decide) (by decide) (up1_at _ _ _) h) ?_
    refine Ex_step (tk_M_best rfl) ⟨fun h32 => ?_, fun h32 => ?_⟩
    · replace h32 : _ := h32
      refine Ex_step (tk_M_best rfl) ?_
      refine Ex_step (tk_M_best rfl) ⟨rfl, ?_⟩
      exact hb1 hq
    · replace h32 : _ := h32
      exact absurd (show w32 1 = w32 0 from Classical.not_not.mp h32) (by decide)
  have hB : (0 ≤ i ∧ i < (nn : Int)) ∧ 0 ≤ j ∧ j < (nn : Int) → Ex (d + 5) M_best 27 [some (vR aM), some (vI i), some (vI j), some (vI w)] [vI 0, vR aM] (MS m (up1 I 0 0) A L) Q := by
    intro hq
    have hC : ¬ (i ≠ j ∧ 0 ≤ w ∧ w ≤ 4) → Ex (d + 5) M_best 55 [some (vR aM), some (vI i), some (vI j), some (vI w)] [vI 1, vR aM] (MS m (up1 I 0 0) A L) Q := by
      intro hq2
      refine Ex_step (tk_M_best rfl) ?_
      refine Ex_step (tk_M_best rfl) ?_
      refine Ex_cV0 (av := [vI 1, vI 2, vI 1]) (tk_M_best rfl) mk_M_bad ⟨rfl, rfl, by decide, rfl, Nat.le_of_ble_eq_true rfl, Nat.le_of_ble_eq_true rfl⟩ (hM.k) (fun _ h => f_bad1 (r := 1) hM (by decide) (by decide) (up1_at _ _ _) h) ?_
      refine Ex_step (tk_M_best rfl) ⟨fun h60 => ?_, fun h60 => ?_⟩
      · replace h60 : _ := h60
        exact absurd (show w32 1 = w32 0 from h60) (by decide)
      · replace h60 : _ := h60
        refine Ex_step (tk_M_best rfl) ?_
        refine Ex_step (tk_M_best rfl) ⟨rfl, ?_⟩
        exact hb2 hq hq2
    have hD : i ≠ j ∧ 0 ≤ w ∧ w ≤ 4 → Ex (d + 5) M_best 55 [some (vR aM), some (vI i), some (vI j), some (vI w)] [vI 0, vR aM] (MS m (up1 I 0 0) A L) Q := by
      intro hq2
      have h := hok hq hq2
      obtain ⟨a, rfl⟩ : ∃ a : Nat, i = (a : Int) := ⟨i.toNat, by omega⟩
      obtain ⟨b, rfl⟩ : ∃ b : Nat, j = (b : Int) := ⟨j.toNat, by omega⟩
      have hWa := hN.2.2.2 a (by omega)
      have hWb := hN.2.2.2 b (by omega)
      have hB := bestS_B (T := A 3) (a := a) (b := b)
      have hB0 := bestS_nn hWa hWb
      have h : ∀ (I' : Nat → Int) (A' L' : Nat → Nat → Int), KpJ (up1 I 0 0) I' → KpA A A' → Q 0 (some (vI (bstV (bestS (A 3) a b) w))) (MS m I' A' L') := h
      have hgo : Ex (d + 5) M_best 65 [some (vR aM), some (vI (a : Int)), some (vI (b : Int)), some (vI w)] [] (MS m (up1 I 0 0) A L) Q := by
        have key : ∀ (I2 r : Nat → Int) (L2 : Nat → Nat → Int), KpI (up1 I 0 0) I2 → BSI I2 (bestS (A 3) a b) → Ex (d + 5) M_best 71 [some (vR aM), some (vI (a : Int)), some (vI (b : Int)), some (vI w)] [] (MS m I2 (up1 A 14 r) L2) Q := by
          intro I2 r L2 k1 k2
          have hx := h I2 (up1 A 14 r) L2 k1.j (KpA.up A (by decide) r)
          obtain ⟨⟨s1, s2⟩, s3, s4, s5⟩ := hB
          obtain ⟨o1, o2, o3, o4, o5⟩ := k2
          generalize bestS (A 3) a b = B at *
          unfold bstV at hx
          refine Ex_step (tk_M_best rfl) ?_
          refine Ex_step (tk_M_best rfl) ?_
          refine Ex_step (tk_M_best rfl) ⟨fun h73 => ?_, fun h73 => ?_⟩
          · try simp (disch := omega) only [cmpI, w32_b2i, b2i_0, b2i_1, w32_id, Classical.not_not, not_true_eq_false, not_false_eq_true] at h73
            refine Ex_step (tk_M_best rfl) ?_
            refine Ex_step (tk_M_best rfl) ?_
            refine Ex_step (tk_M_best rfl) ⟨fun h93 => ?_, fun h93 => ?_⟩
            · try simp (disch := omega) only [cmpI, w32_b2i, b2i_0, b2i_1, w32_id, Classical.not_not, not_true_eq_false, not_false_eq_true] at h93
              refine Ex_step (tk_M_best rfl) ?_
              refine Ex_step (tk_M_best rfl) ?_
              refine Ex_step (tk_M_best rfl) ⟨fun h105 => ?_, fun h105 => ?_⟩
              · try simp (disch := omega) only [cmpI, w32_b2i, b2i_0, b2i_1, w32_id, Classical.not_not, not_true_eq_false, not_false_eq_true] at h105
                rw [if_neg (by omega), if_neg (by omega), if_neg (by omega)] at hx
                refine Ex_step (tk_M_best rfl) ?_
                refine gMI (tk_M_best rfl) hM ?_
                try rw [o5]
                refine Ex_step (tk_M_best rfl) ⟨rfl, ?_⟩
                exact hx
              · try simp (disch := omega) only [cmpI, w32_b2i, b2i_0, b2i_1, w32_id, Classical.not_not, not_true_eq_false, not_false_eq_true] at h105
                rw [if_neg (by omega), if_neg (by omega), if_pos (by omega)] at hx
                refine Ex_step (tk_M_best rfl) ?_
                refine gMI (tk_M_best rfl) hM ?_
                rw [o4]
                refine Ex_step (tk_M_best rfl) ?_
                try rw [o5]
                refine Ex_step (tk_M_best rfl) ⟨rfl, ?_⟩
                exact hx
            · try simp (disch := omega) only [cmpI, w32_b2i, b2i_0, b2i_1, w32_id, Classical.not_not, not_true_eq_false, not_false_eq_true] at h93
              rw [if_neg (by omega), if_pos (by omega)] at hx
              refine Ex_step (tk_M_best rfl) ?_
              refine gMI (tk_M_best rfl) hM ?_
              rw [o3]
              refine Ex_step (tk_M_best rfl) ?_
              try rw [o5]
              refine Ex_step (tk_M_best rfl) ⟨rfl, ?_⟩
              exact hx
          · try simp (disch := omega) only [cmpI, w32_b2i, b2i_0, b2i_1, w32_id, Classical.not_not, not_true_eq_false, not_false_eq_true] at h73
            rw [if_pos (by omega)] at hx
            refine Ex_step (tk_M_best rfl) ?_
            refine gMI (tk_M_best rfl) hM ?_
            rw [o1]
            refine Ex_step (tk_M_best rfl) ?_
            refine gMI (tk_M_best rfl) hM ?_
            rw [o2]
            refine Ex_step (tk_M_best rfl) ?_
            refine Ex_cS0 (av := [vI B.1, vI B.2.1, vI w]) (tk_M_best rfl) mk_M_terms ⟨rfl, by decide, rfl, rfl, rfl, Nat.le_of_ble_eq_true rfl, Nat.le_of_ble_eq_true rfl⟩ (fun _ h => f_terms (a := B.1.toNat) (u := B.2.1.toNat) (by omega) (by omega) (by omega) (by omega) (by omega) h) ?_
            refine Ex_step (tk_M_best rfl) ?_
            try rw [o5]
            refine Ex_step (tk_M_best rfl) ⟨rfl, ?_⟩
            exact hx
        refine Ex_step (tk_M_best rfl) ?_
        refine Ex_step (tk_M_best rfl) ?_
        refine Ex_step (tk_M_best rfl) ?_
        refine Ex_cVK (av := [vI (a : Int), vI (b : Int)]) (tk_M_best rfl) mk_M_overlays ⟨rfl, rfl, by decide, rfl, Nat.le_of_ble_eq_true rfl, Nat.le_of_ble_eq_true rfl⟩ (hM.k) (f_overlays (a := a) (b := b) hM (by omega) (by omega) rfl rfl hWa hWb (fun I2 r L2 k1 k2 k3 => ⟨rfl, ?_⟩))
        exact key I2 r L2 k1 k2
      refine Ex_step (tk_M_best rfl) ?_
      refine Ex_step (tk_M_best rfl) ?_
      refine Ex_cV0 (av := [vI 0, vI 2, vI 1]) (tk_M_best rfl) mk_M_bad ⟨rfl, rfl, by decide, rfl, Nat.le_of_ble_eq_true rfl, Nat.le_of_ble_eq_true rfl⟩ (hM.k) (fun _ h => f_bad0 (r := 1) hM (by decide) (by decide) (up1_at _ _ _) h) ?_
      refine Ex_step (tk_M_best rfl) ⟨fun h60 => ?_, fun h60 => ?_⟩
      · replace h60 : _ := h60
        exact hgo
      · replace h60 : _ := h60
        exact absurd rfl h60
    have h2nd : Ex (d + 5) M_best 35 [some (vR aM), some (vI i), some (vI j), some (vI w)] [] (MS m (up1 I 0 0) A L) Q := by
      refine Ex_step (tk_M_best rfl) ?_
      refine Ex_step (tk_M_best rfl) ?_
      refine Ex_step (tk_M_best rfl) ?_
      refine Ex_step (tk_M_best rfl) ⟨fun h38 => ?_, fun h38 => ?_⟩
      · try simp (disch := omega) only [cmpI, w32_b2i, b2i_0, b2i_1, w32_id, Classical.not_not, not_true_eq_false, not_false_eq_true] at h38
        have hx := hC (fun z => by first | exact z.1 h38 | exact h47 z.2)
        refine Ex_step (tk_M_best rfl) ?_
        refine Ex_step (tk_M_best rfl) ?_
        exact hx
      · try simp (disch := omega) only [cmpI, w32_b2i, b2i_0, b2i_1, w32_id, Classical.not_not, not_true_eq_false, not_false_eq_true] at h38
        refine Ex_step (tk_M_best rfl) ?_
        refine Ex_step (tk_M_best rfl) ?_
        refine Ex_step (tk_M_best rfl) ?_
        refine Ex_cS0 (av := [vI w, vI 0, vI 4]) (tk_M_best rfl) mk_M_in ⟨rfl, by decide, rfl, rfl, rfl, Nat.le_of_ble_eq_true rfl, Nat.le_of_ble_eq_true rfl⟩ (fun _ h => e_in h) ?_
        refine Ex_step (tk_M_best rfl) ⟨fun h47 => ?_, fun h47 => ?_⟩
        · try simp (disch := omega) only [cmpI, w32_b2i, b2i_0, b2i_1, w32_id, Classical.not_not, not_true_eq_false, not_false_eq_true] at h47
          have hx := hD ⟨h38, h47⟩
          refine Ex_step (tk_M_best rfl) ?_
          exact hx
        · try simp (disch := omega) only [cmpI, w32_b2i, b2i_0, b2i_1, w32_id, Classical.not_not, not_true_eq_false, not_false_eq_true] at h47
          have hx := hC (fun z => by first | exact z.1 h38 | exact h47 z.2)
          refine Ex_step (tk_M_best rfl) ?_
          refine Ex_step (tk_M_best rfl) ?_
          exact hx
    refine Ex_step (tk_M_best rfl) ?_
    refine Ex_step (tk_M_best rfl) ?_
    refine Ex_cV0 (av := [vI 0, vI 1, vI 0]) (tk_M_best rfl) mk_M_bad ⟨rfl, rfl, by decide, rfl, Nat.le_of_ble_eq_true rfl, Nat.le_of_ble_eq_true rfl⟩ (hM.k) (fun _ h => f_bad0 (r := 0) hM (by decide) (by decide) (up1_at _ _ _) h) ?_
    refine Ex_step (tk_M_best rfl) ⟨fun h32 => ?_, fun h32 => ?_⟩
    · replace h32 : _ := h32
      exact absurd rfl h32
    · replace h32 : _ := h32
      exact h2nd
  refine Ex_step (tk_M_best rfl) ?_
  refine Ex_step (tk_M_best rfl) ?_
  refine pMI (tk_M_best rfl) hM ?_
  refine Ex_step (tk_M_best rfl) ?_
  refine Ex_step (tk_M_best rfl) ?_
  refine Ex_step (tk_M_best rfl) ?_
  refine Ex_cV0 (av := [vI i]) (tk_M_best rfl) mk_M_isDesign ⟨rfl, rfl, by decide, rfl, Nat.le_of_ble_eq_true rfl, Nat.le_of_ble_eq_true rfl⟩ (hM.k) (fun _ h => f_isDesign hM hN hi h) ?_
  refine Ex_step (tk_M_best rfl) ⟨fun h11 => ?_, fun h11 => ?_⟩
  · try simp (disch := omega) only [cmpI, w32_b2i, b2i_0, b2i_1, w32_id, Classical.not_not, not_true_eq_false, not_false_eq_true] at h11
    have hx := hA (fun z => by first | exact h11 z.1 | exact h19 z.2)
    refine Ex_step (tk_M_best rfl) ?_
    refine Ex_step (tk_M_best rfl) ?_
    exact hx
  · try simp (disch := omega) only [cmpI, w32_b2i, b2i_0, b2i_1, w32_id, Classical.not_not, not_true_eq_false, not_false_eq_true] at h11
    refine Ex_step (tk_M_best rfl) ?_
    refine Ex_step (tk_M_best rfl) ?_
    refine Ex_cV0 (av := [vI j]) (tk_M_best rfl) mk_M_isDesign ⟨rfl, rfl, by decide, rfl, Nat.le_of_ble_eq_true rfl, Nat.le_of_ble_eq_true rfl⟩ (hM.k) (fun _ h => f_isDesign hM hN hj h) ?_
    refine Ex_step (tk_M_best rfl) ⟨fun h19 => ?_, fun h19 => ?_⟩
    · try simp (disch := omega) only [cmpI, w32_b2i, b2i_0, b2i_1, w32_id, Classical.not_not, not_true_eq_false, not_false_eq_true] at h19
      have hx := hB ⟨h11, h19⟩
      refine Ex_step (tk_M_best rfl) ?_
      exact hx
    · try simp (disch := omega) only [cmpI, w32_b2i, b2i_0, b2i_1, w32_id, Classical.not_not, not_true_eq_false, not_false_eq_true] at h19
      have hx := hA (fun z => by first | exact h11 z.1 | exact h19 z.2)
      refine Ex_step (tk_M_best rfl) ?_
      refine Ex_step (tk_M_best rfl) ?_
      exact hx
def priV (s : PSt3) (w : Int) : Int := if w < 2 then trm s.1.toNat s.2.1.toNat w else s.2.2
set_option maxRecDepth 100000 in
theorem f_prior (hM : MW m) (hN : NowW (A 3) nn) (hi : okI i) (hwo : okI w) (hb1 : ¬ (0 ≤ i ∧ i < (nn : Int)) → Q 0 (some (vI 0)) (MS m (up1 (up1 I 0 0) 0 1) (refA 0 A) L)) (hb2 : 0 ≤ i ∧ i < (nn : Int) → ¬ (0 ≤ w ∧ w ≤ 2) → Q 0 (some (vI 0)) (MS m (up1 (up1 I 0 0) 0 2) (refA 1 A) L)) (hok : 0 ≤ i ∧ i < (nn : Int) → 0 ≤ w ∧ w ≤ 2 → ∀ (I' : Nat → Int) (A' L' : Nat → Nat → Int), KpJ (up1 I 0 0) I' → KpA A A' → Q 0 (some (vI (priV (prS (A 3) i.toNat nn) w))) (MS m I' A' L')) : Ex (d + 6) M_prior 0 [some (vR aM), some (vI i), some (vI w)] [] (MS m I A L) Q := by
  have hn6 := hN.1
  obtain ⟨hi1, hi2⟩ := id hi
  obtain ⟨hw1, hw2⟩ := hwo
  have hA : ¬ (0 ≤ i ∧ i < (nn : Int)) → Ex (d + 6) M_prior 19 [some (vR aM), some (vI i), some (vI w)] [vI 1, vR aM] (MS m (up1 I 0 0) A L) Q := by
    intro hq
    refine Ex_step (tk_M_prior rfl) ?_
    refine Ex_step (tk_M_prior rfl) ?_
    refine Ex_cV0 (av := [vI 1, vI 1, vI 0]) (tk_M_prior rfl) mk_M_bad ⟨rfl, rfl, by decide, rfl, Nat.le_of_ble_eq_true rfl, Nat.le_of_ble_eq_true rfl⟩ (hM.k) (fun _ h => f_bad1 (r := 0) hM (by decide) (by decide) (up1_at _ _ _) h) ?_
    refine Ex_step (tk_M_prior rfl) ⟨fun h24 => ?_, fun h24 => ?_⟩
    · replace h24 : _ := h24
      refine Ex_step (tk_M_prior rfl) ?_
      refine Ex_step (tk_M_prior rfl) ⟨rfl, ?_⟩
      exact hb1 hq
    · replace h24 : _ := h24
      exact absurd (show w32 1 = w32 0 from Classical.not_not.mp h24) (by decide)
  have hB : 0 ≤ i ∧ i < (nn : Int) → Ex (d + 6) M_prior 19 [some (vR aM), some (vI i), some (vI w)] [vI 0, vR aM] (MS m (up1 I 0 0) A L) Q := by
    intro hq
    have hC : ¬ (0 ≤ w ∧ w ≤ 2) → Ex (d + 6) M_prior 42 [some (vR aM), some (vI i), some (vI w)] [vI 1, vR aM] (MS m (up1 I 0 0) A L) Q := by
      intro hq2
      refine Ex_step (tk_M_prior rfl) ?_
      refine Ex_step (tk_M_prior rfl) ?_
      refine Ex_cV0 (av := [vI 1, vI 2, vI 1]) (tk_M_prior rfl) mk_M_bad ⟨rfl, rfl, by decide, rfl, Nat.le_of_ble_eq_true rfl, Nat.le_of_ble_eq_true rfl⟩ (hM.k) (fun _ h => f_bad1 (r := 1) hM (by decide) (by decide) (up1_at _ _ _) h) ?_
      refine Ex_step (tk_M_prior rfl) ⟨fun h47 => ?_, fun h47 => ?_⟩
      · replace h47 : _ := h47
        exact absurd (show w32 1 = w32 0 from h47) (by decide)
      · replace h47 : _ := h47
        refine Ex_step (tk_M_prior rfl) ?_
        refine Ex_step (tk_M_prior rfl) ⟨rfl, ?_⟩
        exact hb2 hq hq2
    have hD : 0 ≤ w ∧ w ≤ 2 → Ex (d + 6) M_prior 42 [some (vR aM), some (vI i), some (vI w)] [vI 0, vR aM] (MS m (up1 I 0 0) A L) Q := by
      intro hq2
      have h := hok hq hq2
      obtain ⟨a, rfl⟩ : ∃ a : Nat, i = (a : Int) := ⟨i.toNat, by omega⟩
      have hP := prS_B hN (a := a) (by omega) nn (Nat.le_refl _)
      have h : ∀ (I' : Nat → Int) (A' L' : Nat → Nat → Int), KpJ (up1 I 0 0) I' → KpA A A' → Q 0 (some (vI (priV (prS (A 3) a nn) w))) (MS m I' A' L') := h
      have hgo : Ex (d + 6) M_prior 52 [some (vR aM), some (vI (a : Int)), some (vI w)] [] (MS m (up1 I 0 0) A L) Q := by
        have key : ∀ (I2 r : Nat → Int) (L2 : Nat → Nat → Int), KpJ (up1 I 0 0) I2 → PSI I2 (prS (A 3) a nn) → Ex (d + 6) M_prior 57 [some (vR aM), some (vI (a : Int)), some (vI w)] [] (MS m I2 (up1 A 14 r) L2) Q := by
          intro I2 r L2 k1 k2
          have hx := h I2 (up1 A 14 r) L2 k1 (KpA.up A (by decide) r)
          obtain ⟨⟨s1, s2⟩, ⟨s3, s4⟩, ⟨s5, s6⟩, s7⟩ := hP
          obtain ⟨o1, o2, o3⟩ := k2
          generalize prS (A 3) a nn = B at *
          unfold priV at hx
          refine Ex_step (tk_M_prior rfl) ?_
          refine Ex_step (tk_M_prior rfl) ?_
          refine Ex_step (tk_M_prior rfl) ⟨fun h59 => ?_, fun h59 => ?_⟩
          · try simp (disch := omega) only [cmpI, w32_b2i, b2i_0, b2i_1, w32_id, Classical.not_not, not_true_eq_false, not_false_eq_true] at h59
            rw [if_neg (by omega)] at hx
            refine Ex_step (tk_M_prior rfl) ?_
            refine gMI (tk_M_prior rfl) hM ?_
            try rw [o3]
            refine Ex_step (tk_M_prior rfl) ⟨rfl, ?_⟩
            exact hx
          · try simp (disch := omega) only [cmpI, w32_b2i, b2i_0, b2i_1, w32_id, Classical.not_not, not_true_eq_false, not_false_eq_true] at h59
            rw [if_pos (by omega)] at hx
            refine Ex_step (tk_M_prior rfl) ?_
            refine gMI (tk_M_prior rfl) hM ?_
            rw [o1]
            refine Ex_step (tk_M_prior rfl) ?_
            refine gMI (tk_M_prior rfl) hM ?_
            rw [o2]
            refine Ex_step (tk_M_prior rfl) ?_
            refine Ex_cS0 (av := [vI B.1, vI B.2.1, vI w]) (tk_M_prior rfl) mk_M_terms ⟨rfl, by decide, rfl, rfl, rfl, Nat.le_of_ble_eq_true rfl, Nat.le_of_ble_eq_true rfl⟩ (fun _ h => f_terms (a := B.1.toNat) (u := B.2.1.toNat) (by omega) (by omega) (by omega) (by omega) (by omega) h) ?_
            refine Ex_step (tk_M_prior rfl) ?_
            try rw [o3]
            refine Ex_step (tk_M_prior rfl) ⟨rfl, ?_⟩
            exact hx
        refine Ex_step (tk_M_prior rfl) ?_
        refine Ex_step (tk_M_prior rfl) ?_
        refine Ex_cVK (av := [vI (a : Int)]) (tk_M_prior rfl) mk_M_priors ⟨rfl, rfl, by decide, rfl, Nat.le_of_ble_eq_true rfl, Nat.le_of_ble_eq_true rfl⟩ (hM.k) (f_priors hM hN (a := a) (by omega) rfl (fun I2 r L2 k1 k2 k3 => ⟨rfl, ?_⟩))
        exact key I2 r L2 k1 k2
      refine Ex_step (tk_M_prior rfl) ?_
      refine Ex_step (tk_M_prior rfl) ?_
      refine Ex_cV0 (av := [vI 0, vI 2, vI 1]) (tk_M_prior rfl) mk_M_bad ⟨rfl, rfl, by decide, rfl, Nat.le_of_ble_eq_true rfl, Nat.le_of_ble_eq_true rfl⟩ (hM.k) (fun _ h => f_bad0 (r := 1) hM (by decide) (by decide) (up1_at _ _ _) h) ?_
      refine Ex_step (tk_M_prior rfl) ⟨fun h47 => ?_, fun h47 => ?_⟩
      · replace h47 : _ := h47
        exact hgo
      · replace h47 : _ := h47
        exact absurd rfl h47
    have h2nd : Ex (d + 6) M_prior 27 [some (vR aM), some (vI i), some (vI w)] [] (MS m (up1 I 0 0) A L) Q := by
      refine Ex_step (tk_M_prior rfl) ?_
      refine Ex_step (tk_M_prior rfl) ?_
      refine Ex_step (tk_M_prior rfl) ?_
      refine Ex_step (tk_M_prior rfl) ?_
      refine Ex_cS0 (av := [vI w, vI 0, vI 2]) (tk_M_prior rfl) mk_M_in ⟨rfl, by decide, rfl, rfl, rfl, Nat.le_of_ble_eq_true rfl, Nat.le_of_ble_eq_true rfl⟩ (fun _ h => e_in h) ?_
      refine Ex_step (tk_M_prior rfl) ⟨fun h34 => ?_, fun h34 => ?_⟩
      · try simp (disch := omega) only [cmpI, w32_b2i, b2i_0, b2i_1, w32_id, Classical.not_not, not_true_eq_false, not_false_eq_true] at h34
        refine Ex_step (tk_M_prior rfl) ?_
        first | exact hC h34 | exact hD h34
      · try simp (disch := omega) only [cmpI, w32_b2i, b2i_0, b2i_1, w32_id, Classical.not_not, not_true_eq_false, not_false_eq_true] at h34
        refine Ex_step (tk_M_prior rfl) ?_
        refine Ex_step (tk_M_prior rfl) ?_
        first | exact hC h34 | exact hD h34
    refine Ex_step (tk_M_prior rfl) ?_
    refine Ex_step (tk_M_prior rfl) ?_
    refine Ex_cV0 (av := [vI 0, vI 1, vI 0]) (tk_M_prior rfl) mk_M_bad ⟨rfl, rfl, by decide, rfl, Nat.le_of_ble_eq_true rfl, Nat.le_of_ble_eq_true rfl⟩ (hM.k) (fun _ h => f_bad0 (r := 0) hM (by decide) (by decide) (up1_at _ _ _) h) ?_
    refine Ex_step (tk_M_prior rfl) ⟨fun h24 => ?_, fun h24 => ?_⟩
    · replace h24 : _ := h24
      exact absurd rfl h24
    · replace h24 : _ := h24
      exact h2nd
  refine Ex_step (tk_M_prior rfl) ?_
  refine Ex_step (tk_M_prior rfl) ?_
  refine pMI (tk_M_prior rfl) hM ?_
  refine Ex_step (tk_M_prior rfl) ?_
  refine Ex_step (tk_M_prior rfl) ?_
  refine Ex_step (tk_M_prior rfl) ?_
  refine Ex_cV0 (av := [vI i]) (tk_M_prior rfl) mk_M_isDesign ⟨rfl, rfl, by decide, rfl, Nat.le_of_ble_eq_true rfl, Nat.le_of_ble_eq_true rfl⟩ (hM.k) (fun _ h => f_isDesign hM hN hi h) ?_
  refine Ex_step (tk_M_prior rfl) ⟨fun h11 => ?_, fun h11 => ?_⟩
  · try simp (disch := omega) only [cmpI, w32_b2i, b2i_0, b2i_1, w32_id, Classical.not_not, not_true_eq_false, not_false_eq_true] at h11
    refine Ex_step (tk_M_prior rfl) ?_
    first | exact hA h11 | exact hB h11
  · try simp (disch := omega) only [cmpI, w32_b2i, b2i_0, b2i_1, w32_id, Classical.not_not, not_true_eq_false, not_false_eq_true] at h11
    refine Ex_step (tk_M_prior rfl) ?_
    refine Ex_step (tk_M_prior rfl) ?_
    first | exact hA h11 | exact hB h11
set_option maxRecDepth 100000 in
theorem f_infringes {ru : Option (List Tok)} (hM : MW m) (hN : NowW (A 3) nn) (hR : RulT (A 3) ru) (hi : okI i) (hj : okI j) (hb1 : ¬ ((0 ≤ i ∧ i < (nn : Int)) ∧ 0 ≤ j ∧ j < (nn : Int)) → Q 0 (some (vI 0)) (MS m (up1 (up1 I 0 0) 0 1) (refA 0 A) L)) (hb2 : (0 ≤ i ∧ i < (nn : Int)) ∧ 0 ≤ j ∧ j < (nn : Int) → ¬ (i ≠ j) → Q 0 (some (vI 0)) (MS m (up1 (up1 I 0 0) 0 2) (refA 1 A) L)) (hok : (0 ≤ i ∧ i < (nn : Int)) ∧ 0 ≤ j ∧ j < (nn : Int) → i ≠ j → ∀ (I' : Nat → Int) (A' L' : Nat → Nat → Int), KpJ (up1 I 0 0) I' → KpA A A' → Q 0 (some (vI (b2i (infB (A 3) ru nn i.toNat j.toNat = true)))) (MS m I' A' L')) : Ex (d + 6) M_infringes 0 [some (vR aM), some (vI i), some (vI j)] [] (MS m I A L) Q := by
  have hn6 := hN.1
  obtain ⟨hi1, hi2⟩ := id hi
  obtain ⟨hj1, hj2⟩ := id hj
  have hA : ¬ ((0 ≤ i ∧ i < (nn : Int)) ∧ 0 ≤ j ∧ j < (nn : Int)) → Ex (d + 6) M_infringes 27 [some (vR aM), some (vI i), some (vI j)] [vI 1, vR aM] (MS m (up1 I 0 0) A L) Q := by
    intro hq
    refine Ex_step (tk_M_infringes rfl) ?_
    refine Ex_step (tk_M_infringes rfl) ?_
    refine Ex_cV0 (av := [vI 1, vI 1, vI 0]) (tk_M_infringes rfl) mk_M_bad ⟨rfl, rfl, by decide, rfl, Nat.le_of_ble_eq_true rfl, Nat.le_of_ble_eq_true rfl⟩ (hM.k) (fun _ h => f_bad1 (r := 0) hM (by decide) (by decide) (up1_at _ _ _) h) ?_
    refine Ex_step (tk_M_infringes rfl) ⟨fun h32 => ?_, fun h32 => ?_⟩
    · replace h32 : _ := h32
      refine Ex_step (tk_M_infringes rfl) ?_
      refine Ex_step (tk_M_infringes rfl) ⟨rfl, ?_⟩
      exact hb1 hq
    · replace h32 : _ := h32
      exact absurd (show w32 1 = w32 0 from Classical.not_not.mp h32) (by decide)
  have hB : (0 ≤ i ∧ i < (nn : Int)) ∧ 0 ≤ j ∧ j < (nn : Int) → Ex (d + 6) M_infringes 27 [some (vR aM), some (vI i), some (vI j)] [vI 0, vR aM] (MS m (up1 I 0 0) A L) Q := by
    intro hq
    have hC : ¬ (i ≠ j) → Ex (d + 6) M_infringes 46 [some (vR aM), some (vI i), some (vI j)] [vI 1, vR aM] (MS m (up1 I 0 0) A L) Q := by
      intro hq2
      refine Ex_step (tk_M_infringes rfl) ?_
      refine Ex_step (tk_M_infringes rfl) ?_
      refine Ex_cV0 (av := [vI 1, vI 2, vI 1]) (tk_M_infringes rfl) mk_M_bad ⟨rfl, rfl, by decide, rfl, Nat.le_of_ble_eq_true rfl, Nat.le_of_ble_eq_true rfl⟩ (hM.k) (fun _ h => f_bad1 (r := 1) hM (by decide) (by decide) (up1_at _ _ _) h) ?_
      refine Ex_step (tk_M_infringes rfl) ⟨fun h51 => ?_, fun h51 => ?_⟩
      · replace h51 : _ := h51
        exact absurd (show w32 1 = w32 0 from h51) (by decide)
      · replace h51 : _ := h51
        refine Ex_step (tk_M_infringes rfl) ?_
        refine Ex_step (tk_M_infringes rfl) ⟨rfl, ?_⟩
        exact hb2 hq hq2
    have hD : i ≠ j → Ex (d + 6) M_infringes 46 [some (vR aM), some (vI i), some (vI j)] [vI 0, vR aM] (MS m (up1 I 0 0) A L) Q := by
      intro hq2
      have h := hok hq hq2
      obtain ⟨a, rfl⟩ : ∃ a : Nat, i = (a : Int) := ⟨i.toNat, by omega⟩
      obtain ⟨b, rfl⟩ : ∃ b : Nat, j = (b : Int) := ⟨j.toNat, by omega⟩
      have h : ∀ (I' : Nat → Int) (A' L' : Nat → Nat → Int), KpJ (up1 I 0 0) I' → KpA A A' → Q 0 (some (vI (b2i (infB (A 3) ru nn a b = true)))) (MS m I' A' L') := h
      have hgo : Ex (d + 6) M_infringes 56 [some (vR aM), some (vI (a : Int)), some (vI (b : Int))] [] (MS m (up1 I 0 0) A L) Q := by
        refine Ex_step (tk_M_infringes rfl) ?_
        refine Ex_step (tk_M_infringes rfl) ?_
        refine Ex_cVK (av := [vI (a : Int)]) (tk_M_infringes rfl) mk_M_priors ⟨rfl, rfl, by decide, rfl, Nat.le_of_ble_eq_true rfl, Nat.le_of_ble_eq_true rfl⟩ (hM.k) (f_priors hM hN (a := a) (by omega) rfl (fun I2 r L2 k1 k2 k3 => ⟨rfl, ?_⟩))
        refine Ex_step (tk_M_infringes rfl) ?_
        refine Ex_step (tk_M_infringes rfl) ?_
        refine Ex_step (tk_M_infringes rfl) ?_
        refine Ex_cVK (av := [vI (a : Int), vI (b : Int)]) (tk_M_infringes rfl) mk_M_doesInfringe ⟨rfl, rfl, by decide, rfl, Nat.le_of_ble_eq_true rfl, Nat.le_of_ble_eq_true rfl⟩ (hM.k) (f_infr (A := up1 A 14 r) (ru := ru) (a := a) (b := b) hM hN hR (by omega) (by omega) rfl rfl k2 (fun I3 r2 L3 k4 => ⟨rfl, ?_⟩))
        rw [up1_same]
        have hx := h I3 (up1 A 14 r2) L3 (k1.tr k4.j) (KpA.up A (by decide) r2)
        refine Ex_step (tk_M_infringes rfl) ⟨fun h67 => ?_, fun h67 => ?_⟩
        · try simp (disch := omega) only [cmpI, w32_b2i, b2i_0, b2i_1, w32_id, Classical.not_not, not_true_eq_false, not_false_eq_true] at h67
          rw [b2i_f (show ¬ infB (A 3) ru nn a b = true from h67)] at hx
          refine Ex_step (tk_M_infringes rfl) ?_
          refine Ex_step (tk_M_infringes rfl) ⟨rfl, ?_⟩
          exact hx
        · try simp (disch := omega) only [cmpI, w32_b2i, b2i_0, b2i_1, w32_id, Classical.not_not, not_true_eq_false, not_false_eq_true] at h67
          rw [b2i_t (show infB (A 3) ru nn a b = true from h67)] at hx
          refine Ex_step (tk_M_infringes rfl) ?_
          refine Ex_step (tk_M_infringes rfl) ?_
          refine Ex_step (tk_M_infringes rfl) ⟨rfl, ?_⟩
          exact hx
      refine Ex_step (tk_M_infringes rfl) ?_
      refine Ex_step (tk_M_infringes rfl) ?_
      refine Ex_cV0 (av := [vI 0, vI 2, vI 1]) (tk_M_infringes rfl) mk_M_bad ⟨rfl, rfl, by decide, rfl, Nat.le_of_ble_eq_true rfl, Nat.le_of_ble_eq_true rfl⟩ (hM.k) (fun _ h => f_bad0 (r := 1) hM (by decide) (by decide) (up1_at _ _ _) h) ?_
      refine Ex_step (tk_M_infringes rfl) ⟨fun h51 => ?_, fun h51 => ?_⟩
      · replace h51 : _ := h51
        exact hgo
      · replace h51 : _ := h51
        exact absurd rfl h51
    have h2nd : Ex (d + 6) M_infringes 35 [some (vR aM), some (vI i), some (vI j)] [] (MS m (up1 I 0 0) A L) Q := by
      refine Ex_step (tk_M_infringes rfl) ?_
      refine Ex_step (tk_M_infringes rfl) ?_
      refine Ex_step (tk_M_infringes rfl) ?_
      refine Ex_step (tk_M_infringes rfl) ⟨fun h38 => ?_, fun h38 => ?_⟩
      · try simp (disch := omega) only [cmpI, w32_b2i, b2i_0, b2i_1, w32_id, Classical.not_not, not_true_eq_false, not_false_eq_true] at h38
        have hx := hD h38
        refine Ex_step (tk_M_infringes rfl) ?_
        exact hx
      · try simp (disch := omega) only [cmpI, w32_b2i, b2i_0, b2i_1, w32_id, Classical.not_not, not_true_eq_false, not_false_eq_true] at h38
        have hx := hC (fun z => z h38)
        refine Ex_step (tk_M_infringes rfl) ?_
        refine Ex_step (tk_M_infringes rfl) ?_
        exact hx
    refine Ex_step (tk_M_infringes rfl) ?_
    refine Ex_step (tk_M_infringes rfl) ?_
    refine Ex_cV0 (av := [vI 0, vI 1, vI 0]) (tk_M_infringes rfl) mk_M_bad ⟨rfl, rfl, by decide, rfl, Nat.le_of_ble_eq_true rfl, Nat.le_of_ble_eq_true rfl⟩ (hM.k) (fun _ h => f_bad0 (r := 0) hM (by decide) (by decide) (up1_at _ _ _) h) ?_
    refine Ex_step (tk_M_infringes rfl) ⟨fun h32 => ?_, fun h32 => ?_⟩
    · replace h32 : _ := h32
      exact absurd rfl h32
    · replace h32 : _ := h32
      exact h2nd
  refine Ex_step (tk_M_infringes rfl) ?_
  refine Ex_step (tk_M_infringes rfl) ?_
  refine pMI (tk_M_infringes rfl) hM ?_
  refine Ex_step (tk_M_infringes rfl) ?_
  refine Ex_step (tk_M_infringes rfl) ?_
  refine Ex_step (tk_M_infringes rfl) ?_
  refine Ex_cV0 (av := [vI i]) (tk_M_infringes rfl) mk_M_isDesign ⟨rfl, rfl, by decide, rfl, Nat.le_of_ble_eq_true rfl, Nat.le_of_ble_eq_true rfl⟩ (hM.k) (fun _ h => f_isDesign hM hN hi h) ?_
  refine Ex_step (tk_M_infringes rfl) ⟨fun h11 => ?_, fun h11 => ?_⟩
  · try simp (disch := omega) only [cmpI, w32_b2i, b2i_0, b2i_1, w32_id, Classical.not_not, not_true_eq_false, not_false_eq_true] at h11
    have hx := hA (fun z => by first | exact h11 z.1 | exact h19 z.2)
    refine Ex_step (tk_M_infringes rfl) ?_
    refine Ex_step (tk_M_infringes rfl) ?_
    exact hx
  · try simp (disch := omega) only [cmpI, w32_b2i, b2i_0, b2i_1, w32_id, Classical.not_not, not_true_eq_false, not_false_eq_true] at h11
    refine Ex_step (tk_M_infringes rfl) ?_
    refine Ex_step (tk_M_infringes rfl) ?_
    refine Ex_cV0 (av := [vI j]) (tk_M_infringes rfl) mk_M_isDesign ⟨rfl, rfl, by decide, rfl, Nat.le_of_ble_eq_true rfl, Nat.le_of_ble_eq_true rfl⟩ (hM.k) (fun _ h => f_isDesign hM hN hj h) ?_
    refine Ex_step (tk_M_infringes rfl) ⟨fun h19 => ?_, fun h19 => ?_⟩
    · try simp (disch := omega) only [cmpI, w32_b2i, b2i_0, b2i_1, w32_id, Classical.not_not, not_true_eq_false, not_false_eq_true] at h19
      have hx := hB ⟨h11, h19⟩
      refine Ex_step (tk_M_infringes rfl) ?_
      exact hx
    · try simp (disch := omega) only [cmpI, w32_b2i, b2i_0, b2i_1, w32_id, Classical.not_not, not_true_eq_false, not_false_eq_true] at h19
      have hx := hA (fun z => by first | exact h11 z.1 | exact h19 z.2)
      refine Ex_step (tk_M_infringes rfl) ?_
      refine Ex_step (tk_M_infringes rfl) ?_
      exact hx
end MQue
