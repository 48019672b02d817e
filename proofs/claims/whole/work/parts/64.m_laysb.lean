/-! ===== the reference lays the second design out in bits ===== -/
section MLaysB
variable {d b t : Nat} {i : Int} {m : Mem} {I : Nat → Int} {A L : Nat → Nat → Int} {Q : Nat → Option AV → Mem → Prop}
set_option maxRecDepth 100000 in
theorem tsr_wh {T : Nat → Int} {b t : Nat} {X Y : Int} (h : tsr T b t X Y ≠ 0) : (0 ≤ X ∧ X < tW (T (bD b + 1)) (T (bD b + 2)) t) ∧ 0 ≤ Y ∧ Y < tH (T (bD b + 1)) (T (bD b + 2)) t := by
  have q := srt_in h
  exact t_in0 (w := T (bD b + 1)) (h := T (bD b + 2)) t (X := X) (Y := Y) ⟨q.1.1, by have := q.1.2; omega⟩ ⟨q.2.1, by have := q.2.2; omega⟩
set_option maxRecDepth 100000 in
theorem f_layBc (hM : MW m) (hW : DsW (A 3) b) {y k : Nat} (hy : y < 10) (hk : k < 10) (hv : A 14 (10 * y + k) = tsr (A 3) b t (k : Int) (y : Int)) {D E : Nat → Int} {l1 l4 : Option AV} (hD : BitK D (pDk (A 3) b t) y k) (hE : BitK E (pDo (A 3) b t) y k) (h : ∀ (D E : Nat → Int) (l4 : Option AV), BitK D (pDk (A 3) b t) y (k + 1) → BitK E (pDo (A 3) b t) y (k + 1) → Ex (d + 2) M_laysB 120 [some (vR aM), l1, some (vI i), some (vI (y : Int)), some (vI (k : Int)), l4] [] (MS m I A (F2 17 18 L D E)) Q) : Ex (d + 2) M_laysB 48 [some (vR aM), l1, some (vI i), some (vI (y : Int)), some (vI (k : Int)), l4] [] (MS m I A (F2 17 18 L D E)) Q := by
  have hsr := tsr_r t hW (k : Int) (y : Int)
  have h118 : ∀ (v : Int) (D' : Nat → Int), BitK D' (pDk (A 3) b t) y (k + 1) → BitK (up1 E y (lOr (E y) v)) (pDo (A 3) b t) y (k + 1) → Ex (d + 2) M_laysB 118 [some (vR aM), l1, some (vI i), some (vI (y : Int)), some (vI (k : Int)), some (vI (tsr (A 3) b t (k : Int) (y : Int)))] [vL v, vL (E y), vI (y : Int), vR 380] (MS m I A (F2 17 18 L D' E)) Q := by
    intro v D' q1 q2
    refine Ex_step (tk_M_laysB rfl) ?_
    refine tML (j := 18) (n := y) (tk_M_laysB rfl) (by decide) hM.k18 hM.n18 (w32_id (by omega) (by omega)) (by omega) ?_
    rw [F2_b (by decide), F2_wb (by decide)]
    exact h _ _ _ q1 q2
  have h92 : ∀ (v : Int), BitK (up1 D y (lOr (D y) v)) (pDk (A 3) b t) y (k + 1) → Ex (d + 2) M_laysB 92 [some (vR aM), l1, some (vI i), some (vI (y : Int)), some (vI (k : Int)), some (vI (tsr (A 3) b t (k : Int) (y : Int)))] [vL v, vL (D y), vI (y : Int), vR 379] (MS m I A (F2 17 18 L D E)) Q := by
    intro v q1
    have q3 : pDo (A 3) b t (k : Int) (y : Int) → BitK (up1 E y (lOr (E y) (lShl 1 (24 + (k : Int))))) (pDo (A 3) b t) y (k + 1) := fun q => BitK_t (by omega) hE q
    have q4 : ¬ pDo (A 3) b t (k : Int) (y : Int) → BitK (up1 E y (lOr (E y) 0)) (pDo (A 3) b t) y (k + 1) := fun q => BitK_f hE q
    refine Ex_step (tk_M_laysB rfl) ?_
    refine tML (j := 17) (n := y) (tk_M_laysB rfl) (by decide) hM.k17 hM.n17 (w32_id (by omega) (by omega)) (by omega) ?_
    rw [F2_a, F2_wa]
    refine Ex_step (tk_M_laysB rfl) ?_
    refine gMR (tk_M_laysB rfl) hM hM.r21 ?_
    refine Ex_step (tk_M_laysB rfl) ?_
    refine Ex_step (tk_M_laysB rfl) ?_
    refine lML (j := 18) (n := y) (tk_M_laysB rfl) (by decide) hM.k18 hM.n18 (w32_id (by omega) (by omega)) (by omega) ?_
    rw [F2_b (by decide)]
    refine Ex_step (tk_M_laysB rfl) ?_
    refine Ex_step (tk_M_laysB rfl) ?_
    refine Ex_step (tk_M_laysB rfl) ⟨fun h104 => ?_, fun h104 => ?_⟩
    · try simp (disch := omega) only [cmpI, w32_b2i, b2i_0, b2i_1, w32_id, Classical.not_not, not_true_eq_false, not_false_eq_true] at h104
      have hx := h118 0 _ q1 (q4 (by omega))
      refine Ex_step (tk_M_laysB rfl) ?_
      exact hx
    · try simp (disch := omega) only [cmpI, w32_b2i, b2i_0, b2i_1, w32_id, Classical.not_not, not_true_eq_false, not_false_eq_true] at h104
      have hx := h118 (lShl 1 (24 + (k : Int))) _ q1 (q3 (by omega))
      refine Ex_step (tk_M_laysB rfl) ?_
      refine Ex_step (tk_M_laysB rfl) ?_
      refine Ex_step (tk_M_laysB rfl) ?_
      refine Ex_step (tk_M_laysB rfl) ?_
      refine Ex_step (tk_M_laysB rfl) ?_
      refine Ex_step (tk_M_laysB rfl) ?_
      exact hx
  refine Ex_step (tk_M_laysB rfl) ?_
  refine gMR (tk_M_laysB rfl) hM hM.r17 ?_
  refine Ex_step (tk_M_laysB rfl) ?_
  refine Ex_step (tk_M_laysB rfl) ?_
  refine Ex_step (tk_M_laysB rfl) ?_
  refine Ex_step (tk_M_laysB rfl) ?_
  refine Ex_step (tk_M_laysB rfl) ?_
  refine lMI (j := 14) (n := 10 * y + k) (tk_M_laysB rfl) (by decide) hM.k14 hM.n14 (by rw [w32_id (by omega) (by omega)]; omega) (by omega) ?_
  rw [hv]
  refine Ex_step (tk_M_laysB rfl) ?_
  refine Ex_step (tk_M_laysB rfl) ?_
  refine gMR (tk_M_laysB rfl) hM hM.r20 ?_
  refine Ex_step (tk_M_laysB rfl) ?_
  refine Ex_step (tk_M_laysB rfl) ?_
  refine lML (j := 17) (n := y) (tk_M_laysB rfl) (by decide) hM.k17 hM.n17 (w32_id (by omega) (by omega)) (by omega) ?_
  rw [F2_a]
  refine Ex_step (tk_M_laysB rfl) ?_
  refine Ex_step (tk_M_laysB rfl) ?_
  refine Ex_step (tk_M_laysB rfl) ⟨fun h72 => ?_, fun h72 => ?_⟩
  · try simp (disch := omega) only [cmpI, w32_b2i, b2i_0, b2i_1, w32_id, Classical.not_not, not_true_eq_false, not_false_eq_true] at h72
    have hx := h92 (lShl 1 (24 + (k : Int))) (BitK_t (by omega) hD (by omega))
    refine Ex_step (tk_M_laysB rfl) ?_
    refine Ex_step (tk_M_laysB rfl) ?_
    refine Ex_step (tk_M_laysB rfl) ?_
    refine Ex_step (tk_M_laysB rfl) ?_
    refine Ex_step (tk_M_laysB rfl) ?_
    refine Ex_step (tk_M_laysB rfl) ?_
    exact hx
  · try simp (disch := omega) only [cmpI, w32_b2i, b2i_0, b2i_1, w32_id, Classical.not_not, not_true_eq_false, not_false_eq_true] at h72
    refine Ex_step (tk_M_laysB rfl) ?_
    refine Ex_step (tk_M_laysB rfl) ?_
    refine Ex_step (tk_M_laysB rfl) ⟨fun h78 => ?_, fun h78 => ?_⟩
    · try simp (disch := omega) only [cmpI, w32_b2i, b2i_0, b2i_1, w32_id, Classical.not_not, not_true_eq_false, not_false_eq_true] at h78
      have hx := h92 0 (BitK_f hD (by omega))
      refine Ex_step (tk_M_laysB rfl) ?_
      exact hx
    · try simp (disch := omega) only [cmpI, w32_b2i, b2i_0, b2i_1, w32_id, Classical.not_not, not_true_eq_false, not_false_eq_true] at h78
      have hx := h92 (lShl 1 (24 + (k : Int))) (BitK_t (by omega) hD (by omega))
      refine Ex_step (tk_M_laysB rfl) ?_
      refine Ex_step (tk_M_laysB rfl) ?_
      refine Ex_step (tk_M_laysB rfl) ?_
      refine Ex_step (tk_M_laysB rfl) ?_
      refine Ex_step (tk_M_laysB rfl) ?_
      refine Ex_step (tk_M_laysB rfl) ?_
      exact hx
set_option maxRecDepth 100000 in
theorem f_laysB2 (hM : MW m) (hW : DsW (A 3) b) (h15 : I 15 = tW (A 3 (bD b + 1)) (A 3 (bD b + 2)) t) (h16 : I 16 = tH (A 3 (bD b + 1)) (A 3 (bD b + 2)) t) (hT : ∀ X Y : Int, 0 ≤ X → X < tW (A 3 (bD b + 1)) (A 3 (bD b + 2)) t → 0 ≤ Y → Y < tH (A 3 (bD b + 1)) (A 3 (bD b + 2)) t → A 14 (10 * Y + X).toNat = tsr (A 3) b t X Y) {l1 : Option AV} (h : ∀ D E : Nat → Int, BitR D (pDk (A 3) b t) → BitR E (pDo (A 3) b t) → Q 0 none (MS m I A (F2 17 18 L D E))) : Ex (d + 2) M_laysB 6 [some (vR aM), l1, some (vI i), none, none, none] [] (MS m I A L) Q := by
  have hwh := tWH t hW.2.1 hW.2.2.1
  have s1 : ∀ x z : Int, pDk (A 3) b t x z → 0 ≤ x := fun x z q => (tsr_wh (show tsr (A 3) b t x z ≠ 0 by omega)).1.1
  have s2 : ∀ x z : Int, pDo (A 3) b t x z → 0 ≤ x := fun x z q => (tsr_wh (show tsr (A 3) b t x z ≠ 0 by omega)).1.1
  have g1 : ∀ x z : Int, tsr (A 3) b t x z ≠ 0 → x < I 15 ∧ z < I 16 := fun x z q => by have := tsr_wh q; omega
  rw [← h15, ← h16] at hT hwh
  have hrow : ∀ (y : Nat), y < 10 → (∀ (D E : Nat → Int) (l3 l4 : Option AV), (∀ y2 : Nat, y2 < y + 1 → ∀ i : Nat, i < 64 → lb (D y2) i = decide (pDk (A 3) b t (-24 + (i : Int)) (y2 : Int))) → (∀ y2 : Nat, y2 < y + 1 → ∀ i : Nat, i < 64 → lb (E y2) i = decide (pDo (A 3) b t (-24 + (i : Int)) (y2 : Int))) → Ex (d + 2) M_laysB 126 [some (vR aM), l1, some (vI i), some (vI (y : Int)), l3, l4] [] (MS m I A (F2 17 18 L D E)) Q) → ∀ (r k : Nat) (D E : Nat → Int) (l4 : Option AV), (k : Int) + (r : Int) = I 15 → BitK D (pDk (A 3) b t) y k → BitK E (pDo (A 3) b t) y k → Ex (d + 2) M_laysB 31 [some (vR aM), l1, some (vI i), some (vI (y : Int)), some (vI (k : Int)), l4] [] (MS m I A (F2 17 18 L D E)) Q := by
    intro y hy h2 r
    induction r with
    | zero =>
      intro k D E l4 hk hD hE
      have e1 := BitK_e hD (fun x q => by have := g1 x (y : Int) (show tsr (A 3) b t x (y : Int) ≠ 0 by omega); omega)
      have e2 := BitK_e hE (fun x q => by have := g1 x (y : Int) (show tsr (A 3) b t x (y : Int) ≠ 0 by omega); omega)
      refine Ex_step (tk_M_laysB rfl) ?_
      refine Ex_step (tk_M_laysB rfl) ?_
      refine gMI (tk_M_laysB rfl) hM ?_
      refine Ex_step (tk_M_laysB rfl) ⟨fun h37 => ?_, fun h37 => ?_⟩
      · try simp (disch := omega) only [cmpI, w32_b2i, b2i_0, b2i_1, w32_id, Classical.not_not, not_true_eq_false, not_false_eq_true] at h37
        exact h2 D E _ _ e1 e2
      · try simp (disch := omega) only [cmpI, w32_b2i, b2i_0, b2i_1, w32_id, Classical.not_not, not_true_eq_false, not_false_eq_true] at h37
        omega
    | succ r ih =>
      intro k D E l4 hk hD hE
      have hsr := tsr_r t hW (k : Int) (y : Int)
      by_cases hyh : (y : Int) < I 16
      · have hv : A 14 (10 * y + k) = tsr (A 3) b t (k : Int) (y : Int) := by
          have := hT (k : Int) (y : Int) (by omega) (by omega) (by omega) hyh
          rwa [show (10 * (y : Int) + (k : Int)).toNat = 10 * y + k by omega] at this
        have h120 : ∀ (D E : Nat → Int) (l4 : Option AV), BitK D (pDk (A 3) b t) y (k + 1) → BitK E (pDo (A 3) b t) y (k + 1) → Ex (d + 2) M_laysB 120 [some (vR aM), l1, some (vI i), some (vI (y : Int)), some (vI (k : Int)), l4] [] (MS m I A (F2 17 18 L D E)) Q := by
          intro D E l4 q1 q2
          refine Ex_step (tk_M_laysB rfl) ?_
          refine Ex_step (tk_M_laysB rfl) ?_
          exact ih (k + 1) D E _ (by omega) q1 q2
        refine Ex_step (tk_M_laysB rfl) ?_
        refine Ex_step (tk_M_laysB rfl) ?_
        refine gMI (tk_M_laysB rfl) hM ?_
        refine Ex_step (tk_M_laysB rfl) ⟨fun h37 => ?_, fun h37 => ?_⟩
        · try simp (disch := omega) only [cmpI, w32_b2i, b2i_0, b2i_1, w32_id, Classical.not_not, not_true_eq_false, not_false_eq_true] at h37
          omega
        · try simp (disch := omega) only [cmpI, w32_b2i, b2i_0, b2i_1, w32_id, Classical.not_not, not_true_eq_false, not_false_eq_true] at h37
          refine Ex_step (tk_M_laysB rfl) ?_
          refine Ex_step (tk_M_laysB rfl) ?_
          refine gMI (tk_M_laysB rfl) hM ?_
          refine Ex_step (tk_M_laysB rfl) ⟨fun h45 => ?_, fun h45 => ?_⟩
          · try simp (disch := omega) only [cmpI, w32_b2i, b2i_0, b2i_1, w32_id, Classical.not_not, not_true_eq_false, not_false_eq_true] at h45
            omega
          · try simp (disch := omega) only [cmpI, w32_b2i, b2i_0, b2i_1, w32_id, Classical.not_not, not_true_eq_false, not_false_eq_true] at h45
            exact f_layBc hM hW hy (by omega) hv hD hE h120
      · have e1 := BitK_e hD (fun x q => by have := g1 x (y : Int) (show tsr (A 3) b t x (y : Int) ≠ 0 by omega); omega)
        have e2 := BitK_e hE (fun x q => by have := g1 x (y : Int) (show tsr (A 3) b t x (y : Int) ≠ 0 by omega); omega)
        refine Ex_step (tk_M_laysB rfl) ?_
        refine Ex_step (tk_M_laysB rfl) ?_
        refine gMI (tk_M_laysB rfl) hM ?_
        refine Ex_step (tk_M_laysB rfl) ⟨fun h37 => ?_, fun h37 => ?_⟩
        · try simp (disch := omega) only [cmpI, w32_b2i, b2i_0, b2i_1, w32_id, Classical.not_not, not_true_eq_false, not_false_eq_true] at h37
          exact h2 D E _ _ e1 e2
        · try simp (disch := omega) only [cmpI, w32_b2i, b2i_0, b2i_1, w32_id, Classical.not_not, not_true_eq_false, not_false_eq_true] at h37
          refine Ex_step (tk_M_laysB rfl) ?_
          refine Ex_step (tk_M_laysB rfl) ?_
          refine gMI (tk_M_laysB rfl) hM ?_
          refine Ex_step (tk_M_laysB rfl) ⟨fun h45 => ?_, fun h45 => ?_⟩
          · try simp (disch := omega) only [cmpI, w32_b2i, b2i_0, b2i_1, w32_id, Classical.not_not, not_true_eq_false, not_false_eq_true] at h45
            exact h2 D E _ _ e1 e2
          · try simp (disch := omega) only [cmpI, w32_b2i, b2i_0, b2i_1, w32_id, Classical.not_not, not_true_eq_false, not_false_eq_true] at h45
            omega
  have hall : ∀ (r y : Nat) (D E : Nat → Int) (l3 l4 : Option AV), y + r = 10 → (∀ y2 : Nat, y2 < y → ∀ i : Nat, i < 64 → lb (D y2) i = decide (pDk (A 3) b t (-24 + (i : Int)) (y2 : Int))) → (∀ y2 : Nat, y2 < y → ∀ i : Nat, i < 64 → lb (E y2) i = decide (pDo (A 3) b t (-24 + (i : Int)) (y2 : Int))) → Ex (d + 2) M_laysB 8 [some (vR aM), l1, some (vI i), some (vI (y : Int)), l3, l4] [] (MS m I A (F2 17 18 L D E)) Q := by
    intro r
    induction r with
    | zero =>
      intro y D E l3 l4 hy hD hE
      have : y = 10 := by omega
      subst this
      refine Ex_step (tk_M_laysB rfl) ?_
      refine Ex_step (tk_M_laysB rfl) ?_
      refine Ex_step (tk_M_laysB rfl) ⟨fun h11 => ?_, fun h11 => ?_⟩
      · try simp (disch := omega) only [cmpI, w32_b2i, b2i_0, b2i_1, w32_id, Classical.not_not, not_true_eq_false, not_false_eq_true] at h11
        refine Ex_step (tk_M_laysB rfl) ⟨rfl, ?_⟩
        exact h D E hD hE
      · try simp (disch := omega) only [cmpI, w32_b2i, b2i_0, b2i_1, w32_id, Classical.not_not, not_true_eq_false, not_false_eq_true] at h11
        omega
    | succ r ih =>
      intro y D E l3 l4 hy hD hE
      have h126 : ∀ (D E : Nat → Int) (l3 l4 : Option AV), (∀ y2 : Nat, y2 < y + 1 → ∀ i : Nat, i < 64 → lb (D y2) i = decide (pDk (A 3) b t (-24 + (i : Int)) (y2 : Int))) → (∀ y2 : Nat, y2 < y + 1 → ∀ i : Nat, i < 64 → lb (E y2) i = decide (pDo (A 3) b t (-24 + (i : Int)) (y2 : Int))) → Ex (d + 2) M_laysB 126 [some (vR aM), l1, some (vI i), some (vI (y : Int)), l3, l4] [] (MS m I A (F2 17 18 L D E)) Q := by
        intro D E l3 l4 q1 q2
        refine Ex_step (tk_M_laysB rfl) ?_
        refine Ex_step (tk_M_laysB rfl) ?_
        exact ih (y + 1) D E _ _ (by omega) q1 q2
      obtain ⟨w, hwe⟩ : ∃ w : Nat, (w : Int) = I 15 := ⟨(I 15).toNat, by omega⟩
      have h31 := hrow y (by omega) h126 w 0 (up1 D y 0) (up1 E y 0) l4 (by omega) (BitK_0 hD s1) (BitK_0 hE s2)
      refine Ex_step (tk_M_laysB rfl) ?_
      refine Ex_step (tk_M_laysB rfl) ?_
      refine Ex_step (tk_M_laysB rfl) ⟨fun h11 => ?_, fun h11 => ?_⟩
      · try simp (disch := omega) only [cmpI, w32_b2i, b2i_0, b2i_1, w32_id, Classical.not_not, not_true_eq_false, not_false_eq_true] at h11
        omega
      · try simp (disch := omega) only [cmpI, w32_b2i, b2i_0, b2i_1, w32_id, Classical.not_not, not_true_eq_false, not_false_eq_true] at h11
        refine Ex_step (tk_M_laysB rfl) ?_
        refine gMR (tk_M_laysB rfl) hM hM.r20 ?_
        refine Ex_step (tk_M_laysB rfl) ?_
        refine Ex_step (tk_M_laysB rfl) ?_
        refine tML (j := 17) (n := y) (tk_M_laysB rfl) (by decide) hM.k17 hM.n17 (w32_id (by omega) (by omega)) (by omega) ?_
        rw [F2_a, F2_wa]
        refine Ex_step (tk_M_laysB rfl) ?_
        refine gMR (tk_M_laysB rfl) hM hM.r21 ?_
        refine Ex_step (tk_M_laysB rfl) ?_
        refine Ex_step (tk_M_laysB rfl) ?_
        refine tML (j := 18) (n := y) (tk_M_laysB rfl) (by decide) hM.k18 hM.n18 (w32_id (by omega) (by omega)) (by omega) ?_
        rw [F2_b (by decide), F2_wb (by decide)]
        refine Ex_step (tk_M_laysB rfl) ?_
        refine Ex_step (tk_M_laysB rfl) ?_
        exact h31
  have h2 := hall 10 0 (L 17) (L 18) none none (by omega) (fun y2 q => absurd q (Nat.not_lt_zero y2)) (fun y2 q => absurd q (Nat.not_lt_zero y2))
  rw [F2_start (by decide)] at h2
  refine Ex_step (tk_M_laysB rfl) ?_
  refine Ex_step (tk_M_laysB rfl) ?_
  exact h2
set_option maxRecDepth 100000 in
theorem f_laysB (hM : MW m) (hd : b ≤ 5) (hi : i = (b : Int)) (hW : DsW (A 3) b) (ht : t ≤ 7) (h : ∀ r D E : Nat → Int, BitR D (pDk (A 3) b t) → BitR E (pDo (A 3) b t) → Q 0 none (MS m (F2 15 16 I (tW (A 3 (bD b + 1)) (A 3 (bD b + 2)) t) (tH (A 3 (bD b + 1)) (A 3 (bD b + 2)) t)) (up1 A 14 r) (F2 17 18 L D E))) : Ex (d + 3) M_laysB 0 [some (vR aM), some (vI i), some (vI (t : Int)), none, none, none] [] (MS m I A L) Q := by
  refine Ex_step (tk_M_laysB rfl) ?_
  refine Ex_step (tk_M_laysB rfl) ?_
  refine Ex_step (tk_M_laysB rfl) ?_
  refine Ex_cVK (av := [vI i, vI (t : Int)]) (tk_M_laysB rfl) mk_M_turns ⟨rfl, rfl, by decide, rfl, Nat.le_of_ble_eq_true rfl, Nat.le_of_ble_eq_true rfl⟩ (hM.k) (f_turns hM hd hi hW ht (fun r hr => ⟨rfl, ?_⟩))
  exact f_laysB2 (A := up1 A 14 r) hM hW (F2_a _ _ _ _ _) (F2_b (by decide) _ _ _) (fun X Y a1 a2 a3 a4 => by rw [up1_at]; exact hr X Y a1 a2 a3 a4) (fun D E q1 q2 => h r D E q1 q2)
end MLaysB
