/-! ===== the reference turns a design ===== -/
set_option maxRecDepth 100000 in
theorem tXf_c (w h : Int) (t : Nat) (x y : Int) : (t % 4 = 0 ∧ tXf w h t x y = mirX w t x) ∨ (t % 4 = 1 ∧ tXf w h t x y = h - 1 - y) ∨ (t % 4 = 2 ∧ tXf w h t x y = w - 1 - mirX w t x) ∨ (t % 4 = 3 ∧ tXf w h t x y = y) := by
  rcases (show t % 4 = 0 ∨ t % 4 = 1 ∨ t % 4 = 2 ∨ t % 4 = 3 by omega) with q | q | q | q <;> simp [tXf, q]
set_option maxRecDepth 100000 in
theorem tYf_c (w h : Int) (t : Nat) (x y : Int) : (t % 4 = 0 ∧ tYf w h t x y = y) ∨ (t % 4 = 1 ∧ tYf w h t x y = mirX w t x) ∨ (t % 4 = 2 ∧ tYf w h t x y = h - 1 - y) ∨ (t % 4 = 3 ∧ tYf w h t x y = w - 1 - mirX w t x) := by
  rcases (show t % 4 = 0 ∨ t % 4 = 1 ∨ t % 4 = 2 ∨ t % 4 = 3 by omega) with q | q | q | q <;> simp [tYf, q]
set_option maxRecDepth 100000 in
theorem mirX_c (w : Int) (t : Nat) (x : Int) : (t ≤ 3 ∧ mirX w t x = x) ∨ (¬ t ≤ 3 ∧ mirX w t x = w - 1 - x) := by
  unfold mirX
  by_cases q : t ≤ 3
  · rw [if_pos q]; exact Or.inl ⟨q, rfl⟩
  · rw [if_neg q]; exact Or.inr ⟨q, rfl⟩
set_option maxRecDepth 100000 in
theorem tW_c (w h : Int) (t : Nat) : (t % 2 = 0 ∧ tW w h t = w ∧ tH w h t = h) ∨ (t % 2 = 1 ∧ tW w h t = h ∧ tH w h t = w) := by
  rcases (show t % 2 = 0 ∨ t % 2 = 1 by omega) with q | q <;> simp [tW, tH, q]
section MTurns
variable {d b t : Nat} {i : Int} {m : Mem} {I : Nat → Int} {A L : Nat → Nat → Int} {Q : Nat → Option AV → Mem → Prop}
set_option maxRecDepth 100000 in
theorem f_turnC (hM : MW m) (hd : b ≤ 5) (hi : i = (b : Int)) (hW : DsW (A 3) b) (ht : t ≤ 7) {x z : Int} (hx : 0 ≤ x ∧ x < A 3 (bD b + 1)) (hz : 0 ≤ z ∧ z < A 3 (bD b + 2)) {rr : Nat → Int} {l8 l9 l10 : Option AV} (h : ∀ l8 l9 l10 : Option AV, Ex (d + 2) M_turns 201 [some (vR aM), some (vI i), some (vI (t : Int)), some (vI (A 3 (bD b + 1))), some (vI (A 3 (bD b + 2))), some (vI ((t % 4 : Nat) : Int)), some (vI z), some (vI x), l8, l9, l10] [] (MS m I (up1 A 14 (up1 rr (10 * tYf (A 3 (bD b + 1)) (A 3 (bD b + 2)) t x z + tXf (A 3 (bD b + 1)) (A 3 (bD b + 2)) t x z).toNat (srt (A 3) b x z))) L) Q) : Ex (d + 2) M_turns 71 [some (vR aM), some (vI i), some (vI (t : Int)), some (vI (A 3 (bD b + 1))), some (vI (A 3 (bD b + 2))), some (vI ((t % 4 : Nat) : Int)), some (vI z), some (vI x), l8, l9, l10] [] (MS m I (up1 A 14 rr) L) Q := by
  have hw := hW.2.1
  have hh := hW.2.2.1
  have hin := t_in (w := A 3 (bD b + 1)) (h := A 3 (bD b + 2)) t hx hz
  have hwh := tWH t hw hh
  have cx := tXf_c (A 3 (bD b + 1)) (A 3 (bD b + 2)) t x z
  have cy := tYf_c (A 3 (bD b + 1)) (A 3 (bD b + 2)) t x z
  have cm := mirX_c (A 3 (bD b + 1)) t x
  have ox : okI x := by unfold okI; omega
  have oz : okI z := by unfold okI; omega
  generalize tXf (A 3 (bD b + 1)) (A 3 (bD b + 2)) t x z = tx at *
  generalize tYf (A 3 (bD b + 1)) (A 3 (bD b + 2)) t x z = ty at *
  generalize mirX (A 3 (bD b + 1)) t x = mx at *
  have h177 : ∀ (v : Int) (l10 : Option AV), v = ty → Ex (d + 2) M_turns 177 [some (vR aM), some (vI i), some (vI (t : Int)), some (vI (A 3 (bD b + 1))), some (vI (A 3 (bD b + 2))), some (vI ((t % 4 : Nat) : Int)), some (vI z), some (vI x), some (vI mx), some (vI tx), l10] [vI v] (MS m I (up1 A 14 rr) L) Q := by
    intro v l10 hv
    subst hv
    refine Ex_step (tk_M_turns rfl) ?_
    refine Ex_step (tk_M_turns rfl) ?_
    refine gMR (tk_M_turns rfl) hM hM.r17 ?_
    refine Ex_step (tk_M_turns rfl) ?_
    refine Ex_step (tk_M_turns rfl) ?_
    refine Ex_step (tk_M_turns rfl) ?_
    refine Ex_step (tk_M_turns rfl) ?_
    refine Ex_step (tk_M_turns rfl) ?_
    refine Ex_step (tk_M_turns rfl) ?_
    refine Ex_step (tk_M_turns rfl) ?_
    refine Ex_step (tk_M_turns rfl) ?_
    refine Ex_step (tk_M_turns rfl) ?_
    refine Ex_cV0 (av := [vI i, vI x, vI z]) (tk_M_turns rfl) mk_M_sortOf ⟨rfl, rfl, by decide, rfl, Nat.le_of_ble_eq_true rfl, Nat.le_of_ble_eq_true rfl⟩ (hM.k) (fun _ h => f_sortOf (A := up1 A 14 rr) hM hd hi hW ox oz h) ?_
    refine tMI (j := 14) (n := (10 * v + tx).toNat) (tk_M_turns rfl) (by decide) hM.k14 hM.n14 (by rw [w32_id (by omega) (by omega)]; omega) (by omega) ?_
    rw [up1_at, up1_same]
    exact h _ _ _
  have h132 : ∀ (v : Int) (l9 l10 : Option AV), v = tx → Ex (d + 2) M_turns 132 [some (vR aM), some (vI i), some (vI (t : Int)), some (vI (A 3 (bD b + 1))), some (vI (A 3 (bD b + 2))), some (vI ((t % 4 : Nat) : Int)), some (vI z), some (vI x), some (vI mx), l9, l10] [vI v] (MS m I (up1 A 14 rr) L) Q := by
    intro v l9 l10 hv
    subst hv
    refine Ex_step (tk_M_turns rfl) ?_
    refine Ex_step (tk_M_turns rfl) ?_
    refine Ex_step (tk_M_turns rfl) ⟨fun h136 => ?_, fun h136 => ?_⟩
    · try simp (disch := omega) only [cmpI, w32_b2i, b2i_0, b2i_1, w32_id, Classical.not_not, not_true_eq_false, not_false_eq_true] at h136
      refine Ex_step (tk_M_turns rfl) ?_
      refine Ex_step (tk_M_turns rfl) ?_
      refine Ex_step (tk_M_turns rfl) ⟨fun h147 => ?_, fun h147 => ?_⟩
      · try simp (disch := omega) only [cmpI, w32_b2i, b2i_0, b2i_1, w32_id, Classical.not_not, not_true_eq_false, not_false_eq_true] at h147
        refine Ex_step (tk_M_turns rfl) ?_
        refine Ex_step (tk_M_turns rfl) ?_
        refine Ex_step (tk_M_turns rfl) ⟨fun h158 => ?_, fun h158 => ?_⟩
        · try simp (disch := omega) only [cmpI, w32_b2i, b2i_0, b2i_1, w32_id, Classical.not_not, not_true_eq_false, not_false_eq_true] at h158
          refine Ex_step (tk_M_turns rfl) ?_
          refine Ex_step (tk_M_turns rfl) ?_
          refine Ex_step (tk_M_turns rfl) ?_
          refine Ex_step (tk_M_turns rfl) ?_
          refine Ex_step (tk_M_turns rfl) ?_
          exact h177 _ _ (by omega)
        · try simp (disch := omega) only [cmpI, w32_b2i, b2i_0, b2i_1, w32_id, Classical.not_not, not_true_eq_false, not_false_eq_true] at h158
          refine Ex_step (tk_M_turns rfl) ?_
          refine Ex_step (tk_M_turns rfl) ?_
          refine Ex_step (tk_M_turns rfl) ?_
          refine Ex_step (tk_M_turns rfl) ?_
          refine Ex_step (tk_M_turns rfl) ?_
          refine Ex_step (tk_M_turns rfl) ?_
          exact h177 _ _ (by omega)
      · try simp (disch := omega) only [cmpI, w32_b2i, b2i_0, b2i_1, w32_id, Classical.not_not, not_true_eq_false, not_false_eq_true] at h147
        refine Ex_step (tk_M_turns rfl) ?_
        refine Ex_step (tk_M_turns rfl) ?_
        exact h177 _ _ (by omega)
    · try simp (disch := omega) only [cmpI, w32_b2i, b2i_0, b2i_1, w32_id, Classical.not_not, not_true_eq_false, not_false_eq_true] at h136
      refine Ex_step (tk_M_turns rfl) ?_
      refine Ex_step (tk_M_turns rfl) ?_
      exact h177 _ _ (by omega)
  have h87 : ∀ (v : Int) (l8 l9 l10 : Option AV), v = mx → Ex (d + 2) M_turns 87 [some (vR aM), some (vI i), some (vI (t : Int)), some (vI (A 3 (bD b + 1))), some (vI (A 3 (bD b + 2))), some (vI ((t % 4 : Nat) : Int)), some (vI z), some (vI x), l8, l9, l10] [vI v] (MS m I (up1 A 14 rr) L) Q := by
    intro v l8 l9 l10 hv
    subst hv
    refine Ex_step (tk_M_turns rfl) ?_
    refine Ex_step (tk_M_turns rfl) ?_
    refine Ex_step (tk_M_turns rfl) ⟨fun h91 => ?_, fun h91 => ?_⟩
    · try simp (disch := omega) only [cmpI, w32_b2i, b2i_0, b2i_1, w32_id, Classical.not_not, not_true_eq_false, not_false_eq_true] at h91
      refine Ex_step (tk_M_turns rfl) ?_
      refine Ex_step (tk_M_turns rfl) ?_
      refine Ex_step (tk_M_turns rfl) ⟨fun h102 => ?_, fun h102 => ?_⟩
      · try simp (disch := omega) only [cmpI, w32_b2i, b2i_0, b2i_1, w32_id, Classical.not_not, not_true_eq_false, not_false_eq_true] at h102
        refine Ex_step (tk_M_turns rfl) ?_
        refine Ex_step (tk_M_turns rfl) ?_
        refine Ex_step (tk_M_turns rfl) ⟨fun h118 => ?_, fun h118 => ?_⟩
        · try simp (disch := omega) only [cmpI, w32_b2i, b2i_0, b2i_1, w32_id, Classical.not_not, not_true_eq_false, not_false_eq_true] at h118
          refine Ex_step (tk_M_turns rfl) ?_
          exact h132 _ _ _ (by omega)
        · try simp (disch := omega) only [cmpI, w32_b2i, b2i_0, b2i_1, w32_id, Classical.not_not, not_true_eq_false, not_false_eq_true] at h118
          refine Ex_step (tk_M_turns rfl) ?_
          refine Ex_step (tk_M_turns rfl) ?_
          refine Ex_step (tk_M_turns rfl) ?_
          refine Ex_step (tk_M_turns rfl) ?_
          refine Ex_step (tk_M_turns rfl) ?_
          refine Ex_step (tk_M_turns rfl) ?_
          exact h132 _ _ _ (by omega)
      · try simp (disch := omega) only [cmpI, w32_b2i, b2i_0, b2i_1, w32_id, Classical.not_not, not_true_eq_false, not_false_eq_true] at h102
        refine Ex_step (tk_M_turns rfl) ?_
        refine Ex_step (tk_M_turns rfl) ?_
        refine Ex_step (tk_M_turns rfl) ?_
        refine Ex_step (tk_M_turns rfl) ?_
        refine Ex_step (tk_M_turns rfl) ?_
        refine Ex_step (tk_M_turns rfl) ?_
        exact h132 _ _ _ (by omega)
    · try simp (disch := omega) only [cmpI, w32_b2i, b2i_0, b2i_1, w32_id, Classical.not_not, not_true_eq_false, not_false_eq_true] at h91
      refine Ex_step (tk_M_turns rfl) ?_
      refine Ex_step (tk_M_turns rfl) ?_
      exact h132 _ _ _ (by omega)
  refine Ex_step (tk_M_turns rfl) ?_
  refine Ex_step (tk_M_turns rfl) ?_
  refine Ex_step (tk_M_turns rfl) ⟨fun h73 => ?_, fun h73 => ?_⟩
  · try simp (disch := omega) only [cmpI, w32_b2i, b2i_0, b2i_1, w32_id, Classical.not_not, not_true_eq_false, not_false_eq_true] at h73
    refine Ex_step (tk_M_turns rfl) ?_
    exact h87 _ _ _ _ (by omega)
  · try simp (disch := omega) only [cmpI, w32_b2i, b2i_0, b2i_1, w32_id, Classical.not_not, not_true_eq_false, not_false_eq_true] at h73
    refine Ex_step (tk_M_turns rfl) ?_
    refine Ex_step (tk_M_turns rfl) ?_
    refine Ex_step (tk_M_turns rfl) ?_
    refine Ex_step (tk_M_turns rfl) ?_
    refine Ex_step (tk_M_turns rfl) ?_
    refine Ex_step (tk_M_turns rfl) ?_
    exact h87 _ _ _ _ (by omega)
set_option maxRecDepth 100000 in
theorem f_turns (hM : MW m) (hd : b ≤ 5) (hi : i = (b : Int)) (hW : DsW (A 3) b) (ht : t ≤ 7) (h : ∀ r : Nat → Int, (∀ X Y : Int, 0 ≤ X → X < tW (A 3 (bD b + 1)) (A 3 (bD b + 2)) t → 0 ≤ Y → Y < tH (A 3 (bD b + 1)) (A 3 (bD b + 2)) t → r (10 * Y + X).toNat = tsr (A 3) b t X Y) → Q 0 none (MS m (F2 15 16 I (tW (A 3 (bD b + 1)) (A 3 (bD b + 2)) t) (tH (A 3 (bD b + 1)) (A 3 (bD b + 2)) t)) (up1 A 14 r) L)) : Ex (d + 2) M_turns 0 [some (vR aM), some (vI i), some (vI (t : Int)), none, none, none, none, none, none, none, none] [] (MS m I A L) Q := by
  have hw := hW.2.1
  have hh := hW.2.2.1
  have e4 : iRem (t : Int) 4 = ((t % 4 : Nat) : Int) := by rw [iRem_nn (by omega) (by omega) (by omega) (by omega)]; rfl
  have e2 : iRem ((t % 4 : Nat) : Int) 2 = ((t % 2 : Nat) : Int) := by rw [iRem_nn (by omega) (by omega) (by omega) (by omega)]; omega
  have cw := tW_c (A 3 (bD b + 1)) (A 3 (bD b + 2)) t
  have hrow : ∀ (y : Nat), (y : Int) < A 3 (bD b + 2) → (∀ (rr : Nat → Int) (l7 l8 l9 l10 : Option AV), TI (A 3) b t ((y : Int) + 1) 0 rr → Ex (d + 2) M_turns 207 [some (vR aM), some (vI i), some (vI (t : Int)), some (vI (A 3 (bD b + 1))), some (vI (A 3 (bD b + 2))), some (vI ((t % 4 : Nat) : Int)), some (vI (y : Int)), l7, l8, l9, l10] [] (MS m (F2 15 16 I (tW (A 3 (bD b + 1)) (A 3 (bD b + 2)) t) (tH (A 3 (bD b + 1)) (A 3 (bD b + 2)) t)) (up1 A 14 rr) L) Q) → ∀ (r x : Nat) (rr : Nat → Int) (l8 l9 l10 : Option AV), (x : Int) + (r : Int) = A 3 (bD b + 1) → TI (A 3) b t (y : Int) (x : Int) rr → Ex (d + 2) M_turns 65 [some (vR aM), some (vI i), some (vI (t : Int)), some (vI (A 3 (bD b + 1))), some (vI (A 3 (bD b + 2))), some (vI ((t % 4 : Nat) : Int)), some (vI (y : Int)), some (vI (x : Int)), l8, l9, l10] [] (MS m (F2 15 16 I (tW (A 3 (bD b + 1)) (A 3 (bD b + 2)) t) (tH (A 3 (bD b + 1)) (A 3 (bD b + 2)) t)) (up1 A 14 rr) L) Q := by
    intro y hy h2 r
    induction r with
    | zero =>
      intro x rr l8 l9 l10 hx hT
      have hx2 : (x : Int) = A 3 (bD b + 1) := by omega
      rw [hx2] at hT
      refine Ex_step (tk_M_turns rfl) ?_
      refine Ex_step (tk_M_turns rfl) ?_
      refine Ex_step (tk_M_turns rfl) ⟨fun h68 => ?_, fun h68 => ?_⟩
      · try simp (disch := omega) only [cmpI, w32_b2i, b2i_0, b2i_1, w32_id, Classical.not_not, not_true_eq_false, not_false_eq_true] at h68
        exact h2 rr _ _ _ _ (TI_row hT)
      · try simp (disch := omega) only [cmpI, w32_b2i, b2i_0, b2i_1, w32_id, Classical.not_not, not_true_eq_false, not_false_eq_true] at h68
        omega
    | succ r ih =>
      intro x rr l8 l9 l10 hx hT
      have hT2 := TI_step hW (x := (x : Int)) (y := (y : Int)) (by omega) (by omega) hT
      have h201 : ∀ l8 l9 l10 : Option AV, Ex (d + 2) M_turns 201 [some (vR aM), some (vI i), some (vI (t : Int)), some (vI (A 3 (bD b + 1))), some (vI (A 3 (bD b + 2))), some (vI ((t % 4 : Nat) : Int)), some (vI (y : Int)), some (vI (x : Int)), l8, l9, l10] [] (MS m (F2 15 16 I (tW (A 3 (bD b + 1)) (A 3 (bD b + 2)) t) (tH (A 3 (bD b + 1)) (A 3 (bD b + 2)) t)) (up1 A 14 (up1 rr (10 * tYf (A 3 (bD b + 1)) (A 3 (bD b + 2)) t (x : Int) (y : Int) + tXf (A 3 (bD b + 1)) (A 3 (bD b + 2)) t (x : Int) (y : Int)).toNat (srt (A 3) b (x : Int) (y : Int)))) L) Q := by
        intro l8 l9 l10
        refine Ex_step (tk_M_turns rfl) ?_
        refine Ex_step (tk_M_turns rfl) ?_
        exact ih (x + 1) _ _ _ _ (by omega) hT2
      refine Ex_step (tk_M_turns rfl) ?_
      refine Ex_step (tk_M_turns rfl) ?_
      refine Ex_step (tk_M_turns rfl) ⟨fun h68 => ?_, fun h68 => ?_⟩
      · try simp (disch := omega) only [cmpI, w32_b2i, b2i_0, b2i_1, w32_id, Classical.not_not, not_true_eq_false, not_false_eq_true] at h68
        omega
      · try simp (disch := omega) only [cmpI, w32_b2i, b2i_0, b2i_1, w32_id, Classical.not_not, not_true_eq_false, not_false_eq_true] at h68
        exact f_turnC hM hd hi hW ht (by omega) (by omega) h201
  have hall : ∀ (r y : Nat) (rr : Nat → Int) (l7 l8 l9 l10 : Option AV), (y : Int) + (r : Int) = A 3 (bD b + 2) → TI (A 3) b t (y : Int) 0 rr → Ex (d + 2) M_turns 55 [some (vR aM), some (vI i), some (vI (t : Int)), some (vI (A 3 (bD b + 1))), some (vI (A 3 (bD b + 2))), some (vI ((t % 4 : Nat) : Int)), some (vI (y : Int)), l7, l8, l9, l10] [] (MS m (F2 15 16 I (tW (A 3 (bD b + 1)) (A 3 (bD b + 2)) t) (tH (A 3 (bD b + 1)) (A 3 (bD b + 2)) t)) (up1 A 14 rr) L) Q := by
    intro r
    induction r with
    | zero =>
      intro y rr l7 l8 l9 l10 hy hT
      have hy2 : (y : Int) = A 3 (bD b + 2) := by omega
      rw [hy2] at hT
      refine Ex_step (tk_M_turns rfl) ?_
      refine Ex_step (tk_M_turns rfl) ?_
      refine Ex_step (tk_M_turns rfl) ⟨fun h59 => ?_, fun h59 => ?_⟩
      · try simp (disch := omega) only [cmpI, w32_b2i, b2i_0, b2i_1, w32_id, Classical.not_not, not_true_eq_false, not_false_eq_true] at h59
        refine Ex_step (tk_M_turns rfl) ⟨rfl, ?_⟩
        exact h rr (fun X Y a1 a2 a3 a4 => TI_end hT a1 a2 a3 a4)
      · try simp (disch := omega) only [cmpI, w32_b2i, b2i_0, b2i_1, w32_id, Classical.not_not, not_true_eq_false, not_false_eq_true] at h59
        omega
    | succ r ih =>
      intro y rr l7 l8 l9 l10 hy hT
      have h207 : ∀ (rr : Nat → Int) (l7 l8 l9 l10 : Option AV), TI (A 3) b t ((y : Int) + 1) 0 rr → Ex (d + 2) M_turns 207 [some (vR aM), some (vI i), some (vI (t : Int)), some (vI (A 3 (bD b + 1))), some (vI (A 3 (bD b + 2))), some (vI ((t % 4 : Nat) : Int)), some (vI (y : Int)), l7, l8, l9, l10] [] (MS m (F2 15 16 I (tW (A 3 (bD b + 1)) (A 3 (bD b + 2)) t) (tH (A 3 (bD b + 1)) (A 3 (bD b + 2)) t)) (up1 A 14 rr) L) Q := by
        intro rr l7 l8 l9 l10 hT
        refine Ex_step (tk_M_turns rfl) ?_
        refine Ex_step (tk_M_turns rfl) ?_
        exact ih (y + 1) rr _ _ _ _ (by omega) hT
      obtain ⟨w, hwe⟩ : ∃ w : Nat, (w : Int) = A 3 (bD b + 1) := ⟨(A 3 (bD b + 1)).toNat, by omega⟩
      have h65 := hrow y (by omega) h207 w 0 rr
      refine Ex_step (tk_M_turns rfl) ?_
      refine Ex_step (tk_M_turns rfl) ?_
      refine Ex_step (tk_M_turns rfl) ⟨fun h59 => ?_, fun h59 => ?_⟩
      · try simp (disch := omega) only [cmpI, w32_b2i, b2i_0, b2i_1, w32_id, Classical.not_not, not_true_eq_false, not_false_eq_true] at h59
        omega
      · try simp (disch := omega) only [cmpI, w32_b2i, b2i_0, b2i_1, w32_id, Classical.not_not, not_true_eq_false, not_false_eq_true] at h59
        refine Ex_step (tk_M_turns rfl) ?_
        refine Ex_step (tk_M_turns rfl) ?_
        exact h65 _ _ _ (by omega) hT
  have h49 : ∀ v : Int, v = tH (A 3 (bD b + 1)) (A 3 (bD b + 2)) t → Ex (d + 2) M_turns 49 [some (vR aM), some (vI i), some (vI (t : Int)), some (vI (A 3 (bD b + 1))), some (vI (A 3 (bD b + 2))), some (vI ((t % 4 : Nat) : Int)), none, none, none, none, none] [vI v, vR aM] (MS m (up1 I 15 (tW (A 3 (bD b + 1)) (A 3 (bD b + 2)) t)) A L) Q := by
    intro v hv
    subst hv
    obtain ⟨g, hge⟩ : ∃ g : Nat, (g : Int) = A 3 (bD b + 2) := ⟨(A 3 (bD b + 2)).toNat, by omega⟩
    have h55 := hall g 0 (A 14) none none none none (by omega) (TI_0 (A 3) b t (A 14) (by omega))
    rw [up1_self rfl, ← F2_up (by decide)] at h55
    refine pMI (tk_M_turns rfl) hM ?_
    refine Ex_step (tk_M_turns rfl) ?_
    refine Ex_step (tk_M_turns rfl) ?_
    exact h55
  have h32 : ∀ v : Int, v = tW (A 3 (bD b + 1)) (A 3 (bD b + 2)) t → Ex (d + 2) M_turns 32 [some (vR aM), some (vI i), some (vI (t : Int)), some (vI (A 3 (bD b + 1))), some (vI (A 3 (bD b + 2))), some (vI ((t % 4 : Nat) : Int)), none, none, none, none, none] [vI v, vR aM] (MS m I A L) Q := by
    intro v hv
    subst hv
    refine pMI (tk_M_turns rfl) hM ?_
    refine Ex_step (tk_M_turns rfl) ?_
    refine Ex_step (tk_M_turns rfl) ?_
    refine Ex_step (tk_M_turns rfl) ?_
    refine Ex_step (tk_M_turns rfl) ⟨by decide, ?_⟩
    rw [e2]
    refine Ex_step (tk_M_turns rfl) ⟨fun h40 => ?_, fun h40 => ?_⟩
    · try simp (disch := omega) only [cmpI, w32_b2i, b2i_0, b2i_1, w32_id, Classical.not_not, not_true_eq_false, not_false_eq_true] at h40
      refine Ex_step (tk_M_turns rfl) ?_
      exact h49 _ (by omega)
    · try simp (disch := omega) only [cmpI, w32_b2i, b2i_0, b2i_1, w32_id, Classical.not_not, not_true_eq_false, not_false_eq_true] at h40
      refine Ex_step (tk_M_turns rfl) ?_
      refine Ex_step (tk_M_turns rfl) ?_
      exact h49 _ (by omega)
  refine Ex_step (tk_M_turns rfl) ?_
  refine Ex_step (tk_M_turns rfl) ?_
  refine Ex_cV0 (av := [vI i]) (tk_M_turns rfl) mk_M_wideOf ⟨rfl, rfl, by decide, rfl, Nat.le_of_ble_eq_true rfl, Nat.le_of_ble_eq_true rfl⟩ (hM.k) (fun _ h => f_wideOf hM hd hi h) ?_
  refine Ex_step (tk_M_turns rfl) ?_
  refine Ex_step (tk_M_turns rfl) ?_
  refine Ex_step (tk_M_turns rfl) ?_
  refine Ex_cV0 (av := [vI i]) (tk_M_turns rfl) mk_M_highOf ⟨rfl, rfl, by decide, rfl, Nat.le_of_ble_eq_true rfl, Nat.le_of_ble_eq_true rfl⟩ (hM.k) (fun _ h => f_highOf hM hd hi h) ?_
  refine Ex_step (tk_M_turns rfl) ?_
  refine Ex_step (tk_M_turns rfl) ?_
  refine Ex_step (tk_M_turns rfl) ?_
  refine Ex_step (tk_M_turns rfl) ⟨by decide, ?_⟩
  rw [e4]
  refine Ex_step (tk_M_turns rfl) ?_
  refine Ex_step (tk_M_turns rfl) ?_
  refine Ex_step (tk_M_turns rfl) ?_
  refine Ex_step (tk_M_turns rfl) ?_
  refine Ex_step (tk_M_turns rfl) ⟨by decide, ?_⟩
  rw [e2]
  refine Ex_step (tk_M_turns rfl) ⟨fun h23 => ?_, fun h23 => ?_⟩
  · try simp (disch := omega) only [cmpI, w32_b2i, b2i_0, b2i_1, w32_id, Classical.not_not, not_true_eq_false, not_false_eq_true] at h23
    refine Ex_step (tk_M_turns rfl) ?_
    exact h32 _ (by omega)
  · try simp (disch := omega) only [cmpI, w32_b2i, b2i_0, b2i_1, w32_id, Classical.not_not, not_true_eq_false, not_false_eq_true] at h23
    refine Ex_step (tk_M_turns rfl) ?_
    refine Ex_step (tk_M_turns rfl) ?_
    exact h32 _ (by omega)
end MTurns
