/-! ===== the class: looks that come again ===== -/
def GP (w1 h1 : Int) (f1 : Int → Int → Int) (w2 h2 : Int) (f2 : Int → Int → Int) : Prop := w1 = w2 ∧ h1 = h2 ∧ ∀ X Y, f1 X Y = f2 X Y
set_option maxRecDepth 100000 in
theorem row_eq {A : Nat → Nat → Int} {a b : Nat} {f1 f2 : Int → Int → Int} (h1 : DB A a f1) (h2 : DB A b f2) (r1 : FB f1) (r2 : FB f2) {y : Nat} (hy : y < 10) : (w32 (A (a + 1) y) = w32 (A (b + 1) y) ∧ w32 (A (a + 2) y) = w32 (A (b + 2) y)) ↔ ∀ X : Int, f1 X (y : Int) = f2 X (y : Int) := by
  constructor
  · intro e X
    by_cases hX : 0 ≤ X ∧ X < 10
    · obtain ⟨i, rfl⟩ := Int.eq_ofNat_of_zero_le hX.1
      have e1 := ib_w e.1 i
      have e2 := ib_w e.2 i
      rw [(h1 y hy i (by omega)).1, (h2 y hy i (by omega)).1] at e1
      rw [(h1 y hy i (by omega)).2, (h2 y hy i (by omega)).2] at e2
      have e1 := decide_eq_decide.mp e1
      have e2 := decide_eq_decide.mp e2
      have a1 := (r1 (i : Int) (y : Int)).1
      have a2 := (r2 (i : Int) (y : Int)).1
      omega
    · have z1 : f1 X (y : Int) = 0 := Classical.byContradiction fun q => hX (((r1 _ _).2 q).1)
      have z2 : f2 X (y : Int) = 0 := Classical.byContradiction fun q => hX (((r2 _ _).2 q).1)
      rw [z1, z2]
  · intro e
    constructor
    · refine ib_ext (fun i hi => ?_)
      rw [(h1 y hy i hi).1, (h2 y hy i hi).1, e]
    · refine ib_ext (fun i hi => ?_)
      rw [(h1 y hy i hi).2, (h2 y hy i hi).2, e]
section CLooks
variable {d a b c dd t : Nat} {w1 h1 w2 h2 : Int} {f1 f2 : Int → Int → Int} {T : Nat → Int} {m : Mem} {F A L : Nat → Nat → Int} {Q : Nat → Option AV → Mem → Prop}
set_option maxRecDepth 100000 in
theorem c_hasGrid (hD : DW m a) (hE : DW m b) (hG : DG F A a w1 h1 f1) (hH : DG F A b w2 h2 f2) (hF1 : FG w1 h1 f1) (hF2 : FG w2 h2 f2) (hq : ∀ v : Int, (v = 1 ∧ GP w1 h1 f1 w2 h2 f2 ∨ v = 0 ∧ ¬ GP w1 h1 f1 w2 h2 f2) → Q 0 (some (vI v)) (CM m F A L)) : Ex d Des_hasGridOf 0 [some (vR a), some (vR b), none, none] [] (CM m F A L) Q := by
  have s1 := hF1.1
  have s2 := hF2.1
  have hloop : ∀ (r y : Nat) (v : Int), y + r = 10 → (v = 1 ∧ (w1 = w2 ∧ h1 = h2 ∧ ∀ X Y : Int, 0 ≤ Y → Y < (y : Int) → f1 X Y = f2 X Y) ∨ v = 0 ∧ ¬ GP w1 h1 f1 w2 h2 f2) → Ex d Des_hasGridOf 30 [some (vR a), some (vR b), some (vI v), some (vI (y : Int))] [] (CM m F A L) Q := by
    intro r
    induction r with
    | zero =>
      intro y v hy hv
      have : y = 10 := by omega
      subst this
      have hv2 : v = 0 ∨ v = 1 := by rcases hv with ⟨z, _⟩ | ⟨z, _⟩; exact Or.inr z; exact Or.inl z
      have hx := hq v (hv.imp (fun z => ⟨z.1, z.2.1, z.2.2.1, fun X Y => by
        by_cases q : 0 ≤ Y ∧ Y < 10
        · exact z.2.2.2 X Y q.1 q.2
        · have z1 : f1 X Y = 0 := Classical.byContradiction fun u => q (((hF1.b X Y).2 u).2)
          have z2 : f2 X Y = 0 := Classical.byContradiction fun u => q (((hF2.b X Y).2 u).2)
          rw [z1, z2]⟩) id)
      refine Ex_step (tk_Des_hasGridOf rfl) ?_
      refine Ex_step (tk_Des_hasGridOf rfl) ⟨fun h31 => ?_, fun h31 => ?_⟩
      · replace h31 : _ := h31
        refine Ex_step (tk_Des_hasGridOf rfl) ?_
        refine Ex_step (tk_Des_hasGridOf rfl) ⟨rfl, by first | exact Or.inl rfl | exact Or.inr rfl | exact b2i_01 _ | assumption, ?_⟩
        exact hx
      · replace h31 : _ := h31
        refine Ex_step (tk_Des_hasGridOf rfl) ?_
        refine Ex_step (tk_Des_hasGridOf rfl) ?_
        refine Ex_step (tk_Des_hasGridOf rfl) ⟨fun h37 => ?_, fun h37 => ?_⟩
        · replace h37 : _ := h37
          refine Ex_step (tk_Des_hasGridOf rfl) ?_
          refine Ex_step (tk_Des_hasGridOf rfl) ⟨rfl, by first | exact Or.inl rfl | exact Or.inr rfl | exact b2i_01 _ | assumption, ?_⟩
          exact hx
        · replace h37 : _ := h37
          exact absurd (show w32 10 ≤ w32 10 from Int.le_refl _) h37
    | succ r ih =>
      intro y v hy hv
      have hv2 : v = 0 ∨ v = 1 := by rcases hv with ⟨z, _⟩ | ⟨z, _⟩; exact Or.inr z; exact Or.inl z
      have re := row_eq hG.2.2 hH.2.2 hF1.b hF2.b (y := y) (by omega)
      have h75 : ∀ u : Int, v = 1 → (u = 1 ∧ (∀ X : Int, f1 X (y : Int) = f2 X (y : Int)) ∨ u = 0 ∧ ¬ (∀ X : Int, f1 X (y : Int) = f2 X (y : Int))) → Ex d Des_hasGridOf 75 [some (vR a), some (vR b), some (vI v), some (vI (y : Int))] [vI u] (CM m F A L) Q := by
        intro u hv1 hu
        have hnx := ih (y + 1) u (by omega) (by
          rcases hv with ⟨z1, z2⟩ | ⟨z1, z2⟩
          · rcases hu with ⟨u1, u2⟩ | ⟨u1, u2⟩
            · refine Or.inl ⟨u1, z2.1, z2.2.1, fun X Y y1 y2 => ?_⟩
              by_cases q : Y = (y : Int)
              · rw [q]; exact u2 X
              · exact z2.2.2 X Y y1 (by omega)
            · exact Or.inr ⟨u1, fun z => u2 (fun X => z.2.2 X _)⟩
          · omega)
        refine Ex_step (tk_Des_hasGridOf rfl) ?_
        refine Ex_step (tk_Des_hasGridOf rfl) ?_
        refine Ex_step (tk_Des_hasGridOf rfl) ?_
        exact hnx
      have hx : v = 0 → Q 0 (some (vI v)) (CM m F A L) := fun z => hq v (Or.inr (by rcases hv with ⟨z1, _⟩ | z1; omega; exact z1))
      clear hv
      have h34 : v = 1 → Ex d Des_hasGridOf 34 [some (vR a), some (vR b), some (vI v), some (vI (y : Int))] [] (CM m F A L) Q := by
        intro hv1
        refine Ex_step (tk_Des_hasGridOf rfl) ?_
        refine Ex_step (tk_Des_hasGridOf rfl) ?_
        refine Ex_step (tk_Des_hasGridOf rfl) ⟨fun h37 => ?_, fun h37 => ?_⟩
        · try simp only [cmpI, Classical.not_not] at h37
          exact absurd h37 (by rw [show w32 10 = 10 from rfl, w32_id (x := (y : Int)) (by omega) (by omega)]; omega)
        · try simp only [cmpI, Classical.not_not] at h37
          refine Ex_step (tk_Des_hasGridOf rfl) ?_
          refine gCR (tk_Des_hasGridOf rfl) (hD.1) (hD.2.2.1) ?_
          refine Ex_step (tk_Des_hasGridOf rfl) ?_
          refine lCI (n := y) (tk_Des_hasGridOf rfl) (hD.2.2.2.2.1) (w32_id (by omega) (by omega)) (by omega) ?_
          refine Ex_step (tk_Des_hasGridOf rfl) ?_
          refine gCR (tk_Des_hasGridOf rfl) (hE.1) (hE.2.2.1) ?_
          refine Ex_step (tk_Des_hasGridOf rfl) ?_
          refine lCI (n := y) (tk_Des_hasGridOf rfl) (hE.2.2.2.2.1) (w32_id (by omega) (by omega)) (by omega) ?_
          refine Ex_step (tk_Des_hasGridOf rfl) ⟨fun h52 => ?_, fun h52 => ?_⟩
          · try simp only [cmpI, Classical.not_not] at h52
            have hx := h75 0 hv1 (Or.inr ⟨rfl, fun z => by first | exact h52 (re.mpr z).1 | exact h67 (re.mpr z).2⟩)
            refine Ex_step (tk_Des_hasGridOf rfl) ?_
            exact hx
          · try simp only [cmpI, Classical.not_not] at h52
            refine Ex_step (tk_Des_hasGridOf rfl) ?_
            refine gCR (tk_Des_hasGridOf rfl) (hD.1) (hD.2.2.2.1) ?_
            refine Ex_step (tk_Des_hasGridOf rfl) ?_
            refine lCI (n := y) (tk_Des_hasGridOf rfl) (hD.2.2.2.2.2) (w32_id (by omega) (by omega)) (by omega) ?_
            refine Ex_step (tk_Des_hasGridOf rfl) ?_
            refine gCR (tk_Des_hasGridOf rfl) (hE.1) (hE.2.2.2.1) ?_
            refine Ex_step (tk_Des_hasGridOf rfl) ?_
            refine lCI (n := y) (tk_Des_hasGridOf rfl) (hE.2.2.2.2.2) (w32_id (by omega) (by omega)) (by omega) ?_
            refine Ex_step (tk_Des_hasGridOf rfl) ⟨fun h67 => ?_, fun h67 => ?_⟩
            · try simp only [cmpI, Classical.not_not] at h67
              have hx := h75 0 hv1 (Or.inr ⟨rfl, fun z => by first | exact h52 (re.mpr z).1 | exact h67 (re.mpr z).2⟩)
              refine Ex_step (tk_Des_hasGridOf rfl) ?_
              exact hx
            · try simp only [cmpI, Classical.not_not] at h67
              have hx := h75 1 hv1 (Or.inl ⟨rfl, re.mp ⟨h52, h67⟩⟩)
              refine Ex_step (tk_Des_hasGridOf rfl) ?_
              refine Ex_step (tk_Des_hasGridOf rfl) ?_
              exact hx
      refine Ex_step (tk_Des_hasGridOf rfl) ?_
      refine Ex_step (tk_Des_hasGridOf rfl) ⟨fun h31 => ?_, fun h31 => ?_⟩
      · try simp (disch := omega) only [cmpI, w32_b2i, b2i_0, b2i_1, w32_id, Classical.not_not, not_true_eq_false, not_false_eq_true] at h31
        refine Ex_step (tk_Des_hasGridOf rfl) ?_
        refine Ex_step (tk_Des_hasGridOf rfl) ⟨rfl, by first | exact Or.inl rfl | exact Or.inr rfl | exact b2i_01 _ | assumption, ?_⟩
        exact hx (by omega)
      · try simp (disch := omega) only [cmpI, w32_b2i, b2i_0, b2i_1, w32_id, Classical.not_not, not_true_eq_false, not_false_eq_true] at h31
        exact h34 (by omega)
  have h27 : ∀ v : Int, (v = 1 ∧ w1 = w2 ∧ h1 = h2 ∨ v = 0 ∧ ¬ (w1 = w2 ∧ h1 = h2)) → Ex d Des_hasGridOf 27 [some (vR a), some (vR b), none, none] [vI v] (CM m F A L) Q := by
    intro v hv
    have h30 := hloop 10 0 v (by omega) (by
      rcases hv with ⟨z1, z2, z3⟩ | ⟨z1, z2⟩
      · exact Or.inl ⟨z1, z2, z3, fun X Y y1 y2 => by omega⟩
      · exact Or.inr ⟨z1, fun z => z2 ⟨z.1, z.2.1⟩⟩)
    refine Ex_step (tk_Des_hasGridOf rfl) ?_
    refine Ex_step (tk_Des_hasGridOf rfl) ?_
    refine Ex_step (tk_Des_hasGridOf rfl) ?_
    exact h30
  refine Ex_step (tk_Des_hasGridOf rfl) ?_
  refine gCI (tk_Des_hasGridOf rfl) (hD.1) ?_
  rw [hG.1]
  refine Ex_step (tk_Des_hasGridOf rfl) ?_
  refine gCI (tk_Des_hasGridOf rfl) (hE.1) ?_
  rw [hH.1]
  refine Ex_step (tk_Des_hasGridOf rfl) ⟨fun h8 => ?_, fun h8 => ?_⟩
  · try simp (disch := omega) only [cmpI, w32_b2i, b2i_0, b2i_1, w32_id, Classical.not_not, not_true_eq_false, not_false_eq_true] at h8
    have hx := h27 0 (by omega)
    refine Ex_step (tk_Des_hasGridOf rfl) ?_
    exact hx
  · try simp (disch := omega) only [cmpI, w32_b2i, b2i_0, b2i_1, w32_id, Classical.not_not, not_true_eq_false, not_false_eq_true] at h8
    refine Ex_step (tk_Des_hasGridOf rfl) ?_
    refine gCI (tk_Des_hasGridOf rfl) (hD.1) ?_
    rw [hG.2.1]
    refine Ex_step (tk_Des_hasGridOf rfl) ?_
    refine gCI (tk_Des_hasGridOf rfl) (hE.1) ?_
    rw [hH.2.1]
    refine Ex_step (tk_Des_hasGridOf rfl) ⟨fun h19 => ?_, fun h19 => ?_⟩
    · try simp (disch := omega) only [cmpI, w32_b2i, b2i_0, b2i_1, w32_id, Classical.not_not, not_true_eq_false, not_false_eq_true] at h19
      have hx := h27 0 (by omega)
      refine Ex_step (tk_Des_hasGridOf rfl) ?_
      exact hx
    · try simp (disch := omega) only [cmpI, w32_b2i, b2i_0, b2i_1, w32_id, Classical.not_not, not_true_eq_false, not_false_eq_true] at h19
      have hx := h27 1 (by omega)
      refine Ex_step (tk_Des_hasGridOf rfl) ?_
      refine Ex_step (tk_Des_hasGridOf rfl) ?_
      exact hx
set_option maxRecDepth 100000 in
theorem GP_lk (hW : DsW T dd) : GP (tW (T (bD dd + 1)) (T (bD dd + 2)) t) (tH (T (bD dd + 1)) (T (bD dd + 2)) t) (tf (T (bD dd + 1)) (T (bD dd + 2)) (srt T dd) t) (T (bD dd + 1)) (T (bD dd + 2)) (srt T dd) ↔ lkP T dd t := by
  have cw := tW_c (T (bD dd + 1)) (T (bD dd + 2)) t
  have g1 := tf_FG (srt_FG hW) t
  have g2 := srt_FG hW
  constructor
  · exact fun z => ⟨z.1, fun X Y _ _ _ _ => z.2.2 X Y⟩
  · intro z
    have z1 := z.1
    have z2 : tH (T (bD dd + 1)) (T (bD dd + 2)) t = T (bD dd + 2) := by omega
    refine ⟨z1, z2, fun X Y => ?_⟩
    by_cases q : (0 ≤ X ∧ X < T (bD dd + 1)) ∧ 0 ≤ Y ∧ Y < T (bD dd + 2)
    · exact z.2 X Y q.1.1 q.1.2 q.2.1 q.2.2
    · have e1 : tf (T (bD dd + 1)) (T (bD dd + 2)) (srt T dd) t X Y = 0 := Classical.byContradiction fun u => q (by
        have := (g1.2 X Y).2 u
        rw [z1, z2] at this
        exact this)
      have e2 : srt T dd X Y = 0 := Classical.byContradiction fun u => q ((g2.2 X Y).2 u)
      rw [e1, e2]
/-- where the shapes' own design and rows lie -/
def SW (m : Mem) (s : Nat) : Prop := mK m s = 9 ∧ mFR m 576 s = s + 1 ∧ DW m (s + 1) ∧ mFR m 577 s = s + 4 ∧ IA m (s + 4) 10 ∧ mFR m 578 s = s + 5 ∧ IA m (s + 5) 100
set_option maxRecDepth 100000 in
theorem iOr_0 (x : Int) : w32 (iOr x 0) = w32 x := by
  refine ib_ext (fun i hi => ?_)
  rw [ib_or, ib_0, Bool.or_false]
set_option maxRecDepth 100000 in
theorem iOr_c {x y z : Int} (h : w32 x = w32 y) : w32 (iOr x z) = w32 (iOr y z) := by
  refine ib_ext (fun i hi => ?_)
  rw [ib_or, ib_or, ib_w h]
set_option maxRecDepth 100000 in
theorem c_looksOf {s : Nat} (hS : SW m s) (hE : DW m b) (hab : s + 4 ≤ b ∨ b + 3 ≤ s + 1) (hG : DG F A b (T (bD dd + 1)) (T (bD dd + 2)) (srt T dd)) (hW : DsW T dd) (hq : ∀ (v : Int) (F' A' : Nat → Nat → Int), w32 v = w32 (lkS T dd 7) → (∀ j f, j ≠ s + 1 → F' f j = F f j) → (∀ j, j ≠ s + 2 → j ≠ s + 3 → A' j = A j) → Q 0 (some (vI v)) (CM m F' A' L)) : Ex (d + 3) Shp_looksOf 0 [some (vR s), some (vR b), none, none] [] (CM m F A L) Q := by
  have hk9 := hS.1
  have hr576 := hS.2.1
  have hD := hS.2.2.1
  have hF := srt_FG hW
  have hloop : ∀ (r t : Nat) (v : Int) (F' A' : Nat → Nat → Int), t + r = 7 → w32 v = w32 (lkS T dd t) → (∀ j f, j ≠ s + 1 → F' f j = F f j) → (∀ j, j ≠ s + 2 → j ≠ s + 3 → A' j = A j) → Ex (d + 3) Shp_looksOf 4 [some (vR s), some (vR b), some (vI v), some (vI ((t : Int) + 1))] [] (CM m F' A' L) Q := by
    intro r
    induction r with
    | zero =>
      intro t v F' A' ht hv k1 k2
      have : t = 7 := by omega
      subst this
      refine Ex_step (tk_Shp_looksOf rfl) ?_
      refine Ex_step (tk_Shp_looksOf rfl) ?_
      refine Ex_step (tk_Shp_looksOf rfl) ⟨fun h7 => ?_, fun h7 => ?_⟩
      · replace h7 : _ := h7
        refine Ex_step (tk_Shp_looksOf rfl) ?_
        refine Ex_step (tk_Shp_looksOf rfl) ⟨rfl, ?_⟩
        exact hq v F' A' hv k1 k2
      · replace h7 : _ := h7
        exact absurd (show w32 8 ≤ w32 8 from Int.le_refl _) h7
    | succ r ih =>
      intro t v F' A' ht hv k1 k2
      have hG2 : DG F' A' b (T (bD dd + 1)) (T (bD dd + 2)) (srt T dd) := ⟨(k1 b 193 (by omega)).trans hG.1, (k1 b 194 (by omega)).trans hG.2.1, fun y hy i hi => by rw [k2 (b + 1) (by omega) (by omega), k2 (b + 2) (by omega) (by omega)]; exact hG.2.2 y hy i hi⟩
      have key : ∀ A2 : Nat → Nat → Int, (∀ j, j ≠ s + 1 + 1 → j ≠ s + 1 + 2 → A2 j = A' j) → DB A2 (s + 1) (tf (T (bD dd + 1)) (T (bD dd + 2)) (srt T dd) (t + 1)) → Ex (d + 3) Shp_looksOf 19 [some (vR s), some (vR b), some (vI v), some (vI ((t : Int) + 1))] [] (CM m (upF (upF F' 193 (s + 1) (tW (T (bD dd + 1)) (T (bD dd + 2)) (t + 1))) 194 (s + 1) (tH (T (bD dd + 1)) (T (bD dd + 2)) (t + 1))) A2 L) Q := by
        intro A2 q1 q2
        have hne : b ≠ s + 1 := by omega
        have hnx : ∀ u : Int, w32 u = w32 (lkS T dd (t + 1)) → Ex (d + 3) Shp_looksOf 36 [some (vR s), some (vR b), some (vI u), some (vI ((t : Int) + 1))] [] (CM m (upF (upF F' 193 (s + 1) (tW (T (bD dd + 1)) (T (bD dd + 2)) (t + 1))) 194 (s + 1) (tH (T (bD dd + 1)) (T (bD dd + 2)) (t + 1))) A2 L) Q := by
          intro u hu
          have h4 := ih (t + 1) u (upF (upF F' 193 (s + 1) (tW (T (bD dd + 1)) (T (bD dd + 2)) (t + 1))) 194 (s + 1) (tH (T (bD dd + 1)) (T (bD dd + 2)) (t + 1))) A2 (by omega) hu (fun j f hj => by rw [upF_a _ _ _ hj, upF_a _ _ _ hj]; exact k1 j f hj) (fun j h1 h2 => (q1 j (by omega) (by omega)).trans (k2 j h1 h2))
          refine Ex_step (tk_Shp_looksOf rfl) ?_
          refine Ex_step (tk_Shp_looksOf rfl) ?_
          exact h4
        have gl := GP_lk (t := t + 1) hW
        have hl1 : lkP T dd (t + 1) → w32 (iOr v (iShl 1 ((t : Int) + 1))) = w32 (lkS T dd (t + 1)) := fun z => by
          show _ = w32 (iOr (lkS T dd t) (lkB T dd (t + 1)))
          rw [lkB_t z]
          exact iOr_c hv
        have hl0 : ¬ lkP T dd (t + 1) → w32 v = w32 (lkS T dd (t + 1)) := fun z => by
          show _ = w32 (iOr (lkS T dd t) (lkB T dd (t + 1)))
          rw [lkB_f z, iOr_0]
          exact hv
        refine Ex_step (tk_Shp_looksOf rfl) ?_
        refine gCR (tk_Shp_looksOf rfl) (hk9) (hr576) ?_
        refine Ex_step (tk_Shp_looksOf rfl) ?_
        refine Ex_cVK (av := [vR b]) (tk_Shp_looksOf rfl) mk_Des_hasGridOf ⟨rfl, rfl, by decide, rfl, Nat.le_of_ble_eq_true rfl, Nat.le_of_ble_eq_true rfl⟩ (hD.1) (c_hasGrid hD hE ⟨by rw [upF_f _ _ _ (by decide), upF_at], upF_at _ _ _ _, q2⟩ ⟨by rw [upF_a _ _ _ hne, upF_a _ _ _ hne]; exact hG2.1, by rw [upF_a _ _ _ hne, upF_a _ _ _ hne]; exact hG2.2.1, DB_keep (a := s + 1) (by omega) q1 hG2.2.2⟩ (tf_FG hF (t + 1)) hF (fun u hu => ⟨rfl, ?_⟩))
        have hu2 : u = 1 ∧ lkP T dd (t + 1) ∨ u = 0 ∧ ¬ lkP T dd (t + 1) := hu.imp (fun z => ⟨z.1, gl.mp z.2⟩) (fun z => ⟨z.1, fun y => z.2 (gl.mpr y)⟩)
        have hu3 : u = 1 ∨ u = 0 := by rcases hu with ⟨z, _⟩ | ⟨z, _⟩; exact Or.inl z; exact Or.inr z
        have hx1 : u = 1 → lkP T dd (t + 1) := fun z => by rcases hu2 with ⟨_, y⟩ | ⟨y, _⟩; exact y; omega
        have hx0 : u = 0 → ¬ lkP T dd (t + 1) := fun z => by rcases hu2 with ⟨y, _⟩ | ⟨_, y⟩; omega; exact y
        clear hu hu2
        refine Ex_step (tk_Shp_looksOf rfl) ⟨fun h27 => ?_, fun h27 => ?_⟩
        · try simp (disch := omega) only [cmpI, w32_b2i, b2i_0, b2i_1, w32_id, Classical.not_not, not_true_eq_false, not_false_eq_true] at h27
          first | exact hx | exact hnx v (hl0 (hx0 (by omega)))
        · try simp (disch := omega) only [cmpI, w32_b2i, b2i_0, b2i_1, w32_id, Classical.not_not, not_true_eq_false, not_false_eq_true] at h27
          have hx := hnx _ (hl1 (hx1 (by omega)))
          refine Ex_step (tk_Shp_looksOf rfl) ?_
          refine Ex_step (tk_Shp_looksOf rfl) ?_
          refine Ex_step (tk_Shp_looksOf rfl) ?_
          refine Ex_step (tk_Shp_looksOf rfl) ?_
          refine Ex_step (tk_Shp_looksOf rfl) ?_
          refine Ex_step (tk_Shp_looksOf rfl) ?_
          first | exact hx | exact hnx v (hl0 (hx0 (by omega)))
      refine Ex_step (tk_Shp_looksOf rfl) ?_
      refine Ex_step (tk_Shp_looksOf rfl) ?_
      refine Ex_step (tk_Shp_looksOf rfl) ⟨fun h7 => ?_, fun h7 => ?_⟩
      · try simp (disch := omega) only [cmpI, w32_b2i, b2i_0, b2i_1, w32_id, Classical.not_not, not_true_eq_false, not_false_eq_true] at h7
        omega
      · try simp (disch := omega) only [cmpI, w32_b2i, b2i_0, b2i_1, w32_id, Classical.not_not, not_true_eq_false, not_false_eq_true] at h7
        refine Ex_step (tk_Shp_looksOf rfl) ?_
        refine gCR (tk_Shp_looksOf rfl) (hk9) (hr576) ?_
        refine Ex_step (tk_Shp_looksOf rfl) ?_
        refine Ex_step (tk_Shp_looksOf rfl) ?_
        refine Ex_cVK (av := [vR b, vI ((t : Int) + 1)]) (tk_Shp_looksOf rfl) mk_Des_copyTurned ⟨rfl, rfl, by decide, rfl, Nat.le_of_ble_eq_true rfl, Nat.le_of_ble_eq_true rfl⟩ (hD.1) (c_copyTurned (t := t + 1) hD hE (by omega) hG2 hF (by omega) (fun A2 q1 q2 => ⟨rfl, ?_⟩))
        exact key A2 q1 q2
  have h4 := hloop 7 0 0 F A (by omega) rfl (fun _ _ _ => rfl) (fun _ _ _ => rfl)
  refine Ex_step (tk_Shp_looksOf rfl) ?_
  refine Ex_step (tk_Shp_looksOf rfl) ?_
  refine Ex_step (tk_Shp_looksOf rfl) ?_
  refine Ex_step (tk_Shp_looksOf rfl) ?_
  exact h4
end CLooks
