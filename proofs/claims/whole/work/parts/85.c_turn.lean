/-! ===== the class: a design turned ===== -/
def tf (w h : Int) (f : Int → Int → Int) (t : Nat) (X Y : Int) : Int := f (tX0 w h t X Y) (tY0 w h t X Y)
def pf (w h : Int) (f : Int → Int → Int) (t : Nat) (y x : Int) : Int → Int → Int := fun X Y => if tY0 w h t X Y < y ∨ tY0 w h t X Y = y ∧ tX0 w h t X Y < x then tf w h f t X Y else 0
set_option maxRecDepth 100000 in
theorem pf_step (w h : Int) (f : Int → Int → Int) (t : Nat) (y x : Int) : updF (pf w h f t y x) (tXf w h t x y) (tYf w h t x y) (f x y) = pf w h f t y (x + 1) := by
  funext X Y
  unfold updF pf
  have b := t_back w h t x y
  have g := t_forth w h t X Y
  by_cases q : X = tXf w h t x y ∧ Y = tYf w h t x y
  · rw [if_pos q]
    unfold tf
    rw [q.1, q.2, b.1, b.2, if_pos (Or.inr ⟨rfl, by omega⟩)]
  · rw [if_neg q]
    by_cases q2 : tY0 w h t X Y < y ∨ tY0 w h t X Y = y ∧ tX0 w h t X Y < x
    · rw [if_pos q2, if_pos (by omega)]
    · rw [if_neg q2, if_neg (fun z => by
        have e : tX0 w h t X Y = x ∧ tY0 w h t X Y = y := by omega
        rw [e.1, e.2] at g
        exact q ⟨g.1.symm, g.2.symm⟩)]
set_option maxRecDepth 100000 in
theorem pf_row {w h : Int} {f : Int → Int → Int} (hF : FG w h f) (t : Nat) (y : Int) : pf w h f t y w = pf w h f t (y + 1) 0 := by
  funext X Y
  unfold pf
  have g := (hF.2 (tX0 w h t X Y) (tY0 w h t X Y)).2
  by_cases z : tf w h f t X Y = 0
  · rw [z]
    split <;> split <;> rfl
  · have g := g z
    by_cases q : tY0 w h t X Y < y ∨ tY0 w h t X Y = y ∧ tX0 w h t X Y < w
    · rw [if_pos q, if_pos (by omega)]
    · rw [if_neg q, if_neg (by omega)]
set_option maxRecDepth 100000 in
theorem pf_0 {w h : Int} {f : Int → Int → Int} (hF : FG w h f) (t : Nat) : pf w h f t 0 0 = fun _ _ => 0 := by
  funext X Y
  unfold pf
  have g := (hF.2 (tX0 w h t X Y) (tY0 w h t X Y)).2
  by_cases z : tf w h f t X Y = 0
  · rw [z]
    split <;> rfl
  · have g := g z
    rw [if_neg (by omega)]
set_option maxRecDepth 100000 in
theorem pf_end {w h : Int} {f : Int → Int → Int} (hF : FG w h f) (t : Nat) : pf w h f t h 0 = tf w h f t := by
  funext X Y
  unfold pf
  have g := (hF.2 (tX0 w h t X Y) (tY0 w h t X Y)).2
  by_cases z : tf w h f t X Y = 0
  · rw [z]
    split <;> rfl
  · have g := g z
    rw [if_pos (by omega)]
set_option maxRecDepth 100000 in
theorem tf_FG {w h : Int} {f : Int → Int → Int} (hF : FG w h f) (t : Nat) : FG (tW w h t) (tH w h t) (tf w h f t) := by
  refine ⟨?_, fun X Y => ⟨(hF.2 _ _).1, fun z => ?_⟩⟩
  · have := hF.1
    unfold tW tH
    split <;> omega
  · have g := (hF.2 _ _).2 z
    exact t_in0 t g.1 g.2
set_option maxRecDepth 100000 in
theorem q_and : ∀ t : Nat, t < 8 → iAnd (t : Int) 3 = ((t % 4 : Nat) : Int) ∧ iAnd (t : Int) 1 = ((t % 2 : Nat) : Int) := by decide
set_option maxRecDepth 100000 in
theorem tWH2 {w h : Int} (t : Nat) (hw : 0 ≤ w ∧ w ≤ 10) (hh : 0 ≤ h ∧ h ≤ 10) : (0 ≤ tW w h t ∧ tW w h t ≤ 10) ∧ 0 ≤ tH w h t ∧ tH w h t ≤ 10 := by
  unfold tW tH
  split
  · exact ⟨hw, hh⟩
  · exact ⟨hh, hw⟩
section CTurn
variable {d a b t : Nat} {x y w h : Int} {f : Int → Int → Int} {m : Mem} {F A L : Nat → Nat → Int} {Q : Nat → Option AV → Mem → Prop}
set_option maxRecDepth 100000 in
theorem c_colB {q : Nat} (hk3 : mK m a = 3) (hw : F 193 a = w) (hh : F 194 a = h) (hq4 : q < 4) (hq : Q 0 (some (vI (if q = 0 then x else if q = 1 then h - 1 - y else if q = 2 then w - 1 - x else y))) (CM m F A L)) : Ex d Des_columnBehind 0 [some (vR a), some (vI (q : Int)), some (vI x), some (vI y)] [] (CM m F A L) Q := by
  refine Ex_step (tk_Des_columnBehind rfl) ?_
  refine Ex_step (tk_Des_columnBehind rfl) ?_
  rcases (show q = 0 ∨ q = 1 ∨ q = 2 ∨ q = 3 by omega) with rfl | rfl | rfl | rfl
  · show Ex d Des_columnBehind 28 _ [] _ Q
    refine Ex_step (tk_Des_columnBehind rfl) ?_
    refine Ex_step (tk_Des_columnBehind rfl) ⟨rfl, ?_⟩
    exact hq
  · show Ex d Des_columnBehind 30 _ [] _ Q
    refine Ex_step (tk_Des_columnBehind rfl) ?_
    refine gCI (tk_Des_columnBehind rfl) (hk3) ?_
    rw [hh]
    refine Ex_step (tk_Des_columnBehind rfl) ?_
    refine Ex_step (tk_Des_columnBehind rfl) ?_
    refine Ex_step (tk_Des_columnBehind rfl) ?_
    refine Ex_step (tk_Des_columnBehind rfl) ?_
    refine Ex_step (tk_Des_columnBehind rfl) ⟨rfl, ?_⟩
    exact hq
  · show Ex d Des_columnBehind 39 _ [] _ Q
    refine Ex_step (tk_Des_columnBehind rfl) ?_
    refine gCI (tk_Des_columnBehind rfl) (hk3) ?_
    rw [hw]
    refine Ex_step (tk_Des_columnBehind rfl) ?_
    refine Ex_step (tk_Des_columnBehind rfl) ?_
    refine Ex_step (tk_Des_columnBehind rfl) ?_
    refine Ex_step (tk_Des_columnBehind rfl) ?_
    refine Ex_step (tk_Des_columnBehind rfl) ⟨rfl, ?_⟩
    exact hq
  · show Ex d Des_columnBehind 48 _ [] _ Q
    refine Ex_step (tk_Des_columnBehind rfl) ?_
    refine Ex_step (tk_Des_columnBehind rfl) ⟨rfl, ?_⟩
    exact hq
set_option maxRecDepth 100000 in
theorem c_rowB {q : Nat} (hk3 : mK m a = 3) (hw : F 193 a = w) (hh : F 194 a = h) (hq4 : q < 4) (hq : Q 0 (some (vI (if q = 0 then y else if q = 1 then x else if q = 2 then h - 1 - y else w - 1 - x))) (CM m F A L)) : Ex d Des_rowBehind 0 [some (vR a), some (vI (q : Int)), some (vI x), some (vI y)] [] (CM m F A L) Q := by
  refine Ex_step (tk_Des_rowBehind rfl) ?_
  refine Ex_step (tk_Des_rowBehind rfl) ?_
  rcases (show q = 0 ∨ q = 1 ∨ q = 2 ∨ q = 3 by omega) with rfl | rfl | rfl | rfl
  · show Ex d Des_rowBehind 28 _ [] _ Q
    refine Ex_step (tk_Des_rowBehind rfl) ?_
    refine Ex_step (tk_Des_rowBehind rfl) ⟨rfl, ?_⟩
    exact hq
  · show Ex d Des_rowBehind 30 _ [] _ Q
    refine Ex_step (tk_Des_rowBehind rfl) ?_
    refine Ex_step (tk_Des_rowBehind rfl) ⟨rfl, ?_⟩
    exact hq
  · show Ex d Des_rowBehind 32 _ [] _ Q
    refine Ex_step (tk_Des_rowBehind rfl) ?_
    refine gCI (tk_Des_rowBehind rfl) (hk3) ?_
    rw [hh]
    refine Ex_step (tk_Des_rowBehind rfl) ?_
    refine Ex_step (tk_Des_rowBehind rfl) ?_
    refine Ex_step (tk_Des_rowBehind rfl) ?_
    refine Ex_step (tk_Des_rowBehind rfl) ?_
    refine Ex_step (tk_Des_rowBehind rfl) ⟨rfl, ?_⟩
    exact hq
  · show Ex d Des_rowBehind 41 _ [] _ Q
    refine Ex_step (tk_Des_rowBehind rfl) ?_
    refine gCI (tk_Des_rowBehind rfl) (hk3) ?_
    rw [hw]
    refine Ex_step (tk_Des_rowBehind rfl) ?_
    refine Ex_step (tk_Des_rowBehind rfl) ?_
    refine Ex_step (tk_Des_rowBehind rfl) ?_
    refine Ex_step (tk_Des_rowBehind rfl) ?_
    refine Ex_step (tk_Des_rowBehind rfl) ⟨rfl, ?_⟩
    exact hq
set_option maxRecDepth 100000 in
theorem DB_keep {A A' : Nat → Nat → Int} {a b : Nat} {f : Int → Int → Int} (hab : a + 3 ≤ b ∨ b + 3 ≤ a) (k : ∀ j, j ≠ a + 1 → j ≠ a + 2 → A' j = A j) (h : DB A b f) : DB A' b f := by
  intro y hy i hi
  rw [k (b + 1) (by omega) (by omega), k (b + 2) (by omega) (by omega)]
  exact h y hy i hi
set_option maxRecDepth 100000 in
theorem c_turnC (hD : DW m a) (hE : DW m b) (hab : a + 3 ≤ b ∨ b + 3 ≤ a) (hG : DG F A b w h f) (hF : FG w h f) (ht : t < 8) {x y : Nat} (hx : (x : Int) < w) (hy : (y : Int) < h) (hB : DB A a (pf w h f t (y : Int) (x : Int))) {l3 l6 l7 l8 : Option AV} (hq : ∀ (A' : Nat → Nat → Int) (l6 l7 l8 : Option AV), (∀ j, j ≠ a + 1 → j ≠ a + 2 → A' j = A j) → DB A' a (pf w h f t (y : Int) ((x : Int) + 1)) → Ex (d + 2) Des_copyTurned 133 [some (vR a), some (vR b), some (vI (t : Int)), l3, some (vI (y : Int)), some (vI (x : Int)), l6, l7, l8] [] (CM m F A' L) Q) : Ex (d + 2) Des_copyTurned 70 [some (vR a), some (vR b), some (vI (t : Int)), l3, some (vI (y : Int)), some (vI (x : Int)), l6, l7, l8] [] (CM m F A L) Q := by
  have hk3 := hE.1
  have bw := hF.1
  have r := (hF.2 (x : Int) (y : Int)).1
  have qa := (q_and t ht).1
  have tin := t_in (w := w) (h := h) t (x := (x : Int)) (y := (y : Int)) (by omega) (by omega)
  have tb := tWH2 (w := w) (h := h) t bw.1 bw.2
  have ps := pf_step w h f t (y : Int) (x : Int)
  have cm := mirX_c w t (x : Int)
  have ex : (if t % 4 = 0 then mirX w t (x : Int) else if t % 4 = 1 then h - 1 - (y : Int) else if t % 4 = 2 then w - 1 - mirX w t (x : Int) else (y : Int)) = tXf w h t (x : Int) (y : Int) := rfl
  have ey : (if t % 4 = 0 then (y : Int) else if t % 4 = 1 then mirX w t (x : Int) else if t % 4 = 2 then h - 1 - (y : Int) else w - 1 - mirX w t (x : Int)) = tYf w h t (x : Int) (y : Int) := rfl
  generalize tXf w h t (x : Int) (y : Int) = tx at *
  generalize tYf w h t (x : Int) (y : Int) = ty at *
  have h89 : ∀ (v : Int) (l6 : Option AV), v = mirX w t (x : Int) → Ex (d + 2) Des_copyTurned 89 [some (vR a), some (vR b), some (vI (t : Int)), l3, some (vI (y : Int)), some (vI (x : Int)), l6, l7, l8] [vI v] (CM m F A L) Q := by
    intro v l6 hv
    subst hv
    refine Ex_step (tk_Des_copyTurned rfl) ?_
    refine Ex_step (tk_Des_copyTurned rfl) ?_
    refine Ex_step (tk_Des_copyTurned rfl) ?_
    refine Ex_step (tk_Des_copyTurned rfl) ?_
    refine Ex_step (tk_Des_copyTurned rfl) ?_
    show Ex (d + 2) Des_copyTurned 95 _ (vI (iAnd (t : Int) 3) :: _) _ Q
    rw [qa]
    refine Ex_step (tk_Des_copyTurned rfl) ?_
    refine Ex_step (tk_Des_copyTurned rfl) ?_
    refine Ex_cV0 (av := [vI ((t % 4 : Nat) : Int), vI (mirX w t (x : Int)), vI (y : Int)]) (tk_Des_copyTurned rfl) mk_Des_columnBehind ⟨rfl, rfl, by decide, rfl, Nat.le_of_ble_eq_true rfl, Nat.le_of_ble_eq_true rfl⟩ (hk3) (fun _ h => c_colB hk3 hG.1 hG.2.1 (by omega) h) ?_
    rw [ex]
    refine Ex_step (tk_Des_copyTurned rfl) ?_
    refine Ex_step (tk_Des_copyTurned rfl) ?_
    refine Ex_step (tk_Des_copyTurned rfl) ?_
    refine Ex_step (tk_Des_copyTurned rfl) ?_
    refine Ex_step (tk_Des_copyTurned rfl) ?_
    show Ex (d + 2) Des_copyTurned 108 _ (vI (iAnd (t : Int) 3) :: _) _ Q
    rw [qa]
    refine Ex_step (tk_Des_copyTurned rfl) ?_
    refine Ex_step (tk_Des_copyTurned rfl) ?_
    refine Ex_cV0 (av := [vI ((t % 4 : Nat) : Int), vI (mirX w t (x : Int)), vI (y : Int)]) (tk_Des_copyTurned rfl) mk_Des_rowBehind ⟨rfl, rfl, by decide, rfl, Nat.le_of_ble_eq_true rfl, Nat.le_of_ble_eq_true rfl⟩ (hk3) (fun _ h => c_rowB hk3 hG.1 hG.2.1 (by omega) h) ?_
    rw [ey]
    refine Ex_step (tk_Des_copyTurned rfl) ?_
    refine Ex_step (tk_Des_copyTurned rfl) ?_
    refine Ex_step (tk_Des_copyTurned rfl) ?_
    refine Ex_step (tk_Des_copyTurned rfl) ?_
    refine Ex_step (tk_Des_copyTurned rfl) ?_
    refine Ex_step (tk_Des_copyTurned rfl) ?_
    refine Ex_step (tk_Des_copyTurned rfl) ?_
    refine Ex_cV0 (av := [vI (x : Int), vI (y : Int)]) (tk_Des_copyTurned rfl) mk_Des_sortAt ⟨rfl, rfl, by decide, rfl, Nat.le_of_ble_eq_true rfl, Nat.le_of_ble_eq_true rfl⟩ (hk3) (fun _ h => c_sortAt hE hG hF (by unfold okI; omega) (by unfold okI; omega) h) ?_
    refine Ex_cVK (av := [vI tx, vI ty, vI (f (x : Int) (y : Int))]) (tk_Des_copyTurned rfl) mk_Des_put ⟨rfl, rfl, by decide, rfl, Nat.le_of_ble_eq_true rfl, Nat.le_of_ble_eq_true rfl⟩ (hD.1) (c_put hD hB (by omega) (by omega) r (fun A' k1 k2 => ⟨rfl, ?_⟩))
    rw [ps] at k2
    exact hq A' _ _ _ k1 k2
  refine Ex_step (tk_Des_copyTurned rfl) ?_
  refine Ex_step (tk_Des_copyTurned rfl) ?_
  refine Ex_step (tk_Des_copyTurned rfl) ⟨fun h72 => ?_, fun h72 => ?_⟩
  · try simp (disch := omega) only [cmpI, w32_b2i, b2i_0, b2i_1, w32_id, Classical.not_not, not_true_eq_false, not_false_eq_true] at h72
    refine Ex_step (tk_Des_copyTurned rfl) ?_
    exact h89 _ _ (by omega)
  · try simp (disch := omega) only [cmpI, w32_b2i, b2i_0, b2i_1, w32_id, Classical.not_not, not_true_eq_false, not_false_eq_true] at h72
    refine Ex_step (tk_Des_copyTurned rfl) ?_
    refine gCI (tk_Des_copyTurned rfl) (hk3) ?_
    rw [hG.1]
    refine Ex_step (tk_Des_copyTurned rfl) ?_
    refine Ex_step (tk_Des_copyTurned rfl) ?_
    refine Ex_step (tk_Des_copyTurned rfl) ?_
    refine Ex_step (tk_Des_copyTurned rfl) ?_
    refine Ex_step (tk_Des_copyTurned rfl) ?_
    exact h89 _ _ (by omega)
set_option maxRecDepth 100000 in
theorem c_copyTurned (hD : DW m a) (hE : DW m b) (hab : a + 3 ≤ b ∨ b + 3 ≤ a) (hG : DG F A b w h f) (hF : FG w h f) (ht : t < 8) (hq : ∀ A' : Nat → Nat → Int, (∀ j, j ≠ a + 1 → j ≠ a + 2 → A' j = A j) → DB A' a (tf w h f t) → Q 0 none (CM m (upF (upF F 193 a (tW w h t)) 194 a (tH w h t)) A' L)) : Ex (d + 2) Des_copyTurned 0 [some (vR a), some (vR b), some (vI (t : Int)), none, none, none, none, none, none] [] (CM m F A L) Q := by
  have hk3 := hE.1
  have bw := hF.1
  have qa := (q_and t ht).2
  have cw := tW_c w h t
  have hne : b ≠ a := by omega
  have hF1 : upF (upF F 193 a (tW w h t)) 194 a (tH w h t) 193 b = w := by rw [upF_a _ _ _ hne, upF_a _ _ _ hne]; exact hG.1
  have hF2 : upF (upF F 193 a (tW w h t)) 194 a (tH w h t) 194 b = h := by rw [upF_a _ _ _ hne, upF_a _ _ _ hne]; exact hG.2.1
  generalize hFe : upF (upF F 193 a (tW w h t)) 194 a (tH w h t) = F1 at *
  have hrow : ∀ (y : Nat), (y : Int) < h → (∀ (A2 : Nat → Nat → Int) (l5 l6 l7 l8 : Option AV), (∀ j, j ≠ a + 1 → j ≠ a + 2 → A2 j = A j) → DB A2 a (pf w h f t ((y : Int) + 1) 0) → Ex (d + 2) Des_copyTurned 139 [some (vR a), some (vR b), some (vI (t : Int)), some (vI (b2i (t % 2 = 0))), some (vI (y : Int)), l5, l6, l7, l8] [] (CM m F1 A2 L) Q) → ∀ (r x : Nat) (A2 : Nat → Nat → Int) (l6 l7 l8 : Option AV), (x : Int) + (r : Int) = w → (∀ j, j ≠ a + 1 → j ≠ a + 2 → A2 j = A j) → DB A2 a (pf w h f t (y : Int) (x : Int)) → Ex (d + 2) Des_copyTurned 61 [some (vR a), some (vR b), some (vI (t : Int)), some (vI (b2i (t % 2 = 0))), some (vI (y : Int)), some (vI (x : Int)), l6, l7, l8] [] (CM m F1 A2 L) Q := by
    intro y hy h2 r
    induction r with
    | zero =>
      intro x A2 l6 l7 l8 hx k1 k2
      have hxw : (x : Int) = w := by omega
      rw [hxw, pf_row hF] at k2
      refine Ex_step (tk_Des_copyTurned rfl) ?_
      refine Ex_step (tk_Des_copyTurned rfl) ?_
      refine gCI (tk_Des_copyTurned rfl) (hk3) ?_
      rw [hF1]
      refine Ex_step (tk_Des_copyTurned rfl) ⟨fun h67 => ?_, fun h67 => ?_⟩
      · try simp (disch := omega) only [cmpI, w32_b2i, b2i_0, b2i_1, w32_id, Classical.not_not, not_true_eq_false, not_false_eq_true] at h67
        exact h2 A2 _ _ _ _ k1 k2
      · try simp (disch := omega) only [cmpI, w32_b2i, b2i_0, b2i_1, w32_id, Classical.not_not, not_true_eq_false, not_false_eq_true] at h67
        omega
    | succ r ih =>
      intro x A2 l6 l7 l8 hx k1 k2
      have h133 : ∀ (A' : Nat → Nat → Int) (l6 l7 l8 : Option AV), (∀ j, j ≠ a + 1 → j ≠ a + 2 → A' j = A2 j) → DB A' a (pf w h f t (y : Int) ((x : Int) + 1)) → Ex (d + 2) Des_copyTurned 133 [some (vR a), some (vR b), some (vI (t : Int)), some (vI (b2i (t % 2 = 0))), some (vI (y : Int)), some (vI (x : Int)), l6, l7, l8] [] (CM m F1 A' L) Q := by
        intro A' l6 l7 l8 k3 k4
        have hnx := ih (x + 1) A' l6 l7 l8 (by omega) (fun j h1 h2 => (k3 j h1 h2).trans (k1 j h1 h2)) k4
        refine Ex_step (tk_Des_copyTurned rfl) ?_
        refine Ex_step (tk_Des_copyTurned rfl) ?_
        exact hnx
      refine Ex_step (tk_Des_copyTurned rfl) ?_
      refine Ex_step (tk_Des_copyTurned rfl) ?_
      refine gCI (tk_Des_copyTurned rfl) (hk3) ?_
      rw [hF1]
      refine Ex_step (tk_Des_copyTurned rfl) ⟨fun h67 => ?_, fun h67 => ?_⟩
      · try simp (disch := omega) only [cmpI, w32_b2i, b2i_0, b2i_1, w32_id, Classical.not_not, not_true_eq_false, not_false_eq_true] at h67
        omega
      · try simp (disch := omega) only [cmpI, w32_b2i, b2i_0, b2i_1, w32_id, Classical.not_not, not_true_eq_false, not_false_eq_true] at h67
        exact c_turnC hD hE hab ⟨hF1, hF2, DB_keep hab k1 hG.2.2⟩ hF ht (by omega) hy k2 h133
  have hall : ∀ (r y : Nat) (A2 : Nat → Nat → Int) (l5 l6 l7 l8 : Option AV), (y : Int) + (r : Int) = h → (∀ j, j ≠ a + 1 → j ≠ a + 2 → A2 j = A j) → DB A2 a (pf w h f t (y : Int) 0) → Ex (d + 2) Des_copyTurned 49 [some (vR a), some (vR b), some (vI (t : Int)), some (vI (b2i (t % 2 = 0))), some (vI (y : Int)), l5, l6, l7, l8] [] (CM m F1 A2 L) Q := by
    intro r
    induction r with
    | zero =>
      intro y A2 l5 l6 l7 l8 hy k1 k2
      have hyh : (y : Int) = h := by omega
      rw [hyh, pf_end hF] at k2
      refine Ex_step (tk_Des_copyTurned rfl) ?_
      refine Ex_step (tk_Des_copyTurned rfl) ?_
      refine gCI (tk_Des_copyTurned rfl) (hk3) ?_
      rw [hF2]
      refine Ex_step (tk_Des_copyTurned rfl) ⟨fun h55 => ?_, fun h55 => ?_⟩
      · try simp (disch := omega) only [cmpI, w32_b2i, b2i_0, b2i_1, w32_id, Classical.not_not, not_true_eq_false, not_false_eq_true] at h55
        refine Ex_step (tk_Des_copyTurned rfl) ⟨rfl, ?_⟩
        exact hq A2 k1 k2
      · try simp (disch := omega) only [cmpI, w32_b2i, b2i_0, b2i_1, w32_id, Classical.not_not, not_true_eq_false, not_false_eq_true] at h55
        omega
    | succ r ih =>
      intro y A2 l5 l6 l7 l8 hy k1 k2
      have h139 : ∀ (A2 : Nat → Nat → Int) (l5 l6 l7 l8 : Option AV), (∀ j, j ≠ a + 1 → j ≠ a + 2 → A2 j = A j) → DB A2 a (pf w h f t ((y : Int) + 1) 0) → Ex (d + 2) Des_copyTurned 139 [some (vR a), some (vR b), some (vI (t : Int)), some (vI (b2i (t % 2 = 0))), some (vI (y : Int)), l5, l6, l7, l8] [] (CM m F1 A2 L) Q := by
        intro A2 l5 l6 l7 l8 k1 k2
        have hnx := ih (y + 1) A2 l5 l6 l7 l8 (by omega) k1 k2
        refine Ex_step (tk_Des_copyTurned rfl) ?_
        refine Ex_step (tk_Des_copyTurned rfl) ?_
        exact hnx
      obtain ⟨wn, hwe⟩ : ∃ wn : Nat, (wn : Int) = w := ⟨w.toNat, by omega⟩
      have h61 := hrow y (by omega) h139 wn 0 A2 l6 l7 l8 (by omega) k1 k2
      refine Ex_step (tk_Des_copyTurned rfl) ?_
      refine Ex_step (tk_Des_copyTurned rfl) ?_
      refine gCI (tk_Des_copyTurned rfl) (hk3) ?_
      rw [hF2]
      refine Ex_step (tk_Des_copyTurned rfl) ⟨fun h55 => ?_, fun h55 => ?_⟩
      · try simp (disch := omega) only [cmpI, w32_b2i, b2i_0, b2i_1, w32_id, Classical.not_not, not_true_eq_false, not_false_eq_true] at h55
        omega
      · try simp (disch := omega) only [cmpI, w32_b2i, b2i_0, b2i_1, w32_id, Classical.not_not, not_true_eq_false, not_false_eq_true] at h55
        refine Ex_step (tk_Des_copyTurned rfl) ?_
        refine Ex_step (tk_Des_copyTurned rfl) ?_
        exact h61
  have h43 : ∀ v1 v2 : Int, v1 = tW w h t → v2 = tH w h t → Ex (d + 2) Des_copyTurned 43 [some (vR a), some (vR b), some (vI (t : Int)), some (vI (b2i (t % 2 = 0))), none, none, none, none, none] [vI v2, vI v1, vR a] (CM m F A L) Q := by
    intro v1 v2 e1 e2
    subst e1
    subst e2
    obtain ⟨hn, hhe⟩ : ∃ hn : Nat, (hn : Int) = h := ⟨h.toNat, by omega⟩
    refine Ex_cVK (av := [vI (tW w h t), vI (tH w h t)]) (tk_Des_copyTurned rfl) mk_Des_resize ⟨rfl, rfl, by decide, rfl, Nat.le_of_ble_eq_true rfl, Nat.le_of_ble_eq_true rfl⟩ (hD.1) (c_resize hD (fun A' k1 k2 => ⟨rfl, ?_⟩))
    refine Ex_step (tk_Des_copyTurned rfl) ?_
    refine Ex_step (tk_Des_copyTurned rfl) ?_
    rw [hFe]
    rw [← pf_0 hF t] at k2
    exact hall hn 0 A' none none none none (by omega) k1 k2
  have h28 : ∀ v1 : Int, v1 = tW w h t → Ex (d + 2) Des_copyTurned 28 [some (vR a), some (vR b), some (vI (t : Int)), some (vI (b2i (t % 2 = 0))), none, none, none, none, none] [vI v1, vR a] (CM m F A L) Q := by
    intro v1 e1
    refine Ex_step (tk_Des_copyTurned rfl) ?_
    refine Ex_step (tk_Des_copyTurned rfl) ⟨fun h29 => ?_, fun h29 => ?_⟩
    · try simp (disch := omega) only [cmpI, w32_b2i, b2i_0, b2i_1, w32_id, Classical.not_not, not_true_eq_false, not_false_eq_true] at h29
      refine Ex_step (tk_Des_copyTurned rfl) ?_
      refine gCI (tk_Des_copyTurned rfl) (hk3) ?_
      first | exact hx | (rw [hG.1]; exact h43 v1 w e1 (by omega))
    · try simp (disch := omega) only [cmpI, w32_b2i, b2i_0, b2i_1, w32_id, Classical.not_not, not_true_eq_false, not_false_eq_true] at h29
      refine Ex_step (tk_Des_copyTurned rfl) ?_
      refine gCI (tk_Des_copyTurned rfl) (hk3) ?_
      rw [hG.2.1]
      have hx := h43 v1 h e1 (by omega)
      refine Ex_step (tk_Des_copyTurned rfl) ?_
      first | exact hx | (rw [hG.1]; exact h43 v1 w e1 (by omega))
  have h11 : ∀ v : Int, v = b2i (t % 2 = 0) → Ex (d + 2) Des_copyTurned 11 [some (vR a), some (vR b), some (vI (t : Int)), none, none, none, none, none, none] [vI v] (CM m F A L) Q := by
    intro v hv
    subst hv
    refine Ex_step (tk_Des_copyTurned rfl) ?_
    refine Ex_step (tk_Des_copyTurned rfl) ?_
    refine Ex_step (tk_Des_copyTurned rfl) ?_
    refine Ex_step (tk_Des_copyTurned rfl) ⟨fun h14 => ?_, fun h14 => ?_⟩
    · try simp (disch := omega) only [cmpI, w32_b2i, b2i_0, b2i_1, w32_id, Classical.not_not, not_true_eq_false, not_false_eq_true] at h14
      refine Ex_step (tk_Des_copyTurned rfl) ?_
      refine gCI (tk_Des_copyTurned rfl) (hk3) ?_
      first | exact hx | (rw [hG.2.1]; exact h28 h (by omega))
    · try simp (disch := omega) only [cmpI, w32_b2i, b2i_0, b2i_1, w32_id, Classical.not_not, not_true_eq_false, not_false_eq_true] at h14
      refine Ex_step (tk_Des_copyTurned rfl) ?_
      refine gCI (tk_Des_copyTurned rfl) (hk3) ?_
      rw [hG.1]
      have hx := h28 w (by omega)
      refine Ex_step (tk_Des_copyTurned rfl) ?_
      first | exact hx | (rw [hG.2.1]; exact h28 h (by omega))
  refine Ex_step (tk_Des_copyTurned rfl) ?_
  refine Ex_step (tk_Des_copyTurned rfl) ?_
  refine Ex_step (tk_Des_copyTurned rfl) ?_
  show Ex (d + 2) Des_copyTurned 3 _ [vI (iAnd (t : Int) 1)] _ Q
  rw [qa]
  refine Ex_step (tk_Des_copyTurned rfl) ⟨fun h3 => ?_, fun h3 => ?_⟩
  · try simp (disch := omega) only [cmpI, w32_b2i, b2i_0, b2i_1, w32_id, Classical.not_not, not_true_eq_false, not_false_eq_true] at h3
    have hx := h11 0 (b2i_f (by omega)).symm
    refine Ex_step (tk_Des_copyTurned rfl) ?_
    exact hx
  · try simp (disch := omega) only [cmpI, w32_b2i, b2i_0, b2i_1, w32_id, Classical.not_not, not_true_eq_false, not_false_eq_true] at h3
    have hx := h11 1 (b2i_t (by omega)).symm
    refine Ex_step (tk_Des_copyTurned rfl) ?_
    refine Ex_step (tk_Des_copyTurned rfl) ?_
    exact hx
end CTurn
