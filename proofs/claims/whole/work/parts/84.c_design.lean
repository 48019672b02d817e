/-! ===== the class: a design ===== -/
set_option maxRecDepth 100000 in
theorem DB_at2 {A : Nat → Nat → Int} {a : Nat} {f : Int → Int → Int} (h : DB A a f) (hF : FB f) {x y : Int} (hx : 0 ≤ x ∧ x < 10) (hy : 0 ≤ y ∧ y < 10) : iAnd (iShr (A (a + 1) y.toNat) x) 1 = (if f x y = 1 ∨ f x y = 3 then 1 else 0) ∧ iAnd (iShr (A (a + 2) y.toNat) x) 1 = (if f x y = 2 ∨ f x y = 3 then 1 else 0) := by
  obtain ⟨xn, rfl⟩ := Int.eq_ofNat_of_zero_le hx.1
  obtain ⟨yn, rfl⟩ := Int.eq_ofNat_of_zero_le hy.1
  exact DB_at h hF (by omega) (by omega)
def updF (f : Int → Int → Int) (x y v : Int) : Int → Int → Int := fun X Y => if X = x ∧ Y = y then v else f X Y
set_option maxRecDepth 100000 in
theorem bit_put (r : Int) {x : Nat} (hx : x < 10) {b : Int} (hb : b = 0 ∨ b = 1) {i : Nat} (hi : i < 32) : ib (iOr (iAnd r (iXor (iShl 1 (x : Int)) (-1))) (iShl b (x : Int))) i = if i = x then decide (b = 1) else ib r i := by
  rw [ib_or, ib_and, ib_xor, ib_shl 1 (by omega), ib_m1 hi, ib_shl b (by omega), ib_1, decide_eq_true hi]
  by_cases q : i = x
  · subst q
    rw [if_pos rfl, Nat.sub_self]
    rcases hb with rfl | rfl
    · rw [ib_0]
      simp
    · rw [ib_1]
      simp
  · rw [if_neg q]
    by_cases q2 : i < x
    · simp [q2]
    · have q3 : ¬ i - x = 0 := by omega
      have q4 : ib b (i - x) = false := by
        rcases hb with rfl | rfl
        · exact ib_0 _
        · rw [ib_1]; exact decide_eq_false q3
      simp [q2, q3, q4]
set_option maxRecDepth 100000 in
theorem so_bits {so : Int} (h : 0 ≤ so ∧ so ≤ 3) : (iAnd so 1 = (if so = 1 ∨ so = 3 then 1 else 0)) ∧ (iAnd (iShr so 1) 1 = (if so = 2 ∨ so = 3 then 1 else 0)) := by
  rcases (show so = 0 ∨ so = 1 ∨ so = 2 ∨ so = 3 by omega) with rfl | rfl | rfl | rfl <;> decide
set_option maxRecDepth 100000 in
theorem DB_put {A A' : Nat → Nat → Int} {a : Nat} {f : Int → Int → Int} (h : DB A a f) {x y : Nat} (hx : x < 10) {so : Int} (hs : 0 ≤ so ∧ so ≤ 3) (e1 : A' (a + 1) = up1 (A (a + 1)) y (iOr (iAnd (A (a + 1) y) (iXor (iShl 1 (x : Int)) (-1))) (iShl (iAnd so 1) (x : Int)))) (e2 : A' (a + 2) = up1 (A (a + 2)) y (iOr (iAnd (A (a + 2) y) (iXor (iShl 1 (x : Int)) (-1))) (iShl (iAnd (iShr so 1) 1) (x : Int)))) : DB A' a (updF f (x : Int) (y : Int) so) := by
  intro y2 hy2 i hi
  have s := so_bits hs
  rw [e1, e2]
  by_cases q : y2 = y
  · subst q
    rw [up1_at, up1_at, bit_put _ hx (by rw [s.1]; split <;> simp) hi, bit_put _ hx (by rw [s.2]; split <;> simp) hi, s.1, s.2]
    by_cases q2 : i = x
    · subst q2
      have u : updF f (i : Int) (y2 : Int) so (i : Int) (y2 : Int) = so := if_pos ⟨rfl, rfl⟩
      rw [if_pos rfl, if_pos rfl, u]
      constructor
      · by_cases z : so = 1 ∨ so = 3
        · rw [if_pos z, decide_eq_true z]; rfl
        · rw [if_neg z, decide_eq_false z]; rfl
      · by_cases z : so = 2 ∨ so = 3
        · rw [if_pos z, decide_eq_true z]; rfl
        · rw [if_neg z, decide_eq_false z]; rfl
    · have u : updF f (x : Int) (y2 : Int) so (i : Int) (y2 : Int) = f (i : Int) (y2 : Int) := if_neg (by omega)
      rw [if_neg q2, if_neg q2, u]
      exact h y2 hy2 i hi
  · have u : updF f (x : Int) (y : Int) so (i : Int) (y2 : Int) = f (i : Int) (y2 : Int) := if_neg (by omega)
    rw [up1_ne _ _ q, up1_ne _ _ q, u]
    exact h y2 hy2 i hi
section CDesign
variable {d a b : Nat} {x y w h : Int} {f : Int → Int → Int} {m : Mem} {F A L : Nat → Nat → Int} {Q : Nat → Option AV → Mem → Prop}
set_option maxRecDepth 100000 in
theorem cpC {y pc nx idx : Nat} {rs : List Nat} {c0 : Int} {ls : Ls} {r : List AV} (hk : okE y pc (.invokestatic idx, nx, rs, c0)) (h9 : n1 (.invokestatic idx, nx, rs, c0) = 998) (hA : IA m a 10) (hB : IA m b 10) (h1 : 100 ≤ a ∧ 100 ≤ b ∧ a ≠ b) (hc : catS r ≤ 8) (h : Ex d y nx ls r (CM m F (up1 A b (cpy1 (A a) (A b) 0 0 10)) L) Q) : Ex d y pc ls (vI 10 :: vI 0 :: vR b :: vI 0 :: vR a :: r) (CM m F A L) Q := by
  refine Ex_step hk ⟨h9, hA.1, hB.1, h1.1, h1.2.1, h1.2.2, hc, by decide, by decide, by decide, ?_, ?_, h⟩
  · show w32 0 + w32 10 ≤ (mLen m a : Int)
    rw [hA.2.1]
    decide
  · show w32 0 + w32 10 ≤ (mLen m b : Int)
    rw [hB.2.1]
    decide
set_option maxRecDepth 100000 in
theorem c_hasCell (hk3 : mK m a = 3) (hw : F 193 a = w) (hh : F 194 a = h) (bw : 0 ≤ w ∧ w ≤ 10) (bh : 0 ≤ h ∧ h ≤ 10) (hx : okI x) (hy : okI y) (hq : Q 0 (some (vI (b2i ((0 ≤ x ∧ x < w) ∧ 0 ≤ y ∧ y < h)))) (CM m F A L)) : Ex d Des_hasCell 0 [some (vR a), some (vI x), some (vI y)] [] (CM m F A L) Q := by
  obtain ⟨hx1, hx2⟩ := hx
  obtain ⟨hy1, hy2⟩ := hy
  refine Ex_step (tk_Des_hasCell rfl) ?_
  refine Ex_step (tk_Des_hasCell rfl) ⟨fun h1 => ?_, fun h1 => ?_⟩
  · try simp (disch := omega) only [cmpI, w32_b2i, b2i_0, b2i_1, w32_id, Classical.not_not, not_true_eq_false, not_false_eq_true] at h1
    refine Ex_step (tk_Des_hasCell rfl) ?_
    refine Ex_step (tk_Des_hasCell rfl) ⟨rfl, by first | exact Or.inl rfl | exact Or.inr rfl | exact b2i_01 _ | assumption, ?_⟩
    first | (rw [b2i_t (by omega)] at hq; exact hq) | (rw [b2i_f (by omega)] at hq; exact hq)
  · try simp (disch := omega) only [cmpI, w32_b2i, b2i_0, b2i_1, w32_id, Classical.not_not, not_true_eq_false, not_false_eq_true] at h1
    refine Ex_step (tk_Des_hasCell rfl) ?_
    refine Ex_step (tk_Des_hasCell rfl) ?_
    refine gCI (tk_Des_hasCell rfl) (hk3) ?_
    rw [hw]
    refine Ex_step (tk_Des_hasCell rfl) ⟨fun h9 => ?_, fun h9 => ?_⟩
    · try simp (disch := omega) only [cmpI, w32_b2i, b2i_0, b2i_1, w32_id, Classical.not_not, not_true_eq_false, not_false_eq_true] at h9
      refine Ex_step (tk_Des_hasCell rfl) ?_
      refine Ex_step (tk_Des_hasCell rfl) ⟨rfl, by first | exact Or.inl rfl | exact Or.inr rfl | exact b2i_01 _ | assumption, ?_⟩
      first | (rw [b2i_t (by omega)] at hq; exact hq) | (rw [b2i_f (by omega)] at hq; exact hq)
    · try simp (disch := omega) only [cmpI, w32_b2i, b2i_0, b2i_1, w32_id, Classical.not_not, not_true_eq_false, not_false_eq_true] at h9
      refine Ex_step (tk_Des_hasCell rfl) ?_
      refine Ex_step (tk_Des_hasCell rfl) ⟨fun h13 => ?_, fun h13 => ?_⟩
      · try simp (disch := omega) only [cmpI, w32_b2i, b2i_0, b2i_1, w32_id, Classical.not_not, not_true_eq_false, not_false_eq_true] at h13
        refine Ex_step (tk_Des_hasCell rfl) ?_
        refine Ex_step (tk_Des_hasCell rfl) ⟨rfl, by first | exact Or.inl rfl | exact Or.inr rfl | exact b2i_01 _ | assumption, ?_⟩
        first | (rw [b2i_t (by omega)] at hq; exact hq) | (rw [b2i_f (by omega)] at hq; exact hq)
      · try simp (disch := omega) only [cmpI, w32_b2i, b2i_0, b2i_1, w32_id, Classical.not_not, not_true_eq_false, not_false_eq_true] at h13
        refine Ex_step (tk_Des_hasCell rfl) ?_
        refine Ex_step (tk_Des_hasCell rfl) ?_
        refine gCI (tk_Des_hasCell rfl) (hk3) ?_
        rw [hh]
        refine Ex_step (tk_Des_hasCell rfl) ⟨fun h21 => ?_, fun h21 => ?_⟩
        · try simp (disch := omega) only [cmpI, w32_b2i, b2i_0, b2i_1, w32_id, Classical.not_not, not_true_eq_false, not_false_eq_true] at h21
          refine Ex_step (tk_Des_hasCell rfl) ?_
          refine Ex_step (tk_Des_hasCell rfl) ⟨rfl, by first | exact Or.inl rfl | exact Or.inr rfl | exact b2i_01 _ | assumption, ?_⟩
          first | (rw [b2i_t (by omega)] at hq; exact hq) | (rw [b2i_f (by omega)] at hq; exact hq)
        · try simp (disch := omega) only [cmpI, w32_b2i, b2i_0, b2i_1, w32_id, Classical.not_not, not_true_eq_false, not_false_eq_true] at h21
          refine Ex_step (tk_Des_hasCell rfl) ?_
          refine Ex_step (tk_Des_hasCell rfl) ?_
          refine Ex_step (tk_Des_hasCell rfl) ⟨rfl, by first | exact Or.inl rfl | exact Or.inr rfl | exact b2i_01 _ | assumption, ?_⟩
          first | (rw [b2i_t (by omega)] at hq; exact hq) | (rw [b2i_f (by omega)] at hq; exact hq)
set_option maxRecDepth 100000 in
theorem c_isDark (hD : DW m a) (hG : DG F A a w h f) (hF : FG w h f) (hx : okI x) (hy : okI y) (hq : Q 0 (some (vI (b2i (f x y = 1 ∨ f x y = 3)))) (CM m F A L)) : Ex (d + 1) Des_isDark 0 [some (vR a), some (vI x), some (vI y)] [] (CM m F A L) Q := by
  have hk3 := hD.1
  have hr195 := hD.2.2.1
  have b := hF.1
  have g := (hF.2 x y).2
  by_cases hin : (0 ≤ x ∧ x < w) ∧ 0 ≤ y ∧ y < h
  · have e := (DB_at2 hG.2.2 hF.b (x := x) (y := y) (by omega) (by omega)).1
    have c01 : (if f x y = 1 ∨ f x y = 3 then (1 : Int) else 0) = 1 ∨ (if f x y = 1 ∨ f x y = 3 then (1 : Int) else 0) = 0 := by split <;> simp
    refine Ex_step (tk_Des_isDark rfl) ?_
    refine Ex_step (tk_Des_isDark rfl) ?_
    refine Ex_step (tk_Des_isDark rfl) ?_
    refine Ex_cV0 (av := [vI x, vI y]) (tk_Des_isDark rfl) mk_Des_hasCell ⟨rfl, rfl, by decide, rfl, Nat.le_of_ble_eq_true rfl, Nat.le_of_ble_eq_true rfl⟩ (hk3) (fun _ h => c_hasCell hk3 hG.1 hG.2.1 b.1 b.2 hx hy h) ?_
    refine Ex_step (tk_Des_isDark rfl) ⟨fun h6 => ?_, fun h6 => ?_⟩
    · try simp (disch := omega) only [cmpI, w32_b2i, b2i_0, b2i_1, w32_id, Classical.not_not, not_true_eq_false, not_false_eq_true] at h6
      first | exact absurd hin h6 | (rw [b2i_f h19] at hq; refine Ex_step (tk_Des_isDark rfl) ?_; refine Ex_step (tk_Des_isDark rfl) ⟨rfl, Or.inl rfl, ?_⟩; exact hq)
    · try simp (disch := omega) only [cmpI, w32_b2i, b2i_0, b2i_1, w32_id, Classical.not_not, not_true_eq_false, not_false_eq_true] at h6
      refine Ex_step (tk_Des_isDark rfl) ?_
      refine gCR (tk_Des_isDark rfl) (hk3) (hr195) ?_
      refine Ex_step (tk_Des_isDark rfl) ?_
      refine lCI (n := y.toNat) (tk_Des_isDark rfl) (hD.2.2.2.2.1) (by rw [w32_id (by omega) (by omega)]; omega) (by omega) ?_
      refine Ex_step (tk_Des_isDark rfl) ?_
      refine Ex_step (tk_Des_isDark rfl) ?_
      refine Ex_step (tk_Des_isDark rfl) ?_
      refine Ex_step (tk_Des_isDark rfl) ?_
      show Ex (d + 1) Des_isDark 19 _ [vI (iAnd (iShr (A (a + 1) y.toNat) x) 1)] _ Q
      rw [e]
      refine Ex_step (tk_Des_isDark rfl) ⟨fun h19 => ?_, fun h19 => ?_⟩
      · try simp (disch := omega) only [cmpI, w32_b2i, b2i_0, b2i_1, w32_id, Classical.not_not, not_true_eq_false, not_false_eq_true] at h19
        first | exact absurd hin h6 | (rw [b2i_f h19] at hq; refine Ex_step (tk_Des_isDark rfl) ?_; refine Ex_step (tk_Des_isDark rfl) ⟨rfl, Or.inl rfl, ?_⟩; exact hq)
      · try simp (disch := omega) only [cmpI, w32_b2i, b2i_0, b2i_1, w32_id, Classical.not_not, not_true_eq_false, not_false_eq_true] at h19
        refine Ex_step (tk_Des_isDark rfl) ?_
        refine Ex_step (tk_Des_isDark rfl) ?_
        refine Ex_step (tk_Des_isDark rfl) ⟨rfl, by first | exact Or.inl rfl | exact Or.inr rfl | exact b2i_01 _ | assumption, ?_⟩
        rw [b2i_t h19] at hq
        exact hq
  · have z : f x y = 0 := Classical.byContradiction fun q => hin (g q)
    rw [b2i_f (by omega)] at hq
    refine Ex_step (tk_Des_isDark rfl) ?_
    refine Ex_step (tk_Des_isDark rfl) ?_
    refine Ex_step (tk_Des_isDark rfl) ?_
    refine Ex_cV0 (av := [vI x, vI y]) (tk_Des_isDark rfl) mk_Des_hasCell ⟨rfl, rfl, by decide, rfl, Nat.le_of_ble_eq_true rfl, Nat.le_of_ble_eq_true rfl⟩ (hk3) (fun _ h => c_hasCell hk3 hG.1 hG.2.1 b.1 b.2 hx hy h) ?_
    refine Ex_step (tk_Des_isDark rfl) ⟨fun h6 => ?_, fun h6 => ?_⟩
    · try simp (disch := omega) only [cmpI, w32_b2i, b2i_0, b2i_1, w32_id, Classical.not_not, not_true_eq_false, not_false_eq_true] at h6
      refine Ex_step (tk_Des_isDark rfl) ?_
      refine Ex_step (tk_Des_isDark rfl) ⟨rfl, by first | exact Or.inl rfl | exact Or.inr rfl | exact b2i_01 _ | assumption, ?_⟩
      exact hq
    · try simp (disch := omega) only [cmpI, w32_b2i, b2i_0, b2i_1, w32_id, Classical.not_not, not_true_eq_false, not_false_eq_true] at h6
      exact absurd h6 hin
set_option maxRecDepth 100000 in
theorem c_sortAt (hD : DW m a) (hG : DG F A a w h f) (hF : FG w h f) (hx : okI x) (hy : okI y) (hq : Q 0 (some (vI (f x y))) (CM m F A L)) : Ex (d + 1) Des_sortAt 0 [some (vR a), some (vI x), some (vI y)] [] (CM m F A L) Q := by
  have hk3 := hD.1
  have hr195 := hD.2.2.1
  have hr196 := hD.2.2.2.1
  have b := hF.1
  have g := (hF.2 x y).2
  have r := (hF.2 x y).1
  by_cases hin : (0 ≤ x ∧ x < w) ∧ 0 ≤ y ∧ y < h
  · have e := DB_at2 hG.2.2 hF.b (x := x) (y := y) (by omega) (by omega)
    have ev : iAnd (iShr (A (a + 1) y.toNat) x) 1 + 2 * iAnd (iShr (A (a + 2) y.toNat) x) 1 = f x y := by
      rw [e.1, e.2]
      split <;> split <;> omega
    rw [← ev] at hq
    refine Ex_step (tk_Des_sortAt rfl) ?_
    refine Ex_step (tk_Des_sortAt rfl) ?_
    refine Ex_step (tk_Des_sortAt rfl) ?_
    refine Ex_cV0 (av := [vI x, vI y]) (tk_Des_sortAt rfl) mk_Des_hasCell ⟨rfl, rfl, by decide, rfl, Nat.le_of_ble_eq_true rfl, Nat.le_of_ble_eq_true rfl⟩ (hk3) (fun _ h => c_hasCell hk3 hG.1 hG.2.1 b.1 b.2 hx hy h) ?_
    refine Ex_step (tk_Des_sortAt rfl) ⟨fun h6 => ?_, fun h6 => ?_⟩
    · try simp (disch := omega) only [cmpI, w32_b2i, b2i_0, b2i_1, w32_id, Classical.not_not, not_true_eq_false, not_false_eq_true] at h6
      refine Ex_step (tk_Des_sortAt rfl) ?_
      refine gCR (tk_Des_sortAt rfl) (hk3) (hr195) ?_
      refine Ex_step (tk_Des_sortAt rfl) ?_
      refine lCI (n := y.toNat) (tk_Des_sortAt rfl) (hD.2.2.2.2.1) (by rw [w32_id (by omega) (by omega)]; omega) (by omega) ?_
      refine Ex_step (tk_Des_sortAt rfl) ?_
      refine Ex_step (tk_Des_sortAt rfl) ?_
      refine Ex_step (tk_Des_sortAt rfl) ?_
      refine Ex_step (tk_Des_sortAt rfl) ?_
      refine Ex_step (tk_Des_sortAt rfl) ?_
      refine Ex_step (tk_Des_sortAt rfl) ?_
      refine gCR (tk_Des_sortAt rfl) (hk3) (hr196) ?_
      refine Ex_step (tk_Des_sortAt rfl) ?_
      refine lCI (n := y.toNat) (tk_Des_sortAt rfl) (hD.2.2.2.2.2) (by rw [w32_id (by omega) (by omega)]; omega) (by omega) ?_
      refine Ex_step (tk_Des_sortAt rfl) ?_
      refine Ex_step (tk_Des_sortAt rfl) ?_
      refine Ex_step (tk_Des_sortAt rfl) ?_
      refine Ex_step (tk_Des_sortAt rfl) ?_
      refine Ex_step (tk_Des_sortAt rfl) ?_
      refine Ex_step (tk_Des_sortAt rfl) ?_
      refine Ex_step (tk_Des_sortAt rfl) ⟨rfl, ?_⟩
      exact hq
    · try simp (disch := omega) only [cmpI, w32_b2i, b2i_0, b2i_1, w32_id, Classical.not_not, not_true_eq_false, not_false_eq_true] at h6
      exact absurd hin h6
  · have z : f x y = 0 := Classical.byContradiction fun q => hin (g q)
    rw [z] at hq
    refine Ex_step (tk_Des_sortAt rfl) ?_
    refine Ex_step (tk_Des_sortAt rfl) ?_
    refine Ex_step (tk_Des_sortAt rfl) ?_
    refine Ex_cV0 (av := [vI x, vI y]) (tk_Des_sortAt rfl) mk_Des_hasCell ⟨rfl, rfl, by decide, rfl, Nat.le_of_ble_eq_true rfl, Nat.le_of_ble_eq_true rfl⟩ (hk3) (fun _ h => c_hasCell hk3 hG.1 hG.2.1 b.1 b.2 hx hy h) ?_
    refine Ex_step (tk_Des_sortAt rfl) ⟨fun h6 => ?_, fun h6 => ?_⟩
    · try simp (disch := omega) only [cmpI, w32_b2i, b2i_0, b2i_1, w32_id, Classical.not_not, not_true_eq_false, not_false_eq_true] at h6
      exact absurd h6 hin
    · try simp (disch := omega) only [cmpI, w32_b2i, b2i_0, b2i_1, w32_id, Classical.not_not, not_true_eq_false, not_false_eq_true] at h6
      refine Ex_step (tk_Des_sortAt rfl) ?_
      refine Ex_step (tk_Des_sortAt rfl) ⟨rfl, ?_⟩
      exact hq
set_option maxRecDepth 100000 in
theorem c_put (hD : DW m a) (hB : DB A a f) (hx : 0 ≤ x ∧ x < 10) (hy : 0 ≤ y ∧ y < 10) {so : Int} (hs : 0 ≤ so ∧ so ≤ 3) (hq : ∀ A' : Nat → Nat → Int, (∀ j, j ≠ a + 1 → j ≠ a + 2 → A' j = A j) → DB A' a (updF f x y so) → Q 0 none (CM m F A' L)) : Ex d Des_put 0 [some (vR a), some (vI x), some (vI y), some (vI so), none] [] (CM m F A L) Q := by
  have hk3 := hD.1
  have hr195 := hD.2.2.1
  have hr196 := hD.2.2.2.1
  have hgo : Ex d Des_put 21 [some (vR a), some (vI x), some (vI y), some (vI so), none] [] (CM m F A L) Q := by
    obtain ⟨xn, rfl⟩ := Int.eq_ofNat_of_zero_le hx.1
    obtain ⟨yn, rfl⟩ := Int.eq_ofNat_of_zero_le hy.1
    refine Ex_step (tk_Des_put rfl) ?_
    refine Ex_step (tk_Des_put rfl) ?_
    refine Ex_step (tk_Des_put rfl) ?_
    refine Ex_step (tk_Des_put rfl) ?_
    refine Ex_step (tk_Des_put rfl) ?_
    refine Ex_step (tk_Des_put rfl) ?_
    refine Ex_step (tk_Des_put rfl) ?_
    refine gCR (tk_Des_put rfl) (hk3) (hr195) ?_
    refine Ex_step (tk_Des_put rfl) ?_
    refine Ex_step (tk_Des_put rfl) ?_
    refine gCR (tk_Des_put rfl) (hk3) (hr195) ?_
    refine Ex_step (tk_Des_put rfl) ?_
    refine lCI (n := yn) (tk_Des_put rfl) (hD.2.2.2.2.1) (w32_id (by omega) (by omega)) (by omega) ?_
    refine Ex_step (tk_Des_put rfl) ?_
    refine Ex_step (tk_Des_put rfl) ?_
    refine Ex_step (tk_Des_put rfl) ?_
    refine Ex_step (tk_Des_put rfl) ?_
    refine Ex_step (tk_Des_put rfl) ?_
    refine Ex_step (tk_Des_put rfl) ?_
    refine Ex_step (tk_Des_put rfl) ?_
    refine Ex_step (tk_Des_put rfl) ?_
    refine tCI (n := yn) (tk_Des_put rfl) (hD.2.2.2.2.1) (w32_id (by omega) (by omega)) (by omega) ?_
    refine Ex_step (tk_Des_put rfl) ?_
    refine gCR (tk_Des_put rfl) (hk3) (hr196) ?_
    refine Ex_step (tk_Des_put rfl) ?_
    refine Ex_step (tk_Des_put rfl) ?_
    refine gCR (tk_Des_put rfl) (hk3) (hr196) ?_
    refine Ex_step (tk_Des_put rfl) ?_
    refine lCI (n := yn) (tk_Des_put rfl) (hD.2.2.2.2.2) (w32_id (by omega) (by omega)) (by omega) ?_
    refine Ex_step (tk_Des_put rfl) ?_
    refine Ex_step (tk_Des_put rfl) ?_
    refine Ex_step (tk_Des_put rfl) ?_
    refine Ex_step (tk_Des_put rfl) ?_
    refine Ex_step (tk_Des_put rfl) ?_
    refine Ex_step (tk_Des_put rfl) ?_
    refine Ex_step (tk_Des_put rfl) ?_
    refine Ex_step (tk_Des_put rfl) ?_
    refine Ex_step (tk_Des_put rfl) ?_
    refine Ex_step (tk_Des_put rfl) ?_
    refine tCI (n := yn) (tk_Des_put rfl) (hD.2.2.2.2.2) (w32_id (by omega) (by omega)) (by omega) ?_
    refine Ex_step (tk_Des_put rfl) ⟨rfl, ?_⟩
    refine hq _ (fun j h1 h2 => ?_) (DB_put hB (by omega) hs ?_ ?_)
    · rw [up1_ne _ _ h2, up1_ne _ _ h1]
    · rw [up1_ne _ _ (by omega), up1_at]
    · rw [up1_at, up1_ne A _ (show a + 2 ≠ a + 1 by omega)]
  refine Ex_step (tk_Des_put rfl) ?_
  refine Ex_step (tk_Des_put rfl) ⟨fun h1 => ?_, fun h1 => ?_⟩
  · try simp (disch := omega) only [cmpI, w32_b2i, b2i_0, b2i_1, w32_id, Classical.not_not, not_true_eq_false, not_false_eq_true] at h1
    omega
  · try simp (disch := omega) only [cmpI, w32_b2i, b2i_0, b2i_1, w32_id, Classical.not_not, not_true_eq_false, not_false_eq_true] at h1
    refine Ex_step (tk_Des_put rfl) ?_
    refine Ex_step (tk_Des_put rfl) ?_
    refine Ex_step (tk_Des_put rfl) ⟨fun h7 => ?_, fun h7 => ?_⟩
    · try simp (disch := omega) only [cmpI, w32_b2i, b2i_0, b2i_1, w32_id, Classical.not_not, not_true_eq_false, not_false_eq_true] at h7
      omega
    · try simp (disch := omega) only [cmpI, w32_b2i, b2i_0, b2i_1, w32_id, Classical.not_not, not_true_eq_false, not_false_eq_true] at h7
      refine Ex_step (tk_Des_put rfl) ?_
      refine Ex_step (tk_Des_put rfl) ⟨fun h11 => ?_, fun h11 => ?_⟩
      · try simp (disch := omega) only [cmpI, w32_b2i, b2i_0, b2i_1, w32_id, Classical.not_not, not_true_eq_false, not_false_eq_true] at h11
        omega
      · try simp (disch := omega) only [cmpI, w32_b2i, b2i_0, b2i_1, w32_id, Classical.not_not, not_true_eq_false, not_false_eq_true] at h11
        refine Ex_step (tk_Des_put rfl) ?_
        refine Ex_step (tk_Des_put rfl) ?_
        refine Ex_step (tk_Des_put rfl) ⟨fun h17 => ?_, fun h17 => ?_⟩
        · try simp (disch := omega) only [cmpI, w32_b2i, b2i_0, b2i_1, w32_id, Classical.not_not, not_true_eq_false, not_false_eq_true] at h17
          exact hgo
        · try simp (disch := omega) only [cmpI, w32_b2i, b2i_0, b2i_1, w32_id, Classical.not_not, not_true_eq_false, not_false_eq_true] at h17
          omega
set_option maxRecDepth 100000 in
theorem c_resize (hD : DW m a) (hq : ∀ A' : Nat → Nat → Int, (∀ j, j ≠ a + 1 → j ≠ a + 2 → A' j = A j) → DB A' a (fun _ _ => 0) → Q 0 none (CM m (upF (upF F 193 a w) 194 a h) A' L)) : Ex (d + 1) Des_resize 0 [some (vR a), some (vI w), some (vI h)] [] (CM m F A L) Q := by
  have hk3 := hD.1
  have hr195 := hD.2.2.1
  have hr196 := hD.2.2.2.1
  refine Ex_step (tk_Des_resize rfl) ?_
  refine Ex_step (tk_Des_resize rfl) ?_
  refine pCI (tk_Des_resize rfl) (hk3) ?_
  refine Ex_step (tk_Des_resize rfl) ?_
  refine Ex_step (tk_Des_resize rfl) ?_
  refine pCI (tk_Des_resize rfl) (hk3) ?_
  refine Ex_step (tk_Des_resize rfl) ?_
  refine gCR (tk_Des_resize rfl) (hk3) (hr195) ?_
  refine Ex_step (tk_Des_resize rfl) ?_
  refine Ex_cS0 (av := [vR (a + 1), vI 0]) (tk_Des_resize rfl) mk_Arr_fill ⟨rfl, by decide, rfl, rfl, rfl, Nat.le_of_ble_eq_true rfl, Nat.le_of_ble_eq_true rfl⟩ (fun _ h => c_fill hD.2.2.2.2.1 (by decide) h) ?_
  refine Ex_step (tk_Des_resize rfl) ?_
  refine gCR (tk_Des_resize rfl) (hk3) (hr196) ?_
  refine Ex_step (tk_Des_resize rfl) ?_
  refine Ex_cS0 (av := [vR (a + 2), vI 0]) (tk_Des_resize rfl) mk_Arr_fill ⟨rfl, by decide, rfl, rfl, rfl, Nat.le_of_ble_eq_true rfl, Nat.le_of_ble_eq_true rfl⟩ (fun _ h => c_fill hD.2.2.2.2.2 (by decide) h) ?_
  refine Ex_step (tk_Des_resize rfl) ⟨rfl, ?_⟩
  refine hq _ (fun j h1 h2 => ?_) (fun y2 hy2 i hi => ?_)
  · rw [up1_ne _ _ h2, up1_ne _ _ h1]
  · rw [up1_ne _ _ (show a + 1 ≠ a + 2 by omega), up1_at, up1_at]
    unfold cpK
    rw [if_pos hy2, if_pos hy2, ib_0]
    exact ⟨rfl, rfl⟩
set_option maxRecDepth 100000 in
theorem c_begin (hD : DW m a) {n : Int} (hq : ∀ A' : Nat → Nat → Int, (∀ j, j ≠ a + 1 → j ≠ a + 2 → A' j = A j) → DB A' a (fun _ _ => 0) → Q 0 none (CM m (upF (upF (upF F 192 a n) 193 a 0) 194 a 0) A' L)) : Ex (d + 2) Des_begin 0 [some (vR a), some (vI n)] [] (CM m F A L) Q := by
  have hk3 := hD.1
  refine Ex_step (tk_Des_begin rfl) ?_
  refine Ex_step (tk_Des_begin rfl) ?_
  refine pCI (tk_Des_begin rfl) (hk3) ?_
  refine Ex_step (tk_Des_begin rfl) ?_
  refine Ex_step (tk_Des_begin rfl) ?_
  refine Ex_step (tk_Des_begin rfl) ?_
  refine Ex_cVK (av := [vI 0, vI 0]) (tk_Des_begin rfl) mk_Des_resize ⟨rfl, rfl, by decide, rfl, Nat.le_of_ble_eq_true rfl, Nat.le_of_ble_eq_true rfl⟩ (hk3) (c_resize hD (fun A' k1 k2 => ⟨rfl, ?_⟩))
  refine Ex_step (tk_Des_begin rfl) ⟨rfl, ?_⟩
  exact hq A' k1 k2
set_option maxRecDepth 100000 in
theorem c_copyFrom (hD : DW m a) (hE : DW m b) (hab : a + 3 ≤ b ∨ b + 3 ≤ a) (hB : DB A b f) (hq : ∀ A' : Nat → Nat → Int, (∀ j, j ≠ a + 1 → j ≠ a + 2 → A' j = A j) → DB A' a f → Q 0 none (CM m (upF (upF (upF F 192 a (F 192 b)) 193 a (F 193 b)) 194 a (F 194 b)) A' L)) : Ex d Des_copyFrom 0 [some (vR a), some (vR b)] [] (CM m F A L) Q := by
  have k1 := hD.2.1
  have k2 := hE.2.1
  have e1 : upF F 192 a (F 192 b) 193 b = F 193 b := upF_f _ _ _ (by decide)
  have e2 : upF (upF F 192 a (F 192 b)) 193 a (F 193 b) 194 b = F 194 b := by rw [upF_f _ _ _ (by decide), upF_f _ _ _ (by decide)]
  refine Ex_step (tk_Des_copyFrom rfl) ?_
  refine Ex_step (tk_Des_copyFrom rfl) ?_
  refine gCI (tk_Des_copyFrom rfl) (hE.1) ?_
  refine pCI (tk_Des_copyFrom rfl) (hD.1) ?_
  refine Ex_step (tk_Des_copyFrom rfl) ?_
  refine Ex_step (tk_Des_copyFrom rfl) ?_
  refine gCI (tk_Des_copyFrom rfl) (hE.1) ?_
  rw [e1]
  refine pCI (tk_Des_copyFrom rfl) (hD.1) ?_
  refine Ex_step (tk_Des_copyFrom rfl) ?_
  refine Ex_step (tk_Des_copyFrom rfl) ?_
  refine gCI (tk_Des_copyFrom rfl) (hE.1) ?_
  rw [e2]
  refine pCI (tk_Des_copyFrom rfl) (hD.1) ?_
  refine Ex_step (tk_Des_copyFrom rfl) ?_
  refine gCR (tk_Des_copyFrom rfl) (hE.1) (hE.2.2.1) ?_
  refine Ex_step (tk_Des_copyFrom rfl) ?_
  refine Ex_step (tk_Des_copyFrom rfl) ?_
  refine gCR (tk_Des_copyFrom rfl) (hD.1) (hD.2.2.1) ?_
  refine Ex_step (tk_Des_copyFrom rfl) ?_
  refine Ex_step (tk_Des_copyFrom rfl) ?_
  refine cpC (tk_Des_copyFrom rfl) rfl hE.2.2.2.2.1 hD.2.2.2.2.1 ⟨by omega, by omega, by omega⟩ (Nat.le_of_ble_eq_true rfl) ?_
  refine Ex_step (tk_Des_copyFrom rfl) ?_
  refine gCR (tk_Des_copyFrom rfl) (hE.1) (hE.2.2.2.1) ?_
  refine Ex_step (tk_Des_copyFrom rfl) ?_
  refine Ex_step (tk_Des_copyFrom rfl) ?_
  refine gCR (tk_Des_copyFrom rfl) (hD.1) (hD.2.2.2.1) ?_
  refine Ex_step (tk_Des_copyFrom rfl) ?_
  refine Ex_step (tk_Des_copyFrom rfl) ?_
  refine cpC (tk_Des_copyFrom rfl) rfl hE.2.2.2.2.2 hD.2.2.2.2.2 ⟨by omega, by omega, by omega⟩ (Nat.le_of_ble_eq_true rfl) ?_
  refine Ex_step (tk_Des_copyFrom rfl) ⟨rfl, ?_⟩
  refine hq _ (fun j h1 h2 => ?_) (fun y2 hy2 i hi => ?_)
  · rw [up1_ne _ _ h2, up1_ne _ _ h1]
  · rw [up1_ne _ _ (show a + 1 ≠ a + 2 by omega), up1_at, up1_at, up1_ne A _ (show b + 2 ≠ a + 1 by omega)]
    unfold cpy1
    rw [if_pos (by omega), if_pos (by omega), Nat.sub_zero, Nat.zero_add]
    exact hB y2 hy2 i hi
end CDesign
