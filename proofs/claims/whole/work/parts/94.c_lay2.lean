/-! ===== sums over a grid and its turns ===== -/
def S2 (f : Int → Int → Int) (W H : Nat) : Int := sI (fun y => sI (fun x => f x y) 0 W) 0 H
set_option maxRecDepth 100000 in
theorem S2_rx (f : Int → Int → Int) (W H : Nat) : S2 (fun x y => f ((W : Int) - 1 - x) y) W H = S2 f W H := by
  unfold S2
  refine sI_cong (fun y _ _ => ?_)
  have e := sI_rev (fun x => f x y) 0 W
  rw [← e]
  exact sI_cong (fun x _ _ => by rw [show 2 * 0 + (W : Int) - 1 - x = (W : Int) - 1 - x by omega])
set_option maxRecDepth 100000 in
theorem S2_ry (f : Int → Int → Int) (W H : Nat) : S2 (fun x y => f x ((H : Int) - 1 - y)) W H = S2 f W H := by
  unfold S2
  have e := sI_rev (fun y => sI (fun x => f x y) 0 W) 0 H
  rw [← e]
  exact sI_cong (fun y _ _ => by rw [show 2 * 0 + (H : Int) - 1 - y = (H : Int) - 1 - y by omega])
set_option maxRecDepth 100000 in
theorem S2_sw (f : Int → Int → Int) (W H : Nat) : S2 (fun x y => f y x) H W = S2 f W H := sI_swap (fun x y => f y x) 0 0 H W
set_option maxRecDepth 100000 in
theorem S2_turn (f : Int → Int → Int) (W H t : Nat) (ht : t < 8) : S2 (fun X Y => f (tX0 (W : Int) (H : Int) t X Y) (tY0 (W : Int) (H : Int) t X Y)) (if t % 2 = 0 then W else H) (if t % 2 = 0 then H else W) = S2 f W H := by
  rcases (show t = 0 ∨ t = 1 ∨ t = 2 ∨ t = 3 ∨ t = 4 ∨ t = 5 ∨ t = 6 ∨ t = 7 by omega) with rfl | rfl | rfl | rfl | rfl | rfl | rfl | rfl
  · rfl
  · show S2 (fun X Y => f Y ((H : Int) - 1 - X)) H W = S2 f W H
    exact (S2_sw (fun x y => f x ((H : Int) - 1 - y)) W H).trans (S2_ry f W H)
  · show S2 (fun X Y => f ((W : Int) - 1 - X) ((H : Int) - 1 - Y)) W H = S2 f W H
    exact (S2_rx (fun x y => f x ((H : Int) - 1 - y)) W H).trans (S2_ry f W H)
  · show S2 (fun X Y => f ((W : Int) - 1 - Y) X) H W = S2 f W H
    exact (S2_sw (fun x y => f ((W : Int) - 1 - x) y) W H).trans (S2_rx f W H)
  · show S2 (fun X Y => f ((W : Int) - 1 - X) Y) W H = S2 f W H
    exact S2_rx f W H
  · show S2 (fun X Y => f ((W : Int) - 1 - Y) ((H : Int) - 1 - X)) H W = S2 f W H
    exact (S2_sw (fun x y => f ((W : Int) - 1 - x) ((H : Int) - 1 - y)) W H).trans ((S2_rx (fun x y => f x ((H : Int) - 1 - y)) W H).trans (S2_ry f W H))
  · show S2 (fun X Y => f ((W : Int) - 1 - ((W : Int) - 1 - X)) ((H : Int) - 1 - Y)) W H = S2 f W H
    exact ((S2_rx (fun x y => f ((W : Int) - 1 - x) ((H : Int) - 1 - y)) W H).trans (S2_rx (fun x y => f x ((H : Int) - 1 - y)) W H)).trans (S2_ry f W H)
  · show S2 (fun X Y => f ((W : Int) - 1 - ((W : Int) - 1 - Y)) X) H W = S2 f W H
    exact (S2_sw (fun x y => f ((W : Int) - 1 - ((W : Int) - 1 - x)) y) W H).trans ((S2_rx (fun x y => f ((W : Int) - 1 - x) y) W H).trans (S2_rx f W H))
set_option maxRecDepth 100000 in
theorem S2_10 {f : Int → Int → Int} {W H : Nat} (hW : W ≤ 10) (hH : H ≤ 10) (h : ∀ x y, f x y ≠ 0 → (0 ≤ x ∧ x < (W : Int)) ∧ 0 ≤ y ∧ y < (H : Int)) : S2 f 10 10 = S2 f W H := by
  have z : ∀ x y, ¬ ((0 ≤ x ∧ x < (W : Int)) ∧ 0 ≤ y ∧ y < (H : Int)) → f x y = 0 := fun x y q => Classical.byContradiction fun w => q (h x y w)
  unfold S2
  rw [sI_win (k := H) (c := 0) (fun y hy => sI_0 (fun x _ _ => z x y (fun q => by omega))) (Int.le_refl 0) (by omega)]
  exact sI_cong (fun y _ _ => sI_win (k := W) (fun x hx => z x y (fun q => by omega)) (Int.le_refl 0) (by omega))
set_option maxRecDepth 100000 in
/-- turning moves no count -/
theorem nP_turn {w h : Int} {f : Int → Int → Int} (hF : FG w h f) {t : Nat} (ht : t < 8) : nP (fun x y => tf w h f t x y = 1 ∨ tf w h f t x y = 3) = nP (fun x y => f x y = 1 ∨ f x y = 3) := by
  obtain ⟨W, rfl⟩ : ∃ W : Nat, w = (W : Int) := ⟨w.toNat, by have := hF.1; omega⟩
  obtain ⟨H, rfl⟩ : ∃ H : Nat, h = (H : Int) := ⟨h.toNat, by have := hF.1; omega⟩
  have s := hF.1
  have g := tf_FG hF t
  have cw := tW_c (W : Int) (H : Int) t
  have e1 : nP (fun x y => f x y = 1 ∨ f x y = 3) = S2 (fun x y => oI (f x y = 1 ∨ f x y = 3)) W H := S2_10 (f := fun x y => oI (f x y = 1 ∨ f x y = 3)) (by omega) (by omega) (fun x y q => (hF.2 x y).2 (fun z => q (oI_f (by omega))))
  have e2 : nP (fun x y => tf (W : Int) (H : Int) f t x y = 1 ∨ tf (W : Int) (H : Int) f t x y = 3) = S2 (fun x y => oI (tf (W : Int) (H : Int) f t x y = 1 ∨ tf (W : Int) (H : Int) f t x y = 3)) (if t % 2 = 0 then W else H) (if t % 2 = 0 then H else W) := S2_10 (f := fun x y => oI (tf (W : Int) (H : Int) f t x y = 1 ∨ tf (W : Int) (H : Int) f t x y = 3)) (by split <;> omega) (by split <;> omega) (fun x y q => by
    have := (g.2 x y).2 (fun z => q (oI_f (by omega)))
    rcases cw with ⟨c1, c2, c3⟩ | ⟨c1, c2, c3⟩
    · rw [if_pos c1, if_pos c1]; rw [c2, c3] at this; exact this
    · rw [if_neg (by omega), if_neg (by omega)]; rw [c2, c3] at this; exact this)
  rw [e1, e2]
  exact S2_turn (fun x y => oI (f x y = 1 ∨ f x y = 3)) W H t ht
set_option maxRecDepth 100000 in
theorem nP_c {p q : Int → Int → Prop} [∀ x y, Decidable (p x y)] [∀ x y, Decidable (q x y)] (h : ∀ x y, p x y ↔ q x y) : nP p = nP q := by
  unfold nP
  exact sI_cong (fun y _ _ => sI_cong (fun x _ _ => oI_iff (h x y)))
set_option maxRecDepth 100000 in
theorem nP_3 {p q r s : Int → Int → Prop} [∀ x y, Decidable (p x y)] [∀ x y, Decidable (q x y)] [∀ x y, Decidable (r x y)] [∀ x y, Decidable (s x y)] (h : ∀ x y, oI (p x y) = oI (q x y) + oI (r x y) + oI (s x y)) : nP p = nP q + nP r + nP s := by
  unfold nP
  rw [← sI_add, ← sI_add]
  refine sI_cong (fun y _ _ => ?_)
  rw [← sI_add, ← sI_add]
  exact sI_cong (fun x _ _ => h x y)
set_option maxRecDepth 100000 in
theorem nP_2 {p q r : Int → Int → Prop} [∀ x y, Decidable (p x y)] [∀ x y, Decidable (q x y)] [∀ x y, Decidable (r x y)] (h : ∀ x y, oI (p x y) = oI (q x y) + oI (r x y)) : nP p = nP q + nP r := by
  unfold nP
  rw [← sI_add]
  refine sI_cong (fun y _ _ => ?_)
  rw [← sI_add]
  exact sI_cong (fun x _ _ => h x y)
set_option maxRecDepth 100000 in
/-- both in the first's places and in the second's -/
theorem nP_move {k : Int → Int → Prop} [∀ x y, Decidable (k x y)] {dx dy : Int} (hdx : -20 ≤ dx ∧ dx ≤ 20) (hdy : -20 ≤ dy ∧ dy ≤ 20) (h1 : ∀ x y, k x y → (0 ≤ x ∧ x < 10) ∧ 0 ≤ y ∧ y < 10) (h2 : ∀ x y, k x y → (dx ≤ x ∧ x < dx + 10) ∧ dy ≤ y ∧ y < dy + 10) : nP (fun x y => k (x + dx) (y + dy)) = nP k := by
  have z : ∀ x y, oI (k x y) ≠ 0 → k x y := fun x y q => Classical.byContradiction fun w => q (oI_f w)
  have e1 := sI2_win (f := fun x y => oI (k x y)) (lo1 := -24) (n1 := 64) (lo2 := -24) (n2 := 64) (c1 := 0) (c2 := 0) (fun x y q => by have := h1 x y (z x y q); omega) (by omega) (by omega) (by omega) (by omega)
  have e2 := sI2_win (f := fun x y => oI (k x y)) (lo1 := -24) (n1 := 64) (lo2 := -24) (n2 := 64) (c1 := dx) (c2 := dy) (fun x y q => h2 x y (z x y q)) (by omega) (by omega) (by omega) (by omega)
  have e3 := sI2_move (fun x y => oI (k x y)) dx dy 10 10
  show sI (fun y => sI (fun x => oI (k (x + dx) (y + dy))) 0 10) 0 10 = sI (fun y => sI (fun x => oI (k x y)) 0 10) 0 10
  rw [← e1, e2, ← e3]
set_option maxRecDepth 100000 in
/-- what is unlike, counted from the other end -/
theorem ul_eq {T : Nat → Int} {a b t : Nat} {dx dy : Int} (hWa : DsW T a) (hWb : DsW T b) (ht : t < 8) (hdx : -20 ≤ dx ∧ dx ≤ 20) (hdy : -20 ≤ dy ∧ dy ≤ 20) : nP (fun x y => srt T a x y = 1) + nP (fun x y => srt T b x y = 1 ∨ srt T b x y = 3) - 2 * nP (pB (srt T a) (tsr T b t) dx dy) - nP (pP (srt T a) (tsr T b t) dx dy) = ulS T a b t dx dy := by
  have ra := fun x y => srt_r hWa x y
  have rg := fun x y => tsr_r t hWb x y
  have ia := fun x y (q : srt T a x y ≠ 0) => srt_in10 hWa q
  have ig := fun x y (q : tsr T b t x y ≠ 0) => tsr_in t hWb q
  have et : nP (fun x y => srt T b x y = 1 ∨ srt T b x y = 3) = nP (fun x y => tsr T b t x y = 1 ∨ tsr T b t x y = 3) := (nP_turn (srt_FG hWb) ht).symm
  have e1 : nP (fun x y => srt T a x y = 1) = nP (fun x y => srt T a x y = 1 ∧ tsr T b t (x - dx) (y - dy) = 0) + nP (pB (srt T a) (tsr T b t) dx dy) + nP (fun x y => srt T a x y = 1 ∧ tsr T b t (x - dx) (y - dy) = 2) := nP_3 (fun x y => by
    have := ra x y
    have := rg (x - dx) (y - dy)
    unfold oI pB
    split <;> split <;> split <;> split <;> omega)
  have e2 : nP (fun x y => tsr T b t x y = 1 ∨ tsr T b t x y = 3) = nP (fun x y => (tsr T b t x y = 1 ∨ tsr T b t x y = 3) ∧ srt T a (x + dx) (y + dy) = 0) + nP (fun x y => (tsr T b t x y = 1 ∨ tsr T b t x y = 3) ∧ srt T a (x + dx) (y + dy) = 1) + nP (fun x y => (tsr T b t x y = 1 ∨ tsr T b t x y = 3) ∧ (srt T a (x + dx) (y + dy) = 2 ∨ srt T a (x + dx) (y + dy) = 3)) := nP_3 (fun x y => by
    have := ra (x + dx) (y + dy)
    have := rg x y
    unfold oI
    split <;> split <;> split <;> split <;> omega)
  have e3 : nP (fun x y => (tsr T b t x y = 1 ∨ tsr T b t x y = 3) ∧ srt T a (x + dx) (y + dy) = 1) = nP (pB (srt T a) (tsr T b t) dx dy) := by
    rw [← nP_move (k := pB (srt T a) (tsr T b t) dx dy) hdx hdy (fun x y q => ia x y (by have := q.1; omega)) (fun x y q => by have := ig (x - dx) (y - dy) (by have := q.2; omega); omega)]
    exact nP_c (fun x y => by unfold pB; rw [Int.add_sub_cancel, Int.add_sub_cancel]; exact ⟨fun q => ⟨q.2, q.1⟩, fun q => ⟨q.2, q.1⟩⟩)
  have e4 : nP (fun x y => (tsr T b t x y = 1 ∨ tsr T b t x y = 3) ∧ (srt T a (x + dx) (y + dy) = 2 ∨ srt T a (x + dx) (y + dy) = 3)) = nP (fun x y => (srt T a x y = 2 ∨ srt T a x y = 3) ∧ (tsr T b t (x - dx) (y - dy) = 1 ∨ tsr T b t (x - dx) (y - dy) = 3)) := by
    rw [← nP_move (k := fun x y => (srt T a x y = 2 ∨ srt T a x y = 3) ∧ (tsr T b t (x - dx) (y - dy) = 1 ∨ tsr T b t (x - dx) (y - dy) = 3)) hdx hdy (fun x y q => ia x y (by have := q.1; omega)) (fun x y q => by have := ig (x - dx) (y - dy) (by have := q.2; omega); omega)]
    exact nP_c (fun x y => by rw [Int.add_sub_cancel, Int.add_sub_cancel]; exact ⟨fun q => ⟨q.2, q.1⟩, fun q => ⟨q.2, q.1⟩⟩)
  have e5 : nP (pP (srt T a) (tsr T b t) dx dy) = nP (fun x y => srt T a x y = 1 ∧ tsr T b t (x - dx) (y - dy) = 2) + nP (fun x y => (srt T a x y = 2 ∨ srt T a x y = 3) ∧ (tsr T b t (x - dx) (y - dy) = 1 ∨ tsr T b t (x - dx) (y - dy) = 3)) := nP_2 (fun x y => by
    unfold oI pP
    split <;> split <;> split <;> omega)
  have e6 : ulS T a b t dx dy = nP (fun x y => srt T a x y = 1 ∧ tsr T b t (x - dx) (y - dy) = 0) + nP (fun x y => (tsr T b t x y = 1 ∨ tsr T b t x y = 3) ∧ srt T a (x + dx) (y + dy) = 0) := rfl
  rw [et, e1, e2, e3, e4, e5, e6]
  omega
set_option maxRecDepth 100000 in
theorem sm_eq {T : Nat → Int} {a b t : Nat} {dx dy : Int} : nP (pB (srt T a) (tsr T b t) dx dy) = smS T a b t dx dy := rfl
section CLay2
variable {d a o : Nat} {dx dy : Int} {m : Mem} {F A L : Nat → Nat → Int} {Q : Nat → Option AV → Mem → Prop}
set_option maxRecDepth 100000 in
theorem c_lay {wa ha tw th : Int} {fa g : Int → Int → Int} (hO : OW m o) (r321 : mFR m 321 o = a) (hA : DW m a) (ga : DG F A a wa ha fa) (fga : FG wa ha fa) (gt : DG F A (o + 38) tw th g) (fgt : FG tw th g) (hS : SolR A o fa) (hDo : DotR A o g) (hdx : -20 ≤ dx ∧ dx ≤ 20) (hdy : -20 ≤ dy ∧ dy ≤ 20) (hq : Q 0 none (CM m (upF (upF F 327 o (nP (pB fa g dx dy))) 328 o (F 326 o - 2 * nP (pB fa g dx dy) - nP (pP fa g dx dy))) A L)) : Ex (d + 1) Ov_lay 0 [some (vR o), some (vI dx), some (vI dy), none, none, none, none, none, none] [] (CM m F A L) Q := by
  have hk5 := hO.1
  have hr321 := r321
  have hr323 := hO.2.1
  have hD := hO.2.2.1
  have s1 := fga.1
  have s2 := fgt.1
  have na := fun x z => (fga.2 x z).2
  have ng := fun x z => (fgt.2 x z).2
  obtain ⟨lo, hlo⟩ : ∃ lo : Int, lo = if w32 0 < w32 dy then dy else 0 := ⟨_, rfl⟩
  obtain ⟨en, hen⟩ : ∃ en : Int, en = if w32 (th + dy) < w32 ha then th + dy else ha := ⟨_, rfl⟩
  have hlo2 : (lo = dy ∧ 0 < dy) ∨ (lo = 0 ∧ dy ≤ 0) := by
    rw [show w32 0 = 0 from rfl, w32_id (x := dy) (by omega) (by omega)] at hlo
    split at hlo <;> omega
  have hen2 : (en = th + dy ∧ th + dy < ha) ∨ (en = ha ∧ ha ≤ th + dy) := by
    rw [w32_id (x := th + dy) (by omega) (by omega), w32_id (x := ha) (by omega) (by omega)] at hen
    split at hen <;> omega
  have hin : ∀ x y, (pB fa g dx dy x y ∨ pP fa g dx dy x y) → lo ≤ y ∧ y < en := by
    intro x y q
    have q1 : fa x y ≠ 0 := by unfold pB pP at q; omega
    have q2 : g (x - dx) (y - dy) ≠ 0 := by unfold pB pP at q; omega
    have := na x y q1
    have := ng (x - dx) (y - dy) q2
    omega
  have hfin : ∀ (N : Nat) (p : Int → Int → Prop) [∀ x y, Decidable (p x y)], (∀ x y, p x y → lo ≤ y ∧ y < en) → (N : Int) = (if lo < en then en - lo else 0) → sI (fun y => sI (fun x => oI (p x y)) 0 10) lo N = nP p := by
    intro N p _ hp hN
    have zz : ∀ y : Int, ¬ (lo ≤ y ∧ y < en) → sI (fun x => oI (p x y)) 0 10 = 0 := fun y q => sI_0 (fun x _ _ => oI_f (fun w => q (hp x y w)))
    unfold nP
    by_cases hl : lo < en
    · rw [if_pos hl] at hN
      exact (sI_win (k := N) (fun y q => zz y (fun w => by omega)) (by omega) (by omega)).symm
    · rw [if_neg hl] at hN
      have : N = 0 := by omega
      subst this
      exact (sI_0 (fun y _ _ => zz y (fun w => by omega))).symm
  obtain ⟨N, hN⟩ : ∃ N : Nat, (N : Int) = (if lo < en then en - lo else 0) := ⟨(if lo < en then en - lo else 0).toNat, by split <;> omega⟩
  have f1 := hfin N (pB fa g dx dy) (fun x y q => hin x y (Or.inl q)) hN
  have f2 := hfin N (pP fa g dx dy) (fun x y q => hin x y (Or.inr q)) hN
  have hN2 : (lo < en ∧ (N : Int) = en - lo) ∨ (¬ lo < en ∧ N = 0) := by split at hN <;> omega
  have hloop : ∀ (r k : Nat) (l7 l8 : Option AV), k + r = N → Ex (d + 1) Ov_lay 33 [some (vR o), some (vI dx), some (vI dy), some (vI (sI (fun y => sI (fun x => oI (pB fa g dx dy x y)) 0 10) lo k)), some (vI (sI (fun y => sI (fun x => oI (pP fa g dx dy x y)) 0 10) lo k)), some (vI en), some (vI (lo + (k : Int))), l7, l8] [] (CM m F A L) Q := by
    intro r
    induction r with
    | zero =>
      intro k l7 l8 hk
      have : k = N := by omega
      subst this
      rw [f1, f2]
      have e1 : upF F 327 o (nP (pB fa g dx dy)) 326 o = F 326 o := upF_f _ _ _ (by decide)
      refine Ex_step (tk_Ov_lay rfl) ?_
      refine Ex_step (tk_Ov_lay rfl) ?_
      refine Ex_step (tk_Ov_lay rfl) ⟨fun h37 => ?_, fun h37 => ?_⟩
      · try simp (disch := omega) only [cmpI, w32_b2i, b2i_0, b2i_1, w32_id, Classical.not_not, not_true_eq_false, not_false_eq_true] at h37
        refine Ex_step (tk_Ov_lay rfl) ?_
        refine Ex_step (tk_Ov_lay rfl) ?_
        refine pCI (tk_Ov_lay rfl) (hk5) ?_
        refine Ex_step (tk_Ov_lay rfl) ?_
        refine Ex_step (tk_Ov_lay rfl) ?_
        refine gCI (tk_Ov_lay rfl) (hk5) ?_
        rw [e1]
        refine Ex_step (tk_Ov_lay rfl) ?_
        refine Ex_step (tk_Ov_lay rfl) ?_
        refine Ex_step (tk_Ov_lay rfl) ?_
        refine Ex_step (tk_Ov_lay rfl) ?_
        refine Ex_step (tk_Ov_lay rfl) ?_
        refine Ex_step (tk_Ov_lay rfl) ?_
        refine pCI (tk_Ov_lay rfl) (hk5) ?_
        refine Ex_step (tk_Ov_lay rfl) ⟨rfl, ?_⟩
        exact hq
      · try simp (disch := omega) only [cmpI, w32_b2i, b2i_0, b2i_1, w32_id, Classical.not_not, not_true_eq_false, not_false_eq_true] at h37
        omega
    | succ r ih =>
      intro k l7 l8 hk
      have h121 : ∀ l7 l8 : Option AV, Ex (d + 1) Ov_lay 121 [some (vR o), some (vI dx), some (vI dy), some (vI (sI (fun y => sI (fun x => oI (pB fa g dx dy x y)) 0 10) lo k + sI (fun x => oI (pB fa g dx dy x (lo + (k : Int)))) 0 10)), some (vI (sI (fun y => sI (fun x => oI (pP fa g dx dy x y)) 0 10) lo k + sI (fun x => oI (pP fa g dx dy x (lo + (k : Int)))) 0 10)), some (vI en), some (vI (lo + (k : Int))), l7, l8] [] (CM m F A L) Q := by
        intro l7 l8
        have hnx := ih (k + 1) l7 l8 (by omega)
        rw [show lo + ((k + 1 : Nat) : Int) = lo + (k : Int) + 1 by omega] at hnx
        refine Ex_step (tk_Ov_lay rfl) ?_
        refine Ex_step (tk_Ov_lay rfl) ?_
        exact hnx
      have h40 := c_layR (d := d) (y := lo + (k : Int)) (e := en) (l7 := l7) (l8 := l8) hO r321 hA ga fga gt fgt hS hDo hdx hdy (by omega) h121
      refine Ex_step (tk_Ov_lay rfl) ?_
      refine Ex_step (tk_Ov_lay rfl) ?_
      refine Ex_step (tk_Ov_lay rfl) ⟨fun h37 => ?_, fun h37 => ?_⟩
      · try simp (disch := omega) only [cmpI, w32_b2i, b2i_0, b2i_1, w32_id, Classical.not_not, not_true_eq_false, not_false_eq_true] at h37
        omega
      · try simp (disch := omega) only [cmpI, w32_b2i, b2i_0, b2i_1, w32_id, Classical.not_not, not_true_eq_false, not_false_eq_true] at h37
        exact h40
  have h33 := hloop N 0 none none (by omega)
  rw [show lo + ((0 : Nat) : Int) = lo by omega] at h33
  refine Ex_step (tk_Ov_lay rfl) ?_
  refine Ex_step (tk_Ov_lay rfl) ?_
  refine Ex_step (tk_Ov_lay rfl) ?_
  refine Ex_step (tk_Ov_lay rfl) ?_
  refine Ex_step (tk_Ov_lay rfl) ?_
  refine gCR (tk_Ov_lay rfl) (hk5) (hr321) ?_
  refine gCI (tk_Ov_lay rfl) (hA.1) ?_
  rw [ga.2.1]
  refine Ex_step (tk_Ov_lay rfl) ?_
  refine gCR (tk_Ov_lay rfl) (hk5) (hr323) ?_
  refine gCI (tk_Ov_lay rfl) (hD.1) ?_
  rw [gt.2.1]
  refine Ex_step (tk_Ov_lay rfl) ?_
  refine Ex_step (tk_Ov_lay rfl) ?_
  refine Ex_min (tk_Ov_lay rfl) rfl (Nat.le_of_ble_eq_true rfl) ?_
  rw [← hen]
  refine Ex_step (tk_Ov_lay rfl) ?_
  refine Ex_step (tk_Ov_lay rfl) ?_
  refine Ex_step (tk_Ov_lay rfl) ?_
  refine Ex_max (tk_Ov_lay rfl) rfl (Nat.le_of_ble_eq_true rfl) ?_
  rw [← hlo]
  refine Ex_step (tk_Ov_lay rfl) ?_
  exact h33
end CLay2
