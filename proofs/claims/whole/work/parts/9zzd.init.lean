/-! ===== constructors: new cells, what stays below ===== -/
section NewRows
variable {d y pc nx idx : Nat} {c0 : Int} {ls : Ls} {r : List AV} {m : Mem} {F A L : Nat → Nat → Int} {Q : Nat → Option AV → Mem → Prop}
set_option maxRecDepth 100000 in
theorem nwO {k z p0 : Nat} (hk : okE y pc (.new idx, nx, [k, z, p0], c0)) (h12 : k ≤ 12) (h : Ex d y nx ls (vR (100 + mN m) :: r) (CM (alloc m k 0 z) (zF (100 + mN m) F) (zA (100 + mN m) A) (zA (100 + mN m) L)) Q) : Ex d y pc ls r (CM m F A L) Q := Ex_step hk ⟨h12, h⟩
set_option maxRecDepth 100000 in
theorem nwI {k p0 n : Nat} {ty : ArrayType} {x : Int} (hk : okE y pc (.newarray ty, nx, [k, p0], c0)) (hx : w32 x = (n : Int)) (hn : n ≤ 100000) (h : Ex d y nx ls (vR (100 + mN m) :: r) (CM (alloc m k n n) (zF (100 + mN m) F) (zA (100 + mN m) A) (zA (100 + mN m) L)) Q) : Ex d y pc ls (vI x :: r) (CM m F A L) Q := by
  refine Ex_step hk ⟨by rw [hx]; omega, by rw [hx]; omega, ?_⟩
  rw [show ix x = n by unfold ix; rw [hx]; rfl]
  exact h
set_option maxRecDepth 100000 in
theorem nwR {k p0 p1 n : Nat} {x : Int} (hk : okE y pc (.anewarray idx, nx, [k, p0, p1], c0)) (hx : w32 x = (n : Int)) (hn : n ≤ 100000) (h : Ex d y nx ls (vR (100 + mN m) :: r) (CM (alloc m k n n) (zF (100 + mN m) F) (zA (100 + mN m) A) (zA (100 + mN m) L)) Q) : Ex d y pc ls (vI x :: r) (CM m F A L) Q := by
  refine Ex_step hk ⟨by rw [hx]; omega, by rw [hx]; omega, ?_⟩
  rw [show ix x = n by unfold ix; rw [hx]; rfl]
  exact h
end NewRows
/-- all below lo stays -/
def Fr (lo : Nat) (m m' : Mem) (F F' A A' L L' : Nat → Nat → Int) : Prop := ∀ j, j < lo → (mK m' j = mK m j ∧ mLen m' j = mLen m j ∧ mAR m' j = mAR m j ∧ A' j = A j ∧ L' j = L j) ∧ ∀ f, mFR m' f j = mFR m f j ∧ F' f j = F f j
section Frs
variable {lo lo2 : Nat} {m m1 m2 : Mem} {F F1 F2 A A1 A2 L L1 L2 : Nat → Nat → Int}
set_option maxRecDepth 100000 in
theorem Fr.rf : Fr lo m m F F A A L L := fun _ _ => ⟨⟨rfl, rfl, rfl, rfl, rfl⟩, fun _ => ⟨rfl, rfl⟩⟩
set_option maxRecDepth 100000 in
theorem Fr.tr (h : Fr lo m m1 F F1 A A1 L L1) (g : Fr lo2 m1 m2 F1 F2 A1 A2 L1 L2) (hl : lo ≤ lo2) : Fr lo m m2 F F2 A A2 L L2 := fun j hj => by
  obtain ⟨⟨x1, x2, x3, x4, x5⟩, x6⟩ := h j hj
  obtain ⟨⟨y1, y2, y3, y4, y5⟩, y6⟩ := g j (by omega)
  exact ⟨⟨y1.trans x1, y2.trans x2, y3.trans x3, y4.trans x4, y5.trans x5⟩, fun f => ⟨(y6 f).1.trans (x6 f).1, (y6 f).2.trans (x6 f).2⟩⟩
set_option maxRecDepth 100000 in
theorem Fr.al {k l z : Nat} (h : lo ≤ 100 + mN m) : Fr lo m (alloc m k l z) F (zF (100 + mN m) F) A (zA (100 + mN m) A) L (zA (100 + mN m) L) := fun j hj => ⟨⟨if_neg (by omega), if_neg (by omega), if_neg (by omega), if_neg (by omega), if_neg (by omega)⟩, fun f => ⟨if_neg (by omega), if_neg (by omega)⟩⟩
set_option maxRecDepth 100000 in
theorem Fr.sF {f a b : Nat} (h : lo ≤ a) : Fr lo m (sFR m f a b) F F A A L L := fun j hj => ⟨⟨rfl, rfl, rfl, rfl, rfl⟩, fun f2 => ⟨sFR_ne m (by omega), rfl⟩⟩
set_option maxRecDepth 100000 in
theorem Fr.uF {f a : Nat} {v : Int} (h : lo ≤ a) : Fr lo m m F (upF F f a v) A A L L := fun j hj => ⟨⟨rfl, rfl, rfl, rfl, rfl⟩, fun f2 => ⟨rfl, upF_a _ _ _ (by omega)⟩⟩
set_option maxRecDepth 100000 in
theorem Fr.sR {a : Nat} {r : Nat → Nat} (h : lo ≤ a) : Fr lo m (sAR m a r) F F A A L L := fun j hj => ⟨⟨rfl, rfl, if_neg (by omega), rfl, rfl⟩, fun f2 => ⟨rfl, rfl⟩⟩
set_option maxRecDepth 100000 in
theorem Fr.d {a : Nat} (g : Fr lo m m1 F F1 A A1 L L1) (h : DW m a) (ha : a + 3 ≤ lo) : DW m1 a := by
  obtain ⟨c1, c2, c3, c4, c5, c6⟩ := h
  have k0 := g a (by omega)
  have k1 := g (a + 1) (by omega)
  have k2 := g (a + 2) (by omega)
  exact ⟨k0.1.1.trans c1, c2, (k0.2 195).1.trans c3, (k0.2 196).1.trans c4, c5.w k1.1.1 k1.1.2.1, c6.w k2.1.1 k2.1.2.1⟩
set_option maxRecDepth 100000 in
theorem al_K (m : Mem) (k l z : Nat) : mK (alloc m k l z) (100 + mN m) = k ∧ mLen (alloc m k l z) (100 + mN m) = l ∧ (mAR (alloc m k l z) (100 + mN m) = fun _ => 0) ∧ ∀ f, mFR (alloc m k l z) f (100 + mN m) = 0 := ⟨if_pos rfl, if_pos rfl, if_pos rfl, fun f => if_pos rfl⟩
end Frs
section DesInit
variable {d a : Nat} {m : Mem} {F A L : Nat → Nat → Int} {Q : Nat → Option AV → Mem → Prop}
set_option maxRecDepth 100000 in
theorem c_desInit (hk3 : mK m a = 3) (ha : 100 ≤ a) (hN : 100 + mN m = a + 1) (h : ∀ (m' : Mem) (F' A' L' : Nat → Nat → Int), Fr a m m' F F' A A' L L' → mN m' = mN m + 2 → mZ m' = mZ m + 20 → DW m' a → (F' 192 a = 0 ∧ F' 193 a = 0 ∧ F' 194 a = 0) → ((A' (a + 1) = fun _ => 0) ∧ A' (a + 2) = fun _ => 0) → Q 0 none (CM m' F' A' L')) : Ex d Des_init 0 [some (vR a)] [] (CM m F A L) Q := by
  have z32 : ∀ (m1 : Mem) (F1 A1 L1 : Nat → Nat → Int), Fr a m m1 F F1 A A1 L L1 → mN m1 = mN m + 1 → mZ m1 = mZ m + 10 → mK m1 a = 3 → IA m1 (a + 1) 10 → mFR m1 195 a = a + 1 → (F1 192 a = 0 ∧ F1 193 a = 0 ∧ F1 194 a = 0) → (A1 (a + 1) = fun _ => 0) → Ex d Des_init 27 [some (vR a)] [] (CM m1 F1 A1 L1) Q := by
    intro m1 F1 A1 L1 fr n1 z1 k1 i1 r1 f1 a1
    have e1 : 100 + mN m1 = a + 2 := by omega
    have hal := al_K m1 13 10 10
    have fra : Fr (a + 2) m1 (alloc m1 13 10 10) F1 (zF (100 + mN m1) F1) A1 (zA (100 + mN m1) A1) L1 (zA (100 + mN m1) L1) := Fr.al (by omega)
    have za : zA (100 + mN m1) A1 (100 + mN m1) = fun _ => 0 := if_pos rfl
    have nn : mN (alloc m1 13 10 10) = mN m1 + 1 := rfl
    have zz : mZ (alloc m1 13 10 10) = mZ m1 + 10 := rfl
    rw [e1] at hal fra za
    have hk3' : mK (alloc m1 13 10 10) a = 3 := (fra a (by omega)).1.1.trans k1
    have hq := h (sFR (alloc m1 13 10 10) 196 a (a + 2)) (zF (a + 2) F1) (zA (a + 2) A1) (zA (a + 2) L1) ((fr.tr fra (by omega)).tr (Fr.sF (Nat.le_refl a)) (Nat.le_refl _)) (by show mN (alloc m1 13 10 10) = _; omega) (by show mZ (alloc m1 13 10 10) = _; omega) ⟨hk3', ha, (sFR_ne _ (by omega)).trans (((fra a (by omega)).2 195).1.trans r1), sFR_at _ _ _ _, i1.w (fra (a + 1) (by omega)).1.1 (fra (a + 1) (by omega)).1.2.1, hal.1, hal.2.1, by omega⟩ ⟨((fra a (by omega)).2 192).2.trans f1.1, ((fra a (by omega)).2 193).2.trans f1.2.1, ((fra a (by omega)).2 194).2.trans f1.2.2⟩ ⟨(fra (a + 1) (by omega)).1.2.2.2.1.trans a1, za⟩
    rw [← e1] at hq
    refine Ex_step (tk_Des_init rfl) ?_
    refine Ex_step (tk_Des_init rfl) ?_
    refine nwI (n := 10) (tk_Des_init rfl) rfl (by decide) ?_
    refine pCR (tk_Des_init rfl) (hk3') ?_
    refine Ex_step (tk_Des_init rfl) ⟨rfl, ?_⟩
    exact hq
  have z19 : ∀ F1 : Nat → Nat → Int, (∀ f j, j ≠ a → F1 f j = F f j) → (F1 192 a = 0 ∧ F1 193 a = 0 ∧ F1 194 a = 0) → Ex d Des_init 19 [some (vR a)] [] (CM m F1 A L) Q := by
    intro F1 kF f1
    have hal := al_K m 13 10 10
    have fra : Fr (a + 1) m (alloc m 13 10 10) F1 (zF (100 + mN m) F1) A (zA (100 + mN m) A) L (zA (100 + mN m) L) := Fr.al (by omega)
    have fr0 : Fr a m m F F1 A A L L := fun j hj => ⟨⟨rfl, rfl, rfl, rfl, rfl⟩, fun f => ⟨rfl, kF f j (by omega)⟩⟩
    have za : zA (100 + mN m) A (100 + mN m) = fun _ => 0 := if_pos rfl
    rw [hN] at hal fra za
    have hk3' : mK (alloc m 13 10 10) a = 3 := (fra a (by omega)).1.1.trans hk3
    have hq := z32 (sFR (alloc m 13 10 10) 195 a (a + 1)) (zF (a + 1) F1) (zA (a + 1) A) (zA (a + 1) L) ((fr0.tr fra (by omega)).tr (Fr.sF (Nat.le_refl a)) (Nat.le_refl _)) rfl rfl hk3' ⟨hal.1, hal.2.1, by omega⟩ (sFR_at _ _ _ _) ⟨((fra a (by omega)).2 192).2.trans f1.1, ((fra a (by omega)).2 193).2.trans f1.2.1, ((fra a (by omega)).2 194).2.trans f1.2.2⟩ za
    rw [← hN] at hq
    refine Ex_step (tk_Des_init rfl) ?_
    refine Ex_step (tk_Des_init rfl) ?_
    refine nwI (n := 10) (tk_Des_init rfl) rfl (by decide) ?_
    refine pCR (tk_Des_init rfl) (hk3') ?_
    exact hq
  have hq := z19 (upF (upF (upF F 192 a 0) 193 a 0) 194 a 0) (fun f j q => by rw [upF_a _ _ _ q, upF_a _ _ _ q, upF_a _ _ _ q]) ⟨by rw [upF_f _ _ _ (by decide), upF_f _ _ _ (by decide), upF_at], by rw [upF_f _ _ _ (by decide), upF_at], upF_at _ _ _ _⟩
  refine Ex_step (tk_Des_init rfl) ?_
  refine Ex_step (tk_Des_init rfl) ⟨rfl, ha, Nat.le_of_ble_eq_true rfl, ?_⟩
  refine Ex_step (tk_Des_init rfl) ?_
  refine Ex_step (tk_Des_init rfl) ?_
  refine pCI (tk_Des_init rfl) (hk3) ?_
  refine Ex_step (tk_Des_init rfl) ?_
  refine Ex_step (tk_Des_init rfl) ?_
  refine pCI (tk_Des_init rfl) (hk3) ?_
  refine Ex_step (tk_Des_init rfl) ?_
  refine Ex_step (tk_Des_init rfl) ?_
  refine pCI (tk_Des_init rfl) (hk3) ?_
  exact hq
end DesInit
