/-! ===== constructors: the class itself, step by step ===== -/
section DDInit
variable {d : Nat} {m : Mem} {F A L : Nat → Nat → Int} {Q : Nat → Option AV → Mem → Prop}
set_option maxRecDepth 100000 in
theorem c_ddInit (hk11 : mK m 100 = 11) (hN : mN m = 1) (h : ∀ (m' : Mem) (F' A' L' : Nat → Nat → Int), Fr 100 m m' F F' A A' L L' → mN m' = 262 → mZ m' ≤ mZ m + 20000 → Mk 6 m' F' A' → (mFR m' 715 100 = 359 ∧ mFR m' 716 100 = 360 ∧ mFR m' 717 100 = 361) → (IA m' 359 5 ∧ LA m' 360 32 ∧ IA m' 361 6) → Q 0 none (CM m' F' A' L')) : Ex (d + 4) DD_init 0 [some (vR 100)] [] (CM m F A L) Q := by
  have z114 : ∀ (m1 : Mem) (F1 A1 L1 : Nat → Nat → Int), Fr 100 m m1 F F1 A A1 L L1 → 100 + mN m1 = 361 → mZ m1 ≤ mZ m + 19000 → Mk 6 m1 F1 A1 → (mFR m1 715 100 = 359 ∧ mFR m1 716 100 = 360) → (IA m1 359 5 ∧ LA m1 360 32) → Ex (d + 4) DD_init 114 [some (vR 100)] [] (CM m1 F1 A1 L1) Q := by
    intro m1 F1 A1 L1 fr e1 z1 mk rf ia
    have r3 := mk_row (m := m1) F1 A1 L1 13 6 717 100 (by omega)
    have n3 : mN (sFR (alloc m1 13 6 6) 717 100 (100 + mN m1)) = mN m1 + 1 := rfl
    have z3 : mZ (sFR (alloc m1 13 6 6) 717 100 (100 + mN m1)) = mZ m1 + 6 := rfl
    have hk11a : mK (alloc m1 13 6 6) 100 = 11 := (r3.2.2 100 (by omega)).1.1.trans mk.1.1
    have gx : Fx 361 717 m1 (sFR (alloc m1 13 6 6) 717 100 (100 + mN m1)) F1 (zF (100 + mN m1) F1) A1 (zA (100 + mN m1) A1) := fun j hj => by
      obtain ⟨⟨x1, x2, x3⟩, x4, x5, x6⟩ := r3.2.2 j (by omega)
      exact ⟨⟨x1, x2, x3, x5⟩, x6, x4⟩
    have g0 := gx 100 (by decide)
    have mk2 : Mk 6 (sFR (alloc m1 13 6 6) 717 100 (100 + mN m1)) (zF (100 + mN m1) F1) (zA (100 + mN m1) A1) := mk.x (by decide) gx (by decide) (by decide)
    have hq := h _ _ _ _ (fr.tr (r3.1 100 (Nat.le_refl _)) (Nat.le_refl _)) (by omega) (by omega) mk2 ⟨(g0.2.2 715 (by omega)).trans rf.1, (g0.2.2 716 (by omega)).trans rf.2, r3.2.1.2.2.trans e1⟩ ⟨gx.i ia.1 (by decide), ia.2.w (gx 360 (by decide)).1.1 (gx 360 (by decide)).1.2.1, by rw [← e1]; exact ⟨r3.2.1.1, r3.2.1.2.1, by omega⟩⟩
    refine Ex_step (tk_DD_init rfl) ?_
    refine Ex_step (tk_DD_init rfl) ?_
    refine nwI (n := 6) (tk_DD_init rfl) rfl (by decide) ?_
    refine pCR (tk_DD_init rfl) (hk11a) ?_
    refine Ex_step (tk_DD_init rfl) ⟨rfl, ?_⟩
    exact hq
  have z106 : ∀ (m1 : Mem) (F1 A1 L1 : Nat → Nat → Int), Fr 100 m m1 F F1 A A1 L L1 → 100 + mN m1 = 360 → mZ m1 ≤ mZ m + 18000 → Mk 6 m1 F1 A1 → mFR m1 715 100 = 359 → IA m1 359 5 → Ex (d + 4) DD_init 106 [some (vR 100)] [] (CM m1 F1 A1 L1) Q := by
    intro m1 F1 A1 L1 fr e1 z1 mk rf ia
    have r3 := mk_row (m := m1) F1 A1 L1 14 32 716 100 (by omega)
    have n3 : mN (sFR (alloc m1 14 32 32) 716 100 (100 + mN m1)) = mN m1 + 1 := rfl
    have z3 : mZ (sFR (alloc m1 14 32 32) 716 100 (100 + mN m1)) = mZ m1 + 32 := rfl
    have hk11a : mK (alloc m1 14 32 32) 100 = 11 := (r3.2.2 100 (by omega)).1.1.trans mk.1.1
    have gx : Fx 360 716 m1 (sFR (alloc m1 14 32 32) 716 100 (100 + mN m1)) F1 (zF (100 + mN m1) F1) A1 (zA (100 + mN m1) A1) := fun j hj => by
      obtain ⟨⟨x1, x2, x3⟩, x4, x5, x6⟩ := r3.2.2 j (by omega)
      exact ⟨⟨x1, x2, x3, x5⟩, x6, x4⟩
    have g0 := gx 100 (by decide)
    have mk2 : Mk 6 (sFR (alloc m1 14 32 32) 716 100 (100 + mN m1)) (zF (100 + mN m1) F1) (zA (100 + mN m1) A1) := mk.x (by decide) gx (by decide) (by decide)
    have hq := z114 _ _ _ _ (fr.tr (r3.1 100 (Nat.le_refl _)) (Nat.le_refl _)) (by omega) (by omega) mk2 ⟨(g0.2.2 715 (by omega)).trans rf, r3.2.1.2.2.trans e1⟩ ⟨gx.i ia (by decide), by rw [← e1]; exact ⟨r3.2.1.1, r3.2.1.2.1⟩⟩
    refine Ex_step (tk_DD_init rfl) ?_
    refine Ex_step (tk_DD_init rfl) ?_
    refine nwI (n := 32) (tk_DD_init rfl) rfl (by decide) ?_
    refine pCR (tk_DD_init rfl) (hk11a) ?_
    exact hq
  have z99 : ∀ (m1 : Mem) (F1 A1 L1 : Nat → Nat → Int), Fr 100 m m1 F F1 A A1 L L1 → 100 + mN m1 = 359 → mZ m1 ≤ mZ m + 17000 → Mk 6 m1 F1 A1 → Ex (d + 4) DD_init 99 [some (vR 100)] [] (CM m1 F1 A1 L1) Q := by
    intro m1 F1 A1 L1 fr e1 z1 mk
    have r3 := mk_row (m := m1) F1 A1 L1 13 5 715 100 (by omega)
    have n3 : mN (sFR (alloc m1 13 5 5) 715 100 (100 + mN m1)) = mN m1 + 1 := rfl
    have z3 : mZ (sFR (alloc m1 13 5 5) 715 100 (100 + mN m1)) = mZ m1 + 5 := rfl
    have hk11a : mK (alloc m1 13 5 5) 100 = 11 := (r3.2.2 100 (by omega)).1.1.trans mk.1.1
    have gx : Fx 359 715 m1 (sFR (alloc m1 13 5 5) 715 100 (100 + mN m1)) F1 (zF (100 + mN m1) F1) A1 (zA (100 + mN m1) A1) := fun j hj => by
      obtain ⟨⟨x1, x2, x3⟩, x4, x5, x6⟩ := r3.2.2 j (by omega)
      exact ⟨⟨x1, x2, x3, x5⟩, x6, x4⟩
    have mk2 : Mk 6 (sFR (alloc m1 13 5 5) 715 100 (100 + mN m1)) (zF (100 + mN m1) F1) (zA (100 + mN m1) A1) := mk.x (by decide) gx (by decide) (by decide)
    have hq := z106 _ _ _ _ (fr.tr (r3.1 100 (Nat.le_refl _)) (Nat.le_refl _)) (by omega) (by omega) mk2 (r3.2.1.2.2.trans e1) (by rw [← e1]; exact ⟨r3.2.1.1, r3.2.1.2.1, by omega⟩)
    refine Ex_step (tk_DD_init rfl) ?_
    refine Ex_step (tk_DD_init rfl) ?_
    refine nwI (n := 5) (tk_DD_init rfl) rfl (by decide) ?_
    refine pCR (tk_DD_init rfl) (hk11a) ?_
    exact hq
  have z88 : ∀ (m1 : Mem) (F1 A1 L1 : Nat → Nat → Int), Fr 100 m m1 F F1 A A1 L L1 → 100 + mN m1 = 353 → mZ m1 ≤ mZ m + 12000 → Mk 5 m1 F1 A1 → Ex (d + 4) DD_init 88 [some (vR 100)] [] (CM m1 F1 A1 L1) Q := by
    intro m1 F1 A1 L1 fr e1 z1 mk
    have hal := al_K m1 9 0 4
    have fra : Fr (100 + mN m1) m1 (alloc m1 9 0 4) F1 (zF (100 + mN m1) F1) A1 (zA (100 + mN m1) A1) L1 (zA (100 + mN m1) L1) := Fr.al (Nat.le_refl _)
    have ha : 100 ≤ 100 + mN m1 := by omega
    have hin := fun (Q1 : Nat → Option AV → Mem → Prop) => c_shpInit (d := d + 2) (m := alloc m1 9 0 4) (F := zF (100 + mN m1) F1) (A := zA (100 + mN m1) A1) (L := zA (100 + mN m1) L1) (Q := Q1) (s := 100 + mN m1) hal.1 (by omega) rfl
    have zz : ∀ (m3 : Mem) (F3 A3 L3 : Nat → Nat → Int), Fr (100 + mN m1) (alloc m1 9 0 4) m3 (zF (100 + mN m1) F1) F3 (zA (100 + mN m1) A1) A3 (zA (100 + mN m1) L1) L3 → mN m3 = mN (alloc m1 9 0 4) + 5 → mZ m3 = mZ (alloc m1 9 0 4) + 135 → (SW m3 (100 + mN m1)) → Ex (d + 4) DD_init 96 [some (vR 100)] [vR (100 + mN m1), vR 100] (CM m3 F3 A3 L3) Q := by
      intro m3 F3 A3 L3 fr3 n3 z3 w1
      have nA : mN (alloc m1 9 0 4) = mN m1 + 1 := rfl
      have zA_ : mZ (alloc m1 9 0 4) = mZ m1 + 4 := rfl
      have f13 := fra.tr fr3 (Nat.le_refl _)
      rw [e1] at w1 f13 ⊢
      have gx : Fx 353 714 m1 (sFR m3 714 100 353) F1 F3 A1 A3 := f13.x
      have gs : Fx 1000 714 m3 (sFR m3 714 100 353) F3 F3 A3 A3 := (Fr.rf (L := L3)).x
      have hk11a : mK m3 100 = 11 := (f13 100 (by decide)).1.1.trans mk.1.1
      have mkn := mk.x (by decide) gx (by decide) (by decide)
      have hq := z99 (sFR m3 714 100 353) F3 A3 L3 ((fr.tr f13 (by decide)).tr (Fr.sF (Nat.le_refl 100)) (Nat.le_refl _)) (by show 100 + mN m3 = _; omega) (by show mZ m3 ≤ _; omega) ⟨mkn.1, fun _ => mkn.2.1 (by decide), fun _ => mkn.2.2.1 (by decide), fun _ => mkn.2.2.2.1 (by decide), fun _ => mkn.2.2.2.2.1 (by decide), fun _ => mkn.2.2.2.2.2.1 (by decide), fun _ => ⟨sFR_at _ _ _ _, ⟨w1.1, (sFR_ne _ (by omega)).trans w1.2.1, gs.d w1.2.2.1 (by decide) (by decide), (sFR_ne _ (by omega)).trans w1.2.2.2.1, w1.2.2.2.2.1, (sFR_ne _ (by omega)).trans w1.2.2.2.2.2.1, w1.2.2.2.2.2.2⟩⟩⟩
      refine pCR (tk_DD_init rfl) (hk11a) ?_
      exact hq
    refine Ex_step (tk_DD_init rfl) ?_
    refine nwO (tk_DD_init rfl) (by decide) ?_
    refine Ex_step (tk_DD_init rfl) ?_
    refine Ex_cIK (av := []) (tk_DD_init rfl) mk_Shp_init ⟨rfl, by decide, rfl, rfl, rfl, Nat.le_of_ble_eq_true rfl, Nat.le_of_ble_eq_true rfl⟩ (ha) (hin _ (fun m3 F3 A3 L3 p1 p2 p3 w1 => ⟨rfl, ?_⟩))
    exact zz m3 F3 A3 L3 p1 p2 p3 w1
  have z77 : ∀ (m1 : Mem) (F1 A1 L1 : Nat → Nat → Int), Fr 100 m m1 F F1 A A1 L L1 → 100 + mN m1 = 310 → mZ m1 ≤ mZ m + 10000 → Mk 4 m1 F1 A1 → Ex (d + 4) DD_init 77 [some (vR 100)] [] (CM m1 F1 A1 L1) Q := by
    intro m1 F1 A1 L1 fr e1 z1 mk
    have hal := al_K m1 5 0 9
    have fra : Fr (100 + mN m1) m1 (alloc m1 5 0 9) F1 (zF (100 + mN m1) F1) A1 (zA (100 + mN m1) A1) L1 (zA (100 + mN m1) L1) := Fr.al (Nat.le_refl _)
    have ha : 100 ≤ 100 + mN m1 := by omega
    have hin := fun (Q1 : Nat → Option AV → Mem → Prop) => c_ovInit (d := d + 1) (m := alloc m1 5 0 9) (F := zF (100 + mN m1) F1) (A := zA (100 + mN m1) A1) (L := zA (100 + mN m1) L1) (Q := Q1) (o := 100 + mN m1) hal.1 (by omega) rfl
    have zz : ∀ (m3 : Mem) (F3 A3 L3 : Nat → Nat → Int), Fr (100 + mN m1) (alloc m1 5 0 9) m3 (zF (100 + mN m1) F1) F3 (zA (100 + mN m1) A1) A3 (zA (100 + mN m1) L1) L3 → mN m3 = mN (alloc m1 5 0 9) + 42 → mZ m3 = mZ (alloc m1 5 0 9) + 297 → (OW m3 (100 + mN m1)) → (∀ i, i < 36 → F3 64 (100 + mN m1 + 2 + i) = 0) → Ex (d + 4) DD_init 85 [some (vR 100)] [vR (100 + mN m1), vR 100] (CM m3 F3 A3 L3) Q := by
      intro m3 F3 A3 L3 fr3 n3 z3 w1 w2
      have nA : mN (alloc m1 5 0 9) = mN m1 + 1 := rfl
      have zA_ : mZ (alloc m1 5 0 9) = mZ m1 + 9 := rfl
      have f13 := fra.tr fr3 (Nat.le_refl _)
      rw [e1] at w1 w2 f13 ⊢
      have gx : Fx 310 713 m1 (sFR m3 713 100 310) F1 F3 A1 A3 := f13.x
      have gs : Fx 1000 713 m3 (sFR m3 713 100 310) F3 F3 A3 A3 := (Fr.rf (L := L3)).x
      have hk11a : mK m3 100 = 11 := (f13 100 (by decide)).1.1.trans mk.1.1
      have mkn := mk.x (by decide) gx (by decide) (by decide)
      have hq := z88 (sFR m3 713 100 310) F3 A3 L3 ((fr.tr f13 (by decide)).tr (Fr.sF (Nat.le_refl 100)) (Nat.le_refl _)) (by show 100 + mN m3 = _; omega) (by show mZ m3 ≤ _; omega) ⟨mkn.1, fun _ => mkn.2.1 (by decide), fun _ => mkn.2.2.1 (by decide), fun _ => mkn.2.2.2.1 (by decide), fun _ => mkn.2.2.2.2.1 (by decide), fun _ => ⟨sFR_at _ _ _ _, ⟨w1.1, (sFR_ne _ (by omega)).trans w1.2.1, gs.d w1.2.2.1 (by decide) (by decide), (sFR_ne _ (by omega)).trans w1.2.2.2.1, w1.2.2.2.2.1, (sFR_ne _ (by omega)).trans w1.2.2.2.2.2.1, w1.2.2.2.2.2.2.1, (sFR_ne _ (by omega)).trans w1.2.2.2.2.2.2.2.1, w1.2.2.2.2.2.2.2.2⟩, w2⟩, fun q => absurd q (by decide)⟩
      refine pCR (tk_DD_init rfl) (hk11a) ?_
      exact hq
    refine Ex_step (tk_DD_init rfl) ?_
    refine nwO (tk_DD_init rfl) (by decide) ?_
    refine Ex_step (tk_DD_init rfl) ?_
    refine Ex_cIK (av := []) (tk_DD_init rfl) mk_Ov_init ⟨rfl, by decide, rfl, rfl, rfl, Nat.le_of_ble_eq_true rfl, Nat.le_of_ble_eq_true rfl⟩ (ha) (hin _ (fun m3 F3 A3 L3 p1 p2 p3 w1 w2 => ⟨rfl, ?_⟩))
    exact zz m3 F3 A3 L3 p1 p2 p3 w1 w2
  have z66 : ∀ (m1 : Mem) (F1 A1 L1 : Nat → Nat → Int), Fr 100 m m1 F F1 A A1 L L1 → 100 + mN m1 = 304 → mZ m1 ≤ mZ m + 8000 → Mk 3 m1 F1 A1 → Ex (d + 4) DD_init 66 [some (vR 100)] [] (CM m1 F1 A1 L1) Q := by
    intro m1 F1 A1 L1 fr e1 z1 mk
    have hal := al_K m1 10 0 2
    have fra : Fr (100 + mN m1) m1 (alloc m1 10 0 2) F1 (zF (100 + mN m1) F1) A1 (zA (100 + mN m1) A1) L1 (zA (100 + mN m1) L1) := Fr.al (Nat.le_refl _)
    have ha : 100 ≤ 100 + mN m1 := by omega
    have hin := fun (Q1 : Nat → Option AV → Mem → Prop) => c_trInit (d := d + 0) (m := alloc m1 10 0 2) (F := zF (100 + mN m1) F1) (A := zA (100 + mN m1) A1) (L := zA (100 + mN m1) L1) (Q := Q1) (tr := 100 + mN m1) hal.1 (by omega) rfl
    have zz : ∀ (m3 : Mem) (F3 A3 L3 : Nat → Nat → Int), Fr (100 + mN m1) (alloc m1 10 0 2) m3 (zF (100 + mN m1) F1) F3 (zA (100 + mN m1) A1) A3 (zA (100 + mN m1) L1) L3 → mN m3 = mN (alloc m1 10 0 2) + 5 → mZ m3 = mZ (alloc m1 10 0 2) + 846 → (mK m3 (100 + mN m1) = 10 ∧ mFR m3 640 (100 + mN m1) = 100 + mN m1 + 2 ∧ mFR m3 641 (100 + mN m1) = 100 + mN m1 + 1) → (RRW m3 (100 + mN m1 + 1)) → (mK m3 (100 + mN m1 + 2) = 8) → Ex (d + 4) DD_init 74 [some (vR 100)] [vR (100 + mN m1), vR 100] (CM m3 F3 A3 L3) Q := by
      intro m3 F3 A3 L3 fr3 n3 z3 w1 w2 w3
      have nA : mN (alloc m1 10 0 2) = mN m1 + 1 := rfl
      have zA_ : mZ (alloc m1 10 0 2) = mZ m1 + 2 := rfl
      have f13 := fra.tr fr3 (Nat.le_refl _)
      rw [e1] at w1 w2 w3 f13 ⊢
      have gx : Fx 304 712 m1 (sFR m3 712 100 304) F1 F3 A1 A3 := f13.x
      have gs : Fx 1000 712 m3 (sFR m3 712 100 304) F3 F3 A3 A3 := (Fr.rf (L := L3)).x
      have hk11a : mK m3 100 = 11 := (f13 100 (by decide)).1.1.trans mk.1.1
      have mkn := mk.x (by decide) gx (by decide) (by decide)
      have hq := z77 (sFR m3 712 100 304) F3 A3 L3 ((fr.tr f13 (by decide)).tr (Fr.sF (Nat.le_refl 100)) (Nat.le_refl _)) (by show 100 + mN m3 = _; omega) (by show mZ m3 ≤ _; omega) ⟨mkn.1, fun _ => mkn.2.1 (by decide), fun _ => mkn.2.2.1 (by decide), fun _ => mkn.2.2.2.1 (by decide), fun _ => ⟨sFR_at _ _ _ _, ⟨w1.1, (sFR_ne _ (by omega)).trans w1.2.1, (sFR_ne _ (by omega)).trans w1.2.2⟩, ⟨w2.1, (sFR_ne _ (by omega)).trans w2.2.1, (sFR_ne _ (by omega)).trans w2.2.2.1, w2.2.2.2.1, (sFR_ne _ (by omega)).trans w2.2.2.2.2.1, w2.2.2.2.2.2⟩, w3⟩, fun q => absurd q (by decide), fun q => absurd q (by decide)⟩
      refine pCR (tk_DD_init rfl) (hk11a) ?_
      exact hq
    refine Ex_step (tk_DD_init rfl) ?_
    refine nwO (tk_DD_init rfl) (by decide) ?_
    refine Ex_step (tk_DD_init rfl) ?_
    refine Ex_cIK (av := []) (tk_DD_init rfl) mk_TR_init ⟨rfl, by decide, rfl, rfl, rfl, Nat.le_of_ble_eq_true rfl, Nat.le_of_ble_eq_true rfl⟩ (ha) (hin _ (fun m3 F3 A3 L3 p1 p2 p3 w1 w2 w3 => ⟨rfl, ?_⟩))
    exact zz m3 F3 A3 L3 p1 p2 p3 w1 w2 w3
  have z55 : ∀ (m1 : Mem) (F1 A1 L1 : Nat → Nat → Int), Fr 100 m m1 F F1 A A1 L L1 → 100 + mN m1 = 142 → mZ m1 ≤ mZ m + 6000 → Mk 2 m1 F1 A1 → Ex (d + 4) DD_init 55 [some (vR 100)] [] (CM m1 F1 A1 L1) Q := by
    intro m1 F1 A1 L1 fr e1 z1 mk
    have hal := al_K m1 4 0 2
    have fra : Fr (100 + mN m1) m1 (alloc m1 4 0 2) F1 (zF (100 + mN m1) F1) A1 (zA (100 + mN m1) A1) L1 (zA (100 + mN m1) L1) := Fr.al (Nat.le_refl _)
    have ha : 100 ≤ 100 + mN m1 := by omega
    have hin := fun (Q1 : Nat → Option AV → Mem → Prop) => c_histInit (d := d + 1) (m := alloc m1 4 0 2) (F := zF (100 + mN m1) F1) (A := zA (100 + mN m1) A1) (L := zA (100 + mN m1) L1) (Q := Q1) (hh := 100 + mN m1) hal.1 (by omega) rfl
    have zz : ∀ (m3 : Mem) (F3 A3 L3 : Nat → Nat → Int), Fr (100 + mN m1) (alloc m1 4 0 2) m3 (zF (100 + mN m1) F1) F3 (zA (100 + mN m1) A1) A3 (zA (100 + mN m1) L1) L3 → mN m3 = mN (alloc m1 4 0 2) + 161 → mZ m3 = mZ (alloc m1 4 0 2) + 1280 → (mK m3 (100 + mN m1) = 4 ∧ mFR m3 256 (100 + mN m1) = 100 + mN m1 + 1 ∧ mK m3 (100 + mN m1 + 1) = 17 ∧ mLen m3 (100 + mN m1 + 1) = 8) → (∀ i, i < 8 → mAR m3 (100 + mN m1 + 1) i = 100 + mN m1 + 2 + 20 * i ∧ BkW m3 (100 + mN m1 + 2 + 20 * i) (fun j => 100 + mN m1 + 2 + 20 * i + 2 + 3 * j)) → (F3 257 (100 + mN m1) = 0) → Ex (d + 4) DD_init 63 [some (vR 100)] [vR (100 + mN m1), vR 100] (CM m3 F3 A3 L3) Q := by
      intro m3 F3 A3 L3 fr3 n3 z3 w1 w2 w3
      have nA : mN (alloc m1 4 0 2) = mN m1 + 1 := rfl
      have zA_ : mZ (alloc m1 4 0 2) = mZ m1 + 2 := rfl
      have f13 := fra.tr fr3 (Nat.le_refl _)
      rw [e1] at w1 w2 w3 f13 ⊢
      have gx : Fx 142 711 m1 (sFR m3 711 100 142) F1 F3 A1 A3 := f13.x
      have gs : Fx 1000 711 m3 (sFR m3 711 100 142) F3 F3 A3 A3 := (Fr.rf (L := L3)).x
      have hk11a : mK m3 100 = 11 := (f13 100 (by decide)).1.1.trans mk.1.1
      have mkn := mk.x (by decide) gx (by decide) (by decide)
      have hq := z66 (sFR m3 711 100 142) F3 A3 L3 ((fr.tr f13 (by decide)).tr (Fr.sF (Nat.le_refl 100)) (Nat.le_refl _)) (by show 100 + mN m3 = _; omega) (by show mZ m3 ≤ _; omega) ⟨mkn.1, fun _ => mkn.2.1 (by decide), fun _ => mkn.2.2.1 (by decide), fun _ => ⟨sFR_at _ _ _ _, ⟨w1.1, (sFR_ne _ (by omega)).trans w1.2.1, w1.2.2.1, w1.2.2.2⟩, fun i hi => ⟨(w2 i hi).1, gs.bk (w2 i hi).2 (by omega) (by omega)⟩, w3⟩, fun q => absurd q (by decide), fun q => absurd q (by decide), fun q => absurd q (by decide)⟩
      refine pCR (tk_DD_init rfl) (hk11a) ?_
      exact hq
    refine Ex_step (tk_DD_init rfl) ?_
    refine nwO (tk_DD_init rfl) (by decide) ?_
    refine Ex_step (tk_DD_init rfl) ?_
    refine Ex_cIK (av := []) (tk_DD_init rfl) mk_Hist_init ⟨rfl, by decide, rfl, rfl, rfl, Nat.le_of_ble_eq_true rfl, Nat.le_of_ble_eq_true rfl⟩ (ha) (hin _ (fun m3 F3 A3 L3 p1 p2 p3 w1 w2 w3 => ⟨rfl, ?_⟩))
    exact zz m3 F3 A3 L3 p1 p2 p3 w1 w2 w3
  have z44 : ∀ (m1 : Mem) (F1 A1 L1 : Nat → Nat → Int), Fr 100 m m1 F F1 A A1 L L1 → 100 + mN m1 = 122 → mZ m1 ≤ mZ m + 4000 → Mk 1 m1 F1 A1 → Ex (d + 4) DD_init 44 [some (vR 100)] [] (CM m1 F1 A1 L1) Q := by
    intro m1 F1 A1 L1 fr e1 z1 mk
    have hal := al_K m1 2 0 3
    have fra : Fr (100 + mN m1) m1 (alloc m1 2 0 3) F1 (zF (100 + mN m1) F1) A1 (zA (100 + mN m1) A1) L1 (zA (100 + mN m1) L1) := Fr.al (Nat.le_refl _)
    have ha : 100 ≤ 100 + mN m1 := by omega
    have hin := fun (Q1 : Nat → Option AV → Mem → Prop) => c_bookInit (d := d + 2) (m := alloc m1 2 0 3) (F := zF (100 + mN m1) F1) (A := zA (100 + mN m1) A1) (L := zA (100 + mN m1) L1) (Q := Q1) (k := 100 + mN m1) hal.1 (by omega) rfl
    have zz : ∀ (m3 : Mem) (F3 A3 L3 : Nat → Nat → Int), Fr (100 + mN m1) (alloc m1 2 0 3) m3 (zF (100 + mN m1) F1) F3 (zA (100 + mN m1) A1) A3 (zA (100 + mN m1) L1) L3 → mN m3 = mN (alloc m1 2 0 3) + 19 → mZ m3 = mZ (alloc m1 2 0 3) + 156 → (BkW m3 (100 + mN m1) (fun i => 100 + mN m1 + 2 + 3 * i)) → (F3 129 (100 + mN m1) = 0) → (mFR m3 130 (100 + mN m1) = 0) → Ex (d + 4) DD_init 52 [some (vR 100)] [vR (100 + mN m1), vR 100] (CM m3 F3 A3 L3) Q := by
      intro m3 F3 A3 L3 fr3 n3 z3 w1 w2 w3
      have nA : mN (alloc m1 2 0 3) = mN m1 + 1 := rfl
      have zA_ : mZ (alloc m1 2 0 3) = mZ m1 + 3 := rfl
      have f13 := fra.tr fr3 (Nat.le_refl _)
      rw [e1] at w1 w2 w3 f13 ⊢
      have gx : Fx 122 710 m1 (sFR m3 710 100 122) F1 F3 A1 A3 := f13.x
      have gs : Fx 1000 710 m3 (sFR m3 710 100 122) F3 F3 A3 A3 := (Fr.rf (L := L3)).x
      have hk11a : mK m3 100 = 11 := (f13 100 (by decide)).1.1.trans mk.1.1
      have mkn := mk.x (by decide) gx (by decide) (by decide)
      have hq := z55 (sFR m3 710 100 122) F3 A3 L3 ((fr.tr f13 (by decide)).tr (Fr.sF (Nat.le_refl 100)) (Nat.le_refl _)) (by show 100 + mN m3 = _; omega) (by show mZ m3 ≤ _; omega) ⟨mkn.1, fun _ => mkn.2.1 (by decide), fun _ => ⟨sFR_at _ _ _ _, gs.bk w1 (by decide) (by decide)⟩, fun q => absurd q (by decide), fun q => absurd q (by decide), fun q => absurd q (by decide), fun q => absurd q (by decide)⟩
      refine pCR (tk_DD_init rfl) (hk11a) ?_
      exact hq
    refine Ex_step (tk_DD_init rfl) ?_
    refine nwO (tk_DD_init rfl) (by decide) ?_
    refine Ex_step (tk_DD_init rfl) ?_
    refine Ex_cIK (av := []) (tk_DD_init rfl) mk_Book_init ⟨rfl, by decide, rfl, rfl, rfl, Nat.le_of_ble_eq_true rfl, Nat.le_of_ble_eq_true rfl⟩ (ha) (hin _ (fun m3 F3 A3 L3 p1 p2 p3 w1 w2 w3 => ⟨rfl, ?_⟩))
    exact zz m3 F3 A3 L3 p1 p2 p3 w1 w2 w3
  have z33 : ∀ (m1 : Mem) (F1 A1 L1 : Nat → Nat → Int), Fr 100 m m1 F F1 A A1 L L1 → 100 + mN m1 = 102 → mZ m1 ≤ mZ m + 2000 → Mk 0 m1 F1 A1 → Ex (d + 4) DD_init 33 [some (vR 100)] [] (CM m1 F1 A1 L1) Q := by
    intro m1 F1 A1 L1 fr e1 z1 mk
    have hal := al_K m1 2 0 3
    have fra : Fr (100 + mN m1) m1 (alloc m1 2 0 3) F1 (zF (100 + mN m1) F1) A1 (zA (100 + mN m1) A1) L1 (zA (100 + mN m1) L1) := Fr.al (Nat.le_refl _)
    have ha : 100 ≤ 100 + mN m1 := by omega
    have hin := fun (Q1 : Nat → Option AV → Mem → Prop) => c_bookInit (d := d + 2) (m := alloc m1 2 0 3) (F := zF (100 + mN m1) F1) (A := zA (100 + mN m1) A1) (L := zA (100 + mN m1) L1) (Q := Q1) (k := 100 + mN m1) hal.1 (by omega) rfl
    have zz : ∀ (m3 : Mem) (F3 A3 L3 : Nat → Nat → Int), Fr (100 + mN m1) (alloc m1 2 0 3) m3 (zF (100 + mN m1) F1) F3 (zA (100 + mN m1) A1) A3 (zA (100 + mN m1) L1) L3 → mN m3 = mN (alloc m1 2 0 3) + 19 → mZ m3 = mZ (alloc m1 2 0 3) + 156 → (BkW m3 (100 + mN m1) (fun i => 100 + mN m1 + 2 + 3 * i)) → (F3 129 (100 + mN m1) = 0) → (mFR m3 130 (100 + mN m1) = 0) → Ex (d + 4) DD_init 41 [some (vR 100)] [vR (100 + mN m1), vR 100] (CM m3 F3 A3 L3) Q := by
      intro m3 F3 A3 L3 fr3 n3 z3 w1 w2 w3
      have nA : mN (alloc m1 2 0 3) = mN m1 + 1 := rfl
      have zA_ : mZ (alloc m1 2 0 3) = mZ m1 + 3 := rfl
      have f13 := fra.tr fr3 (Nat.le_refl _)
      rw [e1] at w1 w2 w3 f13 ⊢
      have gx : Fx 102 709 m1 (sFR m3 709 100 102) F1 F3 A1 A3 := f13.x
      have gs : Fx 1000 709 m3 (sFR m3 709 100 102) F3 F3 A3 A3 := (Fr.rf (L := L3)).x
      have hk11a : mK m3 100 = 11 := (f13 100 (by decide)).1.1.trans mk.1.1
      have mkn := mk.x (by decide) gx (by decide) (by decide)
      have hq := z44 (sFR m3 709 100 102) F3 A3 L3 ((fr.tr f13 (by decide)).tr (Fr.sF (Nat.le_refl 100)) (Nat.le_refl _)) (by show 100 + mN m3 = _; omega) (by show mZ m3 ≤ _; omega) ⟨mkn.1, fun _ => ⟨sFR_at _ _ _ _, gs.bk w1 (by decide) (by decide), w2, (sFR_ne _ (by omega)).trans w3⟩, fun q => absurd q (by decide), fun q => absurd q (by decide), fun q => absurd q (by decide), fun q => absurd q (by decide), fun q => absurd q (by decide)⟩
      refine pCR (tk_DD_init rfl) (hk11a) ?_
      exact hq
    refine Ex_step (tk_DD_init rfl) ?_
    refine nwO (tk_DD_init rfl) (by decide) ?_
    refine Ex_step (tk_DD_init rfl) ?_
    refine Ex_cIK (av := []) (tk_DD_init rfl) mk_Book_init ⟨rfl, by decide, rfl, rfl, rfl, Nat.le_of_ble_eq_true rfl, Nat.le_of_ble_eq_true rfl⟩ (ha) (hin _ (fun m3 F3 A3 L3 p1 p2 p3 w1 w2 w3 => ⟨rfl, ?_⟩))
    exact zz m3 F3 A3 L3 p1 p2 p3 w1 w2 w3
  have r0 := mk_row (m := m) F A L 13 800 704 100 (by omega)
  have eN : 100 + mN m = 101 := by omega
  have n0 : mN (sFR (alloc m 13 800 800) 704 100 (100 + mN m)) = mN m + 1 := rfl
  have z0 : mZ (sFR (alloc m 13 800 800) 704 100 (100 + mN m)) = mZ m + 800 := rfl
  have hk11a : mK (alloc m 13 800 800) 100 = 11 := (r0.2.2 100 (by omega)).1.1.trans hk11
  have hk11b : mK (sFR (alloc m 13 800 800) 704 100 (100 + mN m)) 100 = 11 := hk11a
  have za : zA (100 + mN m) A (100 + mN m) = fun _ => 0 := if_pos rfl
  have hq := z33 (sFR (alloc m 13 800 800) 704 100 (100 + mN m)) (upF (upF (upF (upF (zF (100 + mN m) F) 705 100 0) 706 100 (-1)) 707 100 0) 708 100 0) (zA (100 + mN m) A) (zA (100 + mN m) L) (((((r0.1 100 (Nat.le_refl _)).tr (Fr.uF (Nat.le_refl 100)) (Nat.le_refl _)).tr (Fr.uF (Nat.le_refl 100)) (Nat.le_refl _)).tr (Fr.uF (Nat.le_refl 100)) (Nat.le_refl _)).tr (Fr.uF (Nat.le_refl 100)) (Nat.le_refl _)) (by omega) (by omega) ⟨⟨hk11a, r0.2.1.2.2.trans eN, by rw [← eN]; exact ⟨r0.2.1.1, r0.2.1.2.1, by omega⟩, by rw [← eN]; exact za, by rw [upF_f _ _ _ (by decide), upF_f _ _ _ (by decide), upF_f _ _ _ (by decide), upF_at], by rw [upF_f _ _ _ (by decide), upF_f _ _ _ (by decide), upF_at], by rw [upF_f _ _ _ (by decide), upF_at], upF_at _ _ _ _⟩, fun q => absurd q (by decide), fun q => absurd q (by decide), fun q => absurd q (by decide), fun q => absurd q (by decide), fun q => absurd q (by decide), fun q => absurd q (by decide)⟩
  refine Ex_step (tk_DD_init rfl) ?_
  refine Ex_step (tk_DD_init rfl) ⟨rfl, by decide, Nat.le_of_ble_eq_true rfl, ?_⟩
  refine Ex_step (tk_DD_init rfl) ?_
  refine Ex_step (tk_DD_init rfl) ?_
  refine nwI (n := 800) (tk_DD_init rfl) rfl (by decide) ?_
  refine pCR (tk_DD_init rfl) (hk11a) ?_
  refine Ex_step (tk_DD_init rfl) ?_
  refine Ex_step (tk_DD_init rfl) ?_
  refine pCI (tk_DD_init rfl) (hk11b) ?_
  refine Ex_step (tk_DD_init rfl) ?_
  refine Ex_step (tk_DD_init rfl) ?_
  refine pCI (tk_DD_init rfl) (hk11b) ?_
  refine Ex_step (tk_DD_init rfl) ?_
  refine Ex_step (tk_DD_init rfl) ?_
  refine pCI (tk_DD_init rfl) (hk11b) ?_
  refine Ex_step (tk_DD_init rfl) ?_
  refine Ex_step (tk_DD_init rfl) ?_
  refine pCI (tk_DD_init rfl) (hk11b) ?_
  exact hq
end DDInit
