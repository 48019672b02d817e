/-! ===== constructors: overlays ===== -/
section OvInit
variable {d o : Nat} {m : Mem} {F A L : Nat → Nat → Int} {Q : Nat → Option AV → Mem → Prop}
/-- the row of bests -/
def BsW (m : Mem) (F : Nat → Nat → Int) (o n : Nat) : Prop := mK m o = 5 ∧ mFR m 320 o = o + 1 ∧ mK m (o + 1) = 16 ∧ mLen m (o + 1) = 36 ∧ ∀ i, i < n → mAR m (o + 1) i = o + 2 + i ∧ mK m (o + 2 + i) = 1 ∧ F 64 (o + 2 + i) = 0
set_option maxRecDepth 100000 in
theorem BsW.k {m1 : Mem} {F1 : Nat → Nat → Int} {n : Nat} (h : BsW m F o n) (k0 : mK m1 o = mK m o) (k1 : mFR m1 320 o = mFR m 320 o) (kk : ∀ j, o < j → j < o + 2 + n → mK m1 j = mK m j ∧ mLen m1 j = mLen m j ∧ mAR m1 j = mAR m j ∧ F1 64 j = F 64 j) : BsW m1 F1 o n := by
  obtain ⟨h1, h2, h3, h4, h5⟩ := h
  have g := kk (o + 1) (by omega) (by omega)
  refine ⟨k0.trans h1, k1.trans h2, g.1.trans h3, g.2.1.trans h4, fun i hi => ?_⟩
  have gi := kk (o + 2 + i) (by omega) (by omega)
  obtain ⟨q1, q2, q3⟩ := h5 i hi
  exact ⟨by rw [g.2.2.1]; exact q1, gi.1.trans q2, gi.2.2.2.trans q3⟩
set_option maxRecDepth 100000 in
theorem c_ovInit (hk5 : mK m o = 5) (hc : 100 ≤ o) (hN : 100 + mN m = o + 1) (h : ∀ (m' : Mem) (F' A' L' : Nat → Nat → Int), Fr o m m' F F' A A' L L' → mN m' = mN m + 42 → mZ m' = mZ m + 297 → OW m' o → (∀ i, i < 36 → F' 64 (o + 2 + i) = 0) → Q 0 none (CM m' F' A' L')) : Ex (d + 2) Ov_init 0 [some (vR o), none] [] (CM m F A L) Q := by
  have z78 : ∀ (m2 : Mem) (F2 A2 L2 : Nat → Nat → Int), Fr o m m2 F F2 A A2 L L2 → mN m2 = mN m + 41 → mZ m2 = mZ m + 287 → BsW m2 F2 o 36 → mFR m2 323 o = o + 38 → DW m2 (o + 38) → mFR m2 324 o = o + 41 → IA m2 (o + 41) 10 → Ex (d + 2) Ov_init 78 [some (vR o), some (vI 36)] [] (CM m2 F2 A2 L2) Q := by
    intro m2 F2 A2 L2 fr2 n2 z2 bs r323 dw r324 i41
    have e2 : 100 + mN m2 = o + 42 := by omega
    have r3 := mk_row (m := m2) F2 A2 L2 13 10 325 o (by omega)
    have n3 : mN (sFR (alloc m2 13 10 10) 325 o (100 + mN m2)) = mN m2 + 1 := rfl
    have z3 : mZ (sFR (alloc m2 13 10 10) 325 o (100 + mN m2)) = mZ m2 + 10 := rfl
    have hk5b : mK (alloc m2 13 10 10) o = 5 := (r3.2.2 o (by omega)).1.1.trans bs.1
    have g0 := r3.2.2 o (by omega)
    have g38 := r3.2.2 (o + 38) (by omega)
    have g41 := r3.2.2 (o + 41) (by omega)
    have hdw : DW (sFR (alloc m2 13 10 10) 325 o (100 + mN m2)) (o + 38) := dw.w (fun j y1 y2 => ⟨(r3.2.2 j (by omega)).1.1, (r3.2.2 j (by omega)).1.2.1⟩) (fun f _ => g38.2.1 f (by omega))
    have bs3 : BsW (sFR (alloc m2 13 10 10) 325 o (100 + mN m2)) (zF (100 + mN m2) F2) o 36 := bs.k g0.1.1 (g0.2.1 320 (by omega)) (fun j y1 y2 => by
      have gj := r3.2.2 j (by omega)
      exact ⟨gj.1.1, gj.1.2.1, gj.1.2.2, gj.2.2.2 64⟩)
    have hk5c := bs3.1
    have hq := h (sFR (alloc m2 13 10 10) 325 o (100 + mN m2)) (upF (upF (upF (zF (100 + mN m2) F2) 326 o 0) 327 o 0) 328 o 0) (zA (100 + mN m2) A2) (zA (100 + mN m2) L2) ((((fr2.tr (r3.1 o (Nat.le_refl _)) (Nat.le_refl _)).tr (Fr.uF (Nat.le_refl o)) (Nat.le_refl _)).tr (Fr.uF (Nat.le_refl o)) (Nat.le_refl _)).tr (Fr.uF (Nat.le_refl o)) (Nat.le_refl _)) (by omega) (by omega) ⟨hk5c, (g0.2.1 323 (by omega)).trans r323, hdw, (g0.2.1 324 (by omega)).trans r324, i41.w g41.1.1 g41.1.2.1, r3.2.1.2.2.trans e2, by rw [← e2]; exact ⟨r3.2.1.1, r3.2.1.2.1, by omega⟩, bs3.2.1, bs3.2.2.1, bs3.2.2.2.1, fun k hk => ⟨(bs3.2.2.2.2 k hk).1, (bs3.2.2.2.2 k hk).2.1⟩⟩ (fun i hi => by rw [upF_f _ _ _ (by decide), upF_f _ _ _ (by decide), upF_f _ _ _ (by decide)]; exact (bs3.2.2.2.2 i hi).2.2)
    refine Ex_step (tk_Ov_init rfl) ?_
    refine Ex_step (tk_Ov_init rfl) ?_
    refine nwI (n := 10) (tk_Ov_init rfl) rfl (by decide) ?_
    refine pCR (tk_Ov_init rfl) (hk5b) ?_
    refine Ex_step (tk_Ov_init rfl) ?_
    refine Ex_step (tk_Ov_init rfl) ?_
    refine pCI (tk_Ov_init rfl) (hk5c) ?_
    refine Ex_step (tk_Ov_init rfl) ?_
    refine Ex_step (tk_Ov_init rfl) ?_
    refine pCI (tk_Ov_init rfl) (hk5c) ?_
    refine Ex_step (tk_Ov_init rfl) ?_
    refine Ex_step (tk_Ov_init rfl) ?_
    refine pCI (tk_Ov_init rfl) (hk5c) ?_
    refine Ex_step (tk_Ov_init rfl) ⟨rfl, ?_⟩
    exact hq
  have z70 : ∀ (m2 : Mem) (F2 A2 L2 : Nat → Nat → Int), Fr o m m2 F F2 A A2 L L2 → mN m2 = mN m + 40 → mZ m2 = mZ m + 277 → BsW m2 F2 o 36 → mFR m2 323 o = o + 38 → DW m2 (o + 38) → Ex (d + 2) Ov_init 70 [some (vR o), some (vI 36)] [] (CM m2 F2 A2 L2) Q := by
    intro m2 F2 A2 L2 fr2 n2 z2 bs r323 dw
    have e2 : 100 + mN m2 = o + 41 := by omega
    have r3 := mk_row (m := m2) F2 A2 L2 13 10 324 o (by omega)
    have n3 : mN (sFR (alloc m2 13 10 10) 324 o (100 + mN m2)) = mN m2 + 1 := rfl
    have z3 : mZ (sFR (alloc m2 13 10 10) 324 o (100 + mN m2)) = mZ m2 + 10 := rfl
    have hk5b : mK (alloc m2 13 10 10) o = 5 := (r3.2.2 o (by omega)).1.1.trans bs.1
    have g0 := r3.2.2 o (by omega)
    have g38 := r3.2.2 (o + 38) (by omega)
    have hdw : DW (sFR (alloc m2 13 10 10) 324 o (100 + mN m2)) (o + 38) := dw.w (fun j y1 y2 => ⟨(r3.2.2 j (by omega)).1.1, (r3.2.2 j (by omega)).1.2.1⟩) (fun f _ => g38.2.1 f (by omega))
    have bs3 : BsW (sFR (alloc m2 13 10 10) 324 o (100 + mN m2)) (zF (100 + mN m2) F2) o 36 := bs.k g0.1.1 (g0.2.1 320 (by omega)) (fun j y1 y2 => by
      have gj := r3.2.2 j (by omega)
      exact ⟨gj.1.1, gj.1.2.1, gj.1.2.2, gj.2.2.2 64⟩)
    have hq := z78 _ _ _ _ (fr2.tr (r3.1 o (Nat.le_refl _)) (Nat.le_refl _)) (by omega) (by omega) bs3 ((g0.2.1 323 (by omega)).trans r323) hdw (r3.2.1.2.2.trans e2) (by rw [← e2]; exact ⟨r3.2.1.1, r3.2.1.2.1, by omega⟩)
    refine Ex_step (tk_Ov_init rfl) ?_
    refine Ex_step (tk_Ov_init rfl) ?_
    refine nwI (n := 10) (tk_Ov_init rfl) rfl (by decide) ?_
    refine pCR (tk_Ov_init rfl) (hk5b) ?_
    exact hq
  have z43 : ∀ (m1 : Mem) (F1 A1 L1 : Nat → Nat → Int), Fr o m m1 F F1 A A1 L L1 → mN m1 = mN m + 37 → mZ m1 = mZ m + 252 → BsW m1 F1 o 36 → Ex (d + 2) Ov_init 43 [some (vR o), some (vI 36)] [] (CM m1 F1 A1 L1) Q := by
    intro m1 F1 A1 L1 fr n1 z1 bs
    have e1 : 100 + mN m1 = o + 38 := by omega
    have hal := al_K m1 3 0 5
    have fra : Fr (100 + mN m1) m1 (alloc m1 3 0 5) F1 (zF (100 + mN m1) F1) A1 (zA (100 + mN m1) A1) L1 (zA (100 + mN m1) L1) := Fr.al (Nat.le_refl _)
    have ha : 100 ≤ 100 + mN m1 := by omega
    have hsi := fun (Q1 : Nat → Option AV → Mem → Prop) => c_desInit (d := d + 1) (m := alloc m1 3 0 5) (F := zF (100 + mN m1) F1) (A := zA (100 + mN m1) A1) (L := zA (100 + mN m1) L1) (Q := Q1) (a := 100 + mN m1) hal.1 (by omega) rfl
    have z51 : ∀ (m2 : Mem) (F2 A2 L2 : Nat → Nat → Int), Fr (100 + mN m1) (alloc m1 3 0 5) m2 (zF (100 + mN m1) F1) F2 (zA (100 + mN m1) A1) A2 (zA (100 + mN m1) L1) L2 → mN m2 = mN (alloc m1 3 0 5) + 2 → mZ m2 = mZ (alloc m1 3 0 5) + 20 → DW m2 (100 + mN m1) → Ex (d + 2) Ov_init 51 [some (vR o), some (vI 36)] [vR (100 + mN m1), vR o] (CM m2 F2 A2 L2) Q := by
      intro m2 F2 A2 L2 fr2 n2 z2 dw
      have nA : mN (alloc m1 3 0 5) = mN m1 + 1 := rfl
      have zA_ : mZ (alloc m1 3 0 5) = mZ m1 + 5 := rfl
      have f1 := fra.tr fr2 (Nat.le_refl _)
      rw [e1] at dw f1 ⊢
      have g0 := f1 o (by omega)
      have hk5a : mK m2 o = 5 := g0.1.1.trans bs.1
      have hk5b : mK (sFR m2 323 o (o + 38)) o = 5 := hk5a
      have hk5c : mK (sFR (sFR m2 323 o (o + 38)) 321 o (o + 38)) o = 5 := hk5a
      have e323 : mFR (sFR m2 323 o (o + 38)) 323 o = o + 38 := sFR_at _ _ _ _
      have e323b : mFR (sFR (sFR m2 323 o (o + 38)) 321 o (o + 38)) 323 o = o + 38 := (sFR_ne _ (by omega)).trans e323
      have hq := z70 (sFR (sFR (sFR m2 323 o (o + 38)) 321 o (o + 38)) 322 o (o + 38)) F2 A2 L2 ((((fr.tr f1 (by omega)).tr (Fr.sF (Nat.le_refl o)) (Nat.le_refl _)).tr (Fr.sF (Nat.le_refl o)) (Nat.le_refl _)).tr (Fr.sF (Nat.le_refl o)) (Nat.le_refl _)) (by show mN m2 = _; omega) (by show mZ m2 = _; omega) (bs.k g0.1.1 ((sFR_ne _ (by omega)).trans ((sFR_ne _ (by omega)).trans ((sFR_ne _ (by omega)).trans (g0.2 320).1))) (fun j y1 y2 => by
        have gj := f1 j (by omega)
        exact ⟨gj.1.1, gj.1.2.1, gj.1.2.2.1, (gj.2 64).2⟩)) ((sFR_ne _ (by omega)).trans e323b) (dw.w (fun _ _ _ => ⟨rfl, rfl⟩) (fun f _ => (sFR_ne _ (by omega)).trans ((sFR_ne _ (by omega)).trans (sFR_ne _ (by omega)))))
      refine pCR (tk_Ov_init rfl) (hk5a) ?_
      refine Ex_step (tk_Ov_init rfl) ?_
      refine Ex_step (tk_Ov_init rfl) ?_
      refine gCR (tk_Ov_init rfl) (hk5b) (e323) ?_
      refine pCR (tk_Ov_init rfl) (hk5b) ?_
      refine Ex_step (tk_Ov_init rfl) ?_
      refine Ex_step (tk_Ov_init rfl) ?_
      refine gCR (tk_Ov_init rfl) (hk5c) (e323b) ?_
      refine pCR (tk_Ov_init rfl) (hk5c) ?_
      exact hq
    refine Ex_step (tk_Ov_init rfl) ?_
    refine nwO (tk_Ov_init rfl) (by decide) ?_
    refine Ex_step (tk_Ov_init rfl) ?_
    refine Ex_cIK (av := []) (tk_Ov_init rfl) mk_Des_init ⟨rfl, by decide, rfl, rfl, rfl, Nat.le_of_ble_eq_true rfl, Nat.le_of_ble_eq_true rfl⟩ (ha) (hsi _ (fun m2 F2 A2 L2 q1 q2 q3 q4 q5 q6 => ⟨rfl, ?_⟩))
    exact z51 m2 F2 A2 L2 q1 q2 q3 q4
  have hloop : ∀ (r i : Nat) (m1 : Mem) (F1 A1 L1 : Nat → Nat → Int), i + r = 36 → Fr o m m1 F F1 A A1 L L1 → mN m1 = mN m + 1 + i → mZ m1 = mZ m + 36 + 6 * i → BsW m1 F1 o i → Ex (d + 2) Ov_init 15 [some (vR o), some (vI (i : Int))] [] (CM m1 F1 A1 L1) Q := by
    intro r
    induction r with
    | zero =>
      intro i m1 F1 A1 L1 hi fr n1 z1 bs
      have : i = 36 := by omega
      subst this
      have hk5 := bs.1
      have hr320 := bs.2.1
      have hq := z43 m1 F1 A1 L1 fr (by omega) (by omega) bs
      refine Ex_step (tk_Ov_init rfl) ?_
      refine Ex_step (tk_Ov_init rfl) ?_
      refine gCR (tk_Ov_init rfl) (hk5) (hr320) ?_
      refine lenR (tk_Ov_init rfl) bs.2.2.1 bs.2.2.2.1 ?_
      refine Ex_step (tk_Ov_init rfl) ⟨fun h21 => ?_, fun h21 => ?_⟩
      · replace h21 : _ := h21
        exact hq
      · replace h21 : _ := h21
        exact absurd (show w32 36 ≤ w32 36 from Int.le_refl _) h21
    | succ r ih =>
      intro i m1 F1 A1 L1 hi fr n1 z1 bs
      have hk5 := bs.1
      have hr320 := bs.2.1
      have ea : 100 + mN m1 = o + 2 + i := by omega
      have hal := al_K m1 1 0 6
      have fra : Fr (100 + mN m1) m1 (alloc m1 1 0 6) F1 (zF (100 + mN m1) F1) A1 (zA (100 + mN m1) A1) L1 (zA (100 + mN m1) L1) := Fr.al (Nat.le_refl _)
      have ha : 100 ≤ 100 + mN m1 := by omega
      have hbi := fun (Q1 : Nat → Option AV → Mem → Prop) => c_bestInit (d := d) (m := alloc m1 1 0 6) (F := zF (100 + mN m1) F1) (A := zA (100 + mN m1) A1) (L := zA (100 + mN m1) L1) (Q := Q1) (q := 100 + mN m1) hal.1 ha
      have z36 : ∀ (F3 : Nat → Nat → Int), (∀ f j, j ≠ 100 + mN m1 → F3 f j = zF (100 + mN m1) F1 f j) → F3 64 (100 + mN m1) = 0 → Ex (d + 2) Ov_init 36 [some (vR o), some (vI (i : Int))] [vR (100 + mN m1), vI (i : Int), vR (o + 1)] (CM (alloc m1 1 0 6) F3 (zA (100 + mN m1) A1) (zA (100 + mN m1) L1)) Q := by
        intro F3 kF k64
        have g0 := fra o (by omega)
        have g1 := fra (o + 1) (by omega)
        have hz := ih (i + 1) (sAR (alloc m1 1 0 6) (o + 1) (up1 (mAR (alloc m1 1 0 6) (o + 1)) i (100 + mN m1))) F3 (zA (100 + mN m1) A1) (zA (100 + mN m1) L1) (by omega) (((fr.tr fra (by omega)).tr (lo2 := o) (fun j hj => ⟨⟨rfl, rfl, rfl, rfl, rfl⟩, fun f => ⟨rfl, kF f j (by omega)⟩⟩) (Nat.le_refl _)).tr (Fr.sR (by omega)) (Nat.le_refl _)) (by show mN m1 + 1 = _; omega) (by show mZ m1 + 6 = _; omega) ⟨g0.1.1.trans bs.1, (g0.2 320).1.trans bs.2.1, g1.1.1.trans bs.2.2.1, g1.1.2.1.trans bs.2.2.2.1, fun j hj => by
          by_cases e : j = i
          · subst e
            rw [← ea]
            exact ⟨by rw [mAR_at, up1_at], hal.1, k64⟩
          · have gj := fra (o + 2 + j) (by omega)
            obtain ⟨q1, q2, q3⟩ := bs.2.2.2.2 j (by omega)
            refine ⟨?_, gj.1.1.trans q2, (kF 64 _ (by omega)).trans ((gj.2 64).2.trans q3)⟩
            rw [mAR_at, up1_ne _ _ e, g1.1.2.2.1]
            exact q1⟩
        refine tCR (z := 36) (n := i) (tk_Ov_init rfl) ⟨⟨by rw [g1.1.1, bs.2.2.1]; decide, by rw [g1.1.1, bs.2.2.1]; decide⟩, g1.1.2.1.trans bs.2.2.2.1, by rw [g1.1.1, bs.2.2.1, hal.1]⟩ (w32_id (by omega) (by omega)) (by omega) ?_
        refine Ex_step (tk_Ov_init rfl) ?_
        refine Ex_step (tk_Ov_init rfl) ?_
        exact hz
      refine Ex_step (tk_Ov_init rfl) ?_
      refine Ex_step (tk_Ov_init rfl) ?_
      refine gCR (tk_Ov_init rfl) (hk5) (hr320) ?_
      refine lenR (tk_Ov_init rfl) bs.2.2.1 bs.2.2.2.1 ?_
      refine Ex_step (tk_Ov_init rfl) ⟨fun h21 => ?_, fun h21 => ?_⟩
      · try simp (disch := omega) only [cmpI, w32_b2i, b2i_0, b2i_1, w32_id, Classical.not_not, not_true_eq_false, not_false_eq_true] at h21
        omega
      · try simp (disch := omega) only [cmpI, w32_b2i, b2i_0, b2i_1, w32_id, Classical.not_not, not_true_eq_false, not_false_eq_true] at h21
        refine Ex_step (tk_Ov_init rfl) ?_
        refine gCR (tk_Ov_init rfl) (hk5) (hr320) ?_
        refine Ex_step (tk_Ov_init rfl) ?_
        refine nwO (tk_Ov_init rfl) (by decide) ?_
        refine Ex_step (tk_Ov_init rfl) ?_
        refine Ex_cIK (av := []) (tk_Ov_init rfl) mk_Best_init ⟨rfl, by decide, rfl, rfl, rfl, Nat.le_of_ble_eq_true rfl, Nat.le_of_ble_eq_true rfl⟩ (ha) (hbi _ (fun F3 q1 q2 => ⟨rfl, ?_⟩))
        exact z36 F3 q1 q2
  have r0 := mk_row (m := m) F A L 16 36 320 o (by omega)
  have hk5a : mK (alloc m 16 36 36) o = 5 := (r0.2.2 o (by omega)).1.1.trans hk5
  have hz := hloop 36 0 (sFR (alloc m 16 36 36) 320 o (100 + mN m)) _ _ _ (by omega) (r0.1 o (Nat.le_refl _)) rfl rfl ⟨hk5a, r0.2.1.2.2.trans hN, by rw [← hN]; exact r0.2.1.1, by rw [← hN]; exact r0.2.1.2.1, fun i hi => absurd hi (Nat.not_lt_zero _)⟩
  refine Ex_step (tk_Ov_init rfl) ?_
  refine Ex_step (tk_Ov_init rfl) ⟨rfl, hc, Nat.le_of_ble_eq_true rfl, ?_⟩
  refine Ex_step (tk_Ov_init rfl) ?_
  refine Ex_step (tk_Ov_init rfl) ?_
  refine nwR (n := 36) (tk_Ov_init rfl) rfl (by decide) ?_
  refine pCR (tk_Ov_init rfl) (hk5a) ?_
  refine Ex_step (tk_Ov_init rfl) ?_
  refine Ex_step (tk_Ov_init rfl) ?_
  exact hz
end OvInit
