/-! ===== constructors: books, history, bests ===== -/
set_option maxRecDepth 100000 in
theorem Fr.bk {lo k : Nat} {ds : Nat → Nat} {m m1 : Mem} {F F1 A A1 L L1 : Nat → Nat → Int} (g : Fr lo m m1 F F1 A A1 L L1) (h : BkW m k ds) (hd : ∀ i, i < 6 → ds i + 3 ≤ lo) (hk : k + 2 ≤ lo) : BkW m1 k ds := by
  obtain ⟨b1, b2, b3, b4, b5⟩ := h
  have k0 := g k (by omega)
  have k1 := g (k + 1) (by omega)
  refine ⟨k0.1.1.trans b1, (k0.2 128).1.trans b2, k1.1.1.trans b3, k1.1.2.1.trans b4, fun i hi => ⟨?_, g.d (b5 i hi).2 (hd i hi)⟩⟩
  rw [k1.1.2.2.1]
  exact (b5 i hi).1
section BookInit
variable {d k hh q : Nat} {m : Mem} {F A L : Nat → Nat → Int} {Q : Nat → Option AV → Mem → Prop}
set_option maxRecDepth 100000 in
theorem c_bookInit (hk2 : mK m k = 2) (hk : 100 ≤ k) (hN : 100 + mN m = k + 1) (h : ∀ (m' : Mem) (F' A' L' : Nat → Nat → Int), Fr k m m' F F' A A' L L' → mN m' = mN m + 19 → mZ m' = mZ m + 156 → BkW m' k (fun i => k + 2 + 3 * i) → F' 129 k = 0 → mFR m' 130 k = 0 → Q 0 none (CM m' F' A' L')) : Ex (d + 1) Book_init 0 [some (vR k), none] [] (CM m F A L) Q := by
  have hloop : ∀ (r i : Nat) (m1 : Mem) (F1 A1 L1 : Nat → Nat → Int), i + r = 6 → Fr k m m1 F F1 A A1 L L1 → mN m1 = mN m + 1 + 3 * i → mZ m1 = mZ m + 6 + 25 * i → (mK m1 k = 2 ∧ mFR m1 128 k = k + 1 ∧ mK m1 (k + 1) = 18 ∧ mLen m1 (k + 1) = 6) → (∀ j, j < i → mAR m1 (k + 1) j = k + 2 + 3 * j ∧ DW m1 (k + 2 + 3 * j)) → Ex (d + 1) Book_init 15 [some (vR k), some (vI (i : Int))] [] (CM m1 F1 A1 L1) Q := by
    intro r
    induction r with
    | zero =>
      intro i m1 F1 A1 L1 hi fr n1 z1 w1 w2
      obtain ⟨hk2, hr128, w3, w4⟩ := w1
      have : i = 6 := by omega
      subst this
      have hk2' : mK m1 k = 2 := hk2
      have hq := h (sFR m1 130 k 0) (upF F1 129 k 0) A1 L1 ((fr.tr (Fr.uF (Nat.le_refl k)) (Nat.le_refl _)).tr (Fr.sF (Nat.le_refl k)) (Nat.le_refl _)) n1 z1 ⟨hk2, (sFR_ne _ (by omega)).trans hr128, w3, w4, fun j hj => ⟨(w2 j hj).1, by
        obtain ⟨c1, c2, c3, c4, c5, c6⟩ := (w2 j hj).2
        exact ⟨c1, c2, (sFR_ne _ (by omega)).trans c3, (sFR_ne _ (by omega)).trans c4, c5, c6⟩⟩⟩ (upF_at _ _ _ _) (sFR_at _ _ _ _)
      refine Ex_step (tk_Book_init rfl) ?_
      refine Ex_step (tk_Book_init rfl) ?_
      refine Ex_step (tk_Book_init rfl) ⟨fun h18 => ?_, fun h18 => ?_⟩
      · replace h18 : _ := h18
        refine Ex_step (tk_Book_init rfl) ?_
        refine Ex_step (tk_Book_init rfl) ?_
        refine pCI (tk_Book_init rfl) (hk2) ?_
        refine Ex_step (tk_Book_init rfl) ?_
        refine Ex_step (tk_Book_init rfl) ?_
        refine pCR (tk_Book_init rfl) (hk2) ?_
        refine Ex_step (tk_Book_init rfl) ⟨rfl, ?_⟩
        exact hq
      · replace h18 : _ := h18
        exact absurd (show w32 6 ≤ w32 6 from Int.le_refl _) h18
    | succ r ih =>
      intro i m1 F1 A1 L1 hi fr n1 z1 w1 w2
      obtain ⟨hk2, hr128, w3, w4⟩ := w1
      have ea : 100 + mN m1 = k + 2 + 3 * i := by omega
      have hal := al_K m1 3 0 5
      have fra : Fr (100 + mN m1) m1 (alloc m1 3 0 5) F1 (zF (100 + mN m1) F1) A1 (zA (100 + mN m1) A1) L1 (zA (100 + mN m1) L1) := Fr.al (Nat.le_refl _)
      have hde := fun (Q1 : Nat → Option AV → Mem → Prop) => c_desInit (d := d) (m := alloc m1 3 0 5) (F := zF (100 + mN m1) F1) (A := zA (100 + mN m1) A1) (L := zA (100 + mN m1) L1) (Q := Q1) (a := 100 + mN m1) hal.1 (by omega) rfl
      have ha : 100 ≤ 100 + mN m1 := by omega
      have z33 : ∀ (m3 : Mem) (F3 A3 L3 : Nat → Nat → Int), Fr (100 + mN m1) (alloc m1 3 0 5) m3 (zF (100 + mN m1) F1) F3 (zA (100 + mN m1) A1) A3 (zA (100 + mN m1) L1) L3 → mN m3 = mN (alloc m1 3 0 5) + 2 → mZ m3 = mZ (alloc m1 3 0 5) + 20 → DW m3 (100 + mN m1) → Ex (d + 1) Book_init 33 [some (vR k), some (vI (i : Int))] [vR (100 + mN m1), vI (i : Int), vR (k + 1)] (CM m3 F3 A3 L3) Q := by
        intro m3 F3 A3 L3 fr3 n3 z3 dw3
        have nA : mN (alloc m1 3 0 5) = mN m1 + 1 := rfl
        have zA_ : mZ (alloc m1 3 0 5) = mZ m1 + 5 := rfl
        have f13 := fra.tr fr3 (Nat.le_refl _)
        have g0 := f13 k (by omega)
        have g1 := f13 (k + 1) (by omega)
        have hz := ih (i + 1) (sAR m3 (k + 1) (up1 (mAR m3 (k + 1)) i (100 + mN m1))) F3 A3 L3 (by omega) ((fr.tr f13 (by omega)).tr (Fr.sR (by omega)) (Nat.le_refl _)) (by show mN m3 = _; omega) (by show mZ m3 = _; omega) ⟨g0.1.1.trans hk2, (g0.2 128).1.trans hr128, g1.1.1.trans w3, g1.1.2.1.trans w4⟩ (fun j hj => by
          rw [mAR_at]
          by_cases e : j = i
          · subst e
            rw [up1_at, ← ea]
            exact ⟨rfl, dw3⟩
          · rw [up1_ne _ _ e, g1.1.2.2.1]
            exact ⟨(w2 j (by omega)).1, f13.d (w2 j (by omega)).2 (by omega)⟩)
        refine tCR (z := 6) (n := i) (tk_Book_init rfl) ⟨⟨by rw [g1.1.1, w3]; decide, by rw [g1.1.1, w3]; decide⟩, g1.1.2.1.trans w4, by rw [g1.1.1, w3, dw3.1]⟩ (w32_id (by omega) (by omega)) (by omega) ?_
        refine Ex_step (tk_Book_init rfl) ?_
        refine Ex_step (tk_Book_init rfl) ?_
        exact hz
      refine Ex_step (tk_Book_init rfl) ?_
      refine Ex_step (tk_Book_init rfl) ?_
      refine Ex_step (tk_Book_init rfl) ⟨fun h18 => ?_, fun h18 => ?_⟩
      · try simp (disch := omega) only [cmpI, w32_b2i, b2i_0, b2i_1, w32_id, Classical.not_not, not_true_eq_false, not_false_eq_true] at h18
        omega
      · try simp (disch := omega) only [cmpI, w32_b2i, b2i_0, b2i_1, w32_id, Classical.not_not, not_true_eq_false, not_false_eq_true] at h18
        refine Ex_step (tk_Book_init rfl) ?_
        refine gCR (tk_Book_init rfl) (hk2) (hr128) ?_
        refine Ex_step (tk_Book_init rfl) ?_
        refine nwO (tk_Book_init rfl) (by decide) ?_
        refine Ex_step (tk_Book_init rfl) ?_
        refine Ex_cIK (av := []) (tk_Book_init rfl) mk_Des_init ⟨rfl, by decide, rfl, rfl, rfl, Nat.le_of_ble_eq_true rfl, Nat.le_of_ble_eq_true rfl⟩ (ha) (hde _ (fun m3 F3 A3 L3 q1 q2 q3 q4 q5 q6 => ⟨rfl, ?_⟩))
        exact z33 m3 F3 A3 L3 q1 q2 q3 q4
  have hal := al_K m 18 6 6
  have fra : Fr (k + 1) m (alloc m 18 6 6) F (zF (100 + mN m) F) A (zA (100 + mN m) A) L (zA (100 + mN m) L) := Fr.al (by omega)
  rw [hN] at hal fra
  have hk2' : mK (alloc m 18 6 6) k = 2 := (fra k (by omega)).1.1.trans hk2
  have z15 := hloop 6 0 (sFR (alloc m 18 6 6) 128 k (k + 1)) (zF (k + 1) F) (zA (k + 1) A) (zA (k + 1) L) rfl (((Fr.rf (lo := k)).tr fra (by omega)).tr (Fr.sF (Nat.le_refl k)) (Nat.le_refl _)) rfl rfl ⟨hk2', sFR_at _ _ _ _, hal.1, hal.2.1⟩ (fun j hj => absurd hj (Nat.not_lt_zero _))
  rw [← hN] at z15
  refine Ex_step (tk_Book_init rfl) ?_
  refine Ex_step (tk_Book_init rfl) ⟨rfl, hk, Nat.le_of_ble_eq_true rfl, ?_⟩
  refine Ex_step (tk_Book_init rfl) ?_
  refine Ex_step (tk_Book_init rfl) ?_
  refine nwR (n := 6) (tk_Book_init rfl) rfl (by decide) ?_
  refine pCR (tk_Book_init rfl) (hk2') ?_
  refine Ex_step (tk_Book_init rfl) ?_
  refine Ex_step (tk_Book_init rfl) ?_
  exact z15
set_option maxRecDepth 100000 in
theorem c_histInit (hk4 : mK m hh = 4) (hk : 100 ≤ hh) (hN : 100 + mN m = hh + 1) (h : ∀ (m' : Mem) (F' A' L' : Nat → Nat → Int), Fr hh m m' F F' A A' L L' → mN m' = mN m + 161 → mZ m' = mZ m + 1280 → (mK m' hh = 4 ∧ mFR m' 256 hh = hh + 1 ∧ mK m' (hh + 1) = 17 ∧ mLen m' (hh + 1) = 8) → (∀ i, i < 8 → mAR m' (hh + 1) i = hh + 2 + 20 * i ∧ BkW m' (hh + 2 + 20 * i) (fun j => hh + 2 + 20 * i + 2 + 3 * j)) → F' 257 hh = 0 → Q 0 none (CM m' F' A' L')) : Ex (d + 2) Hist_init 0 [some (vR hh), none] [] (CM m F A L) Q := by
  have hloop : ∀ (r i : Nat) (m1 : Mem) (F1 A1 L1 : Nat → Nat → Int), i + r = 8 → Fr hh m m1 F F1 A A1 L L1 → mN m1 = mN m + 1 + 20 * i → mZ m1 = mZ m + 8 + 159 * i → (mK m1 hh = 4 ∧ mFR m1 256 hh = hh + 1 ∧ mK m1 (hh + 1) = 17 ∧ mLen m1 (hh + 1) = 8) → (∀ j, j < i → mAR m1 (hh + 1) j = hh + 2 + 20 * j ∧ BkW m1 (hh + 2 + 20 * j) (fun l => hh + 2 + 20 * j + 2 + 3 * l)) → Ex (d + 2) Hist_init 15 [some (vR hh), some (vI (i : Int))] [] (CM m1 F1 A1 L1) Q := by
    intro r
    induction r with
    | zero =>
      intro i m1 F1 A1 L1 hi fr n1 z1 w1 w2
      have hk4 := w1.1
      have : i = 8 := by omega
      subst this
      have hq := h m1 (upF F1 257 hh 0) A1 L1 (fr.tr (Fr.uF (Nat.le_refl hh)) (Nat.le_refl _)) n1 z1 w1 w2 (upF_at _ _ _ _)
      refine Ex_step (tk_Hist_init rfl) ?_
      refine Ex_step (tk_Hist_init rfl) ?_
      refine Ex_step (tk_Hist_init rfl) ⟨fun h18 => ?_, fun h18 => ?_⟩
      · replace h18 : _ := h18
        refine Ex_step (tk_Hist_init rfl) ?_
        refine Ex_step (tk_Hist_init rfl) ?_
        refine pCI (tk_Hist_init rfl) (hk4) ?_
        refine Ex_step (tk_Hist_init rfl) ⟨rfl, ?_⟩
        exact hq
      · replace h18 : _ := h18
        exact absurd (show w32 8 ≤ w32 8 from Int.le_refl _) h18
    | succ r ih =>
      intro i m1 F1 A1 L1 hi fr n1 z1 w1 w2
      obtain ⟨hk4, hr256, w3, w4⟩ := w1
      have ea : 100 + mN m1 = hh + 2 + 20 * i := by omega
      have hal := al_K m1 2 0 3
      have fra : Fr (100 + mN m1) m1 (alloc m1 2 0 3) F1 (zF (100 + mN m1) F1) A1 (zA (100 + mN m1) A1) L1 (zA (100 + mN m1) L1) := Fr.al (Nat.le_refl _)
      have hde := fun (Q1 : Nat → Option AV → Mem → Prop) => c_bookInit (d := d) (m := alloc m1 2 0 3) (F := zF (100 + mN m1) F1) (A := zA (100 + mN m1) A1) (L := zA (100 + mN m1) L1) (Q := Q1) (k := 100 + mN m1) hal.1 (by omega) rfl
      have ha : 100 ≤ 100 + mN m1 := by omega
      have z33 : ∀ (m3 : Mem) (F3 A3 L3 : Nat → Nat → Int), Fr (100 + mN m1) (alloc m1 2 0 3) m3 (zF (100 + mN m1) F1) F3 (zA (100 + mN m1) A1) A3 (zA (100 + mN m1) L1) L3 → mN m3 = mN (alloc m1 2 0 3) + 19 → mZ m3 = mZ (alloc m1 2 0 3) + 156 → BkW m3 (100 + mN m1) (fun l => 100 + mN m1 + 2 + 3 * l) → Ex (d + 2) Hist_init 33 [some (vR hh), some (vI (i : Int))] [vR (100 + mN m1), vI (i : Int), vR (hh + 1)] (CM m3 F3 A3 L3) Q := by
        intro m3 F3 A3 L3 fr3 n3 z3 bw3
        have nA : mN (alloc m1 2 0 3) = mN m1 + 1 := rfl
        have zA_ : mZ (alloc m1 2 0 3) = mZ m1 + 3 := rfl
        have f13 := fra.tr fr3 (Nat.le_refl _)
        have g0 := f13 hh (by omega)
        have g1 := f13 (hh + 1) (by omega)
        have ar : ∀ (k : Nat) (dl : Nat → Nat), k + 1 ≠ hh + 1 → BkW m3 k dl → BkW (sAR m3 (hh + 1) (up1 (mAR m3 (hh + 1)) i (100 + mN m1))) k dl := fun k dl q b => b.ar q
        have hz := ih (i + 1) (sAR m3 (hh + 1) (up1 (mAR m3 (hh + 1)) i (100 + mN m1))) F3 A3 L3 (by omega) ((fr.tr f13 (by omega)).tr (Fr.sR (by omega)) (Nat.le_refl _)) (by show mN m3 = _; omega) (by show mZ m3 = _; omega) ⟨g0.1.1.trans hk4, (g0.2 256).1.trans hr256, g1.1.1.trans w3, g1.1.2.1.trans w4⟩ (fun j hj => by
          by_cases e : j = i
          · subst e
            refine ⟨by rw [mAR_at, up1_at, ← ea], ?_⟩
            rw [← ea]
            exact ar _ _ (by omega) bw3
          · exact ⟨by rw [mAR_at, up1_ne _ _ e, g1.1.2.2.1]; exact (w2 j (by omega)).1, ar _ _ (by omega) (f13.bk (w2 j (by omega)).2 (fun l hl => by omega) (by omega))⟩)
        refine tCR (z := 8) (n := i) (tk_Hist_init rfl) ⟨⟨by rw [g1.1.1, w3]; decide, by rw [g1.1.1, w3]; decide⟩, g1.1.2.1.trans w4, by rw [g1.1.1, w3, bw3.1]⟩ (w32_id (by omega) (by omega)) (by omega) ?_
        refine Ex_step (tk_Hist_init rfl) ?_
        refine Ex_step (tk_Hist_init rfl) ?_
        exact hz
      refine Ex_step (tk_Hist_init rfl) ?_
      refine Ex_step (tk_Hist_init rfl) ?_
      refine Ex_step (tk_Hist_init rfl) ⟨fun h18 => ?_, fun h18 => ?_⟩
      · try simp (disch := omega) only [cmpI, w32_b2i, b2i_0, b2i_1, w32_id, Classical.not_not, not_true_eq_false, not_false_eq_true] at h18
        omega
      · try simp (disch := omega) only [cmpI, w32_b2i, b2i_0, b2i_1, w32_id, Classical.not_not, not_true_eq_false, not_false_eq_true] at h18
        refine Ex_step (tk_Hist_init rfl) ?_
        refine gCR (tk_Hist_init rfl) (hk4) (hr256) ?_
        refine Ex_step (tk_Hist_init rfl) ?_
        refine nwO (tk_Hist_init rfl) (by decide) ?_
        refine Ex_step (tk_Hist_init rfl) ?_
        refine Ex_cIK (av := []) (tk_Hist_init rfl) mk_Book_init ⟨rfl, by decide, rfl, rfl, rfl, Nat.le_of_ble_eq_true rfl, Nat.le_of_ble_eq_true rfl⟩ (ha) (hde _ (fun m3 F3 A3 L3 q1 q2 q3 q4 q5 q6 => ⟨rfl, ?_⟩))
        exact z33 m3 F3 A3 L3 q1 q2 q3 q4
  have hal := al_K m 17 8 8
  have fra : Fr (hh + 1) m (alloc m 17 8 8) F (zF (100 + mN m) F) A (zA (100 + mN m) A) L (zA (100 + mN m) L) := Fr.al (by omega)
  rw [hN] at hal fra
  have hk4' : mK (alloc m 17 8 8) hh = 4 := (fra hh (by omega)).1.1.trans hk4
  have z15 := hloop 8 0 (sFR (alloc m 17 8 8) 256 hh (hh + 1)) (zF (hh + 1) F) (zA (hh + 1) A) (zA (hh + 1) L) rfl (((Fr.rf (lo := hh)).tr fra (by omega)).tr (Fr.sF (Nat.le_refl hh)) (Nat.le_refl _)) rfl rfl ⟨hk4', sFR_at _ _ _ _, hal.1, hal.2.1⟩ (fun j hj => absurd hj (Nat.not_lt_zero _))
  rw [← hN] at z15
  refine Ex_step (tk_Hist_init rfl) ?_
  refine Ex_step (tk_Hist_init rfl) ⟨rfl, hk, Nat.le_of_ble_eq_true rfl, ?_⟩
  refine Ex_step (tk_Hist_init rfl) ?_
  refine Ex_step (tk_Hist_init rfl) ?_
  refine nwR (n := 8) (tk_Hist_init rfl) rfl (by decide) ?_
  refine pCR (tk_Hist_init rfl) (hk4') ?_
  refine Ex_step (tk_Hist_init rfl) ?_
  refine Ex_step (tk_Hist_init rfl) ?_
  exact z15
set_option maxRecDepth 100000 in
theorem c_bestInit (hk1 : mK m q = 1) (hk : 100 ≤ q) (h : ∀ F' : Nat → Nat → Int, (∀ f j, j ≠ q → F' f j = F f j) → F' 64 q = 0 → Q 0 none (CM m F' A L)) : Ex (d + 1) Best_init 0 [some (vR q)] [] (CM m F A L) Q := by
  have hq := h (upF (upF (upF (upF (upF (upF F 64 q 0) 65 q 0) 66 q 1) 67 q 0) 68 q 0) 69 q 0) (fun f j e => by rw [upF_a _ _ _ e, upF_a _ _ _ e, upF_a _ _ _ e, upF_a _ _ _ e, upF_a _ _ _ e, upF_a _ _ _ e]) (by rw [upF_f _ _ _ (by decide), upF_f _ _ _ (by decide), upF_f _ _ _ (by decide), upF_f _ _ _ (by decide), upF_f _ _ _ (by decide), upF_at])
  have hbb := fun (Q1 : Nat → Option AV → Mem → Prop) => c_bBegin (d := d) (F := upF F 64 q 0) (A := A) (L := L) (Q := Q1) (x := 0) (y := 0) hk1
  refine Ex_step (tk_Best_init rfl) ?_
  refine Ex_step (tk_Best_init rfl) ⟨rfl, hk, Nat.le_of_ble_eq_true rfl, ?_⟩
  refine Ex_step (tk_Best_init rfl) ?_
  refine Ex_step (tk_Best_init rfl) ?_
  refine pCZ (tk_Best_init rfl) (hk1) (Or.inl rfl) ?_
  refine Ex_step (tk_Best_init rfl) ?_
  refine Ex_step (tk_Best_init rfl) ?_
  refine Ex_step (tk_Best_init rfl) ?_
  refine Ex_cV0 (av := [vI 0, vI 0]) (tk_Best_init rfl) mk_Best_begin ⟨rfl, rfl, by decide, rfl, Nat.le_of_ble_eq_true rfl, Nat.le_of_ble_eq_true rfl⟩ (hk1) (fun _ h => hbb _ h) ?_
  refine Ex_step (tk_Best_init rfl) ⟨rfl, ?_⟩
  exact hq
end BookInit
