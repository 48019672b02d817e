/-! ===== constructors: readers, overlays, shapes ===== -/
set_option maxRecDepth 100000 in
/-- a row is made and put into a field -/
theorem mk_row {m : Mem} (F A L : Nat → Nat → Int) (k n f a : Nat) (ha : a < 100 + mN m) : (∀ lo, lo ≤ a → Fr lo m (sFR (alloc m k n n) f a (100 + mN m)) F (zF (100 + mN m) F) A (zA (100 + mN m) A) L (zA (100 + mN m) L)) ∧ (mK (sFR (alloc m k n n) f a (100 + mN m)) (100 + mN m) = k ∧ mLen (sFR (alloc m k n n) f a (100 + mN m)) (100 + mN m) = n ∧ mFR (sFR (alloc m k n n) f a (100 + mN m)) f a = 100 + mN m) ∧ ∀ j, j < 100 + mN m → (mK (sFR (alloc m k n n) f a (100 + mN m)) j = mK m j ∧ mLen (sFR (alloc m k n n) f a (100 + mN m)) j = mLen m j ∧ mAR (sFR (alloc m k n n) f a (100 + mN m)) j = mAR m j) ∧ (∀ f2, ¬ (f2 = f ∧ j = a) → mFR (sFR (alloc m k n n) f a (100 + mN m)) f2 j = mFR m f2 j) ∧ zA (100 + mN m) A j = A j ∧ ∀ f2, zF (100 + mN m) F f2 j = F f2 j := by
  have hal := al_K m k n n
  have fra : Fr (100 + mN m) m (alloc m k n n) F (zF (100 + mN m) F) A (zA (100 + mN m) A) L (zA (100 + mN m) L) := Fr.al (Nat.le_refl _)
  refine ⟨fun lo hlo => ((Fr.rf (lo := lo)).tr fra (by omega)).tr (Fr.sF hlo) (Nat.le_refl _), ⟨hal.1, hal.2.1, sFR_at _ _ _ _⟩, fun j hj => ?_⟩
  have g := fra j hj
  exact ⟨⟨g.1.1, g.1.2.1, g.1.2.2.1⟩, fun f2 q => (sFR_ne _ q).trans (g.2 f2).1, g.1.2.2.2.1, fun f2 => (g.2 f2).2⟩
section ReadInit
variable {d rr tr c o s : Nat} {m : Mem} {F A L : Nat → Nat → Int} {Q : Nat → Option AV → Mem → Prop}
set_option maxRecDepth 100000 in
theorem c_scBegin0 {tp : Nat} (hk8 : mK m c = 8) (hI : IA m tp 0) (h : Q 0 none (CM (sFR m 512 c tp) (upF (upF (upF (upF F 513 c 0) 514 c 0) 515 c 0) 516 c (-1)) A L)) : Ex d Scan_begin 0 [some (vR c), some (vR tp), some (vI 0)] [] (CM m F A L) Q := by
  have hk8' : mK (sFR m 512 c tp) c = 8 := hk8
  have hI' : IA (sFR m 512 c tp) tp 0 := hI
  have hx : Ex d Scan_begin 16 [some (vR c), some (vR tp), some (vI 0)] [vI 0, vR c] (CM (sFR m 512 c tp) F A L) Q := by
    refine pCI (tk_Scan_begin rfl) (hk8') ?_
    refine Ex_step (tk_Scan_begin rfl) ?_
    refine Ex_step (tk_Scan_begin rfl) ?_
    refine pCI (tk_Scan_begin rfl) (hk8') ?_
    refine Ex_step (tk_Scan_begin rfl) ?_
    refine Ex_step (tk_Scan_begin rfl) ?_
    refine pCI (tk_Scan_begin rfl) (hk8') ?_
    refine Ex_step (tk_Scan_begin rfl) ?_
    refine Ex_step (tk_Scan_begin rfl) ?_
    refine pCI (tk_Scan_begin rfl) (hk8') ?_
    refine Ex_step (tk_Scan_begin rfl) ⟨rfl, ?_⟩
    exact h
  refine Ex_step (tk_Scan_begin rfl) ?_
  refine Ex_step (tk_Scan_begin rfl) ?_
  refine pCR (tk_Scan_begin rfl) (hk8) ?_
  refine Ex_step (tk_Scan_begin rfl) ?_
  refine Ex_step (tk_Scan_begin rfl) ?_
  refine Ex_step (tk_Scan_begin rfl) ?_
  refine Ex_step (tk_Scan_begin rfl) ?_
  refine lenC (tk_Scan_begin rfl) hI' ?_
  refine Ex_min (tk_Scan_begin rfl) rfl (Nat.le_of_ble_eq_true rfl) ?_
  refine Ex_max (tk_Scan_begin rfl) rfl (Nat.le_of_ble_eq_true rfl) ?_
  exact hx
set_option maxRecDepth 100000 in
theorem c_scanInit (hk8 : mK m c = 8) (hc : 100 ≤ c) (hN : 100 + mN m = c + 1) (h : ∀ (m' : Mem) (F' A' L' : Nat → Nat → Int), Fr c m m' F F' A A' L L' → mN m' = mN m + 1 → mZ m' = mZ m → mK m' c = 8 → Q 0 none (CM m' F' A' L')) : Ex (d + 1) Scan_init 0 [some (vR c)] [] (CM m F A L) Q := by
  have hal := al_K m 13 0 0
  have fra : Fr (100 + mN m) m (alloc m 13 0 0) F (zF (100 + mN m) F) A (zA (100 + mN m) A) L (zA (100 + mN m) L) := Fr.al (Nat.le_refl _)
  have hk8' : mK (alloc m 13 0 0) c = 8 := (fra c (by omega)).1.1.trans hk8
  have hsb := fun (Q1 : Nat → Option AV → Mem → Prop) => c_scBegin0 (d := d) (m := alloc m 13 0 0) (F := zF (100 + mN m) F) (A := zA (100 + mN m) A) (L := zA (100 + mN m) L) (Q := Q1) (tp := 100 + mN m) hk8' ⟨hal.1, hal.2.1, by omega⟩
  have hq := h (sFR (alloc m 13 0 0) 512 c (100 + mN m)) (upF (upF (upF (upF (zF (100 + mN m) F) 513 c 0) 514 c 0) 515 c 0) 516 c (-1)) (zA (100 + mN m) A) (zA (100 + mN m) L) (((((((Fr.rf (lo := c)).tr fra (by omega)).tr (Fr.sF (Nat.le_refl c)) (Nat.le_refl _)).tr (Fr.uF (Nat.le_refl c)) (Nat.le_refl _)).tr (Fr.uF (Nat.le_refl c)) (Nat.le_refl _)).tr (Fr.uF (Nat.le_refl c)) (Nat.le_refl _)).tr (Fr.uF (Nat.le_refl c)) (Nat.le_refl _)) rfl rfl hk8'
  refine Ex_step (tk_Scan_init rfl) ?_
  refine Ex_step (tk_Scan_init rfl) ⟨rfl, hc, Nat.le_of_ble_eq_true rfl, ?_⟩
  refine Ex_step (tk_Scan_init rfl) ?_
  refine Ex_step (tk_Scan_init rfl) ?_
  refine nwI (n := 0) (tk_Scan_init rfl) rfl (by decide) ?_
  refine Ex_step (tk_Scan_init rfl) ?_
  refine Ex_cV0 (av := [vR (100 + mN m), vI 0]) (tk_Scan_init rfl) mk_Scan_begin ⟨rfl, rfl, by decide, rfl, Nat.le_of_ble_eq_true rfl, Nat.le_of_ble_eq_true rfl⟩ (hk8') (fun _ h => hsb _ h) ?_
  refine Ex_step (tk_Scan_init rfl) ⟨rfl, ?_⟩
  exact hq
set_option maxRecDepth 100000 in
theorem c_rrInit (hk7 : mK m rr = 7) (hc : 100 ≤ rr) (hN : 100 + mN m = rr + 1) (h : ∀ (m' : Mem) (F' A' L' : Nat → Nat → Int), Fr rr m m' F F' A A' L L' → mN m' = mN m + 4 → mZ m' = mZ m + 837 → RRW m' rr → mK m' (rr + 1) = 8 → Q 0 none (CM m' F' A' L')) : Ex (d + 2) RR_init 0 [some (vR rr)] [] (CM m F A L) Q := by
  have z32 : ∀ (m3 : Mem) (F3 A3 L3 : Nat → Nat → Int), Fr rr m m3 F F3 A A3 L L3 → mN m3 = mN m + 4 → mZ m3 = mZ m + 837 → RRW m3 rr → mK m3 (rr + 1) = 8 → Ex (d + 2) RR_init 32 [some (vR rr)] [] (CM m3 F3 A3 L3) Q := by
    intro m3 F3 A3 L3 fr3 n3 z3 hRW k8
    have hbg := fun (Q1 : Nat → Option AV → Mem → Prop) => c_rrBegin (d := d) (F := F3) (A := A3) (L := L3) (Q := Q1) hRW
    have hk7c := hRW.1
    have fin : ∀ F4 : Nat → Nat → Int, KR rr F3 F4 A3 A3 → Q 0 none (CM m3 F4 A3 L3) := fun F4 kr => h m3 F4 _ _ (fr3.tr (lo2 := rr) (fun j hj => ⟨⟨rfl, rfl, rfl, rfl, rfl⟩, fun f => ⟨rfl, kr.1 f j (by omega)⟩⟩) (Nat.le_refl _)) n3 z3 hRW k8
    refine Ex_step (tk_RR_init rfl) ?_
    refine Ex_cVK (av := []) (tk_RR_init rfl) mk_RR_begin ⟨rfl, rfl, by decide, rfl, Nat.le_of_ble_eq_true rfl, Nat.le_of_ble_eq_true rfl⟩ (hk7c) (hbg _ (fun F4 kr _ => ⟨rfl, ?_⟩))
    refine Ex_step (tk_RR_init rfl) ⟨rfl, ?_⟩
    exact fin F4 kr
  have z24 : ∀ (m2 : Mem) (F2 A2 L2 : Nat → Nat → Int), Fr rr m m2 F F2 A A2 L L2 → mN m2 = mN m + 3 → mZ m2 = mZ m + 805 → mK m2 rr = 7 → mFR m2 448 rr = rr + 1 → mK m2 (rr + 1) = 8 → mFR m2 449 rr = rr + 3 → IA m2 (rr + 3) 800 → Ex (d + 2) RR_init 24 [some (vR rr)] [] (CM m2 F2 A2 L2) Q := by
    intro m2 F2 A2 L2 fr2 n2 z2 k2 r448 k8 r449 i3
    have e2 : 100 + mN m2 = rr + 4 := by omega
    have r3 := mk_row (m := m2) F2 A2 L2 13 32 451 rr (by omega)
    have n3 : mN (sFR (alloc m2 13 32 32) 451 rr (100 + mN m2)) = mN m2 + 1 := rfl
    have z3 : mZ (sFR (alloc m2 13 32 32) 451 rr (100 + mN m2)) = mZ m2 + 32 := rfl
    have hk7b : mK (alloc m2 13 32 32) rr = 7 := (r3.2.2 rr (by omega)).1.1.trans k2
    have g0 := r3.2.2 rr (by omega)
    have g3 := r3.2.2 (rr + 3) (by omega)
    have hq := z32 _ _ _ _ (fr2.tr (r3.1 rr (Nat.le_refl _)) (Nat.le_refl _)) (by omega) (by omega) ⟨g0.1.1.trans k2, (g0.2.1 448 (by omega)).trans r448, (g0.2.1 449 (by omega)).trans r449, i3.w g3.1.1 g3.1.2.1, r3.2.1.2.2.trans e2, by rw [← e2]; exact ⟨r3.2.1.1, r3.2.1.2.1, by omega⟩⟩ ((r3.2.2 (rr + 1) (by omega)).1.1.trans k8)
    refine Ex_step (tk_RR_init rfl) ?_
    refine Ex_step (tk_RR_init rfl) ?_
    refine nwI (n := 32) (tk_RR_init rfl) rfl (by decide) ?_
    refine pCR (tk_RR_init rfl) (hk7b) ?_
    exact hq
  have z15 : ∀ (m1 : Mem) (F1 A1 L1 : Nat → Nat → Int), Fr rr m m1 F F1 A A1 L L1 → mN m1 = mN m + 2 → mZ m1 = mZ m + 5 → mK m1 rr = 7 → mFR m1 448 rr = rr + 1 → mK m1 (rr + 1) = 8 → Ex (d + 2) RR_init 15 [some (vR rr)] [] (CM m1 F1 A1 L1) Q := by
    intro m1 F1 A1 L1 fr n1 z1 k1 r1 k8
    have e1 : 100 + mN m1 = rr + 3 := by omega
    have r2 := mk_row (m := m1) F1 A1 L1 13 800 449 rr (by omega)
    have n2 : mN (sFR (alloc m1 13 800 800) 449 rr (100 + mN m1)) = mN m1 + 1 := rfl
    have z2 : mZ (sFR (alloc m1 13 800 800) 449 rr (100 + mN m1)) = mZ m1 + 800 := rfl
    have hk7a : mK (alloc m1 13 800 800) rr = 7 := (r2.2.2 rr (by omega)).1.1.trans k1
    have g0 := r2.2.2 rr (by omega)
    have hq := z24 _ _ _ _ (fr.tr (r2.1 rr (Nat.le_refl _)) (Nat.le_refl _)) (by omega) (by omega) (g0.1.1.trans k1) ((g0.2.1 448 (by omega)).trans r1) ((r2.2.2 (rr + 1) (by omega)).1.1.trans k8) (r2.2.1.2.2.trans e1) (by rw [← e1]; exact ⟨r2.2.1.1, r2.2.1.2.1, by omega⟩)
    refine Ex_step (tk_RR_init rfl) ?_
    refine Ex_step (tk_RR_init rfl) ?_
    refine nwI (n := 800) (tk_RR_init rfl) rfl (by decide) ?_
    refine pCR (tk_RR_init rfl) (hk7a) ?_
    exact hq
  have hal := al_K m 8 0 5
  have fra : Fr (100 + mN m) m (alloc m 8 0 5) F (zF (100 + mN m) F) A (zA (100 + mN m) A) L (zA (100 + mN m) L) := Fr.al (Nat.le_refl _)
  have ha : 100 ≤ 100 + mN m := by omega
  have hsi := fun (Q1 : Nat → Option AV → Mem → Prop) => c_scanInit (d := d) (m := alloc m 8 0 5) (F := zF (100 + mN m) F) (A := zA (100 + mN m) A) (L := zA (100 + mN m) L) (Q := Q1) (c := 100 + mN m) hal.1 (by omega) rfl
  have z12 : ∀ (m1 : Mem) (F1 A1 L1 : Nat → Nat → Int), Fr (100 + mN m) (alloc m 8 0 5) m1 (zF (100 + mN m) F) F1 (zA (100 + mN m) A) A1 (zA (100 + mN m) L) L1 → mN m1 = mN (alloc m 8 0 5) + 1 → mZ m1 = mZ (alloc m 8 0 5) → mK m1 (100 + mN m) = 8 → Ex (d + 2) RR_init 12 [some (vR rr)] [vR (100 + mN m), vR rr] (CM m1 F1 A1 L1) Q := by
    intro m1 F1 A1 L1 fr n1 z1 k8
    have nA : mN (alloc m 8 0 5) = mN m + 1 := rfl
    have zA_ : mZ (alloc m 8 0 5) = mZ m + 5 := rfl
    have f1 := fra.tr fr (Nat.le_refl _)
    have hk7a : mK m1 rr = 7 := (f1 rr (by omega)).1.1.trans hk7
    have hq := z15 (sFR m1 448 rr (100 + mN m)) F1 A1 L1 (((Fr.rf (lo := rr)).tr f1 (by omega)).tr (Fr.sF (Nat.le_refl rr)) (Nat.le_refl _)) (by show mN m1 = _; omega) (by show mZ m1 = _; omega) hk7a ((sFR_at _ _ _ _).trans hN) (by rw [← hN]; exact k8)
    refine pCR (tk_RR_init rfl) (hk7a) ?_
    exact hq
  refine Ex_step (tk_RR_init rfl) ?_
  refine Ex_step (tk_RR_init rfl) ⟨rfl, hc, Nat.le_of_ble_eq_true rfl, ?_⟩
  refine Ex_step (tk_RR_init rfl) ?_
  refine nwO (tk_RR_init rfl) (by decide) ?_
  refine Ex_step (tk_RR_init rfl) ?_
  refine Ex_cIK (av := []) (tk_RR_init rfl) mk_Scan_init ⟨rfl, by decide, rfl, rfl, rfl, Nat.le_of_ble_eq_true rfl, Nat.le_of_ble_eq_true rfl⟩ (ha) (hsi _ (fun m1 F1 A1 L1 q1 q2 q3 q4 => ⟨rfl, ?_⟩))
  exact z12 m1 F1 A1 L1 q1 q2 q3 q4
set_option maxRecDepth 100000 in
theorem c_trInit (hk10 : mK m tr = 10) (hc : 100 ≤ tr) (hN : 100 + mN m = tr + 1) (h : ∀ (m' : Mem) (F' A' L' : Nat → Nat → Int), Fr tr m m' F F' A A' L L' → mN m' = mN m + 5 → mZ m' = mZ m + 846 → (mK m' tr = 10 ∧ mFR m' 640 tr = tr + 2 ∧ mFR m' 641 tr = tr + 1) → RRW m' (tr + 1) → mK m' (tr + 2) = 8 → Q 0 none (CM m' F' A' L')) : Ex (d + 3) TR_init 0 [some (vR tr)] [] (CM m F A L) Q := by
  have hal := al_K m 7 0 9
  have fra : Fr (100 + mN m) m (alloc m 7 0 9) F (zF (100 + mN m) F) A (zA (100 + mN m) A) L (zA (100 + mN m) L) := Fr.al (Nat.le_refl _)
  have ha : 100 ≤ 100 + mN m := by omega
  have hsi := fun (Q1 : Nat → Option AV → Mem → Prop) => c_rrInit (d := d) (m := alloc m 7 0 9) (F := zF (100 + mN m) F) (A := zA (100 + mN m) A) (L := zA (100 + mN m) L) (Q := Q1) (rr := 100 + mN m) hal.1 (by omega) rfl
  have z12 : ∀ (m1 : Mem) (F1 A1 L1 : Nat → Nat → Int), Fr (100 + mN m) (alloc m 7 0 9) m1 (zF (100 + mN m) F) F1 (zA (100 + mN m) A) A1 (zA (100 + mN m) L) L1 → mN m1 = mN (alloc m 7 0 9) + 4 → mZ m1 = mZ (alloc m 7 0 9) + 837 → RRW m1 (100 + mN m) → mK m1 (100 + mN m + 1) = 8 → Ex (d + 3) TR_init 12 [some (vR tr)] [vR (100 + mN m), vR tr] (CM m1 F1 A1 L1) Q := by
    intro m1 F1 A1 L1 fr n1 z1 hRW k8
    have nA : mN (alloc m 7 0 9) = mN m + 1 := rfl
    have zA_ : mZ (alloc m 7 0 9) = mZ m + 9 := rfl
    have f1 := fra.tr fr (Nat.le_refl _)
    have hk10a : mK m1 tr = 10 := (f1 tr (by omega)).1.1.trans hk10
    rw [hN] at hRW k8
    have hk7a := hRW.1
    have hk10b : mK (sFR m1 641 tr (tr + 1)) tr = 10 := hk10a
    have hk7b : mK (sFR m1 641 tr (tr + 1)) (tr + 1) = 7 := hk7a
    have e448 : mFR (sFR m1 641 tr (tr + 1)) 448 (tr + 1) = tr + 2 := (sFR_ne _ (by omega)).trans hRW.2.1
    have e641 : mFR (sFR m1 641 tr (tr + 1)) 641 tr = tr + 1 := sFR_at _ _ _ _
    have hq := h (sFR (sFR m1 641 tr (tr + 1)) 640 tr (tr + 2)) F1 A1 L1 ((((Fr.rf (lo := tr)).tr f1 (by omega)).tr (Fr.sF (Nat.le_refl tr)) (Nat.le_refl _)).tr (Fr.sF (Nat.le_refl tr)) (Nat.le_refl _)) (by show mN m1 = _; omega) (by show mZ m1 = _; omega) ⟨hk10a, sFR_at _ _ _ _, (sFR_ne _ (by omega)).trans e641⟩ ⟨hk7a, (sFR_ne _ (by omega)).trans ((sFR_ne _ (by omega)).trans hRW.2.1), (sFR_ne _ (by omega)).trans ((sFR_ne _ (by omega)).trans hRW.2.2.1), hRW.2.2.2.1, (sFR_ne _ (by omega)).trans ((sFR_ne _ (by omega)).trans hRW.2.2.2.2.1), hRW.2.2.2.2.2⟩ k8
    rw [hN]
    refine pCR (tk_TR_init rfl) (hk10a) ?_
    refine Ex_step (tk_TR_init rfl) ?_
    refine Ex_step (tk_TR_init rfl) ?_
    refine gCR (tk_TR_init rfl) (hk10b) (e641) ?_
    refine gCR (tk_TR_init rfl) (hk7b) (e448) ?_
    refine pCR (tk_TR_init rfl) (hk10b) ?_
    refine Ex_step (tk_TR_init rfl) ⟨rfl, ?_⟩
    exact hq
  refine Ex_step (tk_TR_init rfl) ?_
  refine Ex_step (tk_TR_init rfl) ⟨rfl, hc, Nat.le_of_ble_eq_true rfl, ?_⟩
  refine Ex_step (tk_TR_init rfl) ?_
  refine nwO (tk_TR_init rfl) (by decide) ?_
  refine Ex_step (tk_TR_init rfl) ?_
  refine Ex_cIK (av := []) (tk_TR_init rfl) mk_RR_init ⟨rfl, by decide, rfl, rfl, rfl, Nat.le_of_ble_eq_true rfl, Nat.le_of_ble_eq_true rfl⟩ (ha) (hsi _ (fun m1 F1 A1 L1 q1 q2 q3 q4 q5 => ⟨rfl, ?_⟩))
  exact z12 m1 F1 A1 L1 q1 q2 q3 q4 q5
set_option maxRecDepth 100000 in
theorem c_shpInit (hk9 : mK m s = 9) (hc : 100 ≤ s) (hN : 100 + mN m = s + 1) (h : ∀ (m' : Mem) (F' A' L' : Nat → Nat → Int), Fr s m m' F F' A A' L L' → mN m' = mN m + 5 → mZ m' = mZ m + 135 → SW m' s → Q 0 none (CM m' F' A' L')) : Ex (d + 1) Shp_init 0 [some (vR s)] [] (CM m F A L) Q := by
  have z23 : ∀ (m2 : Mem) (F2 A2 L2 : Nat → Nat → Int), Fr s m m2 F F2 A A2 L L2 → mN m2 = mN m + 4 → mZ m2 = mZ m + 35 → (mK m2 s = 9 ∧ mFR m2 576 s = s + 1 ∧ DW m2 (s + 1) ∧ mFR m2 577 s = s + 4 ∧ IA m2 (s + 4) 10) → Ex (d + 1) Shp_init 23 [some (vR s)] [] (CM m2 F2 A2 L2) Q := by
    intro m2 F2 A2 L2 fr2 n2 z2 w
    obtain ⟨w1, w2, w3, w4, w5⟩ := w
    have e2 : 100 + mN m2 = s + 5 := by omega
    have r3 := mk_row (m := m2) F2 A2 L2 13 100 578 s (by omega)
    have n3 : mN (sFR (alloc m2 13 100 100) 578 s (100 + mN m2)) = mN m2 + 1 := rfl
    have z3 : mZ (sFR (alloc m2 13 100 100) 578 s (100 + mN m2)) = mZ m2 + 100 := rfl
    have hk9b : mK (alloc m2 13 100 100) s = 9 := (r3.2.2 s (by omega)).1.1.trans w1
    have g0 := r3.2.2 s (by omega)
    have g1 := r3.2.2 (s + 1) (by omega)
    have g4 := r3.2.2 (s + 4) (by omega)
    have hdw : DW (sFR (alloc m2 13 100 100) 578 s (100 + mN m2)) (s + 1) := w3.w (fun j y1 y2 => ⟨(r3.2.2 j (by omega)).1.1, (r3.2.2 j (by omega)).1.2.1⟩) (fun f _ => g1.2.1 f (by omega))
    have hk9c : mK (sFR (alloc m2 13 100 100) 578 s (100 + mN m2)) s = 9 := g0.1.1.trans w1
    have hq := h _ (upF (zF (100 + mN m2) F2) 579 s 0) _ _ ((fr2.tr (r3.1 s (Nat.le_refl _)) (Nat.le_refl _)).tr (Fr.uF (Nat.le_refl s)) (Nat.le_refl _)) (by omega) (by omega) ⟨hk9c, (g0.2.1 576 (by omega)).trans w2, hdw, (g0.2.1 577 (by omega)).trans w4, w5.w g4.1.1 g4.1.2.1, r3.2.1.2.2.trans e2, by rw [← e2]; exact ⟨r3.2.1.1, r3.2.1.2.1, by omega⟩⟩
    refine Ex_step (tk_Shp_init rfl) ?_
    refine Ex_step (tk_Shp_init rfl) ?_
    refine nwI (n := 100) (tk_Shp_init rfl) rfl (by decide) ?_
    refine pCR (tk_Shp_init rfl) (hk9b) ?_
    refine Ex_step (tk_Shp_init rfl) ?_
    refine Ex_step (tk_Shp_init rfl) ?_
    refine pCI (tk_Shp_init rfl) (hk9c) ?_
    refine Ex_step (tk_Shp_init rfl) ⟨rfl, ?_⟩
    exact hq
  have z15 : ∀ (m1 : Mem) (F1 A1 L1 : Nat → Nat → Int), Fr s m m1 F F1 A A1 L L1 → mN m1 = mN m + 3 → mZ m1 = mZ m + 25 → (mK m1 s = 9 ∧ mFR m1 576 s = s + 1 ∧ DW m1 (s + 1)) → Ex (d + 1) Shp_init 15 [some (vR s)] [] (CM m1 F1 A1 L1) Q := by
    intro m2 F2 A2 L2 fr2 n2 z2 w
    obtain ⟨w1, w2, w3⟩ := w
    have e2 : 100 + mN m2 = s + 4 := by omega
    have r3 := mk_row (m := m2) F2 A2 L2 13 10 577 s (by omega)
    have n3 : mN (sFR (alloc m2 13 10 10) 577 s (100 + mN m2)) = mN m2 + 1 := rfl
    have z3 : mZ (sFR (alloc m2 13 10 10) 577 s (100 + mN m2)) = mZ m2 + 10 := rfl
    have hk9b : mK (alloc m2 13 10 10) s = 9 := (r3.2.2 s (by omega)).1.1.trans w1
    have g0 := r3.2.2 s (by omega)
    have g1 := r3.2.2 (s + 1) (by omega)
    have hdw : DW (sFR (alloc m2 13 10 10) 577 s (100 + mN m2)) (s + 1) := w3.w (fun j y1 y2 => ⟨(r3.2.2 j (by omega)).1.1, (r3.2.2 j (by omega)).1.2.1⟩) (fun f _ => g1.2.1 f (by omega))
    have hq := z23 _ _ _ _ (fr2.tr (r3.1 s (Nat.le_refl _)) (Nat.le_refl _)) (by omega) (by omega) ⟨g0.1.1.trans w1, (g0.2.1 576 (by omega)).trans w2, hdw, r3.2.1.2.2.trans e2, by rw [← e2]; exact ⟨r3.2.1.1, r3.2.1.2.1, by omega⟩⟩
    refine Ex_step (tk_Shp_init rfl) ?_
    refine Ex_step (tk_Shp_init rfl) ?_
    refine nwI (n := 10) (tk_Shp_init rfl) rfl (by decide) ?_
    refine pCR (tk_Shp_init rfl) (hk9b) ?_
    exact hq
  have hal := al_K m 3 0 5
  have fra : Fr (100 + mN m) m (alloc m 3 0 5) F (zF (100 + mN m) F) A (zA (100 + mN m) A) L (zA (100 + mN m) L) := Fr.al (Nat.le_refl _)
  have ha : 100 ≤ 100 + mN m := by omega
  have hsi := fun (Q1 : Nat → Option AV → Mem → Prop) => c_desInit (d := d) (m := alloc m 3 0 5) (F := zF (100 + mN m) F) (A := zA (100 + mN m) A) (L := zA (100 + mN m) L) (Q := Q1) (a := 100 + mN m) hal.1 (by omega) rfl
  have z12 : ∀ (m1 : Mem) (F1 A1 L1 : Nat → Nat → Int), Fr (100 + mN m) (alloc m 3 0 5) m1 (zF (100 + mN m) F) F1 (zA (100 + mN m) A) A1 (zA (100 + mN m) L) L1 → mN m1 = mN (alloc m 3 0 5) + 2 → mZ m1 = mZ (alloc m 3 0 5) + 20 → DW m1 (100 + mN m) → Ex (d + 1) Shp_init 12 [some (vR s)] [vR (100 + mN m), vR s] (CM m1 F1 A1 L1) Q := by
    intro m1 F1 A1 L1 fr n1 z1 dw
    have nA : mN (alloc m 3 0 5) = mN m + 1 := rfl
    have zA_ : mZ (alloc m 3 0 5) = mZ m + 5 := rfl
    have f1 := fra.tr fr (Nat.le_refl _)
    have hk9a : mK m1 s = 9 := (f1 s (by omega)).1.1.trans hk9
    rw [hN] at dw
    have hq := z15 (sFR m1 576 s (s + 1)) F1 A1 L1 (((Fr.rf (lo := s)).tr f1 (by omega)).tr (Fr.sF (Nat.le_refl s)) (Nat.le_refl _)) (by show mN m1 = _; omega) (by show mZ m1 = _; omega) ⟨hk9a, sFR_at _ _ _ _, dw.w (fun _ _ _ => ⟨rfl, rfl⟩) (fun f _ => sFR_ne _ (by omega))⟩
    rw [hN]
    refine pCR (tk_Shp_init rfl) (hk9a) ?_
    exact hq
  refine Ex_step (tk_Shp_init rfl) ?_
  refine Ex_step (tk_Shp_init rfl) ⟨rfl, hc, Nat.le_of_ble_eq_true rfl, ?_⟩
  refine Ex_step (tk_Shp_init rfl) ?_
  refine nwO (tk_Shp_init rfl) (by decide) ?_
  refine Ex_step (tk_Shp_init rfl) ?_
  refine Ex_cIK (av := []) (tk_Shp_init rfl) mk_Des_init ⟨rfl, by decide, rfl, rfl, rfl, Nat.le_of_ble_eq_true rfl, Nat.le_of_ble_eq_true rfl⟩ (ha) (hsi _ (fun m1 F1 A1 L1 q1 q2 q3 q4 q5 q6 => ⟨rfl, ?_⟩))
  exact z12 m1 F1 A1 L1 q1 q2 q3 q4
end ReadInit
