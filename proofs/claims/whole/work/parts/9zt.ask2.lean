/-! ===== the class: best, over, of ===== -/
section Ask2
variable {d : Nat} {m : Mem} {F A L F' A' L' : Nat → Nat → Int} {I : Nat → Int} {R : Nat → Nat → Int} {kb kd : Nat} {P : Nat → Nat} {ds : Nat → Nat → Nat} {nn b tp : Nat} {Q : Nat → Option AV → Mem → Prop} {a bb : Nat} {i j w : Int}
set_option maxRecDepth 100000 in
theorem d_best (h : DK m F A L I R kb kd P ds nn b tp) (hi : okI i) (hj : okI j) (hwo : okI w) (hb1 : ¬ ((0 ≤ i ∧ i < (nn : Int)) ∧ 0 ≤ j ∧ j < (nn : Int)) → Q 1 none (alloc (CM m (upF F 707 100 (F 707 100 + 1)) A L) 22 0 6)) (hb2 : (0 ≤ i ∧ i < (nn : Int)) ∧ 0 ≤ j ∧ j < (nn : Int) → ¬ (i ≠ j ∧ 0 ≤ w ∧ w ≤ 4) → Q 2 none (alloc (CM m (upF F 708 100 (F 708 100 + 1)) A L) 22 0 6)) (hok : (0 ≤ i ∧ i < (nn : Int)) ∧ 0 ≤ j ∧ j < (nn : Int) → i ≠ j ∧ 0 ≤ w ∧ w ≤ 4 → ∀ (m' : Mem) (F' A' L' : Nat → Nat → Int), DK m' F' A' L' I R kb kd P ds nn b tp → Out m m' F F' A A' L L' → Q 0 (some (vI (bstV (bestS (R 3) i.toNat j.toNat) w))) (CM m' F' A' L')) : Ex (d + 7) DD_best 0 [some (vR 100), some (vI i), some (vI j), some (vI w), none] [] (CM m F A L) Q := by
  have hk11 := h.w.k100
  have hr713 := h.w.r713
  have hr709 := h.y.r709
  have hk5 := h.w.ov.1
  have hn6 := h.now.1
  have z13 : (0 ≤ i ∧ i < (nn : Int)) ∧ 0 ≤ j ∧ j < (nn : Int) → i ≠ j → 0 ≤ w ∧ w ≤ 4 → Ex (d + 7) DD_best 13 [some (vR 100), some (vI i), some (vI j), some (vI w), none] [] (CM m F A L) Q := by
    intro z zij zw
    have hok := hok z ⟨zij, zw⟩
    obtain ⟨a, rfl⟩ : ∃ a : Nat, i = (a : Int) := ⟨i.toNat, by omega⟩
    obtain ⟨bb, rfl⟩ : ∃ bb : Nat, j = (bb : Int) := ⟨j.toNat, by omega⟩
    have ha : a < nn := by omega
    have hb : bb < nn := by omega
    have hok : ∀ (m' : Mem) (F' A' L' : Nat → Nat → Int), DK m' F' A' L' I R kb kd P ds nn b tp → Out m m' F F' A A' L L' → Q 0 (some (vI (bstV (bestS (R 3) a bb) w))) (CM m' F' A' L') := hok
    have z26 : ∀ (x y : Nat) (F1 A1 : Nat → Nat → Int), DK (sOv m 310 x y) F1 A1 L I R kb kd P ds nn b tp → F1 64 (310 + 2 + (a * 6 + bb)) = 1 → Q 0 (some (vI (bstV (bestS (R 3) a bb) w))) (CM (sOv m 310 x y) F1 A1 L) → Ex (d + 7) DD_best 26 [some (vR 100), some (vI (a : Int)), some (vI (bb : Int)), some (vI w), none] [] (CM (sOv m 310 x y) F1 A1 L) Q := by
      intro x y F1 A1 h1 hka hq
      have hk11 := h1.w.k100
      have hr713 := h1.w.r713
      have hk5 := h1.w.ov.1
      have d1 := h1.kn.2 a bb ha hb (by omega) hka
      have d2 := bestS_nn (h1.now.2.2.2 a ha) (h1.now.2.2.2 bb hb)
      have d3 : mK (sOv m 310 x y) (310 + 2 + (a * 6 + bb)) = 1 := (h1.w.ov.2.2.2.2.2.2.2.2.2.2 (a * 6 + bb) (by omega)).2
      obtain ⟨so, ao, u1, u2, u3, u4, u5, u6, u7, u8⟩ := crf_v d1 d2
      have hab := fun (Q1 : Nat → Option AV → Mem → Prop) => c_above (d := d + 4) (A := A1) (L := L) (Q := Q1) d3 u1 u2 (by omega) (by omega) u6
      have hbe := fun (Q1 : Nat → Option AV → Mem → Prop) => c_below (d := d + 4) (A := A1) (L := L) (Q := Q1) d3 u1 u2 (by omega) (by omega) u6
      have hbo := fun (Q1 : Nat → Option AV → Mem → Prop) => c_bestOf (d := d + 6) (F := F1) (A := A1) (L := L) (Q := Q1) (a := a) (b := bb) h1.w.ov (by omega) (by omega)
      have hc : w = 0 ∨ w = 1 ∨ w = 2 ∨ w = 3 ∨ w = 4 := by omega
      unfold bstV at hq
      rcases hc with rfl | rfl | rfl | rfl | rfl
      · rw [if_pos (by decide), ← trm_eq u7 u8] at hq
        have z68 : Ex (d + 7) DD_best 68 [some (vR 100), some (vI (a : Int)), some (vI (bb : Int)), some (vI 0), some (vR (310 + 2 + (a * 6 + bb)))] [] (CM (sOv m 310 x y) F1 A1 L) Q := by
          refine Ex_step (tk_DD_best rfl) ?_
          refine Ex_cV0 (av := []) (tk_DD_best rfl) mk_Best_above ⟨rfl, rfl, by decide, rfl, Nat.le_of_ble_eq_true rfl, Nat.le_of_ble_eq_true rfl⟩ (d3) (fun _ h => hab _ h) ?_
          refine Ex_step (tk_DD_best rfl) ⟨rfl, ?_⟩
          exact hq
        refine Ex_step (tk_DD_best rfl) ?_
        refine gCR (tk_DD_best rfl) (hk11) (hr713) ?_
        refine Ex_step (tk_DD_best rfl) ?_
        refine Ex_step (tk_DD_best rfl) ?_
        refine Ex_cV0 (av := [vI (a : Int), vI (bb : Int)]) (tk_DD_best rfl) mk_Ov_bestOf ⟨rfl, rfl, by decide, rfl, Nat.le_of_ble_eq_true rfl, Nat.le_of_ble_eq_true rfl⟩ (hk5) (fun _ h => hbo _ h) ?_
        refine Ex_step (tk_DD_best rfl) ?_
        refine Ex_step (tk_DD_best rfl) ?_
        refine Ex_step (tk_DD_best rfl) ?_
        exact z68
      · rw [if_pos (by decide), ← trm_eq u7 u8] at hq
        have z74 : Ex (d + 7) DD_best 74 [some (vR 100), some (vI (a : Int)), some (vI (bb : Int)), some (vI 1), some (vR (310 + 2 + (a * 6 + bb)))] [] (CM (sOv m 310 x y) F1 A1 L) Q := by
          refine Ex_step (tk_DD_best rfl) ?_
          refine Ex_cV0 (av := []) (tk_DD_best rfl) mk_Best_below ⟨rfl, rfl, by decide, rfl, Nat.le_of_ble_eq_true rfl, Nat.le_of_ble_eq_true rfl⟩ (d3) (fun _ h => hbe _ h) ?_
          refine Ex_step (tk_DD_best rfl) ⟨rfl, ?_⟩
          exact hq
        refine Ex_step (tk_DD_best rfl) ?_
        refine gCR (tk_DD_best rfl) (hk11) (hr713) ?_
        refine Ex_step (tk_DD_best rfl) ?_
        refine Ex_step (tk_DD_best rfl) ?_
        refine Ex_cV0 (av := [vI (a : Int), vI (bb : Int)]) (tk_DD_best rfl) mk_Ov_bestOf ⟨rfl, rfl, by decide, rfl, Nat.le_of_ble_eq_true rfl, Nat.le_of_ble_eq_true rfl⟩ (hk5) (fun _ h => hbo _ h) ?_
        refine Ex_step (tk_DD_best rfl) ?_
        refine Ex_step (tk_DD_best rfl) ?_
        refine Ex_step (tk_DD_best rfl) ?_
        exact z74
      · rw [if_neg (by decide), if_pos rfl, ← d1.1.1] at hq
        have z80 : Ex (d + 7) DD_best 80 [some (vR 100), some (vI (a : Int)), some (vI (bb : Int)), some (vI 2), some (vR (310 + 2 + (a * 6 + bb)))] [] (CM (sOv m 310 x y) F1 A1 L) Q := by
          refine Ex_step (tk_DD_best rfl) ?_
          refine gCI (tk_DD_best rfl) (d3) ?_
          refine Ex_step (tk_DD_best rfl) ⟨rfl, ?_⟩
          exact hq
        refine Ex_step (tk_DD_best rfl) ?_
        refine gCR (tk_DD_best rfl) (hk11) (hr713) ?_
        refine Ex_step (tk_DD_best rfl) ?_
        refine Ex_step (tk_DD_best rfl) ?_
        refine Ex_cV0 (av := [vI (a : Int), vI (bb : Int)]) (tk_DD_best rfl) mk_Ov_bestOf ⟨rfl, rfl, by decide, rfl, Nat.le_of_ble_eq_true rfl, Nat.le_of_ble_eq_true rfl⟩ (hk5) (fun _ h => hbo _ h) ?_
        refine Ex_step (tk_DD_best rfl) ?_
        refine Ex_step (tk_DD_best rfl) ?_
        refine Ex_step (tk_DD_best rfl) ?_
        exact z80
      · rw [if_neg (by decide), if_neg (by decide), if_pos rfl, ← d1.1.2.1] at hq
        have z86 : Ex (d + 7) DD_best 86 [some (vR 100), some (vI (a : Int)), some (vI (bb : Int)), some (vI 3), some (vR (310 + 2 + (a * 6 + bb)))] [] (CM (sOv m 310 x y) F1 A1 L) Q := by
          refine Ex_step (tk_DD_best rfl) ?_
          refine gCI (tk_DD_best rfl) (d3) ?_
          refine Ex_step (tk_DD_best rfl) ⟨rfl, ?_⟩
          exact hq
        refine Ex_step (tk_DD_best rfl) ?_
        refine gCR (tk_DD_best rfl) (hk11) (hr713) ?_
        refine Ex_step (tk_DD_best rfl) ?_
        refine Ex_step (tk_DD_best rfl) ?_
        refine Ex_cV0 (av := [vI (a : Int), vI (bb : Int)]) (tk_DD_best rfl) mk_Ov_bestOf ⟨rfl, rfl, by decide, rfl, Nat.le_of_ble_eq_true rfl, Nat.le_of_ble_eq_true rfl⟩ (hk5) (fun _ h => hbo _ h) ?_
        refine Ex_step (tk_DD_best rfl) ?_
        refine Ex_step (tk_DD_best rfl) ?_
        refine Ex_step (tk_DD_best rfl) ?_
        exact z86
      · rw [if_neg (by decide), if_neg (by decide), if_neg (by decide), ← d1.1.2.2] at hq
        have z92 : Ex (d + 7) DD_best 92 [some (vR 100), some (vI (a : Int)), some (vI (bb : Int)), some (vI 4), some (vR (310 + 2 + (a * 6 + bb)))] [] (CM (sOv m 310 x y) F1 A1 L) Q := by
          refine Ex_step (tk_DD_best rfl) ?_
          refine gCI (tk_DD_best rfl) (d3) ?_
          refine Ex_step (tk_DD_best rfl) ⟨rfl, ?_⟩
          exact hq
        refine Ex_step (tk_DD_best rfl) ?_
        refine gCR (tk_DD_best rfl) (hk11) (hr713) ?_
        refine Ex_step (tk_DD_best rfl) ?_
        refine Ex_step (tk_DD_best rfl) ?_
        refine Ex_cV0 (av := [vI (a : Int), vI (bb : Int)]) (tk_DD_best rfl) mk_Ov_bestOf ⟨rfl, rfl, by decide, rfl, Nat.le_of_ble_eq_true rfl, Nat.le_of_ble_eq_true rfl⟩ (hk5) (fun _ h => hbo _ h) ?_
        refine Ex_step (tk_DD_best rfl) ?_
        refine Ex_step (tk_DD_best rfl) ?_
        refine Ex_step (tk_DD_best rfl) ?_
        exact z92
    have hln := fun (Q1 : Nat → Option AV → Mem → Prop) => d_learn (d := d + 1) (Q := Q1) h ha hb (by omega)
    refine Ex_step (tk_DD_best rfl) ?_
    refine gCR (tk_DD_best rfl) (hk11) (hr713) ?_
    refine Ex_step (tk_DD_best rfl) ?_
    refine gCR (tk_DD_best rfl) (hk11) (hr709) ?_
    refine Ex_step (tk_DD_best rfl) ?_
    refine Ex_step (tk_DD_best rfl) ?_
    refine Ex_cVK (av := [vR kb, vI (a : Int), vI (bb : Int)]) (tk_DD_best rfl) mk_Ov_learn ⟨rfl, rfl, by decide, rfl, Nat.le_of_ble_eq_true rfl, Nat.le_of_ble_eq_true rfl⟩ (hk5) (hln _ (fun x y F1 A1 ko h1 hka => ⟨rfl, ?_⟩))
    exact z26 x y F1 A1 h1 hka (hok _ F1 A1 L h1 ko.out)
  have z6 : (0 ≤ i ∧ i < (nn : Int)) ∧ 0 ≤ j ∧ j < (nn : Int) → i ≠ j → Ex (d + 7) DD_best 6 [some (vR 100), some (vI i), some (vI j), some (vI w), none] [] (CM m F A L) Q := by
    intro z zij
    refine Ex_step (tk_DD_best rfl) ?_
    refine Ex_step (tk_DD_best rfl) ?_
    refine Ex_step (tk_DD_best rfl) ?_
    refine Ex_step (tk_DD_best rfl) ?_
    refine Ex_cVT (av := [vI w, vI 0, vI 4]) (tk_DD_best rfl) mk_DD_needNumber ⟨rfl, rfl, by decide, rfl, Nat.le_of_ble_eq_true rfl, Nat.le_of_ble_eq_true rfl⟩ hk11 rfl (d_needNumber h hwo ⟨by decide, by decide⟩ ⟨by decide, by decide⟩ (fun z2 => ⟨fun q => absurd q (by decide), fun _ => hb2 z (fun q => z2 q.2)⟩) (fun z2 => ⟨fun _ => z13 z zij z2, fun q => absurd rfl q⟩))
  refine Ex_step (tk_DD_best rfl) ?_
  refine Ex_step (tk_DD_best rfl) ?_
  refine Ex_step (tk_DD_best rfl) ?_
  refine Ex_cVT (av := [vI i, vI j]) (tk_DD_best rfl) mk_DD_needTwo ⟨rfl, rfl, by decide, rfl, Nat.le_of_ble_eq_true rfl, Nat.le_of_ble_eq_true rfl⟩ hk11 rfl (d_needTwo h hi hj (fun z => ⟨fun q => absurd q (by decide), fun _ => hb1 z⟩) (fun z1 z2 => ⟨fun q => absurd q (by decide), fun _ => hb2 z1 (fun q => q.1 z2)⟩) (fun z1 z2 => ⟨fun _ => z6 z1 z2, fun q => absurd rfl q⟩))
set_option maxRecDepth 100000 in
theorem d_over {tu dx dy : Int} (h : DK m F A L I R kb kd P ds nn b tp) (hi : okI i) (hj : okI j) (hto : okI tu) (hxo : okI dx) (hyo : okI dy) (hwo : okI w) (hb1 : ¬ ((0 ≤ i ∧ i < (nn : Int)) ∧ 0 ≤ j ∧ j < (nn : Int)) → Q 1 none (alloc (CM m (upF F 707 100 (F 707 100 + 1)) A L) 22 0 6)) (hb2 : (0 ≤ i ∧ i < (nn : Int)) ∧ 0 ≤ j ∧ j < (nn : Int) → ¬ (i ≠ j ∧ (0 ≤ tu ∧ tu ≤ 7) ∧ (-20 ≤ dx ∧ dx ≤ 20) ∧ (-20 ≤ dy ∧ dy ≤ 20) ∧ 0 ≤ w ∧ w ≤ 1) → Q 2 none (alloc (CM m (upF F 708 100 (F 708 100 + 1)) A L) 22 0 6)) (hok : (0 ≤ i ∧ i < (nn : Int)) ∧ 0 ≤ j ∧ j < (nn : Int) → i ≠ j ∧ (0 ≤ tu ∧ tu ≤ 7) ∧ (-20 ≤ dx ∧ dx ≤ 20) ∧ (-20 ≤ dy ∧ dy ≤ 20) ∧ 0 ≤ w ∧ w ≤ 1 → ∀ (m' : Mem) (F' A' L' : Nat → Nat → Int), DK m' F' A' L' I R kb kd P ds nn b tp → Out m m' F F' A A' L L' → Q 0 (some (vI (if w = 0 then smS (R 3) i.toNat j.toNat tu.toNat dx dy else ulS (R 3) i.toNat j.toNat tu.toNat dx dy))) (CM m' F' A' L')) : Ex (d + 7) DD_over 0 [some (vR 100), some (vI i), some (vI j), some (vI tu), some (vI dx), some (vI dy), some (vI w)] [] (CM m F A L) Q := by
  have hk11 := h.w.k100
  have hr713 := h.w.r713
  have hr709 := h.y.r709
  have hk5 := h.w.ov.1
  have hn6 := h.now.1
  have hBW := h.y.bw h.w h.y.ib
  have hk2 := hBW.1
  have hr128 := hBW.2.1
  have ob := isBk_out h.y.ib
  have hdd := h.y.bd h.y.ib
  have z42 : (0 ≤ i ∧ i < (nn : Int)) ∧ 0 ≤ j ∧ j < (nn : Int) → i ≠ j ∧ (0 ≤ tu ∧ tu ≤ 7) ∧ (-20 ≤ dx ∧ dx ≤ 20) ∧ (-20 ≤ dy ∧ dy ≤ 20) ∧ 0 ≤ w ∧ w ≤ 1 → Ex (d + 7) DD_over 42 [some (vR 100), some (vI i), some (vI j), some (vI tu), some (vI dx), some (vI dy), some (vI w)] [] (CM m F A L) Q := by
    intro z zz
    have hok := hok z zz
    obtain ⟨zij, zt, zx, zy, zw⟩ := zz
    obtain ⟨a, rfl⟩ : ∃ a : Nat, i = (a : Int) := ⟨i.toNat, by omega⟩
    obtain ⟨bb, rfl⟩ : ∃ bb : Nat, j = (bb : Int) := ⟨j.toNat, by omega⟩
    obtain ⟨t, rfl⟩ : ∃ t : Nat, tu = (t : Int) := ⟨tu.toNat, by omega⟩
    have ha : a < nn := by omega
    have hb : bb < nn := by omega
    have hok : ∀ (m' : Mem) (F' A' L' : Nat → Nat → Int), DK m' F' A' L' I R kb kd P ds nn b tp → Out m m' F F' A A' L L' → Q 0 (some (vI (if w = 0 then smS (R 3) a bb t dx dy else ulS (R 3) a bb t dx dy))) (CM m' F' A' L') := hok
    have hWa := h.now.2.2.2 a ha
    have hWb := h.now.2.2.2 bb hb
    have ga := h.bk.2 a ha
    have gb := h.bk.2 bb hb
    have hDa := (hBW.2.2.2.2 a (by omega)).2
    have hDb := (hBW.2.2.2.2 bb (by omega)).2
    have hda2 := hdd.1 a (by omega)
    have hdb2 := hdd.1 bb (by omega)
    have fin : ∀ (F1 A1 : Nat → Nat → Int), (∀ f j, j < 310 ∨ 353 ≤ j → F1 f j = F f j) → (∀ j, j < 310 ∨ 353 ≤ j → A1 j = A j) → (∀ f j, 312 ≤ j → j < 348 → F1 f j = F f j) → DK (sOv m 310 (ds kb a) (ds kb bb)) F1 A1 L I R kb kd P ds nn b tp ∧ Out m (sOv m 310 (ds kb a) (ds kb bb)) F F1 A A1 L L := by
      intro F1 A1 q1 q2 q3
      have ko : KO 310 F F1 A A1 := ⟨fun f j q => q1 f j q, fun j q => q2 j q, fun i hi z => by rw [q3 64 _ (by omega) (by omega)]; exact z⟩
      exact ⟨h.lrn ko (h.kn.k h.now.1 (fun f j y1 y2 => q3 f j (by omega) (by omega))), ko.out⟩
    have w2 : DKW (sOv m 310 (ds kb a) (ds kb bb)) := h.w.sa ((SAm.sF (f := 321) (by decide)).tr (SAm.sF (f := 322) (by decide)) h.n0) h.n0
    have hO2 := w2.ov
    have hDa2 := hDa.ov (o := 310) (x := ds kb a) (y := ds kb bb) (by omega)
    have hDb2 := hDb.ov (o := 310) (x := ds kb a) (y := ds kb bb) (by omega)
    have e321 : mFR (sOv m 310 (ds kb a) (ds kb bb)) 321 310 = ds kb a := (sFR_ne _ (by decide)).trans (sFR_at _ _ _ _)
    have e322 : mFR (sOv m 310 (ds kb a) (ds kb bb)) 322 310 = ds kb bb := sFR_at _ _ _ _
    have ulq := ul_eq (t := t) (dx := dx) (dy := dy) hWa hWb (by omega) zx zy
    have smq : nP (pB (srt (R 3) a) (tsr (R 3) bb t) dx dy) = smS (R 3) a bb t dx dy := sm_eq
    have z67 : ∀ A1 : Nat → Nat → Int, (∀ j, j ≠ 310 + 41 → A1 j = A j) → SolR A1 310 (srt (R 3) a) → Ex (d + 7) DD_over 67 [some (vR 100), some (vI (a : Int)), some (vI (bb : Int)), some (vI (t : Int)), some (vI dx), some (vI dy), some (vI w)] [] (CM (sOv m 310 (ds kb a) (ds kb bb)) (upF F 326 310 (nP (fun x y => srt (R 3) a x y = 1) + nP (fun x y => srt (R 3) bb x y = 1 ∨ srt (R 3) bb x y = 3))) A1 L) Q := by
      intro A1 k1 s1
      have hk11 := w2.k100
      have hr713 := w2.r713
      have hk5 := hO2.1
      have dgb : DG (upF F 326 310 (nP (fun x y => srt (R 3) a x y = 1) + nP (fun x y => srt (R 3) bb x y = 1 ∨ srt (R 3) bb x y = 3))) A1 (ds kb bb) (R 3 (bD bb + 1)) (R 3 (bD bb + 2)) (srt (R 3) bb) := ⟨by rw [upF_f _ _ _ (by decide)]; exact gb.2.1, by rw [upF_f _ _ _ (by decide)]; exact gb.2.2.1, fun y hy j hj => by rw [k1 _ (by omega), k1 _ (by omega)]; exact gb.2.2.2 y hy j hj⟩
      have htt := fun (Q1 : Nat → Option AV → Mem → Prop) => c_turnTo (d := d + 3) (L := L) (Q := Q1) (t := t) hO2 e322 hDb2 (by omega) dgb (srt_FG hWb) (by omega)
      have f326 : upF F 326 310 (nP (fun x y => srt (R 3) a x y = 1) + nP (fun x y => srt (R 3) bb x y = 1 ∨ srt (R 3) bb x y = 3)) 326 310 = nP (fun x y => srt (R 3) a x y = 1) + nP (fun x y => srt (R 3) bb x y = 1 ∨ srt (R 3) bb x y = 3) := upF_at _ _ _ _
      have kF : ∀ f j, j ≠ 310 → upF F 326 310 (nP (fun x y => srt (R 3) a x y = 1) + nP (fun x y => srt (R 3) bb x y = 1 ∨ srt (R 3) bb x y = 3)) f j = F f j := fun f j q => upF_a _ _ _ q
      generalize upF F 326 310 (nP (fun x y => srt (R 3) a x y = 1) + nP (fun x y => srt (R 3) bb x y = 1 ∨ srt (R 3) bb x y = 3)) = F1 at *
      rw [← f326] at ulq
      have z75 : ∀ A2 : Nat → Nat → Int, (∀ j, j ≠ 310 + 39 → j ≠ 310 + 40 → j ≠ 310 + 42 → A2 j = A1 j) → DB A2 (310 + 38) (tsr (R 3) bb t) → DotR A2 310 (tsr (R 3) bb t) → Ex (d + 7) DD_over 75 [some (vR 100), some (vI (a : Int)), some (vI (bb : Int)), some (vI (t : Int)), some (vI dx), some (vI dy), some (vI w)] [] (CM (sOv m 310 (ds kb a) (ds kb bb)) (upF (upF F1 193 (310 + 38) (tW (R 3 (bD bb + 1)) (R 3 (bD bb + 2)) t)) 194 (310 + 38) (tH (R 3 (bD bb + 1)) (R 3 (bD bb + 2)) t)) A2 L) Q := by
        intro A2 k2 db2 dot2
        have dga : DG (upF (upF F1 193 (310 + 38) (tW (R 3 (bD bb + 1)) (R 3 (bD bb + 2)) t)) 194 (310 + 38) (tH (R 3 (bD bb + 1)) (R 3 (bD bb + 2)) t)) A2 (ds kb a) (R 3 (bD a + 1)) (R 3 (bD a + 2)) (srt (R 3) a) := ⟨by rw [upF_a _ _ _ (by omega), upF_a _ _ _ (by omega), kF _ _ (by omega)]; exact ga.2.1, by rw [upF_a _ _ _ (by omega), upF_a _ _ _ (by omega), kF _ _ (by omega)]; exact ga.2.2.1, fun y hy j hj => by rw [k2 _ (by omega) (by omega) (by omega), k2 _ (by omega) (by omega) (by omega), k1 _ (by omega), k1 _ (by omega)]; exact ga.2.2.2 y hy j hj⟩
        have dgt : DG (upF (upF F1 193 (310 + 38) (tW (R 3 (bD bb + 1)) (R 3 (bD bb + 2)) t)) 194 (310 + 38) (tH (R 3 (bD bb + 1)) (R 3 (bD bb + 2)) t)) A2 (310 + 38) (tW (R 3 (bD bb + 1)) (R 3 (bD bb + 2)) t) (tH (R 3 (bD bb + 1)) (R 3 (bD bb + 2)) t) (tsr (R 3) bb t) := ⟨by rw [upF_f _ _ _ (by decide), upF_at], upF_at _ _ _ _, db2⟩
        have sol2 : SolR A2 310 (srt (R 3) a) := fun y hy => by rw [k2 _ (by decide) (by decide) (by decide)]; exact s1 y hy
        have hly := fun (Q1 : Nat → Option AV → Mem → Prop) => c_lay (d := d + 5) (L := L) (Q := Q1) (dx := dx) (dy := dy) hO2 e321 hDa2 dga (srt_FG hWa) dgt (tsr_FG hWb t) sol2 dot2 zx zy
        have g326 : upF (upF F1 193 (310 + 38) (tW (R 3 (bD bb + 1)) (R 3 (bD bb + 2)) t)) 194 (310 + 38) (tH (R 3 (bD bb + 1)) (R 3 (bD bb + 2)) t) 326 310 = F1 326 310 := by rw [upF_f _ _ _ (by decide), upF_f _ _ _ (by decide)]
        rw [g326, ulq, smq] at hly
        have kF2 : ∀ f j, j ≠ 310 → j ≠ 348 → upF (upF F1 193 (310 + 38) (tW (R 3 (bD bb + 1)) (R 3 (bD bb + 2)) t)) 194 (310 + 38) (tH (R 3 (bD bb + 1)) (R 3 (bD bb + 2)) t) f j = F f j := fun f j q1 q2 => by rw [upF_a _ _ _ (by omega), upF_a _ _ _ (by omega)]; exact kF f j q1
        generalize upF (upF F1 193 (310 + 38) (tW (R 3 (bD bb + 1)) (R 3 (bD bb + 2)) t)) 194 (310 + 38) (tH (R 3 (bD bb + 1)) (R 3 (bD bb + 2)) t) = F2 at *
        have f3 := fin (upF (upF F2 327 310 (smS (R 3) a bb t dx dy)) 328 310 (ulS (R 3) a bb t dx dy)) A2 (fun f j q => by rw [upF_a _ _ _ (by omega), upF_a _ _ _ (by omega)]; exact kF2 f j (by omega) (by omega)) (fun j q => by rw [k2 j (by omega) (by omega) (by omega), k1 j (by omega)]) (fun f j y1 y2 => by rw [upF_a _ _ _ (by omega), upF_a _ _ _ (by omega)]; exact kF2 f j (by omega) (by omega))
        have hq := hok _ _ A2 L f3.1 f3.2
        have g327 : upF (upF F2 327 310 (smS (R 3) a bb t dx dy)) 328 310 (ulS (R 3) a bb t dx dy) 327 310 = smS (R 3) a bb t dx dy := by rw [upF_f _ _ _ (by decide), upF_at]
        have g328 : upF (upF F2 327 310 (smS (R 3) a bb t dx dy)) 328 310 (ulS (R 3) a bb t dx dy) 328 310 = ulS (R 3) a bb t dx dy := upF_at _ _ _ _
        have q0 : w = 0 → Q 0 (some (vI (upF (upF F2 327 310 (smS (R 3) a bb t dx dy)) 328 310 (ulS (R 3) a bb t dx dy) 327 310))) (CM (sOv m 310 (ds kb a) (ds kb bb)) (upF (upF F2 327 310 (smS (R 3) a bb t dx dy)) 328 310 (ulS (R 3) a bb t dx dy)) A2 L) := fun q => by rw [g327]; rw [if_pos q] at hq; exact hq
        have q1 : w ≠ 0 → Q 0 (some (vI (upF (upF F2 327 310 (smS (R 3) a bb t dx dy)) 328 310 (ulS (R 3) a bb t dx dy) 328 310))) (CM (sOv m 310 (ds kb a) (ds kb bb)) (upF (upF F2 327 310 (smS (R 3) a bb t dx dy)) 328 310 (ulS (R 3) a bb t dx dy)) A2 L) := fun q => by rw [g328]; rw [if_neg q] at hq; exact hq
        refine Ex_step (tk_DD_over rfl) ?_
        refine gCR (tk_DD_over rfl) (hk11) (hr713) ?_
        refine Ex_step (tk_DD_over rfl) ?_
        refine Ex_step (tk_DD_over rfl) ?_
        refine Ex_cV0 (av := [vI dx, vI dy]) (tk_DD_over rfl) mk_Ov_lay ⟨rfl, rfl, by decide, rfl, Nat.le_of_ble_eq_true rfl, Nat.le_of_ble_eq_true rfl⟩ (hk5) (fun _ h => hly _ h) ?_
        refine Ex_step (tk_DD_over rfl) ?_
        refine Ex_step (tk_DD_over rfl) ⟨fun h88 => ?_, fun h88 => ?_⟩
        · try simp (disch := omega) only [cmpI, w32_b2i, b2i_0, b2i_1, w32_id, Classical.not_not, not_true_eq_false, not_false_eq_true] at h88
          refine Ex_step (tk_DD_over rfl) ?_
          refine gCR (tk_DD_over rfl) (hk11) (hr713) ?_
          refine gCI (tk_DD_over rfl) (hk5) ?_
          refine Ex_step (tk_DD_over rfl) ⟨rfl, ?_⟩
          first | exact q0 (by omega) | exact q1 (by omega)
        · try simp (disch := omega) only [cmpI, w32_b2i, b2i_0, b2i_1, w32_id, Classical.not_not, not_true_eq_false, not_false_eq_true] at h88
          refine Ex_step (tk_DD_over rfl) ?_
          refine gCR (tk_DD_over rfl) (hk11) (hr713) ?_
          refine gCI (tk_DD_over rfl) (hk5) ?_
          refine Ex_step (tk_DD_over rfl) ?_
          refine Ex_step (tk_DD_over rfl) ⟨rfl, ?_⟩
          first | exact q0 (by omega) | exact q1 (by omega)
      refine Ex_step (tk_DD_over rfl) ?_
      refine gCR (tk_DD_over rfl) (hk11) (hr713) ?_
      refine Ex_step (tk_DD_over rfl) ?_
      refine Ex_cVK (av := [vI (t : Int)]) (tk_DD_over rfl) mk_Ov_turnTo ⟨rfl, rfl, by decide, rfl, Nat.le_of_ble_eq_true rfl, Nat.le_of_ble_eq_true rfl⟩ (hk5) (htt _ (fun A2 k2 db2 dot2 => ⟨rfl, ?_⟩))
      exact z75 A2 k2 db2 dot2
    have htk := fun (Q1 : Nat → Option AV → Mem → Prop) => c_take (d := d + 5) (m := m) (F := F) (A := A) (L := L) (Q := Q1) h.w.ov hDa hDb (by omega) (by omega) ga.2.2.2 gb.2.2.2 (srt_FG hWa).b (srt_FG hWb).b
    refine Ex_step (tk_DD_over rfl) ?_
    refine gCR (tk_DD_over rfl) (hk11) (hr713) ?_
    refine Ex_step (tk_DD_over rfl) ?_
    refine gCR (tk_DD_over rfl) (hk11) (hr709) ?_
    refine gCR (tk_DD_over rfl) (hk2) (hr128) ?_
    refine Ex_step (tk_DD_over rfl) ?_
    refine lCR (n := a) (tk_DD_over rfl) (⟨⟨by rw [hBW.2.2.1]; decide, by rw [hBW.2.2.1]; decide⟩, hBW.2.2.2.1, (hBW.2.2.2.2 a (by omega)).1⟩) (w32_id (by omega) (by omega)) (by omega) ?_
    refine Ex_step (tk_DD_over rfl) ?_
    refine gCR (tk_DD_over rfl) (hk11) (hr709) ?_
    refine gCR (tk_DD_over rfl) (hk2) (hr128) ?_
    refine Ex_step (tk_DD_over rfl) ?_
    refine lCR (n := bb) (tk_DD_over rfl) (⟨⟨by rw [hBW.2.2.1]; decide, by rw [hBW.2.2.1]; decide⟩, hBW.2.2.2.1, (hBW.2.2.2.2 bb (by omega)).1⟩) (w32_id (by omega) (by omega)) (by omega) ?_
    refine Ex_cVK (av := [vR (ds kb a), vR (ds kb bb)]) (tk_DD_over rfl) mk_Ov_take ⟨rfl, rfl, by decide, rfl, Nat.le_of_ble_eq_true rfl, Nat.le_of_ble_eq_true rfl⟩ (hk5) (htk _ (fun A1 k1 s1 => ⟨rfl, ?_⟩))
    exact z67 A1 k1 s1
  have z34 : (0 ≤ i ∧ i < (nn : Int)) ∧ 0 ≤ j ∧ j < (nn : Int) → i ≠ j ∧ (0 ≤ tu ∧ tu ≤ 7) ∧ (-20 ≤ dx ∧ dx ≤ 20) ∧ (-20 ≤ dy ∧ dy ≤ 20) → Ex (d + 7) DD_over 34 [some (vR 100), some (vI i), some (vI j), some (vI tu), some (vI dx), some (vI dy), some (vI w)] [] (CM m F A L) Q := by
    intro z zz
    refine Ex_step (tk_DD_over rfl) ?_
    refine Ex_step (tk_DD_over rfl) ?_
    refine Ex_step (tk_DD_over rfl) ?_
    refine Ex_step (tk_DD_over rfl) ?_
    refine Ex_cVT (av := [vI w, vI 0, vI 1]) (tk_DD_over rfl) mk_DD_needNumber ⟨rfl, rfl, by decide, rfl, Nat.le_of_ble_eq_true rfl, Nat.le_of_ble_eq_true rfl⟩ hk11 rfl (d_needNumber h hwo ⟨by decide, by decide⟩ ⟨by decide, by decide⟩ (fun z2 => ⟨fun q => absurd q (by decide), fun _ => hb2 z (fun q => z2 q.2.2.2.2)⟩) (fun z2 => ⟨fun _ => z42 z ⟨zz.1, zz.2.1, zz.2.2.1, zz.2.2.2, z2⟩, fun q => absurd rfl q⟩))
  have z24 : (0 ≤ i ∧ i < (nn : Int)) ∧ 0 ≤ j ∧ j < (nn : Int) → i ≠ j ∧ (0 ≤ tu ∧ tu ≤ 7) ∧ (-20 ≤ dx ∧ dx ≤ 20) → Ex (d + 7) DD_over 24 [some (vR 100), some (vI i), some (vI j), some (vI tu), some (vI dx), some (vI dy), some (vI w)] [] (CM m F A L) Q := by
    intro z zz
    refine Ex_step (tk_DD_over rfl) ?_
    refine Ex_step (tk_DD_over rfl) ?_
    refine Ex_step (tk_DD_over rfl) ?_
    refine Ex_step (tk_DD_over rfl) ?_
    refine Ex_cVT (av := [vI dy, vI (-20), vI 20]) (tk_DD_over rfl) mk_DD_needNumber ⟨rfl, rfl, by decide, rfl, Nat.le_of_ble_eq_true rfl, Nat.le_of_ble_eq_true rfl⟩ hk11 rfl (d_needNumber h hyo ⟨by decide, by decide⟩ ⟨by decide, by decide⟩ (fun z2 => ⟨fun q => absurd q (by decide), fun _ => hb2 z (fun q => z2 q.2.2.2.1)⟩) (fun z2 => ⟨fun _ => z34 z ⟨zz.1, zz.2.1, zz.2.2, z2⟩, fun q => absurd rfl q⟩))
  have z14 : (0 ≤ i ∧ i < (nn : Int)) ∧ 0 ≤ j ∧ j < (nn : Int) → i ≠ j ∧ (0 ≤ tu ∧ tu ≤ 7) → Ex (d + 7) DD_over 14 [some (vR 100), some (vI i), some (vI j), some (vI tu), some (vI dx), some (vI dy), some (vI w)] [] (CM m F A L) Q := by
    intro z zz
    refine Ex_step (tk_DD_over rfl) ?_
    refine Ex_step (tk_DD_over rfl) ?_
    refine Ex_step (tk_DD_over rfl) ?_
    refine Ex_step (tk_DD_over rfl) ?_
    refine Ex_cVT (av := [vI dx, vI (-20), vI 20]) (tk_DD_over rfl) mk_DD_needNumber ⟨rfl, rfl, by decide, rfl, Nat.le_of_ble_eq_true rfl, Nat.le_of_ble_eq_true rfl⟩ hk11 rfl (d_needNumber h hxo ⟨by decide, by decide⟩ ⟨by decide, by decide⟩ (fun z2 => ⟨fun q => absurd q (by decide), fun _ => hb2 z (fun q => z2 q.2.2.1)⟩) (fun z2 => ⟨fun _ => z24 z ⟨zz.1, zz.2, z2⟩, fun q => absurd rfl q⟩))
  have z6 : (0 ≤ i ∧ i < (nn : Int)) ∧ 0 ≤ j ∧ j < (nn : Int) → i ≠ j → Ex (d + 7) DD_over 6 [some (vR 100), some (vI i), some (vI j), some (vI tu), some (vI dx), some (vI dy), some (vI w)] [] (CM m F A L) Q := by
    intro z zz
    refine Ex_step (tk_DD_over rfl) ?_
    refine Ex_step (tk_DD_over rfl) ?_
    refine Ex_step (tk_DD_over rfl) ?_
    refine Ex_step (tk_DD_over rfl) ?_
    refine Ex_cVT (av := [vI tu, vI 0, vI 7]) (tk_DD_over rfl) mk_DD_needNumber ⟨rfl, rfl, by decide, rfl, Nat.le_of_ble_eq_true rfl, Nat.le_of_ble_eq_true rfl⟩ hk11 rfl (d_needNumber h hto ⟨by decide, by decide⟩ ⟨by decide, by decide⟩ (fun z2 => ⟨fun q => absurd q (by decide), fun _ => hb2 z (fun q => z2 q.2.1)⟩) (fun z2 => ⟨fun _ => z14 z ⟨zz, z2⟩, fun q => absurd rfl q⟩))
  refine Ex_step (tk_DD_over rfl) ?_
  refine Ex_step (tk_DD_over rfl) ?_
  refine Ex_step (tk_DD_over rfl) ?_
  refine Ex_cVT (av := [vI i, vI j]) (tk_DD_over rfl) mk_DD_needTwo ⟨rfl, rfl, by decide, rfl, Nat.le_of_ble_eq_true rfl, Nat.le_of_ble_eq_true rfl⟩ hk11 rfl (d_needTwo h hi hj (fun z => ⟨fun q => absurd q (by decide), fun _ => hb1 z⟩) (fun z1 z2 => ⟨fun q => absurd q (by decide), fun _ => hb2 z1 (fun q => q.1 z2)⟩) (fun z1 z2 => ⟨fun _ => z6 z1 z2, fun q => absurd rfl q⟩))
end Ask2
