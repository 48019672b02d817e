/-! ===== the class: of ===== -/
section AskOf
variable {d : Nat} {m : Mem} {F A L F' A' L' : Nat → Nat → Int} {I : Nat → Int} {R : Nat → Nat → Int} {kb kd : Nat} {P : Nat → Nat} {ds : Nat → Nat → Nat} {nn b tp : Nat} {Q : Nat → Option AV → Mem → Prop} {a bb : Nat} {i j w : Int}
set_option maxRecDepth 100000 in
theorem d_of (be : Nat → Int) (h : DK m F A L I R kb kd P ds nn b tp) (hi : okI i) (hwo : okI w) (hb1 : ¬ (0 ≤ i ∧ i < (nn : Int)) → Q 1 none (alloc (CM m (upF F 707 100 (F 707 100 + 1)) A L) 22 0 6)) (hb2 : 0 ≤ i ∧ i < (nn : Int) → ¬ (0 ≤ w ∧ w ≤ 12) → Q 2 none (alloc (CM m (upF F 708 100 (F 708 100 + 1)) A L) 22 0 6)) (hok : 0 ≤ i ∧ i < (nn : Int) → 0 ≤ w ∧ w ≤ 12 → ∀ (v : Int) (m' : Mem) (F' A' L' : Nat → Nat → Int), w32 v = w32 (ofS (R 3) nn i.toNat be w.toNat) → DK m' F' A' L' I R kb kd P ds nn b tp → Out m m' F F' A A' L L' → Q 0 (some (vI v)) (CM m' F' A' L')) : Ex (d + 7) DD_of 0 [some (vR 100), some (vI i), some (vI w), none] [] (CM m F A L) Q := by
  have hk11 := h.w.k100
  have hr713 := h.w.r713
  have hr714 := h.w.r714
  have hr709 := h.y.r709
  have hk5 := h.w.ov.1
  have hk9 := h.w.sh.1
  have hn6 := h.now.1
  have hBW := h.y.bw h.w h.y.ib
  have hk2 := hBW.1
  have hr128 := hBW.2.1
  have ob := isBk_out h.y.ib
  have hdd := h.y.bd h.y.ib
  have z13 : 0 ≤ i ∧ i < (nn : Int) → 0 ≤ w ∧ w ≤ 12 → Ex (d + 7) DD_of 13 [some (vR 100), some (vI i), some (vI w), none] [] (CM m F A L) Q := by
    intro z zw
    have hok := hok z zw
    obtain ⟨a, rfl⟩ : ∃ a : Nat, i = (a : Int) := ⟨i.toNat, by omega⟩
    have ha : a < nn := by omega
    have hok : ∀ (v : Int) (m' : Mem) (F' A' L' : Nat → Nat → Int), w32 v = w32 (ofS (R 3) nn a be w.toNat) → DK m' F' A' L' I R kb kd P ds nn b tp → Out m m' F F' A A' L L' → Q 0 (some (vI v)) (CM m' F' A' L') := hok
    have hW := h.now.2.2.2 a ha
    have g := h.bk.2 a ha
    have hDW := (hBW.2.2.2.2 a (by omega)).2
    have hk3 := hDW.1
    have hda := hdd.1 a (by omega)
    have z23 : Ex (d + 7) DD_of 23 [some (vR 100), some (vI (a : Int)), some (vI w), some (vR (ds kb a))] [] (CM m F A L) Q := by
      have hc : w = 0 ∨ w = 1 ∨ w = 2 ∨ w = 3 ∨ w = 4 ∨ w = 5 ∨ w = 6 ∨ w = 7 ∨ w = 8 ∨ w = 9 ∨ w = 10 ∨ w = 11 ∨ w = 12 := by omega
      clear hb1 hb2 hwo zw
      rcases hc with rfl | rfl | rfl | rfl | rfl | rfl | rfl | rfl | rfl | rfl | rfl | rfl | rfl
      · have zz : Ex (d + 7) DD_of 92 [some (vR 100), some (vI (a : Int)), some (vI 0), some (vR (ds kb a))] [] (CM m F A L) Q := by
          refine Ex_step (tk_DD_of rfl) ?_
          refine gCI (tk_DD_of rfl) (hk3) ?_
          rw [g.1]
          refine Ex_step (tk_DD_of rfl) ⟨rfl, ?_⟩
          exact hok _ _ F A L rfl h (Out.rf m F A L)
        refine Ex_step (tk_DD_of rfl) ?_
        refine Ex_step (tk_DD_of rfl) ?_
        exact zz
      · have zz : Ex (d + 7) DD_of 97 [some (vR 100), some (vI (a : Int)), some (vI 1), some (vR (ds kb a))] [] (CM m F A L) Q := by
          refine Ex_step (tk_DD_of rfl) ?_
          refine gCI (tk_DD_of rfl) (hk3) ?_
          rw [g.2.1]
          refine Ex_step (tk_DD_of rfl) ⟨rfl, ?_⟩
          exact hok _ _ F A L rfl h (Out.rf m F A L)
        refine Ex_step (tk_DD_of rfl) ?_
        refine Ex_step (tk_DD_of rfl) ?_
        exact zz
      · have zz : Ex (d + 7) DD_of 102 [some (vR 100), some (vI (a : Int)), some (vI 2), some (vR (ds kb a))] [] (CM m F A L) Q := by
          refine Ex_step (tk_DD_of rfl) ?_
          refine gCI (tk_DD_of rfl) (hk3) ?_
          rw [g.2.2.1]
          refine Ex_step (tk_DD_of rfl) ⟨rfl, ?_⟩
          exact hok _ _ F A L rfl h (Out.rf m F A L)
        refine Ex_step (tk_DD_of rfl) ?_
        refine Ex_step (tk_DD_of rfl) ?_
        exact zz
      · have zz : Ex (d + 7) DD_of 174 [some (vR 100), some (vI (a : Int)), some (vI 3), some (vR (ds kb a))] [] (CM m F A L) Q := by
          have hc := fun (Q1 : Nat → Option AV → Mem → Prop) => c_countOf (d := d + 4) (L := L) (Q := Q1) (so := 3 - 3) hDW g.2 hW (by decide)
          refine Ex_step (tk_DD_of rfl) ?_
          refine Ex_step (tk_DD_of rfl) ?_
          refine Ex_step (tk_DD_of rfl) ?_
          refine Ex_step (tk_DD_of rfl) ?_
          refine Ex_cV0 (av := [vI (3 - 3)]) (tk_DD_of rfl) mk_Des_countOfSort ⟨rfl, rfl, by decide, rfl, Nat.le_of_ble_eq_true rfl, Nat.le_of_ble_eq_true rfl⟩ (hk3) (fun _ h => hc _ h) ?_
          refine Ex_step (tk_DD_of rfl) ⟨rfl, ?_⟩
          exact hok _ _ F A L rfl h (Out.rf m F A L)
        refine Ex_step (tk_DD_of rfl) ?_
        refine Ex_step (tk_DD_of rfl) ?_
        exact zz
      · have zz : Ex (d + 7) DD_of 174 [some (vR 100), some (vI (a : Int)), some (vI 4), some (vR (ds kb a))] [] (CM m F A L) Q := by
          have hc := fun (Q1 : Nat → Option AV → Mem → Prop) => c_countOf (d := d + 4) (L := L) (Q := Q1) (so := 4 - 3) hDW g.2 hW (by decide)
          refine Ex_step (tk_DD_of rfl) ?_
          refine Ex_step (tk_DD_of rfl) ?_
          refine Ex_step (tk_DD_of rfl) ?_
          refine Ex_step (tk_DD_of rfl) ?_
          refine Ex_cV0 (av := [vI (4 - 3)]) (tk_DD_of rfl) mk_Des_countOfSort ⟨rfl, rfl, by decide, rfl, Nat.le_of_ble_eq_true rfl, Nat.le_of_ble_eq_true rfl⟩ (hk3) (fun _ h => hc _ h) ?_
          refine Ex_step (tk_DD_of rfl) ⟨rfl, ?_⟩
          exact hok _ _ F A L rfl h (Out.rf m F A L)
        refine Ex_step (tk_DD_of rfl) ?_
        refine Ex_step (tk_DD_of rfl) ?_
        exact zz
      · have zz : Ex (d + 7) DD_of 174 [some (vR 100), some (vI (a : Int)), some (vI 5), some (vR (ds kb a))] [] (CM m F A L) Q := by
          have hc := fun (Q1 : Nat → Option AV → Mem → Prop) => c_countOf (d := d + 4) (L := L) (Q := Q1) (so := 5 - 3) hDW g.2 hW (by decide)
          refine Ex_step (tk_DD_of rfl) ?_
          refine Ex_step (tk_DD_of rfl) ?_
          refine Ex_step (tk_DD_of rfl) ?_
          refine Ex_step (tk_DD_of rfl) ?_
          refine Ex_cV0 (av := [vI (5 - 3)]) (tk_DD_of rfl) mk_Des_countOfSort ⟨rfl, rfl, by decide, rfl, Nat.le_of_ble_eq_true rfl, Nat.le_of_ble_eq_true rfl⟩ (hk3) (fun _ h => hc _ h) ?_
          refine Ex_step (tk_DD_of rfl) ⟨rfl, ?_⟩
          exact hok _ _ F A L rfl h (Out.rf m F A L)
        refine Ex_step (tk_DD_of rfl) ?_
        refine Ex_step (tk_DD_of rfl) ?_
        exact zz
      · have zz : Ex (d + 7) DD_of 174 [some (vR 100), some (vI (a : Int)), some (vI 6), some (vR (ds kb a))] [] (CM m F A L) Q := by
          have hc := fun (Q1 : Nat → Option AV → Mem → Prop) => c_countOf (d := d + 4) (L := L) (Q := Q1) (so := 6 - 3) hDW g.2 hW (by decide)
          refine Ex_step (tk_DD_of rfl) ?_
          refine Ex_step (tk_DD_of rfl) ?_
          refine Ex_step (tk_DD_of rfl) ?_
          refine Ex_step (tk_DD_of rfl) ?_
          refine Ex_cV0 (av := [vI (6 - 3)]) (tk_DD_of rfl) mk_Des_countOfSort ⟨rfl, rfl, by decide, rfl, Nat.le_of_ble_eq_true rfl, Nat.le_of_ble_eq_true rfl⟩ (hk3) (fun _ h => hc _ h) ?_
          refine Ex_step (tk_DD_of rfl) ⟨rfl, ?_⟩
          exact hok _ _ F A L rfl h (Out.rf m F A L)
        refine Ex_step (tk_DD_of rfl) ?_
        refine Ex_step (tk_DD_of rfl) ?_
        exact zz
      · have zz : Ex (d + 7) DD_of 107 [some (vR 100), some (vI (a : Int)), some (vI 7), some (vR (ds kb a))] [] (CM m F A L) Q := by
          have hc := fun (Q1 : Nat → Option AV → Mem → Prop) => c_edgeOf (d := d + 4) (L := L) (Q := Q1) (l0 := some (vR 353)) hDW g.2 hW
          refine Ex_step (tk_DD_of rfl) ?_
          refine gCR (tk_DD_of rfl) (hk11) (hr714) ?_
          refine Ex_step (tk_DD_of rfl) ?_
          refine Ex_cV0 (av := [vR (ds kb a)]) (tk_DD_of rfl) mk_Shp_edgeOf ⟨rfl, rfl, by decide, rfl, Nat.le_of_ble_eq_true rfl, Nat.le_of_ble_eq_true rfl⟩ (hk9) (fun _ h => hc _ h) ?_
          refine Ex_step (tk_DD_of rfl) ⟨rfl, ?_⟩
          exact hok _ _ F A L rfl h (Out.rf m F A L)
        refine Ex_step (tk_DD_of rfl) ?_
        refine Ex_step (tk_DD_of rfl) ?_
        exact zz
      · have zz : Ex (d + 7) DD_of 116 [some (vR 100), some (vI (a : Int)), some (vI 8), some (vR (ds kb a))] [] (CM m F A L) Q := by
          have hc := fun (Q1 : Nat → Option AV → Mem → Prop) => c_partsOf (d := d + 1) (L := L) (Q := Q1) h.w.sh hDW (by omega) g.2 hW be
          refine Ex_step (tk_DD_of rfl) ?_
          refine gCR (tk_DD_of rfl) (hk11) (hr714) ?_
          refine Ex_step (tk_DD_of rfl) ?_
          refine Ex_cVK (av := [vR (ds kb a)]) (tk_DD_of rfl) mk_Shp_partsOf ⟨rfl, rfl, by decide, rfl, Nat.le_of_ble_eq_true rfl, Nat.le_of_ble_eq_true rfl⟩ (hk9) (hc _ (fun F1 A1 sf => ⟨rfl, ?_⟩))
          refine Ex_step (tk_DD_of rfl) ⟨rfl, ?_⟩
          exact hok _ _ F1 A1 L rfl (h.sc (fun j q => sf.2 j (by omega) (by omega)) (fun f j q => sf.1 f j (by omega))) (Out.s (fun f j q => sf.1 f j (by omega)) (fun j q => sf.2 j (by omega) (by omega)) (fun _ _ => rfl))
        refine Ex_step (tk_DD_of rfl) ?_
        refine Ex_step (tk_DD_of rfl) ?_
        exact zz
      · have zz : Ex (d + 7) DD_of 125 [some (vR 100), some (vI (a : Int)), some (vI 9), some (vR (ds kb a))] [] (CM m F A L) Q := by
          have hc := fun (Q1 : Nat → Option AV → Mem → Prop) => c_holesOf (d := d + 1) (L := L) (Q := Q1) h.w.sh hDW (by omega) g.2 hW be
          refine Ex_step (tk_DD_of rfl) ?_
          refine gCR (tk_DD_of rfl) (hk11) (hr714) ?_
          refine Ex_step (tk_DD_of rfl) ?_
          refine Ex_cVK (av := [vR (ds kb a)]) (tk_DD_of rfl) mk_Shp_holesOf ⟨rfl, rfl, by decide, rfl, Nat.le_of_ble_eq_true rfl, Nat.le_of_ble_eq_true rfl⟩ (hk9) (hc _ (fun F1 A1 sf => ⟨rfl, ?_⟩))
          refine Ex_step (tk_DD_of rfl) ⟨rfl, ?_⟩
          exact hok _ _ F1 A1 L rfl (h.sc (fun j q => sf.2 j (by omega) (by omega)) (fun f j q => sf.1 f j (by omega))) (Out.s (fun f j q => sf.1 f j (by omega)) (fun j q => sf.2 j (by omega) (by omega)) (fun _ _ => rfl))
        refine Ex_step (tk_DD_of rfl) ?_
        refine Ex_step (tk_DD_of rfl) ?_
        exact zz
      · have zz : Ex (d + 7) DD_of 134 [some (vR 100), some (vI (a : Int)), some (vI 10), some (vR (ds kb a))] [] (CM m F A L) Q := by
          have hc := fun (Q1 : Nat → Option AV → Mem → Prop) => c_looksOf (d := d + 3) (L := L) (Q := Q1) h.w.sh hDW (by omega) g.2 hW
          refine Ex_step (tk_DD_of rfl) ?_
          refine gCR (tk_DD_of rfl) (hk11) (hr714) ?_
          refine Ex_step (tk_DD_of rfl) ?_
          refine Ex_cVK (av := [vR (ds kb a)]) (tk_DD_of rfl) mk_Shp_looksOf ⟨rfl, rfl, by decide, rfl, Nat.le_of_ble_eq_true rfl, Nat.le_of_ble_eq_true rfl⟩ (hk9) (hc _ (fun v F1 A1 hv kF kA => ⟨rfl, ?_⟩))
          refine Ex_step (tk_DD_of rfl) ⟨rfl, ?_⟩
          exact hok v _ F1 A1 L hv (h.sc (fun j q => kA j (by omega) (by omega)) (fun f j q => kF j f (by omega))) (Out.s (fun f j q => kF j f (by omega)) (fun j q => kA j (by omega) (by omega)) (fun _ _ => rfl))
        refine Ex_step (tk_DD_of rfl) ?_
        refine Ex_step (tk_DD_of rfl) ?_
        exact zz
      · have zz : Ex (d + 7) DD_of 143 [some (vR 100), some (vI (a : Int)), some (vI 11), some (vR (ds kb a))] [] (CM m F A L) Q := by
          have hc := fun (Q1 : Nat → Option AV → Mem → Prop) => c_freedom (d := d + 3) (L := L) (Q := Q1) hDW g.2 hW
          refine Ex_step (tk_DD_of rfl) ?_
          refine Ex_cV0 (av := []) (tk_DD_of rfl) mk_Des_freedom ⟨rfl, rfl, by decide, rfl, Nat.le_of_ble_eq_true rfl, Nat.le_of_ble_eq_true rfl⟩ (hk3) (fun _ h => hc _ h) ?_
          refine Ex_step (tk_DD_of rfl) ⟨rfl, ?_⟩
          exact hok _ _ F A L rfl h (Out.rf m F A L)
        refine Ex_step (tk_DD_of rfl) ?_
        refine Ex_step (tk_DD_of rfl) ?_
        exact zz
      · have zz : Ex (d + 7) DD_of 148 [some (vR 100), some (vI (a : Int)), some (vI 12), some (vR (ds kb a))] [] (CM m F A L) Q := by
          have z160 : ∀ (x y : Nat) (F1 A1 : Nat → Nat → Int), KO 310 F F1 A A1 → DK (sOv m 310 x y) F1 A1 L I R kb kd P ds nn b tp → KA F1 a nn → Ex (d + 7) DD_of 160 [some (vR 100), some (vI (a : Int)), some (vI 12), some (vR (ds kb a))] [] (CM (sOv m 310 x y) F1 A1 L) Q := by
            intro x y F1 A1 ko h1 hka
            have hk11 := h1.w.k100
            have hq : ∀ v : Int, v = b2i ((prS (R 3) a nn).1 < (prS (R 3) a nn).2.1) → Q 0 (some (vI v)) (CM (sOv m 310 x y) F1 A1 L) := fun v hv => hok v _ F1 A1 L (by rw [hv]; rfl) h1 ko.out
            have hin := fun (Q1 : Nat → Option AV → Mem → Prop) => d_isNew (d := d + 2) (Q := Q1) h1 ha hka
            by_cases c : (prS (R 3) a nn).1 < (prS (R 3) a nn).2.1
            · rw [show b2i ((prS (R 3) a nn).1 < (prS (R 3) a nn).2.1) = 1 from if_pos c] at hq hin
              refine Ex_step (tk_DD_of rfl) ?_
              refine Ex_step (tk_DD_of rfl) ?_
              refine Ex_cV0 (av := [vI (a : Int)]) (tk_DD_of rfl) mk_DD_isNew ⟨rfl, rfl, by decide, rfl, Nat.le_of_ble_eq_true rfl, Nat.le_of_ble_eq_true rfl⟩ (hk11) (fun _ h => hin _ h) ?_
              refine Ex_step (tk_DD_of rfl) ⟨fun h165 => ?_, fun h165 => ?_⟩
              · replace h165 : _ := h165
                exact absurd (show w32 1 = w32 0 from h165) (by decide)
              · replace h165 : _ := h165
                refine Ex_step (tk_DD_of rfl) ?_
                refine Ex_step (tk_DD_of rfl) ?_
                refine Ex_step (tk_DD_of rfl) ⟨rfl, ?_⟩
                exact hq _ rfl
            · rw [show b2i ((prS (R 3) a nn).1 < (prS (R 3) a nn).2.1) = 0 from if_neg c] at hq hin
              refine Ex_step (tk_DD_of rfl) ?_
              refine Ex_step (tk_DD_of rfl) ?_
              refine Ex_cV0 (av := [vI (a : Int)]) (tk_DD_of rfl) mk_DD_isNew ⟨rfl, rfl, by decide, rfl, Nat.le_of_ble_eq_true rfl, Nat.le_of_ble_eq_true rfl⟩ (hk11) (fun _ h => hin _ h) ?_
              refine Ex_step (tk_DD_of rfl) ⟨fun h165 => ?_, fun h165 => ?_⟩
              · replace h165 : _ := h165
                refine Ex_step (tk_DD_of rfl) ?_
                refine Ex_step (tk_DD_of rfl) ⟨rfl, ?_⟩
                exact hq _ rfl
              · replace h165 : _ := h165
                exact absurd rfl h165
          refine Ex_step (tk_DD_of rfl) ?_
          refine gCR (tk_DD_of rfl) (hk11) (hr713) ?_
          refine Ex_step (tk_DD_of rfl) ?_
          refine gCR (tk_DD_of rfl) (hk11) (hr709) ?_
          refine Ex_step (tk_DD_of rfl) ?_
          refine Ex_cVK (av := [vR kb, vI (a : Int)]) (tk_DD_of rfl) mk_Ov_learnFrom ⟨rfl, rfl, by decide, rfl, Nat.le_of_ble_eq_true rfl, Nat.le_of_ble_eq_true rfl⟩ (hk5) (d_learnFrom h ha (fun x y F1 A1 ko h1 hka => ⟨rfl, ?_⟩))
          exact z160 x y F1 A1 ko h1 hka
        refine Ex_step (tk_DD_of rfl) ?_
        refine Ex_step (tk_DD_of rfl) ?_
        exact zz
    refine Ex_step (tk_DD_of rfl) ?_
    refine gCR (tk_DD_of rfl) (hk11) (hr709) ?_
    refine gCR (tk_DD_of rfl) (hk2) (hr128) ?_
    refine Ex_step (tk_DD_of rfl) ?_
    refine lCR (n := a) (tk_DD_of rfl) (⟨⟨by rw [hBW.2.2.1]; decide, by rw [hBW.2.2.1]; decide⟩, hBW.2.2.2.1, (hBW.2.2.2.2 a (by omega)).1⟩) (w32_id (by omega) (by omega)) (by omega) ?_
    refine Ex_step (tk_DD_of rfl) ?_
    exact z23
  have z5 : 0 ≤ i ∧ i < (nn : Int) → Ex (d + 7) DD_of 5 [some (vR 100), some (vI i), some (vI w), none] [] (CM m F A L) Q := by
    intro z
    refine Ex_step (tk_DD_of rfl) ?_
    refine Ex_step (tk_DD_of rfl) ?_
    refine Ex_step (tk_DD_of rfl) ?_
    refine Ex_step (tk_DD_of rfl) ?_
    refine Ex_cVT (av := [vI w, vI 0, vI 12]) (tk_DD_of rfl) mk_DD_needNumber ⟨rfl, rfl, by decide, rfl, Nat.le_of_ble_eq_true rfl, Nat.le_of_ble_eq_true rfl⟩ hk11 rfl (d_needNumber h hwo ⟨by decide, by decide⟩ ⟨by decide, by decide⟩ (fun z2 => ⟨fun q => absurd q (by decide), fun _ => hb2 z z2⟩) (fun z2 => ⟨fun _ => z13 z z2, fun q => absurd rfl q⟩))
  refine Ex_step (tk_DD_of rfl) ?_
  refine Ex_step (tk_DD_of rfl) ?_
  refine Ex_cVT (av := [vI i]) (tk_DD_of rfl) mk_DD_needDesign ⟨rfl, rfl, by decide, rfl, Nat.le_of_ble_eq_true rfl, Nat.le_of_ble_eq_true rfl⟩ hk11 rfl (d_needDesign h hi (fun z => ⟨fun q => absurd q (by decide), fun _ => hb1 z⟩) (fun z => ⟨fun _ => z5 z, fun q => absurd rfl q⟩))
end AskOf
