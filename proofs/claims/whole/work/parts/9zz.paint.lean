/-! ===== the class: paint ===== -/
set_option maxRecDepth 100000 in
theorem srt_up {T : Nat → Int} {a : Nat} {x y w : Int} (hD : DsW T a) (hg : inG T a x y) : srt (up1 T (bD a + 3 + (10 * y.toNat + x.toNat)) w) a = updF (srt T a) x y w := by
  have h1 := hD.2.1
  have h2 := hD.2.2.1
  have hg' : (0 ≤ x ∧ x ≤ T (bD a + 1) - 1) ∧ 0 ≤ y ∧ y ≤ T (bD a + 2) - 1 := hg
  have e1 : up1 T (bD a + 3 + (10 * y.toNat + x.toNat)) w (bD a + 1) = T (bD a + 1) := up1_ne _ _ (by omega)
  have e2 : up1 T (bD a + 3 + (10 * y.toNat + x.toNat)) w (bD a + 2) = T (bD a + 2) := up1_ne _ _ (by omega)
  funext X Y
  unfold srt updF
  by_cases q : inG T a X Y
  · have q' : (0 ≤ X ∧ X ≤ T (bD a + 1) - 1) ∧ 0 ≤ Y ∧ Y ≤ T (bD a + 2) - 1 := q
    rw [if_pos (show inG (up1 T (bD a + 3 + (10 * y.toNat + x.toNat)) w) a X Y by unfold inG; rw [e1, e2]; exact q')]
    by_cases z : X = x ∧ Y = y
    · rw [if_pos z, z.1, z.2, up1_at]
    · rw [if_neg z, up1_ne _ _ (by omega)]
      exact (if_pos q).symm
  · have q' : ¬ ((0 ≤ X ∧ X ≤ T (bD a + 1) - 1) ∧ 0 ≤ Y ∧ Y ≤ T (bD a + 2) - 1) := q
    rw [if_neg (show ¬ inG (up1 T (bD a + 3 + (10 * y.toNat + x.toNat)) w) a X Y by unfold inG; rw [e1, e2]; exact q')]
    rw [if_neg (fun z => q (by rw [z.1, z.2]; exact hg))]
    exact (if_neg q).symm
section Paint
variable {d : Nat} {m m' : Mem} {F F' A A' L : Nat → Nat → Int} {I I' : Nat → Int} {R : Nat → Nat → Int} {kb kd : Nat} {P : Nat → Nat} {ds ds' : Nat → Nat → Nat} {nn n2 b tp : Nat} {Q : Nat → Option AV → Mem → Prop} {i x y w : Int}
set_option maxRecDepth 100000 in
theorem d_paint (h : DK m F A L I R kb kd P ds nn b tp) (hi : okI i) (hx : okI x) (hy : okI y) (hw : okI w) (hb1 : ¬ ((0 ≤ i ∧ i < (nn : Int)) ∧ inG (R 3) i.toNat x y) → Q 1 none (alloc (CM m (upF F 707 100 (F 707 100 + 1)) A L) 22 0 6)) (hb2 : (0 ≤ i ∧ i < (nn : Int)) ∧ inG (R 3) i.toNat x y → ¬ (0 ≤ w ∧ w ≤ 3) → Q 2 none (alloc (CM m (upF F 708 100 (F 708 100 + 1)) A L) 22 0 6)) (hok : (0 ≤ i ∧ i < (nn : Int)) ∧ inG (R 3) i.toNat x y → 0 ≤ w ∧ w ≤ 3 → ∀ (m' : Mem) (F' A' : Nat → Nat → Int) (P' : Nat → Nat), DK m' F' A' L (up1 (up1 I 0 0) 12 (remB b : Nat)) (up1 (remA b R) 3 (up1 (R 3) (bD i.toNat + 3 + (10 * y.toNat + x.toNat)) w)) kb kd P' ds nn (remB b) tp → Out m m' F F' A A' L L → Q 0 (some (vI (R 3 (bD i.toNat + 3 + (10 * y.toNat + x.toNat))))) (CM m' F' A' L)) : Ex (d + 3) DD_paint 0 [some (vR 100), some (vI i), some (vI x), some (vI y), some (vI w), none, none] [] (CM m F A L) Q := by
  have hk11 := h.w.k100
  have hr711 := h.w.r711
  have hr709 := h.y.r709
  have hk4 := h.w.k142
  have hn6 := h.now.1
  have z15 : (0 ≤ i ∧ i < (nn : Int)) ∧ inG (R 3) i.toNat x y → 0 ≤ w ∧ w ≤ 3 → Ex (d + 3) DD_paint 15 [some (vR 100), some (vI i), some (vI x), some (vI y), some (vI w), none, none] [] (CM m F A L) Q := by
    intro z zw
    have hok := hok z zw
    obtain ⟨a, rfl⟩ : ∃ a : Nat, i = (a : Int) := ⟨i.toNat, by omega⟩
    have ha : a < nn := by omega
    have hg : inG (R 3) a x y := z.2
    have hg' : (0 ≤ x ∧ x ≤ R 3 (bD a + 1) - 1) ∧ 0 ≤ y ∧ y ≤ R 3 (bD a + 2) - 1 := hg
    have hok : ∀ (m' : Mem) (F' A' : Nat → Nat → Int) (P' : Nat → Nat), DK m' F' A' L (up1 (up1 I 0 0) 12 (remB b : Nat)) (up1 (remA b R) 3 (up1 (R 3) (bD a + 3 + (10 * y.toNat + x.toNat)) w)) kb kd P' ds nn (remB b) tp → Out m m' F F' A A' L L → Q 0 (some (vI (R 3 (bD a + 3 + (10 * y.toNat + x.toNat))))) (CM m' F' A' L) := hok
    have hWa := h.now.2.2.2 a ha
    have wa := hWa.2.1
    have wb := hWa.2.2.1
    have z26 : ∀ (m1 : Mem) (F1 A1 : Nat → Nat → Int) (P1 : Nat → Nat), DK m1 F1 A1 L (up1 I 12 (remB b : Nat)) (remA b R) kb kd P1 ds nn (remB b) tp → Out m m1 F F1 A A1 L L → Ex (d + 3) DD_paint 26 [some (vR 100), some (vI (a : Int)), some (vI x), some (vI y), some (vI w), none, none] [] (CM m1 F1 A1 L) Q := by
      intro m1 F1 A1 P1 h1 o1
      have hk11 := h1.w.k100
      have hr709 := h1.y.r709
      have hr713 := h1.w.r713
      have hk5 := h1.w.ov.1
      have hBW := h1.y.bw h1.w h1.y.ib
      have hBD := h1.y.bd h1.y.ib
      have hk2 := hBW.1
      have hr128 := hBW.2.1
      have hbk := h1.bk
      have hkn := h1.kn
      rw [remA_3] at hbk hkn
      have g := hbk.2 a ha
      have hDW := (hBW.2.2.2.2 a (by omega)).2
      have hk3 := hDW.1
      have hda := hBD.1 a (by omega)
      have oz := isBk_out h.y.ib
      have hsa := fun (Q1 : Nat → Option AV → Mem → Prop) => c_sortAt (d := d + 1) (L := L) (Q := Q1) hDW g.2 (srt_FG hWa) hx hy
      rw [show srt (R 3) a x y = R 3 (bD a + 3 + (10 * y.toNat + x.toNat)) from if_pos hg] at hsa
      have hpt := fun (Q1 : Nat → Option AV → Mem → Prop) => c_put (d := d + 2) (F := F1) (L := L) (Q := Q1) (x := x) (y := y) (so := w) hDW g.2.2.2 (by omega) (by omega) zw
      have hfg := fun (Q1 : Nat → Option AV → Mem → Prop) (A2 : Nat → Nat → Int) => c_forget (d := d + 2) (F := F1) (A := A2) (L := L) (Q := Q1) (a := a) h1.w.ov (by omega)
      have fin : ∀ A2 : Nat → Nat → Int, (∀ j, j ≠ ds kb a + 1 → j ≠ ds kb a + 2 → A2 j = A1 j) → DB A2 (ds kb a) (updF (srt (R 3) a) x y w) → Q 0 (some (vI (R 3 (bD a + 3 + (10 * y.toNat + x.toNat))))) (CM m1 (fgF F1 310 (fun k => k / 6 = a ∨ k % 6 = a) 36) A2 L) := by
        intro A2 kA2 hdb
        have ba : bD a = 2 + 103 * a := rfl
        have hsm : ∀ dd, dd ≠ a → ∀ j, bD dd ≤ j → j < bD dd + 103 → up1 (R 3) (bD a + 3 + (10 * y.toNat + x.toNat)) w j = R 3 j := fun dd hdd j y1 y2 => up1_ne _ _ (fun e => by
          have b1 : bD dd = 2 + 103 * dd := rfl
          omega)
        have hN' : NowW (up1 (R 3) (bD a + 3 + (10 * y.toNat + x.toNat)) w) nn := by
          obtain ⟨w1, w2, w3, w4⟩ := h.now
          refine ⟨w1, (up1_ne _ _ (by omega)).trans w2, by rw [up1_ne _ _ (by omega)]; exact w3, fun dd hd => ?_⟩
          by_cases e : dd = a
          · subst e
            obtain ⟨v1, v2, v3, v4⟩ := w4 dd hd
            refine ⟨by rw [up1_ne _ _ (by omega)]; exact v1, by rw [up1_ne _ _ (by omega)]; exact v2, by rw [up1_ne _ _ (by omega)]; exact v3, fun k hk => ?_⟩
            by_cases e2 : bD dd + 3 + k = bD dd + 3 + (10 * y.toNat + x.toNat)
            · rw [e2, up1_at]; exact zw
            · rw [up1_ne _ _ e2]; exact v4 k hk
          · exact (w4 dd hd).e (hsm dd e)
        have kF2 : ∀ f j, ¬ (f = 64 ∧ 312 ≤ j ∧ j < 348) → fgF F1 310 (fun k => k / 6 = a ∨ k % 6 = a) 36 f j = F1 f j := fun f j q => fgF_o 36 f j (by omega)
        have hd := h1.now_ (I' := up1 (up1 I 0 0) 12 (remB b : Nat)) (F' := fgF F1 310 (fun k => k / 6 = a ∨ k % 6 = a) 36) (A' := A2) (T' := up1 (R 3) (bD a + 3 + (10 * y.toNat + x.toNat)) w) (n2 := nn) (SAm.rf m1) h1.y (fun _ _ => rfl) (fun _ _ => rfl) (fun f j _ y2 => kF2 f j y2) (fun j q => kA2 j (by omega) (by omega)) hN' ⟨(kF2 _ _ (by omega)).trans hbk.1, fun j hj => by
            have gj := hbk.2 j hj
            have hdj := hBD.1 j (by omega)
            by_cases e : j = a
            · subst e
              rw [up1_ne _ _ (by omega), up1_ne _ _ (by omega), up1_ne _ _ (by omega), srt_up hWa hg]
              exact ⟨(kF2 _ _ (by omega)).trans gj.1, (kF2 _ _ (by omega)).trans gj.2.1, (kF2 _ _ (by omega)).trans gj.2.2.1, hdb⟩
            · have hfar := hBD.2 j a (by omega) (by omega) e
              rw [hsm j e _ (by omega) (by omega), hsm j e (bD j + 1) (by omega) (by omega), hsm j e (bD j + 2) (by omega) (by omega), srt_e (h.now.2.2.2 j hj) (hsm j e)]
              exact ⟨(kF2 _ _ (by omega)).trans gj.1, (kF2 _ _ (by omega)).trans gj.2.1, (kF2 _ _ (by omega)).trans gj.2.2.1, fun y hy k hk => by rw [kA2 _ (by omega) (by omega), kA2 _ (by omega) (by omega)]; exact gj.2.2.2 y hy k hk⟩⟩ ⟨fun k hk => by
            rw [fgF_i 36 k hk]
            split
            · exact Or.inl rfl
            · exact hkn.1 k hk, fun a2 b2 ha2 hb2 hab2 z2 => by
            have e2 := fgF_i (F := F1) (o := 310) (p := fun k => k / 6 = a ∨ k % 6 = a) 36 (a2 * 6 + b2) (by omega)
            rw [e2] at z2
            by_cases q : (a2 * 6 + b2) / 6 = a ∨ (a2 * 6 + b2) % 6 = a
            · rw [if_pos q] at z2; cases z2
            · rw [if_neg q] at z2
              have na : a2 ≠ a := by omega
              have nb : b2 ≠ a := by omega
              have kk := hkn.2 a2 b2 ha2 hb2 hab2 z2
              rw [bestS_c (T := R 3) (fun j y1 y2 => hsm a2 na j (by omega) y2) (fun j y1 y2 => hsm b2 nb j (by omega) y2) (h.now.2.2.2 a2 ha2) (h.now.2.2.2 b2 hb2)]
              unfold CRF at kk ⊢
              rw [kF2 65 _ (by omega), kF2 66 _ (by omega), kF2 67 _ (by omega), kF2 68 _ (by omega), kF2 69 _ (by omega)]
              exact kk⟩ (fun j hj => by
            rw [remA_3]
            exact up1_ne _ _ (by omega)) (fun i hi => by
            rcases hi with rfl | rfl | rfl <;> rfl)
        have o2 : Out m m1 F (fgF F1 310 (fun k => k / 6 = a ∨ k % 6 = a) 36) A A2 L L := ⟨o1.1, fun j q1 q2 => ⟨⟨(o1.2 j q1 q2).1.1, (o1.2 j q1 q2).1.2.1, (o1.2 j q1 q2).1.2.2.1, (kA2 j (by omega) (by omega)).trans (o1.2 j q1 q2).1.2.2.2.1, (o1.2 j q1 q2).1.2.2.2.2⟩, fun f => ⟨((o1.2 j q1 q2).2 f).1, (kF2 f j (by omega)).trans ((o1.2 j q1 q2).2 f).2⟩⟩⟩
        exact hok m1 _ A2 P1 hd o2
      refine Ex_step (tk_DD_paint rfl) ?_
      refine gCR (tk_DD_paint rfl) (hk11) (hr709) ?_
      refine gCR (tk_DD_paint rfl) (hk2) (hr128) ?_
      refine Ex_step (tk_DD_paint rfl) ?_
      refine lCR (n := a) (tk_DD_paint rfl) (⟨⟨by rw [hBW.2.2.1]; decide, by rw [hBW.2.2.1]; decide⟩, hBW.2.2.2.1, (hBW.2.2.2.2 a (by omega)).1⟩) (w32_id (by omega) (by omega)) (by omega) ?_
      refine Ex_step (tk_DD_paint rfl) ?_
      refine Ex_step (tk_DD_paint rfl) ?_
      refine Ex_step (tk_DD_paint rfl) ?_
      refine Ex_step (tk_DD_paint rfl) ?_
      refine Ex_cV0 (av := [vI x, vI y]) (tk_DD_paint rfl) mk_Des_sortAt ⟨rfl, rfl, by decide, rfl, Nat.le_of_ble_eq_true rfl, Nat.le_of_ble_eq_true rfl⟩ (hk3) (fun _ h => hsa _ h) ?_
      refine Ex_step (tk_DD_paint rfl) ?_
      refine Ex_step (tk_DD_paint rfl) ?_
      refine Ex_step (tk_DD_paint rfl) ?_
      refine Ex_step (tk_DD_paint rfl) ?_
      refine Ex_step (tk_DD_paint rfl) ?_
      refine Ex_cVK (av := [vI x, vI y, vI w]) (tk_DD_paint rfl) mk_Des_put ⟨rfl, rfl, by decide, rfl, Nat.le_of_ble_eq_true rfl, Nat.le_of_ble_eq_true rfl⟩ (hk3) (hpt _ (fun A2 kA2 hdb => ⟨rfl, ?_⟩))
      refine Ex_step (tk_DD_paint rfl) ?_
      refine gCR (tk_DD_paint rfl) (hk11) (hr713) ?_
      refine Ex_step (tk_DD_paint rfl) ?_
      refine Ex_cV0 (av := [vI (a : Int)]) (tk_DD_paint rfl) mk_Ov_forget ⟨rfl, rfl, by decide, rfl, Nat.le_of_ble_eq_true rfl, Nat.le_of_ble_eq_true rfl⟩ (hk5) (fun _ h => hfg _ A2 h) ?_
      refine Ex_step (tk_DD_paint rfl) ?_
      refine Ex_step (tk_DD_paint rfl) ⟨rfl, ?_⟩
      exact fin A2 kA2 hdb
    have hkp := fun (Q1 : Nat → Option AV → Mem → Prop) => d_keep (d := d) (Q := Q1) h
    refine Ex_step (tk_DD_paint rfl) ?_
    refine gCR (tk_DD_paint rfl) (hk11) (hr711) ?_
    refine Ex_step (tk_DD_paint rfl) ?_
    refine gCR (tk_DD_paint rfl) (hk11) (hr709) ?_
    refine Ex_cVK (av := [vR kb]) (tk_DD_paint rfl) mk_Hist_keep ⟨rfl, rfl, by decide, rfl, Nat.le_of_ble_eq_true rfl, Nat.le_of_ble_eq_true rfl⟩ (hk4) (hkp _ (fun m1 F1 A1 P1 h1 o1 => ⟨rfl, ?_⟩))
    exact z26 m1 F1 A1 P1 h1 o1
  have z7 : (0 ≤ i ∧ i < (nn : Int)) ∧ inG (R 3) i.toNat x y → Ex (d + 3) DD_paint 7 [some (vR 100), some (vI i), some (vI x), some (vI y), some (vI w), none, none] [] (CM m F A L) Q := by
    intro z
    refine Ex_step (tk_DD_paint rfl) ?_
    refine Ex_step (tk_DD_paint rfl) ?_
    refine Ex_step (tk_DD_paint rfl) ?_
    refine Ex_step (tk_DD_paint rfl) ?_
    refine Ex_cVT (av := [vI w, vI 0, vI 3]) (tk_DD_paint rfl) mk_DD_needNumber ⟨rfl, rfl, by decide, rfl, Nat.le_of_ble_eq_true rfl, Nat.le_of_ble_eq_true rfl⟩ hk11 rfl (d_needNumber h hw ⟨by decide, by decide⟩ ⟨by decide, by decide⟩ (fun z2 => ⟨fun q => absurd q (by decide), fun _ => hb2 z z2⟩) (fun z2 => ⟨fun _ => z15 z z2, fun q => absurd rfl q⟩))
  refine Ex_step (tk_DD_paint rfl) ?_
  refine Ex_step (tk_DD_paint rfl) ?_
  refine Ex_step (tk_DD_paint rfl) ?_
  refine Ex_step (tk_DD_paint rfl) ?_
  refine Ex_cVT (av := [vI i, vI x, vI y]) (tk_DD_paint rfl) mk_DD_needCell ⟨rfl, rfl, by decide, rfl, Nat.le_of_ble_eq_true rfl, Nat.le_of_ble_eq_true rfl⟩ hk11 rfl (d_needCell h hi hx hy (fun z => ⟨fun q => absurd q (by decide), fun _ => hb1 z⟩) (fun z => ⟨fun _ => z7 z, fun q => absurd rfl q⟩))
end Paint
