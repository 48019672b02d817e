/-! ===== the class: day, paint ===== -/
section Change
variable {d : Nat} {m m' : Mem} {F F' A A' L : Nat → Nat → Int} {I I' : Nat → Int} {R : Nat → Nat → Int} {kb kd : Nat} {P : Nat → Nat} {ds ds' : Nat → Nat → Nat} {nn n2 b tp : Nat} {Q : Nat → Option AV → Mem → Prop} {T' : Nat → Int} {i x y w : Int}
set_option maxRecDepth 100000 in
/-- what is now changes -/
theorem DK.now_ (h : DK m F A L I R kb kd P ds nn b tp) (hs : SAm m m') (hy : DKY m' kb kd P ds') (hds : ∀ k, k ≠ kb → ds' k = ds k) (hr : ∀ f a, mFR m' f a = mFR m f a) (kF : ∀ f j, j < kb ∨ kb + 20 ≤ j → ¬ (f = 64 ∧ 312 ≤ j ∧ j < 348) → F' f j = F f j) (kA : ∀ j, j < kb ∨ kb + 20 ≤ j → A' j = A j) (hN : NowW T' n2) (hG : BkG F' A' kb (ds' kb) T' n2) (hK : KN F' 310 T' n2) (hT : ∀ j, j = 1 ∨ 620 ≤ j ∧ j < 1920 → T' j = R 3 j) (hI : ∀ i, i = 2 ∨ i = 5 ∨ i = 12 → I' i = I i) : DK m' F' A' L I' (up1 R 3 T') kb kd P ds' n2 b tp := by
  have n0 := h.n0
  have ob := isBk_out h.y.ib
  have e3 : up1 R 3 T' 3 = T' := up1_at _ _ _
  have eR : ∀ j, j ≠ 3 → up1 R 3 T' j = R j := fun j q => up1_ne _ _ q
  have hKK : ∀ a, 387 ≤ a → a < 100 + mN m → mK m' a = mK m a ∧ mLen m' a = mLen m a ∧ mFR m' 384 a = mFR m 384 a ∧ A' a = A a := fun a y1 y2 => ⟨(hs.2.1 a y2).1, (hs.2.1 a y2).2, hr _ _, kA a (by omega)⟩
  exact ⟨h.w.sa hs n0,
    hy,
    by have := hs.1; omega,
    h.low.mem (fun a ha => ⟨(hs.2.1 a (by omega)).1, (hs.2.1 a (by omega)).2, hr _ _, kF _ _ (by omega) (by omega), kA _ (by omega)⟩),
    h.tb,
    (hI 2 (by omega)).trans h.i2,
    (kF _ _ (by omega) (by omega)).trans h.f705,
    (kA _ (by omega)).trans (h.row.trans (eR 2 (by decide)).symm),
    by rw [eR 2 (by decide)]; exact h.byt,
    (kF _ _ (by omega) (by omega)).trans (h.f706.trans (hI 5 (by omega)).symm),
    by rw [eR 1 (by decide)]; exact (kF _ _ (by omega) (by omega)).trans h.f707,
    by rw [eR 1 (by decide)]; exact (kF _ _ (by omega) (by omega)).trans h.f708,
    by rw [e3]; exact hN,
    by rw [e3]; exact hG,
    by rw [e3]; exact hK,
    by rw [e3, hr]; exact h.ru.c hs.1 hKK hT,
    h.b8,
    (hI 12 (by omega)).trans h.i12,
    (kF _ _ (by omega) (by omega)).trans h.f257,
    fun i hi => by
      have hi8 : i < 8 := by have := h.b8; omega
      have ip := h.y.ip i hi8
      have oi := isBk_out ip
      have hn := (h.y.n2 i hi8).1
      have hf2 := isBk_far h.y.ib ip (Ne.symm hn)
      rw [eR (6 + i) (by omega), hds _ hn]
      exact (h.past i hi).k (h.y.bd ip) hs.1 (hr _ _) hKK (fun f j y1 y2 => kF f j (by omega) (by omega)) (fun j y1 y2 => kA j (by omega)) (fun _ _ => rfl)⟩
set_option maxRecDepth 100000 in
theorem Out.tr {m1 m2 : Mem} {F1 F2 A1 A2 L1 L2 : Nat → Nat → Int} (h : Out m m1 F F1 A A1 L L1) (hn : mN m1 = mN m ∧ mZ m1 = mZ m) (g : Out m1 m2 F1 F2 A1 A2 L1 L2) : Out m m2 F F2 A A2 L L2 := by
  obtain ⟨⟨a1, a2, a3, a4⟩, a5⟩ := h
  obtain ⟨⟨b1, b2, b3, b4⟩, b5⟩ := g
  refine ⟨⟨by omega, by omega, by omega, by omega⟩, fun a q1 q2 => ?_⟩
  obtain ⟨⟨x1, x2, x3, x4, x5⟩, x6⟩ := a5 a q1 q2
  obtain ⟨⟨y1, y2, y3, y4, y5⟩, y6⟩ := b5 a (by omega) q2
  exact ⟨⟨y1.trans x1, y2.trans x2, y3.trans x3, y4.trans x4, y5.trans x5⟩, fun f => ⟨(y6 f).1.trans (x6 f).1, (y6 f).2.trans (x6 f).2⟩⟩
set_option maxRecDepth 100000 in
/-- one book's own cells change -/
theorem Out.bk {k : Nat} (hk : isBk k) (kF : ∀ f j, j < k ∨ k + 20 ≤ j → ¬ (f = 64 ∧ 312 ≤ j ∧ j < 348) → F' f j = F f j) (kA : ∀ j, j < k ∨ k + 20 ≤ j → A' j = A j) : Out m m F F' A A' L L := by
  have ok := isBk_out hk
  exact Out.s (fun f j q => kF f j (by omega) (by omega)) (fun j q => kA j (by omega)) (fun _ _ => rfl)
set_option maxRecDepth 100000 in
theorem remA_3 (b : Nat) (R : Nat → Nat → Int) : remA b R 3 = R 3 := remA_lo (by decide) R
set_option maxRecDepth 100000 in
theorem d_day (h : DK m F A L I R kb kd P ds nn b tp) (hi : okI i) (hx : okI x) (hb1 : ¬ (0 ≤ i ∧ i < (nn : Int)) → Q 1 none (alloc (CM m (upF F 707 100 (F 707 100 + 1)) A L) 22 0 6)) (hb2 : 0 ≤ i ∧ i < (nn : Int) → ¬ (0 ≤ x ∧ x ≤ 9999) → Q 2 none (alloc (CM m (upF F 708 100 (F 708 100 + 1)) A L) 22 0 6)) (hok : 0 ≤ i ∧ i < (nn : Int) → 0 ≤ x ∧ x ≤ 9999 → ∀ (m' : Mem) (F' A' : Nat → Nat → Int) (P' : Nat → Nat), DK m' F' A' L (up1 (up1 I 0 0) 12 (remB b : Nat)) (up1 (remA b R) 3 (up1 (R 3) (bD i.toNat) x)) kb kd P' ds nn (remB b) tp → Out m m' F F' A A' L L → Q 0 (some (vI (R 3 (bD i.toNat)))) (CM m' F' A' L)) : Ex (d + 3) DD_day 0 [some (vR 100), some (vI i), some (vI x), none, none] [] (CM m F A L) Q := by
  have hk11 := h.w.k100
  have hr711 := h.w.r711
  have hr709 := h.y.r709
  have hk4 := h.w.k142
  have hn6 := h.now.1
  have z14 : 0 ≤ i ∧ i < (nn : Int) → 0 ≤ x ∧ x ≤ 9999 → Ex (d + 3) DD_day 14 [some (vR 100), some (vI i), some (vI x), none, none] [] (CM m F A L) Q := by
    intro z zx
    have hok := hok z zx
    obtain ⟨a, rfl⟩ : ∃ a : Nat, i = (a : Int) := ⟨i.toNat, by omega⟩
    have ha : a < nn := by omega
    have hok : ∀ (m' : Mem) (F' A' : Nat → Nat → Int) (P' : Nat → Nat), DK m' F' A' L (up1 (up1 I 0 0) 12 (remB b : Nat)) (up1 (remA b R) 3 (up1 (R 3) (bD a) x)) kb kd P' ds nn (remB b) tp → Out m m' F F' A A' L L → Q 0 (some (vI (R 3 (bD a)))) (CM m' F' A' L) := hok
    have z25 : ∀ (m1 : Mem) (F1 A1 : Nat → Nat → Int) (P1 : Nat → Nat), DK m1 F1 A1 L (up1 I 12 (remB b : Nat)) (remA b R) kb kd P1 ds nn (remB b) tp → Out m m1 F F1 A A1 L L → Ex (d + 3) DD_day 25 [some (vR 100), some (vI (a : Int)), some (vI x), none, none] [] (CM m1 F1 A1 L) Q := by
      intro m1 F1 A1 P1 h1 o1
      have hk11 := h1.w.k100
      have hr709 := h1.y.r709
      have hBW := h1.y.bw h1.w h1.y.ib
      have hBD := h1.y.bd h1.y.ib
      have hk2 := hBW.1
      have hr128 := hBW.2.1
      have hbk := h1.bk
      have hkn := h1.kn
      rw [remA_3] at hbk hkn
      have g := hbk.2 a ha
      have hk3 := (hBW.2.2.2.2 a (by omega)).2.1
      have hda := hBD.1 a (by omega)
      have hsm : ∀ dd, SmD (R 3) (up1 (R 3) (bD a) x) dd := fun dd j y1 y2 => up1_ne _ _ (fun e => by
        have b1 : bD dd = 2 + 103 * dd := rfl
        have b2 : bD a = 2 + 103 * a := rfl
        omega)
      have hN' : NowW (up1 (R 3) (bD a) x) nn := by
        obtain ⟨w1, w2, w3, w4⟩ := h.now
        have ba : bD a = 2 + 103 * a := rfl
        refine ⟨w1, (up1_ne _ _ (by omega)).trans w2, by rw [up1_ne _ _ (by omega)]; exact w3, fun dd hd => ?_⟩
        obtain ⟨v1, v2, v3, v4⟩ := w4 dd hd
        refine ⟨?_, by rw [(hsm dd).d1]; exact v2, by rw [(hsm dd).d2]; exact v3, fun k hk => by rw [hsm dd _ (by omega) (by omega)]; exact v4 k hk⟩
        by_cases e : dd = a
        · subst e; rw [up1_at]; exact zx
        · have bd_ : bD dd = 2 + 103 * dd := rfl
          rw [up1_ne _ _ (by omega)]; exact v1
      have hd := h1.now_ (I' := up1 (up1 I 0 0) 12 (remB b : Nat)) (F' := upF F1 192 (ds kb a) x) (A' := A1) (T' := up1 (R 3) (bD a) x) (n2 := nn) (SAm.rf m1) h1.y (fun _ _ => rfl) (fun _ _ => rfl) (fun f j y1 _ => upF_a _ _ _ (by omega)) (fun _ _ => rfl) hN' ⟨(upF_f _ _ _ (by decide)).trans hbk.1, fun j hj => by
          have gj := hbk.2 j hj
          have hdj := hBD.1 j (by omega)
          rw [(hsm j).d1, (hsm j).d2, (hsm j).srt (h.now.2.2.2 j hj)]
          refine ⟨?_, (upF_f _ _ _ (by decide)).trans gj.2.1, (upF_f _ _ _ (by decide)).trans gj.2.2.1, gj.2.2.2⟩
          by_cases e : j = a
          · subst e; rw [upF_at, up1_at]
          · have b1 : bD j = 2 + 103 * j := rfl
            have b2 : bD a = 2 + 103 * a := rfl
            have := hBD.2 j a (by omega) (by omega) e
            rw [upF_a _ _ _ (by omega), up1_ne _ _ (by omega)]
            exact gj.1⟩ ((hkn.k h.now.1 (fun f j y1 y2 => upF_a _ _ _ (by have := isBk_out h.y.ib; omega))).c h.now (fun a2 b2 _ _ _ _ => ⟨hsm a2, hsm b2⟩)) (fun j hj => by
          have b2 : bD a = 2 + 103 * a := rfl
          rw [remA_3]
          exact up1_ne _ _ (by omega)) (fun i hi => by
          rcases hi with rfl | rfl | rfl <;> rfl)
      have oz := isBk_out h.y.ib
      have o2 : Out m m1 F (upF F1 192 (ds kb a) x) A A1 L L := ⟨o1.1, fun j q1 q2 => ⟨(o1.2 j q1 q2).1, fun f => ⟨((o1.2 j q1 q2).2 f).1, (upF_a _ _ _ (by omega)).trans ((o1.2 j q1 q2).2 f).2⟩⟩⟩
      have hq := hok m1 _ A1 P1 hd o2
      rw [← g.1] at hq
      refine Ex_step (tk_DD_day rfl) ?_
      refine gCR (tk_DD_day rfl) (hk11) (hr709) ?_
      refine gCR (tk_DD_day rfl) (hk2) (hr128) ?_
      refine Ex_step (tk_DD_day rfl) ?_
      refine lCR (n := a) (tk_DD_day rfl) (⟨⟨by rw [hBW.2.2.1]; decide, by rw [hBW.2.2.1]; decide⟩, hBW.2.2.2.1, (hBW.2.2.2.2 a (by omega)).1⟩) (w32_id (by omega) (by omega)) (by omega) ?_
      refine Ex_step (tk_DD_day rfl) ?_
      refine Ex_step (tk_DD_day rfl) ?_
      refine gCI (tk_DD_day rfl) (hk3) ?_
      refine Ex_step (tk_DD_day rfl) ?_
      refine Ex_step (tk_DD_day rfl) ?_
      refine Ex_step (tk_DD_day rfl) ?_
      refine pCI (tk_DD_day rfl) (hk3) ?_
      refine Ex_step (tk_DD_day rfl) ?_
      refine Ex_step (tk_DD_day rfl) ⟨rfl, ?_⟩
      exact hq
    have hkp := fun (Q1 : Nat → Option AV → Mem → Prop) => d_keep (d := d) (Q := Q1) h
    refine Ex_step (tk_DD_day rfl) ?_
    refine gCR (tk_DD_day rfl) (hk11) (hr711) ?_
    refine Ex_step (tk_DD_day rfl) ?_
    refine gCR (tk_DD_day rfl) (hk11) (hr709) ?_
    refine Ex_cVK (av := [vR kb]) (tk_DD_day rfl) mk_Hist_keep ⟨rfl, rfl, by decide, rfl, Nat.le_of_ble_eq_true rfl, Nat.le_of_ble_eq_true rfl⟩ (hk4) (hkp _ (fun m1 F1 A1 P1 h1 o1 => ⟨rfl, ?_⟩))
    exact z25 m1 F1 A1 P1 h1 o1
  have z5 : 0 ≤ i ∧ i < (nn : Int) → Ex (d + 3) DD_day 5 [some (vR 100), some (vI i), some (vI x), none, none] [] (CM m F A L) Q := by
    intro z
    refine Ex_step (tk_DD_day rfl) ?_
    refine Ex_step (tk_DD_day rfl) ?_
    refine Ex_step (tk_DD_day rfl) ?_
    refine Ex_step (tk_DD_day rfl) ?_
    refine Ex_cVT (av := [vI x, vI 0, vI 9999]) (tk_DD_day rfl) mk_DD_needNumber ⟨rfl, rfl, by decide, rfl, Nat.le_of_ble_eq_true rfl, Nat.le_of_ble_eq_true rfl⟩ hk11 rfl (d_needNumber h hx ⟨by decide, by decide⟩ ⟨by decide, by decide⟩ (fun z2 => ⟨fun q => absurd q (by decide), fun _ => hb2 z z2⟩) (fun z2 => ⟨fun _ => z14 z z2, fun q => absurd rfl q⟩))
  refine Ex_step (tk_DD_day rfl) ?_
  refine Ex_step (tk_DD_day rfl) ?_
  refine Ex_cVT (av := [vI i]) (tk_DD_day rfl) mk_DD_needDesign ⟨rfl, rfl, by decide, rfl, Nat.le_of_ble_eq_true rfl, Nat.le_of_ble_eq_true rfl⟩ hk11 rfl (d_needDesign h hi (fun z => ⟨fun q => absurd q (by decide), fun _ => hb1 z⟩) (fun z => ⟨fun _ => z5 z, fun q => absurd rfl q⟩))
end Change
