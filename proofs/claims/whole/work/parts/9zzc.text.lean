/-! ===== the class: text ===== -/
section Text
variable {d : Nat} {m m' : Mem} {F F' A A' L L' : Nat → Nat → Int} {I I' : Nat → Int} {R R' : Nat → Nat → Int} {kb kd : Nat} {P : Nat → Nat} {ds ds' : Nat → Nat → Nat} {nn n2 b tp tp2 : Nat} {Q : Nat → Option AV → Mem → Prop} {n : Int}
set_option maxRecDepth 100000 in
/-- a text was read into the draft -/
theorem DK.rd (h : DK m F A L I R kb kd P ds nn b tp) (hs : SAm m m') (hr : ∀ f a, a < 100 + mN m → ¬ (f = 130 ∧ a = kd) → f ≠ 512 → mFR m' f a = mFR m f a) (har : ∀ a, a < 100 + mN m → mAR m' a = mAR m a) (kF : ∀ f j, j < 100 + mN m → j < kd ∨ kd + 20 ≤ j → j ≠ 100 → j < 304 ∨ 310 ≤ j → F' f j = F f j) (kA : ∀ j, j < 100 + mN m → j < kd ∨ kd + 20 ≤ j → j < 304 ∨ 310 ≤ j → A' j = A j) (htp : tp2 ≤ 800) (f705 : F' 705 100 = (tp2 : Int)) (hI2 : I' 2 = (tp2 : Int)) (f706 : F' 706 100 = I' 5) (f707 : F' 707 100 = F 707 100) (f708 : F' 708 100 = F 708 100) (hI12 : I' 12 = I 12) (hR : ∀ j, j < 14 → j ≠ 4 → R' j = R j) : DK m' F' A' L' I' R' kb kd P ds nn b tp2 := by
  have n0 := h.n0
  have ob := isBk_out h.y.ib
  have od := isBk_out h.y.id_
  have hfar := isBk_far h.y.ib h.y.id_ h.y.n1
  have hK : ∀ a, 387 ≤ a → a < 100 + mN m → mK m' a = mK m a ∧ mLen m' a = mLen m a ∧ mFR m' 384 a = mFR m 384 a ∧ A' a = A a := fun a y1 y2 => ⟨(hs.2.1 a y2).1, (hs.2.1 a y2).2, hr 384 a y2 (by omega) (by decide), kA a y2 (by omega) (by omega)⟩
  have e3 := hR 3 (by decide) (by decide)
  have hyy : DKY m' kb kd P ds := ⟨(hr 709 100 (by omega) (by omega) (by decide)).trans h.y.r709,
    (hr 710 100 (by omega) (by omega) (by decide)).trans h.y.r710,
    fun i hi => by rw [har 143 (by omega)]; exact h.y.pr i hi,
    fun k hk i hi => by rw [har (k + 1) (by have := isBk_out hk; omega)]; exact h.y.dr k hk i hi,
    h.y.ib,
    h.y.id_,
    h.y.ip,
    h.y.n1,
    h.y.n2,
    h.y.n3,
    h.y.dp⟩
  exact ⟨h.w.sa hs n0,
    hyy,
    by have := hs.1; omega,
    h.low.mem (fun a ha => ⟨(hs.2.1 a (by omega)).1, (hs.2.1 a (by omega)).2, hr _ _ (by omega) (by omega) (by decide), kF _ _ (by omega) (by omega) (by omega) (by omega), kA _ (by omega) (by omega) (by omega)⟩),
    htp,
    hI2,
    f705,
    (kA _ (by omega) (by omega) (by omega)).trans (h.row.trans (hR 2 (by decide) (by decide)).symm),
    by rw [hR 2 (by decide) (by decide)]; exact h.byt,
    f706,
    by rw [hR 1 (by decide) (by decide)]; exact f707.trans h.f707,
    by rw [hR 1 (by decide) (by decide)]; exact f708.trans h.f708,
    by rw [e3]; exact h.now,
    by rw [e3]; exact h.bk.k h.now.1 (h.y.bd h.y.ib) (fun f j y1 y2 => kF f j (by omega) (by omega) (by omega) (by omega)) (fun j y1 y2 => kA j (by omega) (by omega) (by omega)),
    by rw [e3]; exact h.kn.k h.now.1 (fun f j y1 y2 => kF f j (by omega) (by omega) (by omega) (by omega)),
    by rw [e3, hr 130 kb (by omega) (fun z => h.y.n1 z.2) (by decide)]; exact h.ru.c hs.1 hK (fun _ _ => rfl),
    h.b8,
    hI12.trans h.i12,
    (kF _ _ (by omega) (by omega) (by omega) (by omega)).trans h.f257,
    fun i hi => by
      have hi8 : i < 8 := by have := h.b8; omega
      have ip := h.y.ip i hi8
      have oi := isBk_out ip
      have hn := (h.y.n2 i hi8).2
      have hf2 := isBk_far ip h.y.id_ hn
      rw [hR (6 + i) (by omega) (by omega)]
      exact (h.past i hi).k (h.y.bd ip) hs.1 (hr _ _ (by omega) (fun z => hn z.2) (by decide)) hK (fun f j y1 y2 => kF f j (by omega) (by omega) (by omega) (by omega)) (fun j y1 y2 => kA j (by omega) (by omega) (by omega)) (fun _ _ => rfl)⟩
set_option maxRecDepth 100000 in
theorem Out.tr2 {m1 m2 : Mem} {F1 F2 A1 A2 L1 L2 : Nat → Nat → Int} (h : Out m m1 F F1 A A1 L L1) (hn : mN m2 = mN m1 ∧ mZ m2 = mZ m1) (g : Out m1 m2 F1 F2 A1 A2 L1 L2) : Out m m2 F F2 A A2 L L2 := by
  obtain ⟨⟨a1, a2, a3, a4⟩, a5⟩ := h
  obtain ⟨⟨b1, b2, b3, b4⟩, b5⟩ := g
  refine ⟨⟨by omega, by omega, by omega, by omega⟩, fun a q1 q2 => ?_⟩
  obtain ⟨⟨x1, x2, x3, x4, x5⟩, x6⟩ := a5 a q1 q2
  obtain ⟨⟨y1, y2, y3, y4, y5⟩, y6⟩ := b5 a (by omega) q2
  exact ⟨⟨y1.trans x1, y2.trans x2, y3.trans x3, y4.trans x4, y5.trans x5⟩, fun f => ⟨(y6 f).1.trans (x6 f).1, (y6 f).2.trans (x6 f).2⟩⟩
set_option maxRecDepth 100000 in
theorem d_text (h : DK m F A L I R kb kd P ds nn b tp) (hn : okI n) (hbad : ¬ (0 ≤ n ∧ n ≤ (tp : Int)) → Q 2 none (alloc (CM m (upF F 708 100 (F 708 100 + 1)) A L) 22 0 6))
    (hflt : 0 ≤ n ∧ n ≤ (tp : Int) → ¬ pFl (txS (R 2) (R 4) n) = 0 → ∀ (m' : Mem) (F' A' L' : Nat → Nat → Int), DK m' F' A' L' (pI (up1 (txI n I) 5 (pFa (txS (R 2) (R 4) n))) (txS (R 2) (R 4) n)) (up1 R 4 (pT (txS (R 2) (R 4) n))) kb kd P ds nn b 0 → Out m m' F F' A A' L L' → Q 0 (some (vI ((pFl (txS (R 2) (R 4) n) : Int) - 10))) (CM m' F' A' L'))
    (hok : 0 ≤ n ∧ n ≤ (tp : Int) → pFl (txS (R 2) (R 4) n) = 0 → ∀ (m' : Mem) (F' A' L' : Nat → Nat → Int) (P' : Nat → Nat) (n2 : Nat), DK m' F' A' L' (up1 (pI (up1 (txI n I) 5 (pFa (txS (R 2) (R 4) n))) (txS (R 2) (R 4) n)) 12 (remB b : Nat)) (up1 (remA b (up1 R 4 (pT (txS (R 2) (R 4) n)))) 3 (cpK 1920 (pT (txS (R 2) (R 4) n)) (R 3))) kd kb P' ds n2 (remB b) 0 → Out m m' F F' A A' L L' → Q 0 (some (vI (pT (txS (R 2) (R 4) n) 0))) (CM m' F' A' L')) : Ex (d + 10) DD_text 0 [some (vR 100), some (vI n), none, none] [] (CM m F A L) Q := by
  have hk11 := h.w.k100
  have hr704 := h.w.r704
  have hr710 := h.y.r710
  have hr712 := h.w.r712
  have hk10 := h.w.k304
  have h705 := h.f705
  have n0 := h.n0
  have ob := isBk_out h.y.ib
  have od := isBk_out h.y.id_
  have htb := h.tb
  have z10 : 0 ≤ n ∧ n ≤ (tp : Int) → Ex (d + 10) DD_text 10 [some (vR 100), some (vI n), none, none] [] (CM m F A L) Q := by
    intro z
    have hflt := hflt z
    have hok := hok z
    obtain ⟨sz, rfl⟩ : ∃ sz : Nat, n = (sz : Int) := ⟨n.toNat, by omega⟩
    have hsz : sz ≤ 800 := by omega
    have eT : txS (R 2) (R 4) (sz : Int) = tlP (R 2) sz (sz + 3) (s0P (cpK 1920 (fun _ => 0) (R 4))) := rfl
    have hfz := FZ.tl (f := R 2) (sz := sz) (sz + 3) (s0P (cpK 1920 (fun _ => 0) (R 4)))
    rw [← eT] at hfz
    have w5 : DKW (sFR m 512 306 101) := h.w.sa (SAm.sF (by decide)) n0
    have y5 : DKY (sFR m 512 306 101) kb kd P ds := ⟨(sFR_ne _ (by decide)).trans h.y.r709,
      (sFR_ne _ (by decide)).trans h.y.r710,
      h.y.pr,
      h.y.dr,
      h.y.ib,
      h.y.id_,
      h.y.ip,
      h.y.n1,
      h.y.n2,
      h.y.n3,
      h.y.dp⟩
    have hTN : TRN 304 305 101 kd (ds kd) := ⟨h.y.bd h.y.id_, by omega, by omega, by decide, by decide, by omega, by decide⟩
    have hTW : TRW (sFR m 512 (305 + 1) 101) 304 305 101 kd (ds kd) := ⟨w5.k304, w5.r640, w5.r641, w5.rr, ⟨w5.k306, sFR_at _ _ _ _, w5.tape⟩, y5.bw w5 h.y.id_⟩
    have hC0 : CLow m (upF F 705 100 0) A L := h.low.k (fun j hj => upF_a _ _ _ (by omega)) (fun _ _ => rfl)
    have hby : byts (A 101) := by rw [h.row]; exact h.byt
    have hri := fun (Q1 : Nat → Option AV → Mem → Prop) => c_readInto (d := d) (Q := Q1) (T := R 4) hTN hsz hTW n0 hC0 hby
    rw [h.row, ← eT] at hri
    generalize txS (R 2) (R 4) (sz : Int) = t at *
    have z31 : ∀ (m1 : Mem) (F1 A1 L1 : Nat → Nat → Int), KW kd 305 (sFR (sFR m 512 (305 + 1) 101) 130 kd 0) m1 (upF F 705 100 0) F1 A A1 L L1 → TxO m1 F1 A1 305 sz kd (ds kd) t → Ex (d + 10) DD_text 31 [some (vR 100), some (vI (sz : Int)), none, none] [vR 306] (CM m1 F1 A1 L1) Q := by
      intro m1 F1 A1 L1 kw ho
      obtain ⟨⟨b1, b2, b3⟩, c1, c2, c3, c4, c5, hmz1⟩ := kw
      have e130 : mFR (sFR (sFR m 512 (305 + 1) 101) 130 kd 0) 130 kd = 0 := sFR_at _ _ _ _
      have eN : mN (sFR (sFR m 512 (305 + 1) 101) 130 kd 0) = mN m := rfl
      have eZ : mZ (sFR (sFR m 512 (305 + 1) 101) 130 kd 0) = mZ m := rfl
      rw [e130, eN] at b2
      rw [e130, eZ] at b3
      rw [eN] at b1 c1 c2 c3 c4 c5
      rw [eZ] at hmz1
      have hb2 : mN m1 ≤ mN m + 2 := by unfold bN at b2; rw [if_pos rfl] at b2; omega
      have hb3 : mZ m1 ≤ mZ m + 900 := by unfold bN at b3; rw [if_pos rfl] at b3; omega
      have hb4 : mZ m ≤ mZ m1 := hmz1
      have hr : ∀ f a, a < 100 + mN m → ¬ (f = 130 ∧ a = kd) → f ≠ 512 → mFR m1 f a = mFR m f a := fun f a q1 q2 q3 => (c2 f a q1 q2).trans ((sFR_ne _ q2).trans (sFR_ne _ (fun w => q3 w.1)))
      have hs : SAm m m1 := ⟨b1, fun a q => ⟨(c1 a q).1, (c1 a q).2.1⟩, fun f a q1 q2 => hr f a (by omega) (fun w => q2 (by rw [w.1]; decide)) (fun w => q2 (by rw [w]; decide)), fun a q1 _ _ => (c1 a (by omega)).2.2⟩
      have kF : ∀ f j, j < 100 + mN m → j < kd ∨ kd + 20 ≤ j → j ≠ 100 → j < 304 ∨ 310 ≤ j → upF F1 706 100 (F1 516 306) f j = F f j := fun f j q1 q2 q3 q4 => by
        rw [upF_a _ _ _ q3, c3 f j q1 q2 (by omega) (by omega), upF_a _ _ _ q3]
      have e1 : ∀ f, f ≠ 705 → F1 f 100 = F f 100 := fun f q => (c3 f 100 (by omega) (by omega) (by omega) (by omega)).trans (upF_f _ _ _ q)
      have hpl : F1 516 306 = pFa t := by
        rcases ho with ⟨q1, q2, q, q3⟩ | ⟨q1, ⟨q, q3⟩, _⟩
        · exact q3.2.2.2
        · rw [(hfz q1).2]; exact q3.2.2.2
      have h1 : DK m1 (upF F1 706 100 (F1 516 306)) A1 L1 (pI (up1 (txI (sz : Int) I) 5 (pFa t)) t) (up1 R 4 (pT t)) kb kd P ds nn b 0 := h.rd hs hr (fun a q => (c1 a q).2.2) kF (fun j q1 q2 q3 => c4 j q1 q2 (by omega) (by omega)) (by decide) ((upF_f _ _ _ (by decide)).trans ((c3 705 100 (by omega) (by omega) (by omega) (by omega)).trans (upF_at _ _ _ _))) rfl ((upF_at _ _ _ _).trans (hpl.trans rfl)) ((upF_f _ _ _ (by decide)).trans (e1 _ (by decide))) ((upF_f _ _ _ (by decide)).trans (e1 _ (by decide))) rfl (fun j q1 q2 => up1_ne _ _ q2)
      have o1 : Out m m1 F (upF F1 706 100 (F1 516 306)) A A1 L L1 := ⟨⟨b1, by omega, hb4, by omega⟩, fun a q1 q2 => ⟨⟨(c1 a q1).1, (c1 a q1).2.1, (c1 a q1).2.2, c4 a q1 (by omega) (by omega) (by omega), c5 a q1⟩, fun f => ⟨(c2 f a q1 (by omega)).trans ((sFR_ne _ (by omega)).trans (sFR_ne _ (by omega))), kF f a q1 (by omega) (by omega) (by omega)⟩⟩⟩
      have hk11 := h1.w.k100
      have hk8 := h1.w.k306
      rcases ho with ⟨q1, q2, q, q3⟩ | ⟨q1, ⟨q, q3⟩, nx, q5, q6⟩
      · have hq := hflt q1 m1 _ A1 L1 h1 o1
        have q3' : ScF (upF F1 706 100 (F1 516 306)) 306 sz q (pFl t) (pFa t) := q3.k (fun f => upF_a _ _ _ (by decide))
        have hfd := fun (Q1 : Nat → Option AV → Mem → Prop) => c_failed (d := d + 9) (A := A1) (L := L1) (Q := Q1) hk8 q3' q2
        have e515 : upF F1 706 100 (F1 516 306) 515 306 = (pFl t : Int) := q3'.2.2.1
        refine Ex_step (tk_DD_text rfl) ?_
        refine Ex_step (tk_DD_text rfl) ?_
        refine Ex_step (tk_DD_text rfl) ?_
        refine gCI (tk_DD_text rfl) (hk8) ?_
        refine pCI (tk_DD_text rfl) (hk11) ?_
        refine Ex_step (tk_DD_text rfl) ?_
        refine Ex_cV0 (av := []) (tk_DD_text rfl) mk_Scan_failed ⟨rfl, rfl, by decide, rfl, Nat.le_of_ble_eq_true rfl, Nat.le_of_ble_eq_true rfl⟩ (hk8) (fun _ h => hfd _ h) ?_
        refine Ex_step (tk_DD_text rfl) ⟨fun h44 => ?_, fun h44 => ?_⟩
        · try simp (disch := omega) only [cmpI, w32_b2i, b2i_0, b2i_1, w32_id, Classical.not_not, not_true_eq_false, not_false_eq_true] at h44
          exact absurd q1 (by omega)
        · try simp (disch := omega) only [cmpI, w32_b2i, b2i_0, b2i_1, w32_id, Classical.not_not, not_true_eq_false, not_false_eq_true] at h44
          refine Ex_step (tk_DD_text rfl) ?_
          refine gCI (tk_DD_text rfl) (hk8) ?_
          rw [e515]
          refine Ex_step (tk_DD_text rfl) ?_
          refine Ex_step (tk_DD_text rfl) ?_
          refine Ex_step (tk_DD_text rfl) ⟨rfl, ?_⟩
          exact hq
      · have q3' : ScF (upF F1 706 100 (F1 516 306)) 306 sz q 0 (-1) := q3.k (fun f => upF_a _ _ _ (by decide))
        have hfd := fun (Q1 : Nat → Option AV → Mem → Prop) => c_failed (d := d + 9) (A := A1) (L := L1) (Q := Q1) hk8 q3' (by decide)
        have hBR : BkR m1 (upF F1 706 100 (F1 516 306)) A1 kd (ds kd) (pT t) := by
          refine ⟨nx, ⟨q5.1, q5.2.1, ?_, q5.2.2.2.1⟩, q5.2.2.1.k q5.1 (h.y.bd h.y.id_) (fun f j y1 y2 => upF_a _ _ _ (by omega)) (fun _ _ _ => rfl), q6⟩
          rcases q6 with w | w
          · exact Or.inl w.2
          · exact Or.inr w.2.2.1
        have hok := hok q1
        have z31b : Ex (d + 10) DD_text 40 [some (vR 100), some (vI (sz : Int)), some (vR 306), none] [] (CM m1 (upF F1 706 100 (F1 516 306)) A1 L1) Q → Ex (d + 10) DD_text 31 [some (vR 100), some (vI (sz : Int)), none, none] [vR 306] (CM m1 F1 A1 L1) Q := by
          intro z40
          refine Ex_step (tk_DD_text rfl) ?_
          refine Ex_step (tk_DD_text rfl) ?_
          refine Ex_step (tk_DD_text rfl) ?_
          refine gCI (tk_DD_text rfl) (hk8) ?_
          refine pCI (tk_DD_text rfl) (hk11) ?_
          exact z40
        generalize upF F1 706 100 (F1 516 306) = F2 at *
        have hr711 := h1.w.r711
        have hr709 := h1.y.r709
        have hk4 := h1.w.k142
        have z66 : ∀ (m2 : Mem) (F3 A3 : Nat → Nat → Int) (P3 : Nat → Nat), DK m2 F3 A3 L1 (up1 (pI (up1 (txI (sz : Int) I) 5 (pFa t)) t) 12 (remB b : Nat)) (remA b (up1 R 4 (pT t))) kb kd P3 ds nn (remB b) 0 → Out m1 m2 F2 F3 A1 A3 L1 L1 → BkR m2 F3 A3 kd (ds kd) (pT t) → (mN m2 = mN m1 ∧ mZ m2 = mZ m1) → Ex (d + 10) DD_text 66 [some (vR 100), some (vI (sz : Int)), some (vR 306), none] [] (CM m2 F3 A3 L1) Q := by
          intro m2 F3 A3 P3 h2 o2 hBR2 hNZ
          have hs3 : SAm m2 (sFR (sFR m2 709 100 kd) 710 100 kb) := (SAm.sF (by decide)).tr (SAm.sF (by decide)) h2.n0
          have w3 := h2.w.sa hs3 h2.n0
          have y3 : DKY (sFR (sFR m2 709 100 kd) 710 100 kb) kd kb P3 ds := ⟨(sFR_ne _ (by decide)).trans (sFR_at _ _ _ _),
            sFR_at _ _ _ _,
            h2.y.pr,
            h2.y.dr,
            h2.y.id_,
            h2.y.ib,
            h2.y.ip,
            Ne.symm h2.y.n1,
            fun i hi => ⟨(h2.y.n2 i hi).2, (h2.y.n2 i hi).1⟩,
            h2.y.n3,
            h2.y.dp⟩
          have hfg := fun (Q1 : Nat → Option AV → Mem → Prop) => c_forgetAll (d := d + 9) (F := F3) (A := A3) (L := L1) (Q := Q1) w3.ov
          have kF4 : ∀ f j, ¬ (f = 64 ∧ 312 ≤ j ∧ j < 348) → fgF F3 310 (fun _ => True) 36 f j = F3 f j := fun f j q => fgF_o 36 f j (by omega)
          have hz : ∀ k, k < 36 → fgF F3 310 (fun _ => True) 36 64 (310 + 2 + k) = 0 := fun k hk => by rw [fgF_i 36 k hk, if_pos trivial]
          generalize fgF F3 310 (fun _ => True) 36 = F4 at *
          have hcp : ∀ j, j < 1920 → cpK 1920 (pT t) (R 3) j = pT t j := fun j hj => if_pos hj
          obtain ⟨n2, hd, hd0, hd1⟩ := h2.turn (m' := sFR (sFR m2 709 100 kd) 710 100 kb) (I' := up1 (pI (up1 (txI (sz : Int) I) 5 (pFa t)) t) 12 (remB b : Nat)) (F' := F4) (b2 := remB b) (T' := cpK 1920 (pT t) (R 3)) hs3 rfl y3 (fun f a q1 q2 => (sFR_ne _ (fun z => q2 z.1)).trans (sFR_ne _ (fun z => q1 z.1))) (fun f j q1 _ => kF4 f j q1) hz hBR2 hcp h2.b8 ((kF4 _ _ (by omega)).trans h2.f257) ⟨rfl, rfl, up1_at _ _ _⟩ (fun i hi => h2.past i hi)
          have o3 : Out m2 (sFR (sFR m2 709 100 kd) 710 100 kb) F3 F4 A3 A3 L1 L1 := ⟨⟨Nat.le_refl _, Nat.le_add_right _ _, Nat.le_refl _, Nat.le_add_right _ _⟩, fun a q1 q2 => ⟨⟨rfl, rfl, rfl, rfl, rfl⟩, fun f => ⟨(sFR_ne _ (by omega)).trans (sFR_ne _ (by omega)), kF4 f a (by omega)⟩⟩⟩
          have hq := hok _ F4 A3 L1 P3 n2 hd ((o1.tr2 hNZ o2).tr2 ⟨rfl, rfl⟩ o3)
          have e0 : pT t 0 = (n2 : Int) := (hcp 0 (by decide)).symm.trans hd0
          rw [e0, ← hd1] at hq
          have hk11 := h2.w.k100
          have hr709 := h2.y.r709
          have hr710 := h2.y.r710
          have hk11a : mK (sFR m2 709 100 kd) 100 = 11 := hk11
          have z84 : Ex (d + 10) DD_text 84 [some (vR 100), some (vI (sz : Int)), some (vR 306), some (vR kb)] [] (CM (sFR (sFR m2 709 100 kd) 710 100 kb) F3 A3 L1) Q := by
            have hk11 := w3.k100
            have hr713 := w3.r713
            have hr709 := y3.r709
            have hk5 := w3.ov.1
            have hk2 := (w3.bks kd y3.ib).1
            refine Ex_step (tk_DD_text rfl) ?_
            refine gCR (tk_DD_text rfl) (hk11) (hr713) ?_
            refine Ex_cV0 (av := []) (tk_DD_text rfl) mk_Ov_forgetAll ⟨rfl, rfl, by decide, rfl, Nat.le_of_ble_eq_true rfl, Nat.le_of_ble_eq_true rfl⟩ (hk5) (fun _ h => hfg _ h) ?_
            refine Ex_step (tk_DD_text rfl) ?_
            refine gCR (tk_DD_text rfl) (hk11) (hr709) ?_
            refine gCI (tk_DD_text rfl) (hk2) ?_
            refine Ex_step (tk_DD_text rfl) ⟨rfl, ?_⟩
            exact hq
          refine Ex_step (tk_DD_text rfl) ?_
          refine gCR (tk_DD_text rfl) (hk11) (hr709) ?_
          refine Ex_step (tk_DD_text rfl) ?_
          refine Ex_step (tk_DD_text rfl) ?_
          refine Ex_step (tk_DD_text rfl) ?_
          refine gCR (tk_DD_text rfl) (hk11) (hr710) ?_
          refine pCR (tk_DD_text rfl) (hk11) ?_
          refine Ex_step (tk_DD_text rfl) ?_
          refine Ex_step (tk_DD_text rfl) ?_
          refine pCR (tk_DD_text rfl) (hk11a) ?_
          exact z84
        have hkp := fun (Q1 : Nat → Option AV → Mem → Prop) => d_keep2 (d := d + 7) (Q := Q1) h1
        have z55 : Ex (d + 10) DD_text 55 [some (vR 100), some (vI (sz : Int)), some (vR 306), none] [] (CM m1 F2 A1 L1) Q := by
          refine Ex_step (tk_DD_text rfl) ?_
          refine gCR (tk_DD_text rfl) (hk11) (hr711) ?_
          refine Ex_step (tk_DD_text rfl) ?_
          refine gCR (tk_DD_text rfl) (hk11) (hr709) ?_
          refine Ex_cVK (av := [vR kb]) (tk_DD_text rfl) mk_Hist_keep ⟨rfl, rfl, by decide, rfl, Nat.le_of_ble_eq_true rfl, Nat.le_of_ble_eq_true rfl⟩ (hk4) (hkp _ (fun m2 F3 A3 P3 h2 o2 hB hNZ => ⟨rfl, ?_⟩))
          exact z66 m2 F3 A3 P3 h2 o2 (hB _ hBR) hNZ
        have z40 : Ex (d + 10) DD_text 40 [some (vR 100), some (vI (sz : Int)), some (vR 306), none] [] (CM m1 F2 A1 L1) Q := by
          refine Ex_step (tk_DD_text rfl) ?_
          refine Ex_cV0 (av := []) (tk_DD_text rfl) mk_Scan_failed ⟨rfl, rfl, by decide, rfl, Nat.le_of_ble_eq_true rfl, Nat.le_of_ble_eq_true rfl⟩ (hk8) (fun _ h => hfd _ h) ?_
          refine Ex_step (tk_DD_text rfl) ⟨fun h44 => ?_, fun h44 => ?_⟩
          · replace h44 : _ := h44
            exact z55
          · replace h44 : _ := h44
            exact absurd rfl h44
        exact z31b z40
    refine Ex_step (tk_DD_text rfl) ?_
    refine Ex_step (tk_DD_text rfl) ?_
    refine pCI (tk_DD_text rfl) (hk11) ?_
    refine Ex_step (tk_DD_text rfl) ?_
    refine gCR (tk_DD_text rfl) (hk11) (hr712) ?_
    refine Ex_step (tk_DD_text rfl) ?_
    refine gCR (tk_DD_text rfl) (hk11) (hr710) ?_
    refine Ex_step (tk_DD_text rfl) ?_
    refine gCR (tk_DD_text rfl) (hk11) (hr704) ?_
    refine Ex_step (tk_DD_text rfl) ?_
    refine Ex_cVK (av := [vR kd, vR 101, vI (sz : Int)]) (tk_DD_text rfl) mk_TR_readInto ⟨rfl, rfl, by decide, rfl, Nat.le_of_ble_eq_true rfl, Nat.le_of_ble_eq_true rfl⟩ (hk10) (hri _ (fun m1 F1 A1 L1 kw ho => ⟨rfl, ?_⟩))
    exact z31 m1 F1 A1 L1 kw ho
  refine Ex_step (tk_DD_text rfl) ?_
  refine Ex_step (tk_DD_text rfl) ?_
  refine Ex_step (tk_DD_text rfl) ?_
  refine Ex_step (tk_DD_text rfl) ?_
  refine gCI (tk_DD_text rfl) (hk11) ?_
  rw [h705]
  refine Ex_cVT (av := [vI n, vI 0, vI (tp : Int)]) (tk_DD_text rfl) mk_DD_needNumber ⟨rfl, rfl, by decide, rfl, Nat.le_of_ble_eq_true rfl, Nat.le_of_ble_eq_true rfl⟩ hk11 rfl (d_needNumber h hn ⟨by decide, by decide⟩ (by unfold okI; omega) (fun z => ⟨fun q => absurd q (by decide), fun _ => hbad z⟩) (fun z => ⟨fun _ => z10 z, fun q => absurd rfl q⟩))
end Text
