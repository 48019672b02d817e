/-! ===== the class's state as a whole ===== -/
abbrev isBk (k : Nat) : Prop := k = 102 ∨ k = 122 ∨ (144 ≤ k ∧ k ≤ 284 ∧ (k - 144) % 20 = 0)
set_option maxRecDepth 100000 in
theorem isBk_far {k l : Nat} (h : isBk k) (g : isBk l) (n : k ≠ l) : k + 20 ≤ l ∨ l + 20 ≤ k := by unfold isBk at h g; omega
set_option maxRecDepth 100000 in
theorem isBk_out {k : Nat} (h : isBk k) : 102 ≤ k ∧ (k + 20 ≤ 142 ∨ 144 ≤ k) ∧ k + 20 ≤ 304 := by unfold isBk at h; omega
/-- references that change -/
abbrev dyn (f : Nat) : Prop := f = 130 ∨ f = 321 ∨ f = 322 ∨ f = 512 ∨ f = 709 ∨ f = 710
/-- two worlds whose fixed part is the same -/
def SAm (m m' : Mem) : Prop := mN m ≤ mN m' ∧ (∀ a, a < 100 + mN m → mK m' a = mK m a ∧ mLen m' a = mLen m a) ∧ (∀ f a, a < 387 → ¬ dyn f → mFR m' f a = mFR m f a) ∧ ∀ a, a < 387 → mK m a ≠ 17 → mK m a ≠ 18 → mAR m' a = mAR m a
set_option maxRecDepth 100000 in
theorem SAm.rf (m : Mem) : SAm m m := ⟨Nat.le_refl _, fun _ _ => ⟨rfl, rfl⟩, fun _ _ _ _ => rfl, fun _ _ _ _ => rfl⟩
set_option maxRecDepth 100000 in
theorem SAm.tr {m m1 m2 : Mem} (h : SAm m m1) (g : SAm m1 m2) (h3 : 387 ≤ 100 + mN m) : SAm m m2 := by
  obtain ⟨a1, a2, a3, a4⟩ := h
  obtain ⟨b1, b2, b3, b4⟩ := g
  refine ⟨by omega, fun a q => ?_, fun f a q1 q2 => (b3 f a q1 q2).trans (a3 f a q1 q2), fun a q1 q2 q3 => ?_⟩
  · have x := a2 a q
    have y := b2 a (by omega)
    exact ⟨y.1.trans x.1, y.2.trans x.2⟩
  · have x := a2 a (by omega)
    exact (b4 a q1 (by rw [x.1]; exact q2) (by rw [x.1]; exact q3)).trans (a4 a q1 q2 q3)
set_option maxRecDepth 100000 in
theorem SAm.sF {m : Mem} {f a b : Nat} (h : dyn f) : SAm m (sFR m f a b) := ⟨Nat.le_refl _, fun _ _ => ⟨rfl, rfl⟩, fun f2 a2 _ q => sFR_ne m (fun z => q (z.1 ▸ h)), fun _ _ _ _ => rfl⟩
set_option maxRecDepth 100000 in
theorem SAm.sR {m : Mem} {a : Nat} {r : Nat → Nat} (h : mK m a = 17 ∨ mK m a = 18) : SAm m (sAR m a r) := ⟨Nat.le_refl _, fun _ _ => ⟨rfl, rfl⟩, fun _ _ _ _ => rfl, fun a2 _ q1 q2 => if_neg (fun z => by rw [z] at q1 q2; exact h.elim q1 q2)⟩
set_option maxRecDepth 100000 in
theorem SAm.al {m : Mem} {k l z : Nat} (h3 : 387 ≤ 100 + mN m) : SAm m (alloc m k l z) := ⟨Nat.le_succ _, fun a q => ⟨if_neg (by omega), if_neg (by omega)⟩, fun f a q _ => if_neg (by omega), fun a q _ _ => if_neg (by omega)⟩
set_option maxRecDepth 100000 in
theorem LA.w {m m' : Mem} {a z : Nat} (h : LA m a z) (k1 : mK m' a = mK m a) (k2 : mLen m' a = mLen m a) : LA m' a z := ⟨k1.trans h.1, k2.trans h.2⟩
set_option maxRecDepth 100000 in
theorem DW.w {m m' : Mem} {a : Nat} (h : DW m a) (kk : ∀ j, a ≤ j → j < a + 3 → mK m' j = mK m j ∧ mLen m' j = mLen m j) (kr : ∀ f, ¬ dyn f → mFR m' f a = mFR m f a) : DW m' a := by
  obtain ⟨c1, c2, c3, c4, c5, c6⟩ := h
  exact ⟨(kk a (by omega) (by omega)).1.trans c1, c2, (kr 195 (by decide)).trans c3, (kr 196 (by decide)).trans c4, c5.w (kk _ (by omega) (by omega)).1 (kk _ (by omega) (by omega)).2, c6.w (kk _ (by omega) (by omega)).1 (kk _ (by omega) (by omega)).2⟩
/-- the fixed part of the class's world -/
def DKW (m : Mem) : Prop := (mK m 100 = 11) ∧ (mFR m 704 100 = 101) ∧ (mFR m 711 100 = 142) ∧ (mFR m 712 100 = 304) ∧ (mFR m 713 100 = 310) ∧ (mFR m 714 100 = 353) ∧ (mFR m 715 100 = 359) ∧ (mFR m 716 100 = 360) ∧ (mFR m 717 100 = 361) ∧ (IA m 101 800) ∧ (IA m 359 5) ∧ (LA m 360 32) ∧ (IA m 361 6) ∧ (mK m 142 = 4) ∧ (mFR m 256 142 = 143) ∧ (mK m 143 = 17) ∧ (mLen m 143 = 8) ∧ (OW m 310) ∧ (SW m 353) ∧ (mK m 304 = 10) ∧ (mFR m 640 304 = 306) ∧ (mFR m 641 304 = 305) ∧ (RRW m 305) ∧ (mK m 306 = 8) ∧ (∀ k, isBk k → mK m k = 2 ∧ mFR m 128 k = k + 1 ∧ mK m (k + 1) = 18 ∧ mLen m (k + 1) = 6) ∧ (∀ k, isBk k → ∀ i, i < 6 → DW m (k + 2 + 3 * i))
set_option maxRecDepth 100000 in
theorem DKW.k100 {m : Mem} (h : DKW m) : mK m 100 = 11 := h.1
set_option maxRecDepth 100000 in
theorem DKW.r704 {m : Mem} (h : DKW m) : mFR m 704 100 = 101 := h.2.1
set_option maxRecDepth 100000 in
theorem DKW.r711 {m : Mem} (h : DKW m) : mFR m 711 100 = 142 := h.2.2.1
set_option maxRecDepth 100000 in
theorem DKW.r712 {m : Mem} (h : DKW m) : mFR m 712 100 = 304 := h.2.2.2.1
set_option maxRecDepth 100000 in
theorem DKW.r713 {m : Mem} (h : DKW m) : mFR m 713 100 = 310 := h.2.2.2.2.1
set_option maxRecDepth 100000 in
theorem DKW.r714 {m : Mem} (h : DKW m) : mFR m 714 100 = 353 := h.2.2.2.2.2.1
set_option maxRecDepth 100000 in
theorem DKW.r715 {m : Mem} (h : DKW m) : mFR m 715 100 = 359 := h.2.2.2.2.2.2.1
set_option maxRecDepth 100000 in
theorem DKW.r716 {m : Mem} (h : DKW m) : mFR m 716 100 = 360 := h.2.2.2.2.2.2.2.1
set_option maxRecDepth 100000 in
theorem DKW.r717 {m : Mem} (h : DKW m) : mFR m 717 100 = 361 := h.2.2.2.2.2.2.2.2.1
set_option maxRecDepth 100000 in
theorem DKW.tape {m : Mem} (h : DKW m) : IA m 101 800 := h.2.2.2.2.2.2.2.2.2.1
set_option maxRecDepth 100000 in
theorem DKW.facts {m : Mem} (h : DKW m) : IA m 359 5 := h.2.2.2.2.2.2.2.2.2.2.1
set_option maxRecDepth 100000 in
theorem DKW.stack {m : Mem} (h : DKW m) : LA m 360 32 := h.2.2.2.2.2.2.2.2.2.2.2.1
set_option maxRecDepth 100000 in
theorem DKW.group {m : Mem} (h : DKW m) : IA m 361 6 := h.2.2.2.2.2.2.2.2.2.2.2.2.1
set_option maxRecDepth 100000 in
theorem DKW.k142 {m : Mem} (h : DKW m) : mK m 142 = 4 := h.2.2.2.2.2.2.2.2.2.2.2.2.2.1
set_option maxRecDepth 100000 in
theorem DKW.r256 {m : Mem} (h : DKW m) : mFR m 256 142 = 143 := h.2.2.2.2.2.2.2.2.2.2.2.2.2.2.1
set_option maxRecDepth 100000 in
theorem DKW.k143 {m : Mem} (h : DKW m) : mK m 143 = 17 := h.2.2.2.2.2.2.2.2.2.2.2.2.2.2.2.1
set_option maxRecDepth 100000 in
theorem DKW.l143 {m : Mem} (h : DKW m) : mLen m 143 = 8 := h.2.2.2.2.2.2.2.2.2.2.2.2.2.2.2.2.1
set_option maxRecDepth 100000 in
theorem DKW.ov {m : Mem} (h : DKW m) : OW m 310 := h.2.2.2.2.2.2.2.2.2.2.2.2.2.2.2.2.2.1
set_option maxRecDepth 100000 in
theorem DKW.sh {m : Mem} (h : DKW m) : SW m 353 := h.2.2.2.2.2.2.2.2.2.2.2.2.2.2.2.2.2.2.1
set_option maxRecDepth 100000 in
theorem DKW.k304 {m : Mem} (h : DKW m) : mK m 304 = 10 := h.2.2.2.2.2.2.2.2.2.2.2.2.2.2.2.2.2.2.2.1
set_option maxRecDepth 100000 in
theorem DKW.r640 {m : Mem} (h : DKW m) : mFR m 640 304 = 306 := h.2.2.2.2.2.2.2.2.2.2.2.2.2.2.2.2.2.2.2.2.1
set_option maxRecDepth 100000 in
theorem DKW.r641 {m : Mem} (h : DKW m) : mFR m 641 304 = 305 := h.2.2.2.2.2.2.2.2.2.2.2.2.2.2.2.2.2.2.2.2.2.1
set_option maxRecDepth 100000 in
theorem DKW.rr {m : Mem} (h : DKW m) : RRW m 305 := h.2.2.2.2.2.2.2.2.2.2.2.2.2.2.2.2.2.2.2.2.2.2.1
set_option maxRecDepth 100000 in
theorem DKW.k306 {m : Mem} (h : DKW m) : mK m 306 = 8 := h.2.2.2.2.2.2.2.2.2.2.2.2.2.2.2.2.2.2.2.2.2.2.2.1
set_option maxRecDepth 100000 in
theorem DKW.bks {m : Mem} (h : DKW m) : ∀ k, isBk k → mK m k = 2 ∧ mFR m 128 k = k + 1 ∧ mK m (k + 1) = 18 ∧ mLen m (k + 1) = 6 := h.2.2.2.2.2.2.2.2.2.2.2.2.2.2.2.2.2.2.2.2.2.2.2.2.1
set_option maxRecDepth 100000 in
theorem DKW.dss {m : Mem} (h : DKW m) : ∀ k, isBk k → ∀ i, i < 6 → DW m (k + 2 + 3 * i) := h.2.2.2.2.2.2.2.2.2.2.2.2.2.2.2.2.2.2.2.2.2.2.2.2.2
set_option maxRecDepth 100000 in
theorem DKW.sa {m m' : Mem} (h : DKW m) (g : SAm m m') (h3 : 387 ≤ 100 + mN m) : DKW m' := by
  have kk : ∀ a, a < 387 → mK m' a = mK m a ∧ mLen m' a = mLen m a := fun a q => g.2.1 a (by omega)
  have kr : ∀ f a, a < 387 → ¬ dyn f → mFR m' f a = mFR m f a := g.2.2.1
  have ki : ∀ {a z : Nat}, a < 387 → IA m a z → IA m' a z := fun {a z} q x => x.w (kk a q).1 (kk a q).2
  have kd : ∀ {a : Nat}, a + 3 ≤ 387 → DW m a → DW m' a := fun {a} q x => x.w (fun j y1 y2 => kk j (by omega)) (fun f y => kr f a (by omega) y)
  obtain ⟨o1, o2, o3, o4, o5, o6, o7, o8, o9, o10, o11⟩ := h.ov
  obtain ⟨s1, s2, s3, s4, s5, s6, s7⟩ := h.sh
  obtain ⟨r1, r2, r3, r4, r5, r6⟩ := h.rr
  exact ⟨(kk 100 (by decide)).1.trans h.k100,
    (kr 704 100 (by decide) (by decide)).trans h.r704,
    (kr 711 100 (by decide) (by decide)).trans h.r711,
    (kr 712 100 (by decide) (by decide)).trans h.r712,
    (kr 713 100 (by decide) (by decide)).trans h.r713,
    (kr 714 100 (by decide) (by decide)).trans h.r714,
    (kr 715 100 (by decide) (by decide)).trans h.r715,
    (kr 716 100 (by decide) (by decide)).trans h.r716,
    (kr 717 100 (by decide) (by decide)).trans h.r717,
    ki (by decide) h.tape,
    ki (by decide) h.facts,
    h.stack.w (kk 360 (by decide)).1 (kk 360 (by decide)).2,
    ki (by decide) h.group,
    (kk 142 (by decide)).1.trans h.k142,
    (kr 256 142 (by decide) (by decide)).trans h.r256,
    (kk 143 (by decide)).1.trans h.k143,
    (kk 143 (by decide)).2.trans h.l143,
    ⟨(kk 310 (by decide)).1.trans o1, (kr 323 310 (by decide) (by decide)).trans o2, kd (by decide) o3, (kr 324 310 (by decide) (by decide)).trans o4, ki (by decide) o5, (kr 325 310 (by decide) (by decide)).trans o6, ki (by decide) o7, (kr 320 310 (by decide) (by decide)).trans o8, (kk 311 (by decide)).1.trans o9, (kk 311 (by decide)).2.trans o10, fun k hk => ⟨by rw [g.2.2.2 311 (by decide) (by rw [o9]; decide) (by rw [o9]; decide)]; exact (o11 k hk).1, (kk _ (by omega)).1.trans (o11 k hk).2⟩⟩,
    ⟨(kk 353 (by decide)).1.trans s1, (kr 576 353 (by decide) (by decide)).trans s2, kd (by decide) s3, (kr 577 353 (by decide) (by decide)).trans s4, ki (by decide) s5, (kr 578 353 (by decide) (by decide)).trans s6, ki (by decide) s7⟩,
    (kk 304 (by decide)).1.trans h.k304,
    (kr 640 304 (by decide) (by decide)).trans h.r640,
    (kr 641 304 (by decide) (by decide)).trans h.r641,
    ⟨(kk 305 (by decide)).1.trans r1, (kr 448 305 (by decide) (by decide)).trans r2, (kr 449 305 (by decide) (by decide)).trans r3, ki (by decide) r4, (kr 451 305 (by decide) (by decide)).trans r5, ki (by decide) r6⟩,
    (kk 306 (by decide)).1.trans h.k306,
    fun k hk => by
      have ho := isBk_out hk
      obtain ⟨b1, b2, b3, b4⟩ := h.bks k hk
      exact ⟨(kk k (by omega)).1.trans b1, (kr 128 k (by omega) (by decide)).trans b2, (kk _ (by omega)).1.trans b3, (kk _ (by omega)).2.trans b4⟩,
    fun k hk i hi => kd (by have := isBk_out hk; omega) (h.dss k hk i hi)⟩
/-- which books serve for what, which designs lie where in them -/
def DKY (m : Mem) (kb kd : Nat) (P : Nat → Nat) (ds : Nat → Nat → Nat) : Prop := (mFR m 709 100 = kb) ∧ (mFR m 710 100 = kd) ∧ (∀ i, i < 8 → mAR m 143 i = P i) ∧ (∀ k, isBk k → ∀ i, i < 6 → mAR m (k + 1) i = ds k i) ∧ (isBk kb) ∧ (isBk kd) ∧ (∀ i, i < 8 → isBk (P i)) ∧ (kb ≠ kd) ∧ (∀ i, i < 8 → P i ≠ kb ∧ P i ≠ kd) ∧ (∀ i j, i < 8 → j < 8 → i ≠ j → P i ≠ P j) ∧ (∀ k, isBk k → (∀ i, i < 6 → ∃ j, j < 6 ∧ ds k i = k + 2 + 3 * j) ∧ ∀ i j, i < 6 → j < 6 → i ≠ j → ds k i ≠ ds k j)
set_option maxRecDepth 100000 in
theorem DKY.r709 {m : Mem} {kb kd : Nat} {P : Nat → Nat} {ds : Nat → Nat → Nat} (h : DKY m kb kd P ds) : mFR m 709 100 = kb := h.1
set_option maxRecDepth 100000 in
theorem DKY.r710 {m : Mem} {kb kd : Nat} {P : Nat → Nat} {ds : Nat → Nat → Nat} (h : DKY m kb kd P ds) : mFR m 710 100 = kd := h.2.1
set_option maxRecDepth 100000 in
theorem DKY.pr {m : Mem} {kb kd : Nat} {P : Nat → Nat} {ds : Nat → Nat → Nat} (h : DKY m kb kd P ds) : ∀ i, i < 8 → mAR m 143 i = P i := h.2.2.1
set_option maxRecDepth 100000 in
theorem DKY.dr {m : Mem} {kb kd : Nat} {P : Nat → Nat} {ds : Nat → Nat → Nat} (h : DKY m kb kd P ds) : ∀ k, isBk k → ∀ i, i < 6 → mAR m (k + 1) i = ds k i := h.2.2.2.1
set_option maxRecDepth 100000 in
theorem DKY.ib {m : Mem} {kb kd : Nat} {P : Nat → Nat} {ds : Nat → Nat → Nat} (h : DKY m kb kd P ds) : isBk kb := h.2.2.2.2.1
set_option maxRecDepth 100000 in
theorem DKY.id_ {m : Mem} {kb kd : Nat} {P : Nat → Nat} {ds : Nat → Nat → Nat} (h : DKY m kb kd P ds) : isBk kd := h.2.2.2.2.2.1
set_option maxRecDepth 100000 in
theorem DKY.ip {m : Mem} {kb kd : Nat} {P : Nat → Nat} {ds : Nat → Nat → Nat} (h : DKY m kb kd P ds) : ∀ i, i < 8 → isBk (P i) := h.2.2.2.2.2.2.1
set_option maxRecDepth 100000 in
theorem DKY.n1 {m : Mem} {kb kd : Nat} {P : Nat → Nat} {ds : Nat → Nat → Nat} (h : DKY m kb kd P ds) : kb ≠ kd := h.2.2.2.2.2.2.2.1
set_option maxRecDepth 100000 in
theorem DKY.n2 {m : Mem} {kb kd : Nat} {P : Nat → Nat} {ds : Nat → Nat → Nat} (h : DKY m kb kd P ds) : ∀ i, i < 8 → P i ≠ kb ∧ P i ≠ kd := h.2.2.2.2.2.2.2.2.1
set_option maxRecDepth 100000 in
theorem DKY.n3 {m : Mem} {kb kd : Nat} {P : Nat → Nat} {ds : Nat → Nat → Nat} (h : DKY m kb kd P ds) : ∀ i j, i < 8 → j < 8 → i ≠ j → P i ≠ P j := h.2.2.2.2.2.2.2.2.2.1
set_option maxRecDepth 100000 in
theorem DKY.dp {m : Mem} {kb kd : Nat} {P : Nat → Nat} {ds : Nat → Nat → Nat} (h : DKY m kb kd P ds) : ∀ k, isBk k → (∀ i, i < 6 → ∃ j, j < 6 ∧ ds k i = k + 2 + 3 * j) ∧ ∀ i j, i < 6 → j < 6 → i ≠ j → ds k i ≠ ds k j := h.2.2.2.2.2.2.2.2.2.2
set_option maxRecDepth 100000 in
theorem DKY.bd {m : Mem} {kb kd : Nat} {P : Nat → Nat} {ds : Nat → Nat → Nat} (h : DKY m kb kd P ds) {k : Nat} (hk : isBk k) : BkD k (ds k) := by
  have hd := h.dp k hk
  refine ⟨fun i hi => ?_, fun i j hi hj hij => ?_⟩
  · obtain ⟨x, h1, h2⟩ := hd.1 i hi
    omega
  · obtain ⟨x, h1, h2⟩ := hd.1 i hi
    obtain ⟨y, h3, h4⟩ := hd.1 j hj
    have := hd.2 i j hi hj hij
    omega
set_option maxRecDepth 100000 in
theorem DKY.bw {m : Mem} {kb kd : Nat} {P : Nat → Nat} {ds : Nat → Nat → Nat} (h : DKY m kb kd P ds) (w : DKW m) {k : Nat} (hk : isBk k) : BkW m k (ds k) := by
  obtain ⟨b1, b2, b3, b4⟩ := w.bks k hk
  refine ⟨b1, b2, b3, b4, fun i hi => ⟨h.dr k hk i hi, ?_⟩⟩
  obtain ⟨x, h1, h2⟩ := (h.dp k hk).1 i hi
  rw [h2]
  exact w.dss k hk x h1
set_option maxRecDepth 100000 in
theorem DKY.hi {m : Mem} {kb kd : Nat} {P : Nat → Nat} {ds : Nat → Nat → Nat} (h : DKY m kb kd P ds) (w : DKW m) : HiW m 142 P := ⟨w.k142, w.r256, w.k143, w.l143, fun i hi => ⟨h.pr i hi, (w.bks _ (h.ip i hi)).1⟩⟩
/-- class and reference tell the same -/
def DK (m : Mem) (F A L : Nat → Nat → Int) (I : Nat → Int) (R : Nat → Nat → Int) (kb kd : Nat) (P : Nat → Nat) (ds : Nat → Nat → Nat) (nn b tp : Nat) : Prop := (DKW m) ∧ (DKY m kb kd P ds) ∧ (387 ≤ 100 + mN m) ∧ (CLow m F A L) ∧ (tp ≤ 800) ∧ (I 2 = (tp : Int)) ∧ (F 705 100 = (tp : Int)) ∧ (A 101 = R 2) ∧ (byts (R 2)) ∧ (F 706 100 = I 5) ∧ (F 707 100 = R 1 0) ∧ (F 708 100 = R 1 1) ∧ (NowW (R 3) nn) ∧ (BkG F A kb (ds kb) (R 3) nn) ∧ (KN F 310 (R 3) nn) ∧ (RuC m A (mFR m 130 kb) (R 3)) ∧ (b ≤ 8) ∧ (I 12 = (b : Int)) ∧ (F 257 142 = (b : Int)) ∧ (∀ i, i < b → BkR m F A (P i) (ds (P i)) (R (6 + i)))
set_option maxRecDepth 100000 in
theorem DK.w {m : Mem} {F A L : Nat → Nat → Int} {I : Nat → Int} {R : Nat → Nat → Int} {kb kd : Nat} {P : Nat → Nat} {ds : Nat → Nat → Nat} {nn b tp : Nat} (h : DK m F A L I R kb kd P ds nn b tp) : DKW m := h.1
set_option maxRecDepth 100000 in
theorem DK.y {m : Mem} {F A L : Nat → Nat → Int} {I : Nat → Int} {R : Nat → Nat → Int} {kb kd : Nat} {P : Nat → Nat} {ds : Nat → Nat → Nat} {nn b tp : Nat} (h : DK m F A L I R kb kd P ds nn b tp) : DKY m kb kd P ds := h.2.1
set_option maxRecDepth 100000 in
theorem DK.n0 {m : Mem} {F A L : Nat → Nat → Int} {I : Nat → Int} {R : Nat → Nat → Int} {kb kd : Nat} {P : Nat → Nat} {ds : Nat → Nat → Nat} {nn b tp : Nat} (h : DK m F A L I R kb kd P ds nn b tp) : 387 ≤ 100 + mN m := h.2.2.1
set_option maxRecDepth 100000 in
theorem DK.low {m : Mem} {F A L : Nat → Nat → Int} {I : Nat → Int} {R : Nat → Nat → Int} {kb kd : Nat} {P : Nat → Nat} {ds : Nat → Nat → Nat} {nn b tp : Nat} (h : DK m F A L I R kb kd P ds nn b tp) : CLow m F A L := h.2.2.2.1
set_option maxRecDepth 100000 in
theorem DK.tb {m : Mem} {F A L : Nat → Nat → Int} {I : Nat → Int} {R : Nat → Nat → Int} {kb kd : Nat} {P : Nat → Nat} {ds : Nat → Nat → Nat} {nn b tp : Nat} (h : DK m F A L I R kb kd P ds nn b tp) : tp ≤ 800 := h.2.2.2.2.1
set_option maxRecDepth 100000 in
theorem DK.i2 {m : Mem} {F A L : Nat → Nat → Int} {I : Nat → Int} {R : Nat → Nat → Int} {kb kd : Nat} {P : Nat → Nat} {ds : Nat → Nat → Nat} {nn b tp : Nat} (h : DK m F A L I R kb kd P ds nn b tp) : I 2 = (tp : Int) := h.2.2.2.2.2.1
set_option maxRecDepth 100000 in
theorem DK.f705 {m : Mem} {F A L : Nat → Nat → Int} {I : Nat → Int} {R : Nat → Nat → Int} {kb kd : Nat} {P : Nat → Nat} {ds : Nat → Nat → Nat} {nn b tp : Nat} (h : DK m F A L I R kb kd P ds nn b tp) : F 705 100 = (tp : Int) := h.2.2.2.2.2.2.1
set_option maxRecDepth 100000 in
theorem DK.row {m : Mem} {F A L : Nat → Nat → Int} {I : Nat → Int} {R : Nat → Nat → Int} {kb kd : Nat} {P : Nat → Nat} {ds : Nat → Nat → Nat} {nn b tp : Nat} (h : DK m F A L I R kb kd P ds nn b tp) : A 101 = R 2 := h.2.2.2.2.2.2.2.1
set_option maxRecDepth 100000 in
theorem DK.byt {m : Mem} {F A L : Nat → Nat → Int} {I : Nat → Int} {R : Nat → Nat → Int} {kb kd : Nat} {P : Nat → Nat} {ds : Nat → Nat → Nat} {nn b tp : Nat} (h : DK m F A L I R kb kd P ds nn b tp) : byts (R 2) := h.2.2.2.2.2.2.2.2.1
set_option maxRecDepth 100000 in
theorem DK.f706 {m : Mem} {F A L : Nat → Nat → Int} {I : Nat → Int} {R : Nat → Nat → Int} {kb kd : Nat} {P : Nat → Nat} {ds : Nat → Nat → Nat} {nn b tp : Nat} (h : DK m F A L I R kb kd P ds nn b tp) : F 706 100 = I 5 := h.2.2.2.2.2.2.2.2.2.1
set_option maxRecDepth 100000 in
theorem DK.f707 {m : Mem} {F A L : Nat → Nat → Int} {I : Nat → Int} {R : Nat → Nat → Int} {kb kd : Nat} {P : Nat → Nat} {ds : Nat → Nat → Nat} {nn b tp : Nat} (h : DK m F A L I R kb kd P ds nn b tp) : F 707 100 = R 1 0 := h.2.2.2.2.2.2.2.2.2.2.1
set_option maxRecDepth 100000 in
theorem DK.f708 {m : Mem} {F A L : Nat → Nat → Int} {I : Nat → Int} {R : Nat → Nat → Int} {kb kd : Nat} {P : Nat → Nat} {ds : Nat → Nat → Nat} {nn b tp : Nat} (h : DK m F A L I R kb kd P ds nn b tp) : F 708 100 = R 1 1 := h.2.2.2.2.2.2.2.2.2.2.2.1
set_option maxRecDepth 100000 in
theorem DK.now {m : Mem} {F A L : Nat → Nat → Int} {I : Nat → Int} {R : Nat → Nat → Int} {kb kd : Nat} {P : Nat → Nat} {ds : Nat → Nat → Nat} {nn b tp : Nat} (h : DK m F A L I R kb kd P ds nn b tp) : NowW (R 3) nn := h.2.2.2.2.2.2.2.2.2.2.2.2.1
set_option maxRecDepth 100000 in
theorem DK.bk {m : Mem} {F A L : Nat → Nat → Int} {I : Nat → Int} {R : Nat → Nat → Int} {kb kd : Nat} {P : Nat → Nat} {ds : Nat → Nat → Nat} {nn b tp : Nat} (h : DK m F A L I R kb kd P ds nn b tp) : BkG F A kb (ds kb) (R 3) nn := h.2.2.2.2.2.2.2.2.2.2.2.2.2.1
set_option maxRecDepth 100000 in
theorem DK.kn {m : Mem} {F A L : Nat → Nat → Int} {I : Nat → Int} {R : Nat → Nat → Int} {kb kd : Nat} {P : Nat → Nat} {ds : Nat → Nat → Nat} {nn b tp : Nat} (h : DK m F A L I R kb kd P ds nn b tp) : KN F 310 (R 3) nn := h.2.2.2.2.2.2.2.2.2.2.2.2.2.2.1
set_option maxRecDepth 100000 in
theorem DK.ru {m : Mem} {F A L : Nat → Nat → Int} {I : Nat → Int} {R : Nat → Nat → Int} {kb kd : Nat} {P : Nat → Nat} {ds : Nat → Nat → Nat} {nn b tp : Nat} (h : DK m F A L I R kb kd P ds nn b tp) : RuC m A (mFR m 130 kb) (R 3) := h.2.2.2.2.2.2.2.2.2.2.2.2.2.2.2.1
set_option maxRecDepth 100000 in
theorem DK.b8 {m : Mem} {F A L : Nat → Nat → Int} {I : Nat → Int} {R : Nat → Nat → Int} {kb kd : Nat} {P : Nat → Nat} {ds : Nat → Nat → Nat} {nn b tp : Nat} (h : DK m F A L I R kb kd P ds nn b tp) : b ≤ 8 := h.2.2.2.2.2.2.2.2.2.2.2.2.2.2.2.2.1
set_option maxRecDepth 100000 in
theorem DK.i12 {m : Mem} {F A L : Nat → Nat → Int} {I : Nat → Int} {R : Nat → Nat → Int} {kb kd : Nat} {P : Nat → Nat} {ds : Nat → Nat → Nat} {nn b tp : Nat} (h : DK m F A L I R kb kd P ds nn b tp) : I 12 = (b : Int) := h.2.2.2.2.2.2.2.2.2.2.2.2.2.2.2.2.2.1
set_option maxRecDepth 100000 in
theorem DK.f257 {m : Mem} {F A L : Nat → Nat → Int} {I : Nat → Int} {R : Nat → Nat → Int} {kb kd : Nat} {P : Nat → Nat} {ds : Nat → Nat → Nat} {nn b tp : Nat} (h : DK m F A L I R kb kd P ds nn b tp) : F 257 142 = (b : Int) := h.2.2.2.2.2.2.2.2.2.2.2.2.2.2.2.2.2.2.1
set_option maxRecDepth 100000 in
theorem DK.past {m : Mem} {F A L : Nat → Nat → Int} {I : Nat → Int} {R : Nat → Nat → Int} {kb kd : Nat} {P : Nat → Nat} {ds : Nat → Nat → Nat} {nn b tp : Nat} (h : DK m F A L I R kb kd P ds nn b tp) : ∀ i, i < b → BkR m F A (P i) (ds (P i)) (R (6 + i)) := h.2.2.2.2.2.2.2.2.2.2.2.2.2.2.2.2.2.2.2
/-- what a call of the class leaves of all other cells -/
def Out (m m' : Mem) (F F' A A' L L' : Nat → Nat → Int) : Prop := (mN m ≤ mN m' ∧ mN m' ≤ mN m + 4 ∧ mZ m ≤ mZ m' ∧ mZ m' ≤ mZ m + 1000) ∧ ∀ a, a < 100 + mN m → a < 100 ∨ 362 ≤ a → (mK m' a = mK m a ∧ mLen m' a = mLen m a ∧ mAR m' a = mAR m a ∧ A' a = A a ∧ L' a = L a) ∧ ∀ f, mFR m' f a = mFR m f a ∧ F' f a = F f a
set_option maxRecDepth 100000 in
theorem Out.rf (m : Mem) (F A L : Nat → Nat → Int) : Out m m F F A A L L := ⟨⟨Nat.le_refl _, by omega, Nat.le_refl _, by omega⟩, fun _ _ _ => ⟨⟨rfl, rfl, rfl, rfl, rfl⟩, fun _ => ⟨rfl, rfl⟩⟩⟩
set_option maxRecDepth 100000 in
/-- the reference's own rows change, not what is told -/
theorem DK.r {m : Mem} {F A L : Nat → Nat → Int} {I I' : Nat → Int} {R R' : Nat → Nat → Int} {kb kd : Nat} {P : Nat → Nat} {ds : Nat → Nat → Nat} {nn b tp : Nat} (h : DK m F A L I R kb kd P ds nn b tp) (hI : ∀ i, i = 2 ∨ i = 5 ∨ i = 12 → I' i = I i) (hR : ∀ j, j < 14 → R' j = R j) : DK m F A L I' R' kb kd P ds nn b tp :=
  ⟨h.w,
    h.y,
    h.n0,
    h.low,
    h.tb,
    (hI 2 (by omega)).trans h.i2,
    h.f705,
    h.row.trans (hR 2 (by omega)).symm,
    by rw [hR 2 (by omega)]; exact h.byt,
    h.f706.trans (hI 5 (by omega)).symm,
    by rw [hR 1 (by omega)]; exact h.f707,
    by rw [hR 1 (by omega)]; exact h.f708,
    by rw [hR 3 (by omega)]; exact h.now,
    by rw [hR 3 (by omega)]; exact h.bk,
    by rw [hR 3 (by omega)]; exact h.kn,
    by rw [hR 3 (by omega)]; exact h.ru,
    h.b8,
    (hI 12 (by omega)).trans h.i12,
    h.f257,
    fun i hi => by rw [hR (6 + i) (by have := h.b8; omega)]; exact h.past i hi⟩
