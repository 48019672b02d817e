/-! ===== the first state ===== -/
def I0 : Nat → Int := fun k => if k = 5 then -1 else 0
def P0 : Nat → Nat := fun i => 144 + 20 * i
set_option maxRecDepth 100000 in
theorem isBk_i {k : Nat} (h : isBk k) : k = 102 ∨ k = 122 ∨ ∃ i, i < 8 ∧ k = 144 + 20 * i := by
  unfold isBk at h
  rcases h with h | h | h
  · exact Or.inl h
  · exact Or.inr (Or.inl h)
  · exact Or.inr (Or.inr ⟨(k - 144) / 20, by omega, by omega⟩)
set_option maxRecDepth 100000 in
theorem Mk.bw {m : Mem} {F A : Nat → Nat → Int} (h : Mk 6 m F A) {k : Nat} (hk : isBk k) : BkW m k (bkd k) := by
  rcases isBk_i hk with rfl | rfl | ⟨i, hi, rfl⟩
  · exact (h.2.1 (by decide)).2.1
  · exact (h.2.2.1 (by decide)).2
  · exact ((h.2.2.2.1 (by decide)).2.2.1 i hi).2
set_option maxRecDepth 100000 in
theorem Fr.y {lo : Nat} {m m1 : Mem} {F F1 A A1 L L1 : Nat → Nat → Int} (g : Fr lo m m1 F F1 A A1 L L1) : Fx lo 9999 m m1 F F1 A A1 := fun j hj => by
  obtain ⟨⟨x1, x2, x3, x4, _⟩, x6⟩ := g j hj
  exact ⟨⟨x1, x2, x3, x4⟩, fun f => (x6 f).2, fun f _ => (x6 f).1⟩
set_option maxRecDepth 100000 in
theorem DK.init {m : Mem} {F A L : Nat → Nat → Int} (h : Mk 6 m F A) (hr : mFR m 715 100 = 359 ∧ mFR m 716 100 = 360 ∧ mFR m 717 100 = 361) (hi : IA m 359 5 ∧ LA m 360 32 ∧ IA m 361 6) (n0 : 387 ≤ 100 + mN m) (hC : CLow m F A L) : DK m F A L I0 (fun _ _ => 0) 102 122 P0 bkd 0 0 0 := by
  obtain ⟨⟨a1, a2, a3, a4, a5, a6, a7, a8⟩, b, c, e, t, o, s⟩ := id h
  have b := b (by decide)
  have c := c (by decide)
  have e := e (by decide)
  have t := t (by decide)
  have o := o (by decide)
  have s := s (by decide)
  have hw : DKW m := ⟨a1,
    a2,
    e.1,
    t.1,
    o.1,
    s.1,
    hr.1,
    hr.2.1,
    hr.2.2,
    a3,
    hi.1,
    hi.2.1,
    hi.2.2,
    e.2.1.1,
    e.2.1.2.1,
    e.2.1.2.2.1,
    e.2.1.2.2.2,
    o.2.1,
    s.2,
    t.2.1.1,
    t.2.1.2.1,
    t.2.1.2.2,
    t.2.2.1,
    t.2.2.2,
    fun k hk => ⟨(h.bw hk).1, (h.bw hk).2.1, (h.bw hk).2.2.1, (h.bw hk).2.2.2.1⟩,
    fun k hk i hi => ((h.bw hk).2.2.2.2 i hi).2⟩
  have hy : DKY m 102 122 P0 bkd := ⟨b.1,
    c.1,
    fun i hi => (e.2.2.1 i hi).1,
    fun k hk i hi => ((h.bw hk).2.2.2.2 i hi).1,
    by unfold isBk; omega,
    by unfold isBk; omega,
    fun i hi => by unfold isBk P0; omega,
    by decide,
    fun i hi => by unfold P0; omega,
    fun i j hi hj hij => by unfold P0; omega,
    fun k hk => ⟨fun i hi => ⟨i, hi, rfl⟩, fun i j hi hj hij => by unfold bkd; omega⟩⟩
  exact ⟨hw,
    hy,
    n0,
    hC,
    Nat.zero_le _,
    rfl,
    a5,
    a4,
    fun k _ => (show (0 : Int) ≤ 0 ∧ (0 : Int) ≤ 255 by decide),
    a6,
    a7,
    a8,
    ⟨Nat.zero_le _, rfl, Or.inl rfl, fun dd hd => absurd hd (Nat.not_lt_zero _)⟩,
    ⟨b.2.2.1, fun i hi => absurd hi (Nat.not_lt_zero _)⟩,
    KN.no (fun i hi => o.2.2 i hi) (Nat.zero_le _),
    Or.inl ⟨b.2.2.2, rfl⟩,
    Nat.zero_le _,
    rfl,
    e.2.2.2,
    fun i hi => absurd hi (Nat.not_lt_zero _)⟩
set_option maxRecDepth 100000 in
/-- cells of the class are as they were: the reference's own calls -/
theorem DK.ref {m m' : Mem} {F F' A A' L L' : Nat → Nat → Int} {I : Nat → Int} {R : Nat → Nat → Int} {kb kd : Nat} {P : Nat → Nat} {ds : Nat → Nat → Nat} {nn b tp : Nat} (h : DK m F A L I R kb kd P ds nn b tp) (hs : SAm m m') (hr : ∀ f a, mFR m' f a = mFR m f a) (ha : ∀ a, mAR m' a = mAR m a) (kF : ∀ f j, j < 362 → F' f j = F f j) (kA : ∀ j, j < 362 ∨ 386 ≤ j → A' j = A j) : DK m' F' A' L' I R kb kd P ds nn b tp :=
  h.fr ⟨hs, fun f a _ _ _ _ => hr f a, fun a _ => ha a, fun a q1 _ => ⟨hr _ _, kA a (Or.inr (by omega))⟩, fun f j q _ => kF f j (by omega), ⟨kF _ _ (by decide), kF _ _ (by decide)⟩, fun j q => kA j (Or.inl (by omega))⟩ ((kF 707 100 (by decide)).trans h.f707) ((kF 708 100 (by decide)).trans h.f708) (h.kn.k h.now.1 (fun f j _ y2 => kF f j (by omega))) (fun _ _ => rfl) (fun _ _ _ => rfl)
/-- the reference's fields and rows as they stand in memory -/
def RfM (M : Mem) (I : Nat → Int) (R L : Nat → Nat → Int) : Prop := (∀ f, 768 ≤ f → mFI M f aM = I (f - 768)) ∧ ∀ j, aM < j → j ≤ aM + 23 → mAI M j = R (j - aM) ∧ mAL M j = L (j - aM)
set_option maxRecDepth 100000 in
theorem RfM.ms {M : Mem} {I : Nat → Int} {R L : Nat → Nat → Int} (h : RfM M I R L) : M = MS M I R L := by
  have e1 : (fun f a => if a = aM ∧ 768 ≤ f then I (f - 768) else mFI M f a) = mFI M := by
    funext f a
    by_cases z : a = aM ∧ 768 ≤ f
    · rw [if_pos z, z.1]; exact (h.1 f z.2).symm
    · rw [if_neg z]
  have e2 : (fun a => if aM < a ∧ a ≤ aM + 23 then R (a - aM) else mAI M a) = mAI M := by
    funext a
    by_cases z : aM < a ∧ a ≤ aM + 23
    · rw [if_pos z]; exact (h.2 a z.1 z.2).1.symm
    · rw [if_neg z]
  have e3 : (fun a => if aM < a ∧ a ≤ aM + 23 then L (a - aM) else mAL M a) = mAL M := by
    funext a
    by_cases z : aM < a ∧ a ≤ aM + 23
    · rw [if_pos z]; exact (h.2 a z.1 z.2).2.symm
    · rw [if_neg z]
  unfold MS
  rw [e1, e2, e3]
  rfl
set_option maxRecDepth 100000 in
theorem MS_rf (M : Mem) (I : Nat → Int) (R L : Nat → Nat → Int) : RfM (MS M I R L) I R L := ⟨fun f hf => if_pos ⟨rfl, hf⟩, fun j h1 h2 => ⟨if_pos ⟨h1, h2⟩, if_pos ⟨h1, h2⟩⟩⟩
