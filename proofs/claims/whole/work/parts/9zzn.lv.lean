/-! ===== the law: class and reference side by side ===== -/
/-- between two calls: k calls made -/
def LV (sn : Nat) (S : Nat → Int) (k : Nat) (M : Mem) (I : Nat → Int) (R : Nat → Nat → Int) : Prop := (∃ (kb kd : Nat) (P : Nat → Nat) (ds : Nat → Nat → Nat) (nn b tp : Nat), DK M (mFI M) (mAI M) (mAL M) I R kb kd P ds nn b tp) ∧ MW M ∧ LowW M ∧ (∃ Lr, RfM M I R Lr) ∧ LA M 386 1 ∧ (mK M 1 = 13 ∧ mLen M 1 = sn ∧ mAI M 1 = S) ∧ mN M ≤ 400 + 4 * k ∧ mZ M ≤ 100000 + 1000 * k
/-- behind the class's call, ahead of the reference's -/
def LW (sn : Nat) (S : Nat → Int) (k : Nat) (M : Mem) (I : Nat → Int) (R : Nat → Nat → Int) (I' : Nat → Int) (R' : Nat → Nat → Int) : Prop := (∃ (kb kd : Nat) (P : Nat → Nat) (ds : Nat → Nat → Nat) (nn b tp : Nat), DK M (mFI M) (mAI M) (mAL M) I' R' kb kd P ds nn b tp) ∧ MW M ∧ LowW M ∧ (∃ Lr, RfM M I R Lr) ∧ LA M 386 1 ∧ (mK M 1 = 13 ∧ mLen M 1 = sn ∧ mAI M 1 = S) ∧ mN M ≤ 404 + 4 * k ∧ mZ M ≤ 101000 + 1000 * k
set_option maxRecDepth 100000 in
theorem MW.out {m m' : Mem} (h : MW m) (g : ∀ a, 362 ≤ a → a < 386 → mK m' a = mK m a ∧ mLen m' a = mLen m a ∧ mAR m' a = mAR m a ∧ ∀ f, mFR m' f a = mFR m f a) : MW m' := by
  have g0 := g 362 (by decide) (by decide)
  have hr : ∀ f, mFR m' f 362 = mFR m f 362 := g0.2.2.2
  have hk : ∀ j, j < 23 → mK m' (363 + j) = mK m (363 + j) ∧ mLen m' (363 + j) = mLen m (363 + j) := fun j hj => ⟨(g _ (by omega) (by omega)).1, (g _ (by omega) (by omega)).2.1⟩
  obtain ⟨h1, h2, h3, h4, h5⟩ := h
  unfold MW
  rw [g0.1, hr 769, hr 776, hr 777, hr 778, hr 779, hr 785, hr 786, hr 787, hr 788, hr 789, hr 800, hr 801, hr 802, hr 803, hr 804]
  have k0 := hk 0 (by decide); have k1 := hk 1 (by decide); have k2 := hk 2 (by decide); have k3 := hk 3 (by decide); have k4 := hk 4 (by decide); have k5 := hk 5 (by decide); have k6 := hk 6 (by decide); have k7 := hk 7 (by decide); have k8 := hk 8 (by decide); have k9 := hk 9 (by decide); have k10 := hk 10 (by decide); have k11 := hk 11 (by decide); have k12 := hk 12 (by decide); have k13 := hk 13 (by decide); have k14 := hk 14 (by decide); have k15 := hk 15 (by decide); have k16 := hk 16 (by decide); have k17 := hk 17 (by decide); have k18 := hk 18 (by decide); have k19 := hk 19 (by decide); have k20 := hk 20 (by decide); have k21 := hk 21 (by decide); have k22 := hk 22 (by decide)
  refine ⟨h1, h2, ?_, ?_, fun j hj => by rw [(g 367 (by decide) (by decide)).2.2.1]; exact h5 j hj⟩
  · obtain ⟨a0, a1, a2, a3, a4, a5, a6, a7, a8, a9, a10, a11, a12, a13, a14, a15, a16, a17, a18, a19, a20, a21, a22⟩ := h3
    exact ⟨k0.1.trans a0, k1.1.trans a1, k2.1.trans a2, k3.1.trans a3, k4.1.trans a4, k5.1.trans a5, k6.1.trans a6, k7.1.trans a7, k8.1.trans a8, k9.1.trans a9, k10.1.trans a10, k11.1.trans a11, k12.1.trans a12, k13.1.trans a13, k14.1.trans a14, k15.1.trans a15, k16.1.trans a16, k17.1.trans a17, k18.1.trans a18, k19.1.trans a19, k20.1.trans a20, k21.1.trans a21, k22.1.trans a22⟩
  · obtain ⟨a0, a1, a2, a3, a4, a5, a6, a7, a8, a9, a10, a11, a12, a13, a14, a15, a16, a17, a18, a19, a20, a21, a22⟩ := h4
    exact ⟨k0.2.trans a0, k1.2.trans a1, k2.2.trans a2, k3.2.trans a3, k4.2.trans a4, k5.2.trans a5, k6.2.trans a6, k7.2.trans a7, k8.2.trans a8, k9.2.trans a9, k10.2.trans a10, k11.2.trans a11, k12.2.trans a12, k13.2.trans a13, k14.2.trans a14, k15.2.trans a15, k16.2.trans a16, k17.2.trans a17, k18.2.trans a18, k19.2.trans a19, k20.2.trans a20, k21.2.trans a21, k22.2.trans a22⟩
section Side
variable {sn k : Nat} {S : Nat → Int} {M m' : Mem} {F' A' L' : Nat → Nat → Int} {I I' : Nat → Int} {R R' Lr : Nat → Nat → Int} {kb kd : Nat} {P : Nat → Nat} {ds : Nat → Nat → Nat} {nn b tp : Nat}
set_option maxRecDepth 100000 in
theorem LV.n0 (h : LV sn S k M I R) : 387 ≤ 100 + mN M := by
  obtain ⟨⟨kb, kd, P, ds, nn, b, tp, hd⟩, _⟩ := h
  exact hd.n0
set_option maxRecDepth 100000 in
/-- the class has answered -/
theorem LV.cls (h : LV sn S k M I R) (o : Out M m' (mFI M) F' (mAI M) A' (mAL M) L') (hd : DK m' F' A' L' I' R' kb kd P ds nn b tp) : LW sn S k (CM m' F' A' L') I R I' R' := by
  have n0 := h.n0
  obtain ⟨_, h2, h3, ⟨Lr, h4⟩, h5, h6, h7, h8⟩ := h
  obtain ⟨⟨o1, o2, o3, o4⟩, o5⟩ := o
  have ox : ∀ a, a < 387 → a < 100 ∨ 362 ≤ a → (mK m' a = mK M a ∧ mLen m' a = mLen M a ∧ mAR m' a = mAR M a ∧ A' a = mAI M a ∧ L' a = mAL M a) ∧ ∀ f, mFR m' f a = mFR M f a ∧ F' f a = mFI M f a := fun a q1 q2 => o5 a (by omega) q2
  refine ⟨⟨kb, kd, P, ds, nn, b, tp, hd⟩, h2.out (fun a q1 q2 => ⟨(ox a (by omega) (Or.inr q1)).1.1, (ox a (by omega) (Or.inr q1)).1.2.1, (ox a (by omega) (Or.inr q1)).1.2.2.1, fun f => ((ox a (by omega) (Or.inr q1)).2 f).1⟩), fun w hw => ?_, ⟨Lr, fun f hf => ?_, fun j q1 q2 => ?_⟩, ?_, ?_, by show mN m' ≤ _; omega, by show mZ m' ≤ _; omega⟩
  · obtain ⟨t1, t2, t3, t4, t5, t6, t7⟩ := h3 w hw
    have k1 := ox (30 + 2 * w) (by omega) (Or.inl (by omega))
    have k2 := ox (31 + 2 * w) (by omega) (Or.inl (by omega))
    refine ⟨k1.1.1.trans t1, (k1.2 1280).1.trans t2, (k1.2 1281).2.trans t3, k2.1.1.trans t4, k2.1.2.1.trans t5, t6, fun j hj => ?_⟩
    show A' (31 + 2 * w) j = _ ∧ _
    rw [k2.1.2.2.2.1]
    exact t7 j hj
  · exact ((ox 362 (by decide) (Or.inr (by decide))).2 f).2.trans (h4.1 f hf)
  · have q1' : 362 < j := q1
    have q2' : j ≤ 362 + 23 := q2
    have g := ox j (by omega) (Or.inr (by omega))
    exact ⟨g.1.2.2.2.1.trans (h4.2 j q1 q2).1, g.1.2.2.2.2.trans (h4.2 j q1 q2).2⟩
  · have g := ox 386 (by decide) (Or.inr (by decide))
    exact ⟨g.1.1.trans h5.1, g.1.2.1.trans h5.2⟩
  · have g := ox 1 (by decide) (Or.inl (by decide))
    exact ⟨g.1.1.trans h6.1, g.1.2.1.trans h6.2.1, g.1.2.2.2.1.trans h6.2.2⟩
set_option maxRecDepth 100000 in
/-- the wrapper has put the answer down -/
theorem LW.put {v : Int} (h : LW sn S k (CM m' F' A' L') I R I' R') : LW sn S k (CM m' F' A' (up1 L' 386 (up1 (L' 386) 0 v))) I R I' R' := by
  obtain ⟨⟨kb, kd, P, ds, nn, b, tp, hd⟩, h2, h3, ⟨Lr, h4⟩, h5, h6, h7, h8⟩ := h
  refine ⟨⟨kb, kd, P, ds, nn, b, tp, ?_⟩, h2, h3, ⟨Lr, h4.1, fun j q1 q2 => ⟨(h4.2 j q1 q2).1, ?_⟩⟩, h5, h6, h7, h8⟩
  · exact DK.ref (F := F') (A := A') (m := m') hd (SAm.rf m') (fun _ _ => rfl) (fun _ => rfl) (fun _ _ _ => rfl) (fun _ _ => rfl)
  · have q2' : j ≤ 362 + 23 := q2
    have e : up1 L' 386 (up1 (L' 386) 0 v) j = L' j := up1_ne _ _ (by omega)
    exact e.trans (h4.2 j q1 q2).2
set_option maxRecDepth 100000 in
theorem LW.ms (h : LW sn S k M I R I' R') : ∃ Lr, M = MS M I R Lr := by
  obtain ⟨_, _, _, ⟨Lr, h4⟩, _⟩ := h
  exact ⟨Lr, h4.ms⟩
set_option maxRecDepth 100000 in
/-- the reference has answered -/
theorem LW.ref (h : LW sn S k M I R I' R') : LV sn S (k + 1) (MS M I' R' Lr) I' R' := by
  obtain ⟨⟨kb, kd, P, ds, nn, b, tp, hd⟩, h2, h3, _, h5, h6, h7, h8⟩ := h
  have kF : ∀ f j, j < 362 → mFI (MS M I' R' Lr) f j = mFI M f j := fun f j q => if_neg (fun z => by have e : j = 362 := z.1; omega)
  have kA : ∀ j, j < 362 ∨ 386 ≤ j → mAI (MS M I' R' Lr) j = mAI M j := fun j q => if_neg (fun z => by have e1 : 362 < j := z.1; have e2 : j ≤ 362 + 23 := z.2; omega)
  refine ⟨⟨kb, kd, P, ds, nn, b, tp, DK.ref hd ⟨Nat.le_refl _, fun _ _ => ⟨rfl, rfl⟩, fun _ _ _ _ => rfl, fun _ _ _ _ => rfl⟩ (fun _ _ => rfl) (fun _ => rfl) kF kA⟩, h2, fun w hw => ?_, ⟨Lr, MS_rf M I' R' Lr⟩, h5, ⟨h6.1, h6.2.1, (kA 1 (Or.inl (by decide))).trans h6.2.2⟩, by show mN M ≤ _; omega, by show mZ M ≤ _; omega⟩
  obtain ⟨t1, t2, t3, t4, t5, t6, t7⟩ := h3 w hw
  refine ⟨t1, t2, (kF _ _ (by omega)).trans t3, t4, t5, t6, fun j hj => ?_⟩
  rw [kA _ (Or.inl (by omega))]
  exact t7 j hj
set_option maxRecDepth 100000 in
/-- what is told is the same by other numbers of the reference -/
theorem LW.r {I2 : Nat → Int} {R2 : Nat → Nat → Int} (h : LW sn S k M I R I' R') (hI : ∀ i, i = 2 ∨ i = 5 ∨ i = 12 → I2 i = I' i) (hR : ∀ j, j < 14 → R2 j = R' j) : LW sn S k M I R I2 R2 := by
  obtain ⟨⟨kb, kd, P, ds, nn, b, tp, hd⟩, h⟩ := h
  exact ⟨⟨kb, kd, P, ds, nn, b, tp, hd.r hI hR⟩, h⟩
end Side
