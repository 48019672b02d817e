/-! ===== the class: what a question, or a refusal, leaves ===== -/
section DKF
variable {m m' : Mem} {F F' A A' L L' : Nat → Nat → Int} {I I' : Nat → Int} {R R' : Nat → Nat → Int} {kb kd : Nat} {P : Nat → Nat} {ds : Nat → Nat → Nat} {nn b tp : Nat}
set_option maxRecDepth 100000 in
theorem CLow.mem (h : CLow m F A L) (hk : ∀ a, a < 100 → mK m' a = mK m a ∧ mLen m' a = mLen m a ∧ mFR m' 1280 a = mFR m 1280 a ∧ F' 1281 a = F 1281 a ∧ A' a = A a) : CLow m' F' A' L' := fun w hw => by
  have hb : cwA w + 1 < 100 := by unfold cwA; split <;> (try split) <;> omega
  obtain ⟨t1, t2, t3, t4, t5, t6, t7⟩ := h w hw
  have k1 := hk (cwA w) (by omega)
  have k2 := hk (cwA w + 1) hb
  refine ⟨k1.1.trans t1, k1.2.2.1.trans t2, k1.2.2.2.1.trans t3, k2.1.trans t4, k2.2.1.trans t5, t6, fun j hj => ?_⟩
  show A' (cwA w + 1) j = _ ∧ _
  rw [k2.2.2.2.2]
  exact t7 j hj
/-- the cells that a question leaves -/
def KQs (m m' : Mem) (F F' A A' : Nat → Nat → Int) : Prop := SAm m m' ∧ (∀ f a, a < 387 → f ≠ 321 → f ≠ 322 → f ≠ 512 → mFR m' f a = mFR m f a) ∧ (∀ a, a < 387 → mAR m' a = mAR m a) ∧ (∀ a, 387 ≤ a → a < 100 + mN m → mFR m' 384 a = mFR m 384 a ∧ A' a = A a) ∧ (∀ f j, j < 310 → j ≠ 100 → F' f j = F f j) ∧ (F' 705 100 = F 705 100 ∧ F' 706 100 = F 706 100) ∧ ∀ j, j < 310 → A' j = A j
set_option maxRecDepth 100000 in
theorem DK.fr (h : DK m F A L I R kb kd P ds nn b tp) (g : KQs m m' F F' A A') (h707 : F' 707 100 = R' 1 0) (h708 : F' 708 100 = R' 1 1) (hkn : KN F' 310 (R 3) nn) (hI : ∀ i, i = 2 ∨ i = 5 ∨ i = 12 → I' i = I i) (hR : ∀ j, 2 ≤ j → j < 14 → R' j = R j) : DK m' F' A' L' I' R' kb kd P ds nn b tp := by
  obtain ⟨gs, g1, g2, g3, g4, ⟨g5, g6⟩, g7⟩ := g
  have hn0 := h.n0
  have e3 := hR 3 (by omega) (by omega)
  have hK : ∀ a, 387 ≤ a → a < 100 + mN m → mK m' a = mK m a ∧ mLen m' a = mLen m a ∧ mFR m' 384 a = mFR m 384 a ∧ A' a = A a := fun a y1 y2 => ⟨(gs.2.1 a y2).1, (gs.2.1 a y2).2, (g3 a y1 y2).1, (g3 a y1 y2).2⟩
  have hy := h.y
  have ob := isBk_out hy.ib
  refine ⟨h.w.sa gs h.n0,
    ?_,
    by have := gs.1; omega,
    h.low.mem (fun a ha => ⟨(gs.2.1 a (by omega)).1, (gs.2.1 a (by omega)).2, g1 1280 a (by omega) (by decide) (by decide) (by decide), g4 1281 a (by omega) (by omega), g7 a (by omega)⟩),
    h.tb,
    (hI 2 (by omega)).trans h.i2,
    g5.trans h.f705,
    (g7 101 (by omega)).trans (h.row.trans (hR 2 (by omega) (by omega)).symm),
    by rw [hR 2 (by omega) (by omega)]; exact h.byt,
    g6.trans (h.f706.trans (hI 5 (by omega)).symm),
    h707,
    h708,
    by rw [e3]; exact h.now,
    by rw [e3]; exact h.bk.k h.now.1 (hy.bd hy.ib) (fun f j y1 y2 => g4 f j (by omega) (by omega)) (fun j y1 y2 => g7 j (by omega)),
    by rw [e3]; exact hkn,
    by rw [e3, g1 130 kb (by omega) (by decide) (by decide) (by decide)]; exact h.ru.c gs.1 hK (fun _ _ => rfl),
    h.b8,
    (hI 12 (by omega)).trans h.i12,
    (g4 257 142 (by omega) (by omega)).trans h.f257,
    ?_⟩
  · refine ⟨(g1 709 100 (by omega) (by decide) (by decide) (by decide)).trans hy.r709,
    (g1 710 100 (by omega) (by decide) (by decide) (by decide)).trans hy.r710,
    fun i hi => by rw [g2 143 (by omega)]; exact hy.pr i hi,
    fun k hk i hi => by rw [g2 (k + 1) (by have := isBk_out hk; omega)]; exact hy.dr k hk i hi,
    hy.ib,
    hy.id_,
    hy.ip,
    hy.n1,
    hy.n2,
    hy.n3,
    hy.dp⟩
  · intro i hi
    have hi8 : i < 8 := by have := h.b8; omega
    have op := isBk_out (hy.ip i hi8)
    rw [hR (6 + i) (by omega) (by omega)]
    exact (h.past i hi).k (hy.bd (hy.ip i hi8)) gs.1 (g1 130 _ (by omega) (by decide) (by decide) (by decide)) hK (fun f j y1 y2 => g4 f j (by omega) (by omega)) (fun j y1 y2 => g7 j (by omega)) (fun _ _ => rfl)
set_option maxRecDepth 100000 in
theorem KQs.rf (m : Mem) (F A : Nat → Nat → Int) : KQs m m F F A A := ⟨SAm.rf m, fun _ _ _ _ _ _ => rfl, fun _ _ => rfl, fun _ _ _ => ⟨rfl, rfl⟩, fun _ _ _ _ => rfl, ⟨rfl, rfl⟩, fun _ _ => rfl⟩
set_option maxRecDepth 100000 in
theorem KQs.tr {m2 : Mem} {F2 A2 : Nat → Nat → Int} (h : KQs m m' F F' A A') (g : KQs m' m2 F' F2 A' A2) (h3 : 387 ≤ 100 + mN m) : KQs m m2 F F2 A A2 := by
  obtain ⟨a0, a1, a2, a3, a4, ⟨a5, a6⟩, a7⟩ := h
  obtain ⟨b0, b1, b2, b3, b4, ⟨b5, b6⟩, b7⟩ := g
  have hN := a0.1
  refine ⟨a0.tr b0 h3, fun f a q1 q2 q3 q4 => (b1 f a q1 q2 q3 q4).trans (a1 f a q1 q2 q3 q4), fun a q => (b2 a q).trans (a2 a q), fun a q1 q2 => ?_, fun f j q1 q2 => (b4 f j q1 q2).trans (a4 f j q1 q2), ⟨b5.trans a5, b6.trans a6⟩, fun j q => (b7 j q).trans (a7 j q)⟩
  have x := a3 a q1 q2
  have y := b3 a q1 (by omega)
  exact ⟨y.1.trans x.1, y.2.trans x.2⟩
set_option maxRecDepth 100000 in
/-- a refusal: one count grows, an exception is made -/
theorem KQs.al {f : Nat} {v : Int} (hf : f = 707 ∨ f = 708) (h3 : 387 ≤ 100 + mN m) : KQs m (alloc m 22 0 6) F (zF (100 + mN m) (upF F f 100 v)) A (zA (100 + mN m) A) := by
  refine ⟨SAm.al h3, fun f a q _ _ _ => if_neg (by omega), fun a q => if_neg (by omega), fun a q1 q2 => ⟨if_neg (by omega), if_neg (by omega)⟩, fun f2 j q1 q2 => ?_, ⟨?_, ?_⟩, fun j q => if_neg (by omega)⟩
  · exact (if_neg (by omega)).trans (upF_a _ _ _ q2)
  · exact (if_neg (by omega)).trans (upF_f _ _ _ (by omega))
  · exact (if_neg (by omega)).trans (upF_f _ _ _ (by omega))
set_option maxRecDepth 100000 in
theorem DK.no0 (h : DK m F A L I R kb kd P ds nn b tp) (hI : ∀ i, i = 2 ∨ i = 5 ∨ i = 12 → I' i = I i) : DK (alloc m 22 0 6) (zF (100 + mN m) (upF F 707 100 (F 707 100 + 1))) (zA (100 + mN m) A) (zA (100 + mN m) L) I' (refA 0 R) kb kd P ds nn b tp := by
  have h3 := h.n0
  refine h.fr (KQs.al (Or.inl rfl) h3) ?_ ?_ (h.kn.k h.now.1 (fun f j y1 y2 => (if_neg (by omega)).trans (upF_a _ _ _ (by omega)))) hI (fun j y1 y2 => up1_ne _ _ (by omega))
  · refine (if_neg (by omega)).trans ((upF_at _ _ _ _).trans ?_)
    rw [h.f707]
    show R 1 0 + 1 = up1 R 1 (up1 (R 1) 0 (R 1 0 + 1)) 1 0
    rw [up1_at, up1_at]
  · refine (if_neg (by omega)).trans ((upF_f _ _ _ (by decide)).trans ?_)
    rw [h.f708]
    show R 1 1 = up1 R 1 (up1 (R 1) 0 (R 1 0 + 1)) 1 1
    rw [up1_at, up1_ne _ _ (by decide)]
set_option maxRecDepth 100000 in
theorem DK.no1 (h : DK m F A L I R kb kd P ds nn b tp) (hI : ∀ i, i = 2 ∨ i = 5 ∨ i = 12 → I' i = I i) : DK (alloc m 22 0 6) (zF (100 + mN m) (upF F 708 100 (F 708 100 + 1))) (zA (100 + mN m) A) (zA (100 + mN m) L) I' (refA 1 R) kb kd P ds nn b tp := by
  have h3 := h.n0
  refine h.fr (KQs.al (Or.inr rfl) h3) ?_ ?_ (h.kn.k h.now.1 (fun f j y1 y2 => (if_neg (by omega)).trans (upF_a _ _ _ (by omega)))) hI (fun j y1 y2 => up1_ne _ _ (by omega))
  · refine (if_neg (by omega)).trans ((upF_f _ _ _ (by decide)).trans ?_)
    rw [h.f707]
    show R 1 0 = up1 R 1 (up1 (R 1) 1 (R 1 1 + 1)) 1 0
    rw [up1_at, up1_ne _ _ (by decide)]
  · refine (if_neg (by omega)).trans ((upF_at _ _ _ _).trans ?_)
    rw [h.f708]
    show R 1 1 + 1 = up1 R 1 (up1 (R 1) 1 (R 1 1 + 1)) 1 1
    rw [up1_at, up1_at]
set_option maxRecDepth 100000 in
theorem Out.al {f : Nat} {v : Int} (h3 : 387 ≤ 100 + mN m) : Out m (alloc m 22 0 6) F (zF (100 + mN m) (upF F f 100 v)) A (zA (100 + mN m) A) L (zA (100 + mN m) L) := by
  refine ⟨⟨Nat.le_succ _, Nat.add_le_add_left (by decide) _, Nat.le_add_right _ _, Nat.add_le_add_left (by decide) _⟩, fun a q1 q2 => ⟨⟨if_neg (by omega), if_neg (by omega), if_neg (by omega), if_neg (by omega), if_neg (by omega)⟩, fun f2 => ⟨if_neg (by omega), (if_neg (by omega)).trans (upF_a _ _ _ (by omega))⟩⟩⟩
set_option maxRecDepth 100000 in
theorem Out.q {x y : Nat} (hF : ∀ f j, j < 100 ∨ 362 ≤ j → F' f j = F f j) (hA : ∀ j, j < 100 ∨ 362 ≤ j → A' j = A j) (hL : ∀ j, j < 100 ∨ 362 ≤ j → L' j = L j) : Out m (sOv m 310 x y) F F' A A' L L' := ⟨⟨Nat.le_refl _, Nat.le_add_right _ _, Nat.le_refl _, Nat.le_add_right _ _⟩, fun a q1 q2 => ⟨⟨rfl, rfl, rfl, hA a q2, hL a q2⟩, fun f => ⟨sOv_r m (Or.inl (by omega)), hF f a q2⟩⟩⟩
set_option maxRecDepth 100000 in
theorem Out.s (hF : ∀ f j, j < 100 ∨ 362 ≤ j → F' f j = F f j) (hA : ∀ j, j < 100 ∨ 362 ≤ j → A' j = A j) (hL : ∀ j, j < 100 ∨ 362 ≤ j → L' j = L j) : Out m m F F' A A' L L' := ⟨⟨Nat.le_refl _, Nat.le_add_right _ _, Nat.le_refl _, Nat.le_add_right _ _⟩, fun a q1 q2 => ⟨⟨rfl, rfl, rfl, hA a q2, hL a q2⟩, fun f => ⟨rfl, hF f a q2⟩⟩⟩
end DKF
