/-! ===== what a row of designs tells, seen through other rows ===== -/
/-- design dd of two rows looks the same (its day aside) -/
def SmD (T T' : Nat → Int) (dd : Nat) : Prop := ∀ j, bD dd < j → j < bD dd + 103 → T' j = T j
set_option maxRecDepth 100000 in
theorem SmD.d1 {T T' : Nat → Int} {dd : Nat} (h : SmD T T' dd) : T' (bD dd + 1) = T (bD dd + 1) := h _ (by omega) (by omega)
set_option maxRecDepth 100000 in
theorem SmD.d2 {T T' : Nat → Int} {dd : Nat} (h : SmD T T' dd) : T' (bD dd + 2) = T (bD dd + 2) := h _ (by omega) (by omega)
set_option maxRecDepth 100000 in
theorem SmD.srt {T T' : Nat → Int} {dd : Nat} (h : SmD T T' dd) (hD : DsW T dd) : srt T' dd = srt T dd := by
  have h1 := hD.2.1
  have h2 := hD.2.2.1
  rw [← srt_gR, ← srt_gR, h.d1, h.d2]
  exact gR_e (by omega) (by omega) (fun k hk => (h _ (by omega) (by omega)).symm)
set_option maxRecDepth 100000 in
theorem tsr_c {T T' : Nat → Int} {b : Nat} (h : SmD T T' b) (hD : DsW T b) (t : Nat) (X Y : Int) : tsr T' b t X Y = tsr T b t X Y := by
  unfold tsr
  rw [h.srt hD, h.d1, h.d2]
set_option maxRecDepth 100000 in
theorem smS_c {T T' : Nat → Int} {a b : Nat} (ha : SmD T T' a) (hb : SmD T T' b) (wa : DsW T a) (wb : DsW T b) (t : Nat) (dx dy : Int) : smS T' a b t dx dy = smS T a b t dx dy := by
  unfold smS
  refine sI_cong (fun y _ _ => sI_cong (fun x _ _ => oI_iff ?_))
  unfold pSo pDk
  rw [ha.srt wa, tsr_c hb wb]
set_option maxRecDepth 100000 in
theorem ulS_c {T T' : Nat → Int} {a b : Nat} (ha : SmD T T' a) (hb : SmD T T' b) (wa : DsW T a) (wb : DsW T b) (t : Nat) (dx dy : Int) : ulS T' a b t dx dy = ulS T a b t dx dy := by
  unfold ulS
  have e1 : sI (fun y => sI (fun x => oI (pSo T' a x y ∧ tsr T' b t (x - dx) (y - dy) = 0)) 0 10) 0 10 = sI (fun y => sI (fun x => oI (pSo T a x y ∧ tsr T b t (x - dx) (y - dy) = 0)) 0 10) 0 10 := by
    refine sI_cong (fun y _ _ => sI_cong (fun x _ _ => oI_iff ?_))
    unfold pSo
    rw [ha.srt wa, tsr_c hb wb]
  have e2 : sI (fun y => sI (fun x => oI (pDk T' b t x y ∧ srt T' a (x + dx) (y + dy) = 0)) 0 10) 0 10 = sI (fun y => sI (fun x => oI (pDk T b t x y ∧ srt T a (x + dx) (y + dy) = 0)) 0 10) 0 10 := by
    refine sI_cong (fun y _ _ => sI_cong (fun x _ _ => oI_iff ?_))
    unfold pDk
    rw [ha.srt wa, tsr_c hb wb]
  rw [e1, e2]
set_option maxRecDepth 100000 in
theorem bstep_c {T T' : Nat → Int} {a b : Nat} (ha : SmD T T' a) (hb : SmD T T' b) (wa : DsW T a) (wb : DsW T b) (t : Nat) (dx dy : Int) (s : BSt) : bstep T' a b t dx dy s = bstep T a b t dx dy s := by
  unfold bstep cAl
  rw [smS_c ha hb wa wb, ulS_c ha hb wa wb]
set_option maxRecDepth 100000 in
theorem bX_c {T T' : Nat → Int} {a b : Nat} (ha : SmD T T' a) (hb : SmD T T' b) (wa : DsW T a) (wb : DsW T b) (t : Nat) (dy lo : Int) : ∀ (n : Nat) (s : BSt), bX T' a b t dy lo n s = bX T a b t dy lo n s
  | 0, _ => rfl
  | n + 1, s => by
    unfold bX
    rw [bX_c ha hb wa wb t dy lo n s, bstep_c ha hb wa wb]
set_option maxRecDepth 100000 in
theorem bY_c {T T' : Nat → Int} {a b : Nat} (ha : SmD T T' a) (hb : SmD T T' b) (wa : DsW T a) (wb : DsW T b) (t : Nat) (lox loy : Int) (nx : Nat) : ∀ (n : Nat) (s : BSt), bY T' a b t lox loy nx n s = bY T a b t lox loy nx n s
  | 0, _ => rfl
  | n + 1, s => by
    unfold bY
    rw [bY_c ha hb wa wb t lox loy nx n s, bX_c ha hb wa wb]
set_option maxRecDepth 100000 in
theorem bT_c {T T' : Nat → Int} {a b : Nat} (ha : SmD T T' a) (hb : SmD T T' b) (wa : DsW T a) (wb : DsW T b) (s : BSt) : ∀ t : Nat, bT T' a b s t = bT T a b s t
  | 0 => rfl
  | t + 1 => by
    unfold bT bTn
    rw [bT_c ha hb wa wb s t, ha.d1, ha.d2, hb.d1, hb.d2, bY_c ha hb wa wb]
set_option maxRecDepth 100000 in
theorem bestS_c {T T' : Nat → Int} {a b : Nat} (ha : SmD T T' a) (hb : SmD T T' b) (wa : DsW T a) (wb : DsW T b) : bestS T' a b = bestS T a b := bT_c ha hb wa wb _ 8
set_option maxRecDepth 100000 in
theorem KN.c {F : Nat → Nat → Int} {o nn : Nat} {T T' : Nat → Int} (h : KN F o T nn) (hN : NowW T nn) (g : ∀ a b, a < nn → b < nn → a ≠ b → F 64 (o + 2 + (a * 6 + b)) = 1 → SmD T T' a ∧ SmD T T' b) : KN F o T' nn := ⟨h.1, fun a b ha hb hab z => by
  have q := g a b ha hb hab z
  rw [bestS_c q.1 q.2 (hN.2.2.2 a ha) (hN.2.2.2 b hb)]
  exact h.2 a b ha hb hab z⟩
set_option maxRecDepth 100000 in
/-- nothing is known -/
theorem KN.no {F : Nat → Nat → Int} {o nn : Nat} {T : Nat → Int} (h : ∀ i, i < 36 → F 64 (o + 2 + i) = 0) (hn : nn ≤ 6) : KN F o T nn := ⟨fun i hi => Or.inl (h i hi), fun a b ha hb _ z => by
  rw [h (a * 6 + b) (by omega)] at z
  cases z⟩
set_option maxRecDepth 100000 in
theorem KN.k {F F' : Nat → Nat → Int} {o nn : Nat} {T : Nat → Int} (h : KN F o T nn) (hn : nn ≤ 6) (g : ∀ f j, o + 2 ≤ j → j < o + 38 → F' f j = F f j) : KN F' o T nn := ⟨fun i hi => by rw [g 64 _ (by omega) (by omega)]; exact h.1 i hi, fun a b ha hb hab z => by
  rw [g 64 _ (by omega) (by omega)] at z
  have q := h.2 a b ha hb hab z
  unfold CRF at q ⊢
  rw [g 65 _ (by omega) (by omega), g 66 _ (by omega) (by omega), g 67 _ (by omega) (by omega), g 68 _ (by omega) (by omega), g 69 _ (by omega) (by omega)]
  exact q⟩
/-! rows that agree below 1920 -/
set_option maxRecDepth 100000 in
theorem NowW.c {T T' : Nat → Int} {nn : Nat} (h : NowW T nn) (g : ∀ j, j < 620 → T' j = T j) : NowW T' nn := by
  obtain ⟨h1, h2, h3, h4⟩ := h
  refine ⟨h1, (g 0 (by omega)).trans h2, by rw [g 1 (by omega)]; exact h3, fun dd hd => (h4 dd hd).e (fun j y1 y2 => g j ?_)⟩
  have : bD dd = 2 + 103 * dd := rfl
  omega
set_option maxRecDepth 100000 in
theorem BkG.c {F A : Nat → Nat → Int} {k nn : Nat} {ds : Nat → Nat} {T T' : Nat → Int} (h : BkG F A k ds T nn) (hN : NowW T nn) (g : ∀ j, j < 620 → T' j = T j) : BkG F A k ds T' nn := ⟨h.1, fun i hi => by
  have bi : bD i = 2 + 103 * i := rfl
  have hn := hN.1
  have eT : ∀ j, bD i ≤ j → j < bD i + 103 → T' j = T j := fun j y1 y2 => g j (by omega)
  rw [eT _ (by omega) (by omega), eT (bD i + 1) (by omega) (by omega), eT (bD i + 2) (by omega) (by omega), srt_e (hN.2.2.2 i hi) eT]
  exact h.2 i hi⟩
set_option maxRecDepth 100000 in
theorem BkG.k {F F' A A' : Nat → Nat → Int} {k nn : Nat} {ds : Nat → Nat} {T : Nat → Int} (h : BkG F A k ds T nn) (hn : nn ≤ 6) (hk : BkD k ds) (kF : ∀ f j, k ≤ j → j < k + 20 → F' f j = F f j) (kA : ∀ j, k ≤ j → j < k + 20 → A' j = A j) : BkG F' A' k ds T nn := by
  refine ⟨(kF 129 k (by omega) (by omega)).trans h.1, fun i hi => ?_⟩
  have hki := hk.1 i (by omega)
  have g := h.2 i hi
  exact ⟨(kF 192 _ (by omega) (by omega)).trans g.1, (kF 193 _ (by omega) (by omega)).trans g.2.1, (kF 194 _ (by omega) (by omega)).trans g.2.2.1, fun y hy j hj => by rw [kA (ds i + 1) (by omega) (by omega), kA (ds i + 2) (by omega) (by omega)]; exact g.2.2.2 y hy j hj⟩
set_option maxRecDepth 100000 in
theorem encT_d {T U : Nat → Int} : ∀ {ts : List Tok} {i : Nat}, encT T i ts → (∀ j, i ≤ j → j < 1920 → U j = T j) → encT U i ts
  | [], i, h, g => ⟨h.1, (g i (Nat.le_refl _) h.1).trans h.2⟩
  | (c, v) :: r, i, h, g => by
    refine ⟨h.1, (g i (Nat.le_refl _) (by have := h.1; omega)).trans h.2.1, ?_⟩
    have h2 := h.2.2
    split
    · next q =>
      rw [if_pos q] at h2
      exact ⟨(g _ (by omega) h.1).trans h2.1, encT_d h2.2 (fun j hj => g j (by omega))⟩
    · next q =>
      rw [if_neg q] at h2
      exact encT_d h2 (fun j hj => g j (by omega))
set_option maxRecDepth 100000 in
theorem RuC.c {m m' : Mem} {A A' : Nat → Nat → Int} {u : Nat} {T U : Nat → Int} (h : RuC m A u T) (hN : mN m ≤ mN m') (hK : ∀ a, 387 ≤ a → a < 100 + mN m → mK m' a = mK m a ∧ mLen m' a = mLen m a ∧ mFR m' 384 a = mFR m 384 a ∧ A' a = A a) (hT : ∀ j, j = 1 ∨ 620 ≤ j ∧ j < 1920 → U j = T j) : RuC m' A' u U := by
  rcases h with ⟨h1, h2⟩ | ⟨h1, h2, h3, ts, ⟨w1, w2, w3⟩, h5, h6, h7, h8⟩
  · exact Or.inl ⟨h1, (hT 1 (Or.inl rfl)).trans h2⟩
  · have k1 := hK u h1 (by omega)
    have k2 := hK (u + 1) (by omega) h2
    refine Or.inr ⟨h1, by omega, (hT 1 (Or.inl rfl)).trans h3, ts, ⟨k1.1.trans w1, k1.2.2.1.trans w2, w3.w k2.1 k2.2.1⟩, h5, ?_, encT_d h7 (fun j q1 q2 => hT j (Or.inr ⟨q1, q2⟩)), h8⟩
    rw [k2.2.2.2]
    exact h6
/-- a book of the class and a row of the reference tell the same -/
def BkR (m : Mem) (F A : Nat → Nat → Int) (k : Nat) (ds : Nat → Nat) (T : Nat → Int) : Prop := ∃ nn, NowW T nn ∧ BkG F A k ds T nn ∧ RuC m A (mFR m 130 k) T
set_option maxRecDepth 100000 in
theorem BkR.k {m m' : Mem} {F F' A A' : Nat → Nat → Int} {k : Nat} {ds : Nat → Nat} {T T' : Nat → Int} (h : BkR m F A k ds T) (hk : BkD k ds) (hN : mN m ≤ mN m') (hr : mFR m' 130 k = mFR m 130 k) (hK : ∀ a, 387 ≤ a → a < 100 + mN m → mK m' a = mK m a ∧ mLen m' a = mLen m a ∧ mFR m' 384 a = mFR m 384 a ∧ A' a = A a) (kF : ∀ f j, k ≤ j → j < k + 20 → F' f j = F f j) (kA : ∀ j, k ≤ j → j < k + 20 → A' j = A j) (hT : ∀ j, j < 1920 → T' j = T j) : BkR m' F' A' k ds T' := by
  obtain ⟨nn, h1, h2, h3⟩ := h
  refine ⟨nn, h1.c (fun j hj => hT j (by omega)), (h2.k h1.1 hk kF kA).c h1 (fun j hj => hT j (by omega)), ?_⟩
  rw [hr]
  exact h3.c hN hK (fun j hj => hT j (by omega))
