/-! ===== the class: what a text read leaves of the world ===== -/
def TRW (m : Mem) (tr rr tp k : Nat) (ds : Nat → Nat) : Prop := mK m tr = 10 ∧ mFR m 640 tr = rr + 1 ∧ mFR m 641 tr = rr ∧ RRW m rr ∧ ScW m (rr + 1) tp ∧ BkW m k ds
def TRN (tr rr tp k : Nat) (ds : Nat → Nat) : Prop := BkD k ds ∧ 102 ≤ k ∧ k + 20 ≤ tr ∧ tr < rr ∧ 100 ≤ tp ∧ tp < k ∧ rr + 5 ≤ 387
def bN (u n : Nat) : Nat := if u = 0 then n else 0
def KW (k rr : Nat) (m m' : Mem) (F F' A A' L L' : Nat → Nat → Int) : Prop :=
  (mN m ≤ mN m' ∧ mN m' + bN (mFR m' 130 k) 2 ≤ mN m + bN (mFR m 130 k) 2 ∧ mZ m' + bN (mFR m' 130 k) 900 ≤ mZ m + bN (mFR m 130 k) 900) ∧
  (∀ a, a < 100 + mN m → mK m' a = mK m a ∧ mLen m' a = mLen m a ∧ mAR m' a = mAR m a) ∧
  (∀ f a, a < 100 + mN m → ¬ (f = 130 ∧ a = k) → mFR m' f a = mFR m f a) ∧
  (∀ f j, j < 100 + mN m → j < k ∨ k + 20 ≤ j → j ≠ rr → j ≠ rr + 1 → F' f j = F f j) ∧
  (∀ j, j < 100 + mN m → j < k ∨ k + 20 ≤ j → j ≠ rr + 3 → j ≠ rr + 4 → A' j = A j) ∧
  (∀ j, j < 100 + mN m → L' j = L j) ∧ mZ m ≤ mZ m'
set_option maxRecDepth 100000 in
theorem KW.rf (k rr : Nat) (m : Mem) (F A L : Nat → Nat → Int) : KW k rr m m F F A A L L := ⟨⟨Nat.le_refl _, Nat.le_refl _, Nat.le_refl _⟩, fun _ _ => ⟨rfl, rfl, rfl⟩, fun _ _ _ _ => rfl, fun _ _ _ _ _ _ => rfl, fun _ _ _ _ _ => rfl, fun _ _ => rfl, Nat.le_refl _⟩
set_option maxRecDepth 100000 in
theorem KW.tr {k rr : Nat} {m m1 m2 : Mem} {F F1 F2 A A1 A2 L L1 L2 : Nat → Nat → Int} (h : KW k rr m m1 F F1 A A1 L L1) (g : KW k rr m1 m2 F1 F2 A1 A2 L1 L2) : KW k rr m m2 F F2 A A2 L L2 := by
  obtain ⟨⟨a1, a2, a3⟩, a4, a5, a6, a7, a8, a9⟩ := h
  obtain ⟨⟨b1, b2, b3⟩, b4, b5, b6, b7, b8, b9⟩ := g
  refine ⟨⟨by omega, by omega, by omega⟩, fun a q => ?_, fun f a q1 q2 => (b5 f a (by omega) q2).trans (a5 f a q1 q2), fun f j q1 q2 q3 q4 => (b6 f j (by omega) q2 q3 q4).trans (a6 f j q1 q2 q3 q4), fun j q1 q2 q3 q4 => (b7 j (by omega) q2 q3 q4).trans (a7 j q1 q2 q3 q4), fun j q => (b8 j (by omega)).trans (a8 j q), by omega⟩
  have x := a4 a q
  have y := b4 a (by omega)
  exact ⟨y.1.trans x.1, y.2.1.trans x.2.1, y.2.2.trans x.2.2⟩
set_option maxRecDepth 100000 in
theorem KX.w {k rr : Nat} (m : Mem) {F F' A A' : Nat → Nat → Int} (L : Nat → Nat → Int) (h : KX k rr F F' A A') : KW k rr m m F F' A A' L L := ⟨⟨Nat.le_refl _, Nat.le_refl _, Nat.le_refl _⟩, fun _ _ => ⟨rfl, rfl, rfl⟩, fun _ _ _ _ => rfl, fun f j _ q2 q3 q4 => h.1 f j q2 q3 q4, fun j _ q2 q3 q4 => h.2 j q2 q3 q4, fun _ _ => rfl, Nat.le_refl _⟩
set_option maxRecDepth 100000 in
theorem KQ.x {k rr : Nat} {F F' A A' : Nat → Nat → Int} (h : KQ rr F F' A A') : KX k rr F F' A A' := ⟨fun f j _ q1 q2 => h.1 f j q1 q2, fun j _ q1 q2 => h.2 j q1 q2⟩
set_option maxRecDepth 100000 in
theorem IA.w {m m' : Mem} {a z : Nat} (h : IA m a z) (k1 : mK m' a = mK m a) (k2 : mLen m' a = mLen m a) : IA m' a z := ⟨k1.trans h.1, k2.trans h.2.1, h.2.2⟩
set_option maxRecDepth 100000 in
theorem TRW.w {k rr tr tp : Nat} {ds : Nat → Nat} {m m' : Mem} {F F' A A' L L' : Nat → Nat → Int} (h : TRW m tr rr tp k ds) (n : TRN tr rr tp k ds) (h3 : 387 ≤ 100 + mN m) (g : KW k rr m m' F F' A A' L L') : TRW m' tr rr tp k ds := by
  obtain ⟨n1, n2, n3, n4, n5, n6, n7⟩ := n
  obtain ⟨h1, h2, h4, ⟨r1, r2, r3, r4, r5, r6⟩, ⟨s1, s2, s3⟩, b1, b2, b3, b4, b5⟩ := h
  have kk := g.2.1
  have kr := g.2.2.1
  refine ⟨(kk tr (by omega)).1.trans h1, (kr 640 tr (by omega) (by omega)).trans h2, (kr 641 tr (by omega) (by omega)).trans h4, ⟨(kk rr (by omega)).1.trans r1, (kr 448 rr (by omega) (by omega)).trans r2, (kr 449 rr (by omega) (by omega)).trans r3, r4.w (kk _ (by omega)).1 (kk _ (by omega)).2.1, (kr 451 rr (by omega) (by omega)).trans r5, r6.w (kk _ (by omega)).1 (kk _ (by omega)).2.1⟩, ⟨(kk _ (by omega)).1.trans s1, (kr 512 _ (by omega) (by omega)).trans s2, s3.w (kk _ (by omega)).1 (kk _ (by omega)).2.1⟩, (kk k (by omega)).1.trans b1, (kr 128 k (by omega) (by omega)).trans b2, (kk _ (by omega)).1.trans b3, (kk _ (by omega)).2.1.trans b4, fun i hi => ?_⟩
  have hd := n1.1 i hi
  obtain ⟨c1, c2, c3, c4, c5, c6, c7⟩ := b5 i hi
  refine ⟨?_, (kk _ (by omega)).1.trans c2, c3, (kr 195 _ (by omega) (by omega)).trans c4, (kr 196 _ (by omega) (by omega)).trans c5, c6.w (kk _ (by omega)).1 (kk _ (by omega)).2.1, c7.w (kk _ (by omega)).1 (kk _ (by omega)).2.1⟩
  rw [(kk (k + 1) (by omega)).2.2]
  exact c1
set_option maxRecDepth 100000 in
theorem CLow.w {k rr : Nat} {m m' : Mem} {F F' A A' L L' : Nat → Nat → Int} (h : CLow m F A L) (hk : 100 ≤ k) (hr : 100 ≤ rr) (g : KW k rr m m' F F' A A' L L') : CLow m' F' A' L' := fun w hw => by
  have hb : cwA w + 1 < 100 := by unfold cwA; split <;> (try split) <;> omega
  obtain ⟨t1, t2, t3, t4, t5, t6, t7⟩ := h w hw
  have k1 := g.2.1 (cwA w) (by omega)
  have k2 := g.2.1 (cwA w + 1) (by omega)
  refine ⟨k1.1.trans t1, (g.2.2.1 1280 _ (by omega) (by omega)).trans t2, ?_, k2.1.trans t4, k2.2.1.trans t5, t6, fun j hj => ?_⟩
  · exact (g.2.2.2.1 1281 _ (by omega) (by omega) (by omega) (by omega)).trans t3
  · have e : A' (cwA w + 1) = A (cwA w + 1) := g.2.2.2.2.1 _ (by omega) (by omega) (by omega) (by omega)
    show A' (cwA w + 1) j = _ ∧ _
    rw [e]
    exact t7 j hj
/-- the rule of a book and the codes of the reference -/
def RuC (m : Mem) (A : Nat → Nat → Int) (u : Nat) (T : Nat → Int) : Prop := u = 0 ∧ T 1 = 0 ∨ (387 ≤ u ∧ u + 1 < 100 + mN m ∧ T 1 = 1 ∧ ∃ ts : List Tok, RuW m u ts.length ∧ ts.length < 800 ∧ encC (A (u + 1)) 0 ts ∧ encT T 620 ts ∧ wft ts [])
set_option maxRecDepth 100000 in
theorem encT_c {T U : Nat → Int} : ∀ {ts : List Tok} {i : Nat}, encT T i ts → (∀ j, i ≤ j → U j = T j) → encT U i ts
  | [], i, h, g => ⟨h.1, (g i (Nat.le_refl _)).trans h.2⟩
  | (c, v) :: r, i, h, g => by
    refine ⟨h.1, (g i (Nat.le_refl _)).trans h.2.1, ?_⟩
    have h2 := h.2.2
    split
    · next q =>
      rw [if_pos q] at h2
      exact ⟨(g _ (by omega)).trans h2.1, encT_c h2.2 (fun j hj => g j (by omega))⟩
    · next q =>
      rw [if_neg q] at h2
      exact encT_c h2 (fun j hj => g j (by omega))
set_option maxRecDepth 100000 in
theorem RuC.w {k rr : Nat} {m m' : Mem} {F F' A A' L L' : Nat → Nat → Int} {u : Nat} {T U : Nat → Int} (h : RuC m A u T) (hk : k + 20 ≤ 387) (hr : rr + 5 ≤ 387) (g : KW k rr m m' F F' A A' L L') (hT : ∀ j, j = 1 ∨ 620 ≤ j → U j = T j) : RuC m' A' u U := by
  rcases h with ⟨h1, h2⟩ | ⟨h1, h2, h3, ts, ⟨w1, w2, w3⟩, h5, h6, h7, h8⟩
  · exact Or.inl ⟨h1, (hT 1 (Or.inl rfl)).trans h2⟩
  · have kk := g.2.1
    refine Or.inr ⟨h1, by have := g.1.1; omega, (hT 1 (Or.inl rfl)).trans h3, ts, ⟨(kk u (by omega)).1.trans w1, (g.2.2.1 384 u (by omega) (by omega)).trans w2, w3.w (kk _ h2).1 (kk _ h2).2.1⟩, h5, ?_, encT_c h7 (fun j hj => hT j (Or.inr hj)), h8⟩
    rw [show A' (u + 1) = A (u + 1) from g.2.2.2.2.1 _ h2 (by omega) (by omega) (by omega)]
    exact h6
set_option maxRecDepth 100000 in
theorem TxN.k {F F' A A' : Nat → Nat → Int} {k nn : Nat} {ds : Nat → Nat} {T T' : Nat → Int} (h : TxN F A k ds T nn) (hk : BkD k ds) (kF : ∀ f j, k ≤ j → j < k + 20 → F' f j = F f j) (kA : ∀ j, k ≤ j → j < k + 20 → A' j = A j) (hT : ∀ j, j ≠ 1 → j < 620 → T' j = T j) : TxN F' A' k ds T' nn := by
  obtain ⟨h1, h2, h3, h4, h5⟩ := h
  have bb : ∀ i, i < 6 → ∀ j, j < bD i + 103 → j < 620 := fun i hi j hj => by have : bD i = 2 + 103 * i := rfl; omega
  have bc : ∀ i j, bD i ≤ j → 2 ≤ j := fun i j hj => by have : bD i = 2 + 103 * i := rfl; omega
  refine ⟨h1, (hT 0 (by omega) (by omega)).trans h2, ⟨(kF 129 k (by omega) (by omega)).trans h3.1, fun i hi => ?_⟩, fun dd hd => (h4 dd hd).e (fun j y1 y2 => hT j (by have := bc dd j y1; omega) (bb dd (by omega) j y2)), fun j q1 q2 => (hT j (by have := bc nn j q1; omega) q2).trans (h5 j q1 q2)⟩
  have hki := hk.1 i (by omega)
  have g := h3.2 i hi
  have eT : ∀ j, bD i ≤ j → j < bD i + 103 → T' j = T j := fun j y1 y2 => hT j (by have := bc i j y1; omega) (bb i (by omega) j y2)
  rw [kF 192 _ (by omega) (by omega), eT _ (by omega) (by omega), eT (bD i + 1) (by omega) (by omega), eT (bD i + 2) (by omega) (by omega), srt_e (h4 i hi) eT]
  exact ⟨g.1, (kF 193 _ (by omega) (by omega)).trans g.2.1, (kF 194 _ (by omega) (by omega)).trans g.2.2.1, fun y hy j hj => by rw [kA (ds i + 1) (by omega) (by omega), kA (ds i + 2) (by omega) (by omega)]; exact g.2.2.2 y hy j hj⟩
set_option maxRecDepth 100000 in
theorem encC_of {S : Nat → Int} : ∀ (ts : List Tok) (i : Nat) (pre : List Int), pre.length = i → stkR S ((ts.map cod).reverse ++ pre) → encC S i ts ∧ stkR S pre
  | [], _, _, _, h => ⟨trivial, h⟩
  | k :: r, i, pre, hl, h => by
    have e : (((k :: r).map cod).reverse ++ pre) = (r.map cod).reverse ++ (cod k :: pre) := by
      rw [List.map_cons, List.reverse_cons, List.append_assoc]
      rfl
    rw [e] at h
    have ih := encC_of r (i + 1) (cod k :: pre) (by rw [List.length_cons, hl]) h
    have h2 : S pre.length = cod k := ih.2.1
    rw [hl] at h2
    exact ⟨⟨h2, ih.1⟩, ih.2.2⟩
set_option maxRecDepth 100000 in
theorem encC_c {R R' : Nat → Int} : ∀ {ts : List Tok} {i : Nat}, encC R i ts → (∀ j, i ≤ j → j < i + ts.length → R' j = R j) → encC R' i ts
  | [], _, _, _ => trivial
  | k :: r, i, h, g => ⟨(g i (Nat.le_refl _) (by rw [List.length_cons]; omega)).trans h.1, encC_c h.2 (fun j q1 q2 => g j (by omega) (by rw [List.length_cons]; omega))⟩
set_option maxRecDepth 100000 in
theorem must_pT {f : Nat → Int} {sz : Nat} {c : Int} {s : PSt} : pT (mustP f sz c s) = pT s := by
  unfold mustP wrongP
  split
  · split
    · rfl
    · split <;> rfl
  · rfl
set_option maxRecDepth 100000 in
theorem tl_no {f : Nat → Int} {sz : Nat} {s : PSt} (h : pFl s ≠ 0) : ∀ r, tlP f sz r s = s
  | 0 => rfl
  | r + 1 => by
    unfold tlP
    rw [if_neg h]
/-- the world once a rule is made and put into the book -/
def ruW (m : Mem) (k n : Nat) : Mem := sFR (sFR (alloc (alloc m 6 0 1) 13 n n) 384 (100 + mN m) (100 + mN (alloc m 6 0 1))) 130 k (100 + mN m)
set_option maxRecDepth 100000 in
theorem ruW_K {m : Mem} {k n : Nat} : (∀ a, a < 100 + mN m → mK (ruW m k n) a = mK m a ∧ mLen (ruW m k n) a = mLen m a ∧ mAR (ruW m k n) a = mAR m a) ∧ (∀ f a, a < 100 + mN m → ¬ (f = 130 ∧ a = k) → mFR (ruW m k n) f a = mFR m f a) ∧ mFR (ruW m k n) 130 k = 100 + mN m := by
  have e1 : mN (alloc m 6 0 1) = mN m + 1 := rfl
  refine ⟨fun a ha => ⟨?_, ?_, ?_⟩, fun f a ha hn => ?_, if_pos ⟨rfl, rfl⟩⟩
  · exact (if_neg (by omega)).trans (if_neg (by omega))
  · exact (if_neg (by omega)).trans (if_neg (by omega))
  · exact (if_neg (by omega)).trans (if_neg (by omega))
  · exact (if_neg hn).trans ((if_neg (fun z => by omega)).trans ((if_neg (by omega)).trans (if_neg (by omega))))
set_option maxRecDepth 100000 in
theorem ruW_R {m : Mem} {k n : Nat} (hk : k < 100 + mN m) : RuW (ruW m k n) (100 + mN m) n := by
  have e1 : mN (alloc m 6 0 1) = mN m + 1 := rfl
  refine ⟨(if_neg (by omega)).trans (if_pos rfl), ?_, if_pos rfl, if_pos rfl, by omega⟩
  show (if (384 : Nat) = 130 ∧ 100 + mN m = k then 100 + mN m else if (384 : Nat) = 384 ∧ 100 + mN m = 100 + mN m then 100 + mN (alloc m 6 0 1) else mFR (alloc (alloc m 6 0 1) 13 n n) 384 (100 + mN m)) = 100 + mN m + 1
  rw [if_neg (fun z => absurd z.1 (by decide)), if_pos ⟨rfl, rfl⟩]
  rfl
set_option maxRecDepth 100000 in
theorem ruM_put (m : Mem) (F A L : Nat → Nat → Int) (rr k n : Nat) : ∃ F2 A2 L2 : Nat → Nat → Int, ruM m F A L rr n = CM (sFR (alloc (alloc m 6 0 1) 13 n n) 384 (100 + mN m) (100 + mN (alloc m 6 0 1))) F2 A2 L2 ∧ (∀ f j, j < 100 + mN m → F2 f j = F f j) ∧ (∀ j, j < 100 + mN m → A2 j = A j) ∧ (∀ j, j < 100 + mN m → L2 j = L j) ∧ A2 (100 + mN m + 1) = cpy1 (A (rr + 3)) (fun _ => 0) 0 0 n := by
  have e1 : mN (alloc m 6 0 1) = mN m + 1 := rfl
  refine ⟨_, _, _, rfl, fun f j hj => ?_, fun j hj => ?_, fun j hj => ?_, ?_⟩
  · exact (if_neg (by omega)).trans (if_neg (by omega))
  · rw [up1_ne _ _ (by omega)]
    exact (if_neg (by omega)).trans (if_neg (by omega))
  · exact (if_neg (by omega)).trans (if_neg (by omega))
  · exact up1_at _ _ _
