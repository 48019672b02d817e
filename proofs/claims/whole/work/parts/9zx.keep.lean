/-! ===== the class: a state is kept ===== -/
section Keep
variable {d : Nat} {m : Mem} {F A L : Nat → Nat → Int} {I : Nat → Int} {R : Nat → Nat → Int} {kb kd : Nat} {P : Nat → Nat} {ds : Nat → Nat → Nat} {nn b tp : Nat} {Q : Nat → Option AV → Mem → Prop}
set_option maxRecDepth 100000 in
/-- the state behind: one book (p) holds what is now, another order of the books of the past -/
theorem DK.kept {m' : Mem} {F' A' : Nat → Nat → Int} {p b2 : Nat} {P' : Nat → Nat} {R' : Nat → Nat → Int} (h : DK m F A L I R kb kd P ds nn b tp) (hp : isBk p) (hpb : p ≠ kb) (hs : SAm m m') (hy : DKY m' kb kd P' ds) (h130 : ∀ k, isBk k → k ≠ p → mFR m' 130 k = mFR m 130 k) (h384 : ∀ a, 387 ≤ a → a < 100 + mN m → mFR m' 384 a = mFR m 384 a) (h1280 : ∀ a, a < 100 → mFR m' 1280 a = mFR m 1280 a) (hpp : mFR m' 130 p = mFR m 130 kb) (kF : ∀ f j, j < p ∨ p + 20 ≤ j → ¬ (f = 257 ∧ j = 142) → F' f j = F f j) (kA : ∀ j, j < p ∨ p + 20 ≤ j → A' j = A j) (gp : BkG F' A' p (ds p) (R 3) nn) (hb2 : b2 ≤ 8) (h257 : F' 257 142 = (b2 : Int)) (hR : ∀ j, j < 6 → R' j = R j) (hpast : ∀ i, i < b2 → (P' i = p ∧ ∀ j, j < 1920 → R' (6 + i) j = R 3 j) ∨ ∃ i0, i0 < b ∧ P' i = P i0 ∧ P i0 ≠ p ∧ ∀ j, j < 1920 → R' (6 + i) j = R (6 + i0) j) : DK m' F' A' L (up1 I 12 (b2 : Nat)) R' kb kd P' ds nn b2 tp := by
  have n0 := h.n0
  have op := isBk_out hp
  have ob := isBk_out h.y.ib
  have hfar := isBk_far hp h.y.ib hpb
  have hK : ∀ a, 387 ≤ a → a < 100 + mN m → mK m' a = mK m a ∧ mLen m' a = mLen m a ∧ mFR m' 384 a = mFR m 384 a ∧ A' a = A a := fun a y1 y2 => ⟨(hs.2.1 a y2).1, (hs.2.1 a y2).2, h384 a y1 y2, kA a (by omega)⟩
  have e3 := hR 3 (by decide)
  exact ⟨h.w.sa hs n0,
    hy,
    by have := hs.1; omega,
    h.low.mem (fun a ha => ⟨(hs.2.1 a (by omega)).1, (hs.2.1 a (by omega)).2, h1280 a ha, kF _ _ (by omega) (by omega), kA _ (by omega)⟩),
    h.tb,
    h.i2,
    (kF _ _ (by omega) (by omega)).trans h.f705,
    (kA _ (by omega)).trans (h.row.trans (hR 2 (by decide)).symm),
    by rw [hR 2 (by decide)]; exact h.byt,
    (kF _ _ (by omega) (by omega)).trans h.f706,
    by rw [hR 1 (by decide)]; exact (kF _ _ (by omega) (by omega)).trans h.f707,
    by rw [hR 1 (by decide)]; exact (kF _ _ (by omega) (by omega)).trans h.f708,
    by rw [e3]; exact h.now,
    by rw [e3]; exact h.bk.k h.now.1 (h.y.bd h.y.ib) (fun f j y1 y2 => kF f j (by omega) (by omega)) (fun j y1 y2 => kA j (by omega)),
    by rw [e3]; exact h.kn.k h.now.1 (fun f j y1 y2 => kF f j (by omega) (by omega)),
    by rw [e3, h130 kb h.y.ib (Ne.symm hpb)]; exact h.ru.c hs.1 hK (fun _ _ => rfl),
    hb2,
    up1_at _ _ _,
    h257,
    fun i hi => by
      rcases hpast i hi with ⟨q1, q2⟩ | ⟨i0, q1, q2, q3, q4⟩
      · rw [q1]
        refine ⟨nn, h.now.c (fun j hj => q2 j (by omega)), gp.c h.now (fun j hj => q2 j (by omega)), ?_⟩
        rw [hpp]
        exact h.ru.c hs.1 hK (fun j hj => q2 j (by omega))
      · have hi8 : i0 < 8 := by have := h.b8; omega
        have ip := h.y.ip i0 hi8
        have oi := isBk_out ip
        have hf2 := isBk_far hp ip (Ne.symm q3)
        rw [q2]
        exact (h.past i0 q1).k (h.y.bd ip) hs.1 (h130 _ ip q3) hK (fun f j y1 y2 => kF f j (by omega) (by omega)) (fun j y1 y2 => kA j (by omega)) q4⟩
set_option maxRecDepth 100000 in
theorem d_keep2 (h : DK m F A L I R kb kd P ds nn b tp) (hq : ∀ (m' : Mem) (F' A' : Nat → Nat → Int) (P' : Nat → Nat), DK m' F' A' L (up1 I 12 (remB b : Nat)) (remA b R) kb kd P' ds nn (remB b) tp → Out m m' F F' A A' L L → (∀ T : Nat → Int, BkR m F A kd (ds kd) T → BkR m' F' A' kd (ds kd) T) → (mN m' = mN m ∧ mZ m' = mZ m) → Q 0 none (CM m' F' A' L)) : Ex (d + 2) Hist_keep 0 [some (vR 142), some (vR kb)] [] (CM m F A L) Q := by
  have n0 := h.n0
  have hb8 := h.b8
  have ob := isBk_out h.y.ib
  have hH := h.y.hi h.w
  have hBb := h.y.bw h.w h.y.ib
  have hDb := h.y.bd h.y.ib
  by_cases h8 : b = 8
  · subst h8
    have ip := h.y.ip 0 (by decide)
    have op := isBk_out ip
    have hfar := isBk_far ip h.y.ib (h.y.n2 0 (by decide)).1
    refine c_keep8 (ds1 := ds (P 0)) (ds2 := ds kb) hH h.f257 (h.y.bw h.w ip) (h.y.bd ip) hBb hDb hfar (by omega) (by omega) (by omega) (fun i hi => by have := hDb.1 i hi; omega) h.now.1 h.bk (fun Rr F1 A1 k1 k2 k3 => ?_)
    have e6 : remB 8 = 8 := rfl
    have e7 : remA 8 R = up1 (shK 8 R) 13 (cpK 1920 (R 3) (R 13)) := rfl
    have kF : ∀ f j, j < P 0 ∨ P 0 + 20 ≤ j → ¬ (f = 257 ∧ j = 142) → upF F1 257 142 8 f j = F f j := fun f j y1 y2 => by
      have z : upF F1 257 142 8 f j = F1 f j := if_neg y2
      rw [z, k2.1 f j y1]
      exact if_neg y2
    have hsR : SAm m (sAR m (142 + 1) Rr) := SAm.sR (Or.inl h.w.k143)
    have hs : SAm m (sFR (sAR m (142 + 1) Rr) 130 (P 0) (mFR m 130 kb)) := hsR.tr (SAm.sF (by decide)) n0
    have hd := h.kept (m' := sFR (sAR m (142 + 1) Rr) 130 (P 0) (mFR m 130 kb)) (F' := upF F1 257 142 8) (A' := A1) (p := P 0) (b2 := 8) (P' := shP P) (R' := remA 8 R) ip (h.y.n2 0 (by decide)).1 hs
      (⟨(sFR_ne _ (by omega)).trans h.y.r709,
        (sFR_ne _ (by omega)).trans h.y.r710,
        fun i hi => by
          have z : mAR (sFR (sAR m (142 + 1) Rr) 130 (P 0) (mFR m 130 kb)) 143 i = Rr i := congrFun (mAR_at m 143 Rr) i
          rw [z]
          exact k1 i hi,
        fun k hk i hi => by
          have oo := isBk_out hk
          have z : mAR (sFR (sAR m (142 + 1) Rr) 130 (P 0) (mFR m 130 kb)) (k + 1) = mAR m (k + 1) := if_neg (by omega)
          rw [z]
          exact h.y.dr k hk i hi,
        h.y.ib,
        h.y.id_,
        fun i hi => by
          unfold shP
          split
          · exact h.y.ip (i + 1) (by omega)
          · exact h.y.ip 0 (by decide),
        h.y.n1,
        fun i hi => by
          unfold shP
          split
          · exact h.y.n2 (i + 1) (by omega)
          · exact h.y.n2 0 (by decide),
        fun i j hi hj hij => by
          unfold shP
          by_cases w1 : i < 7 <;> by_cases w2 : j < 7
          · rw [if_pos w1, if_pos w2]; exact h.y.n3 _ _ (by omega) (by omega) (by omega)
          · rw [if_pos w1, if_neg w2]; exact h.y.n3 _ _ (by omega) (by omega) (by omega)
          · rw [if_neg w1, if_pos w2]; exact h.y.n3 _ _ (by omega) (by omega) (by omega)
          · omega,
        h.y.dp⟩
      ) (fun k hk hkp => sFR_ne _ (fun z => hkp z.2)) (fun a _ _ => sFR_ne _ (by omega)) (fun a _ => sFR_ne _ (by omega)) (sFR_at _ _ _ _) kF k2.2 (k3.k h.now.1 (h.y.bd ip) (fun f j y1 y2 => upF_a _ _ _ (by omega)) (fun _ _ _ => rfl)) (by decide) (upF_at _ _ _ _) (fun j hj => by rw [e7, up1_ne _ _ (by omega)]; exact if_neg (by omega)) (fun i hi => by
        by_cases w : i < 7
        · refine Or.inr ⟨i + 1, by omega, if_pos w, h.y.n3 _ _ (by omega) (by decide) (by omega), fun j hj => ?_⟩
          have z : remA 8 R (6 + i) = cpK 1920 (R (6 + i + 1)) (R (6 + i)) := by
            rw [e7, up1_ne _ _ (by omega)]
            exact if_pos (by omega)
          rw [z]
          exact if_pos hj
        · have : i = 7 := by omega
          subst this
          refine Or.inl ⟨rfl, fun j hj => ?_⟩
          rw [e7, up1_at]
          exact if_pos hj)
    have od := isBk_out h.y.id_
    have hfd := isBk_far ip h.y.id_ (h.y.n2 0 (by decide)).2
    refine hq _ _ A1 (shP P) hd ⟨⟨Nat.le_refl _, Nat.le_add_right _ _, Nat.le_refl _, Nat.le_add_right _ _⟩, fun a q1 q2 => ⟨⟨rfl, rfl, if_neg (by omega), k2.2 a (by omega), rfl⟩, fun f => ⟨sFR_ne _ (by omega), kF f a (by omega) (by omega)⟩⟩⟩ (fun T hT => hT.k (h.y.bd h.y.id_) (Nat.le_refl _) (sFR_ne _ (by omega)) (fun a q1 q2 => ⟨rfl, rfl, sFR_ne _ (by omega), k2.2 a (by omega)⟩) (fun f j y1 y2 => kF f j (by omega) (by omega)) (fun j y1 y2 => k2.2 j (by omega)) (fun _ _ => rfl)) ⟨rfl, rfl⟩
  · have hb7 : b < 8 := by omega
    have ip := h.y.ip b hb7
    have op := isBk_out ip
    have hfar := isBk_far ip h.y.ib (h.y.n2 b hb7).1
    refine c_keep0 (ds1 := ds (P b)) (ds2 := ds kb) hH h.f257 hb7 (h.y.bw h.w ip) (h.y.bd ip) hBb hDb hfar (by omega) h.now.1 h.bk (fun F1 A1 k2 k3 => ?_)
    have e6 : remB b = b + 1 := if_neg h8
    have e7 : remA b R = up1 R (6 + b) (cpK 1920 (R 3) (R (6 + b))) := if_neg h8
    rw [e6, e7] at hq
    have kF : ∀ f j, j < P b ∨ P b + 20 ≤ j → ¬ (f = 257 ∧ j = 142) → upF F1 257 142 ((b + 1 : Nat) : Int) f j = F f j := fun f j y1 y2 => by
      have z : upF F1 257 142 ((b + 1 : Nat) : Int) f j = F1 f j := if_neg y2
      rw [z]
      exact k2.1 f j y1
    have hd := h.kept (m' := sFR m 130 (P b) (mFR m 130 kb)) (F' := upF F1 257 142 ((b + 1 : Nat) : Int)) (A' := A1) (p := P b) (b2 := b + 1) (P' := P) (R' := up1 R (6 + b) (cpK 1920 (R 3) (R (6 + b)))) ip (h.y.n2 b hb7).1 (SAm.sF (by decide))
      (⟨(sFR_ne _ (by omega)).trans h.y.r709,
        (sFR_ne _ (by omega)).trans h.y.r710,
        h.y.pr,
        h.y.dr,
        h.y.ib,
        h.y.id_,
        h.y.ip,
        h.y.n1,
        h.y.n2,
        h.y.n3,
        h.y.dp⟩
      ) (fun k hk hkp => sFR_ne _ (fun z => hkp z.2)) (fun a _ _ => sFR_ne _ (by omega)) (fun a _ => sFR_ne _ (by omega)) (sFR_at _ _ _ _) kF k2.2 (k3.k h.now.1 (h.y.bd ip) (fun f j y1 y2 => upF_a _ _ _ (by omega)) (fun _ _ _ => rfl)) (by omega) (upF_at _ _ _ _) (fun j hj => up1_ne _ _ (by omega)) (fun i hi => by
        by_cases w : i < b
        · exact Or.inr ⟨i, w, rfl, h.y.n3 _ _ (by omega) hb7 (by omega), fun j _ => by rw [up1_ne _ _ (by omega)]⟩
        · have : i = b := by omega
          subst this
          refine Or.inl ⟨rfl, fun j hj => ?_⟩
          rw [up1_at]
          exact if_pos hj)
    have od := isBk_out h.y.id_
    have hfd := isBk_far ip h.y.id_ (h.y.n2 b hb7).2
    exact hq _ _ A1 P hd ⟨⟨Nat.le_refl _, Nat.le_add_right _ _, Nat.le_refl _, Nat.le_add_right _ _⟩, fun a q1 q2 => ⟨⟨rfl, rfl, rfl, k2.2 a (by omega), rfl⟩, fun f => ⟨sFR_ne _ (by omega), kF f a (by omega) (by omega)⟩⟩⟩ (fun T hT => hT.k (h.y.bd h.y.id_) (Nat.le_refl _) (sFR_ne _ (by omega)) (fun a q1 q2 => ⟨rfl, rfl, sFR_ne _ (by omega), k2.2 a (by omega)⟩) (fun f j y1 y2 => kF f j (by omega) (by omega)) (fun j y1 y2 => k2.2 j (by omega)) (fun _ _ => rfl)) ⟨rfl, rfl⟩
set_option maxRecDepth 100000 in
theorem d_keep (h : DK m F A L I R kb kd P ds nn b tp) (hq : ∀ (m' : Mem) (F' A' : Nat → Nat → Int) (P' : Nat → Nat), DK m' F' A' L (up1 I 12 (remB b : Nat)) (remA b R) kb kd P' ds nn (remB b) tp → Out m m' F F' A A' L L → Q 0 none (CM m' F' A' L)) : Ex (d + 2) Hist_keep 0 [some (vR 142), some (vR kb)] [] (CM m F A L) Q := d_keep2 h (fun m' F' A' P' q1 q2 _ _ => hq m' F' A' P' q1 q2)
end Keep
