/-! ===== the class: undo ===== -/
section Undo
variable {d : Nat} {m m' : Mem} {F F' A A' L : Nat → Nat → Int} {I I' : Nat → Int} {R : Nat → Nat → Int} {kb kd : Nat} {P : Nat → Nat} {ds ds' : Nat → Nat → Nat} {nn n2 b tp : Nat} {Q : Nat → Option AV → Mem → Prop} {i x y w : Int}
set_option maxRecDepth 100000 in
/-- another book is the one that is now -/
theorem DK.turn {kb' kd' b2 : Nat} {P' : Nat → Nat} {T0 T' : Nat → Int} (h : DK m F A L I R kb kd P ds nn b tp) (hs : SAm m m') (hN : mN m' = mN m) (hy : DKY m' kb' kd' P' ds) (hr : ∀ f a, f ≠ 709 → f ≠ 710 → mFR m' f a = mFR m f a) (kF : ∀ f j, ¬ (f = 64 ∧ 312 ≤ j ∧ j < 348) → ¬ (f = 257 ∧ j = 142) → F' f j = F f j) (hz : ∀ i, i < 36 → F' 64 (310 + 2 + i) = 0) (hnow : BkR m F A kb' (ds kb') T0) (hT : ∀ j, j < 1920 → T' j = T0 j) (hb2 : b2 ≤ 8) (h257 : F' 257 142 = (b2 : Int)) (hI : I' 2 = I 2 ∧ I' 5 = I 5 ∧ I' 12 = (b2 : Int)) (hpast : ∀ i, i < b2 → BkR m F A (P' i) (ds (P' i)) (R (6 + i))) : ∃ n2, DK m' F' A L I' (up1 R 3 T') kb' kd' P' ds n2 b2 tp ∧ T' 0 = (n2 : Int) ∧ F' 129 kb' = (n2 : Int) := by
  have n0 := h.n0
  have e3 : up1 R 3 T' 3 = T' := up1_at _ _ _
  have eR : ∀ j, j ≠ 3 → up1 R 3 T' j = R j := fun j q => up1_ne _ _ q
  have hKK : ∀ a, 387 ≤ a → a < 100 + mN m → mK m' a = mK m a ∧ mLen m' a = mLen m a ∧ mFR m' 384 a = mFR m 384 a ∧ A a = A a := fun a y1 y2 => ⟨(hs.2.1 a y2).1, (hs.2.1 a y2).2, hr _ _ (by decide) (by decide), rfl⟩
  have mv : ∀ k T T2, isBk k → BkR m F A k (ds k) T → (∀ j, j < 1920 → T2 j = T j) → BkR m' F' A k (ds k) T2 := fun k T T2 hk q e => by
    have ok := isBk_out hk
    exact q.k (h.y.bd hk) hs.1 (hr _ _ (by decide) (by decide)) hKK (fun f j y1 y2 => kF f j (by omega) (by omega)) (fun _ _ _ => rfl) e
  obtain ⟨n2, q1, q2, q3⟩ := mv kb' T0 T' hy.ib hnow hT
  refine ⟨n2, ⟨h.w.sa hs n0,
    hy,
    by omega,
    h.low.mem (fun a ha => ⟨(hs.2.1 a (by omega)).1, (hs.2.1 a (by omega)).2, hr _ _ (by decide) (by decide), kF _ _ (by omega) (by omega), rfl⟩),
    h.tb,
    hI.1.trans h.i2,
    (kF _ _ (by omega) (by omega)).trans h.f705,
    h.row.trans (eR 2 (by decide)).symm,
    by rw [eR 2 (by decide)]; exact h.byt,
    (kF _ _ (by omega) (by omega)).trans (h.f706.trans hI.2.1.symm),
    by rw [eR 1 (by decide)]; exact (kF _ _ (by omega) (by omega)).trans h.f707,
    by rw [eR 1 (by decide)]; exact (kF _ _ (by omega) (by omega)).trans h.f708,
    by rw [e3]; exact q1,
    by rw [e3]; exact q2,
    by rw [e3]; exact KN.no hz q1.1,
    by rw [e3]; exact q3,
    hb2,
    hI.2.2,
    h257,
    fun i hi => by
      rw [eR (6 + i) (by omega)]
      exact mv (P' i) _ _ (hy.ip i (by omega)) (hpast i hi) (fun _ _ => rfl)⟩
  , q1.2.1, q2.1⟩
set_option maxRecDepth 100000 in
theorem d_undo (h : DK m F A L I R kb kd P ds nn b tp) (h0 : b = 0 → Q 0 (some (vI (-1))) (CM m F A L)) (hok : 1 ≤ b → ∀ (m' : Mem) (F' : Nat → Nat → Int) (kb' n2 : Nat) (P' : Nat → Nat), DK m' F' A L (up1 (up1 I 0 0) 12 ((b - 1 : Nat) : Int)) (up1 R 3 (cpK 1920 (R (6 + (b - 1))) (R 3))) kb' kd P' ds n2 (b - 1) tp → Out m m' F F' A A L L → Q 0 (some (vI ((b - 1 : Nat) : Int))) (CM m' F' A L)) : Ex (d + 1) DD_undo 0 [some (vR 100)] [] (CM m F A L) Q := by
  have hk11 := h.w.k100
  have hr711 := h.w.r711
  have hr709 := h.y.r709
  have hk4 := h.w.k142
  have h257 := h.f257
  have hb8 := h.b8
  have hH := h.y.hi h.w
  have hkb := (h.w.bks kb h.y.ib).1
  have z12 : 1 ≤ b → Ex (d + 1) DD_undo 12 [some (vR 100)] [] (CM m F A L) Q := by
    intro hb
    have hok := hok hb
    have htb := fun (Q1 : Nat → Option AV → Mem → Prop) => c_takeBack (d := d) (A := A) (L := L) (Q := Q1) (b := kb) hH h257 ⟨hb, hb8⟩ hkb
    have hs : SAm m (sFR (sAR m (142 + 1) (up1 (mAR m (142 + 1)) (b - 1) kb)) 709 100 (P (b - 1))) := (SAm.sR (Or.inl h.w.k143)).tr (SAm.sF (by decide)) h.n0
    have w2 := h.w.sa hs h.n0
    have hfg := fun (Q1 : Nat → Option AV → Mem → Prop) => c_forgetAll (d := d) (F := upF F 257 142 ((b - 1 : Nat) : Int)) (A := A) (L := L) (Q := Q1) w2.ov
    have hk11' : mK (sAR m (142 + 1) (up1 (mAR m (142 + 1)) (b - 1) kb)) 100 = 11 := hk11
    have kF2 : ∀ f j, ¬ (f = 64 ∧ 312 ≤ j ∧ j < 348) → fgF (upF F 257 142 ((b - 1 : Nat) : Int)) 310 (fun _ => True) 36 f j = upF F 257 142 ((b - 1 : Nat) : Int) f j := fun f j q => fgF_o 36 f j (by omega)
    have hz : ∀ k, k < 36 → fgF (upF F 257 142 ((b - 1 : Nat) : Int)) 310 (fun _ => True) 36 64 (310 + 2 + k) = 0 := fun k hk => by rw [fgF_i 36 k hk, if_pos trivial]
    have e257 : fgF (upF F 257 142 ((b - 1 : Nat) : Int)) 310 (fun _ => True) 36 257 142 = ((b - 1 : Nat) : Int) := (kF2 _ _ (by omega)).trans (upF_at _ _ _ _)
    generalize fgF (upF F 257 142 ((b - 1 : Nat) : Int)) 310 (fun _ => True) 36 = F2 at *
    have kF3 : ∀ f j, ¬ (f = 64 ∧ 312 ≤ j ∧ j < 348) → ¬ (f = 257 ∧ j = 142) → F2 f j = F f j := fun f j q1 q2 => (kF2 f j q1).trans (if_neg q2)
    have eP : ∀ i, i ≠ b - 1 → up1 P (b - 1) kb i = P i := fun i q => up1_ne _ _ q
    have eP1 : up1 P (b - 1) kb (b - 1) = kb := up1_at _ _ _
    have hy2 : DKY (sFR (sAR m (142 + 1) (up1 (mAR m (142 + 1)) (b - 1) kb)) 709 100 (P (b - 1))) (P (b - 1)) kd (up1 P (b - 1) kb) ds := ⟨sFR_at _ _ _ _,
      (sFR_ne _ (by decide)).trans h.y.r710,
      fun i hi => by
        have z : mAR (sFR (sAR m (142 + 1) (up1 (mAR m (142 + 1)) (b - 1) kb)) 709 100 (P (b - 1))) 143 i = up1 (mAR m 143) (b - 1) kb i := congrFun (mAR_at m 143 _) i
        rw [z]
        by_cases e : i = b - 1
        · rw [e, up1_at, eP1]
        · rw [up1_ne _ _ e, eP i e]; exact h.y.pr i hi,
      fun k hk i hi => by
        have oo := isBk_out hk
        have z : mAR (sFR (sAR m (142 + 1) (up1 (mAR m (142 + 1)) (b - 1) kb)) 709 100 (P (b - 1))) (k + 1) = mAR m (k + 1) := if_neg (by omega)
        rw [z]
        exact h.y.dr k hk i hi,
      h.y.ip (b - 1) (by omega),
      h.y.id_,
      fun i hi => by
        by_cases e : i = b - 1
        · rw [e, eP1]; exact h.y.ib
        · rw [eP i e]; exact h.y.ip i hi,
      (h.y.n2 (b - 1) (by omega)).2,
      fun i hi => by
        by_cases e : i = b - 1
        · rw [e, eP1]; exact ⟨Ne.symm (h.y.n2 (b - 1) (by omega)).1, h.y.n1⟩
        · rw [eP i e]; exact ⟨h.y.n3 i (b - 1) hi (by omega) e, (h.y.n2 i hi).2⟩,
      fun i j hi hj hij => by
        by_cases e : i = b - 1 <;> by_cases e2 : j = b - 1
        · omega
        · rw [e, eP1, eP j e2]; exact Ne.symm (h.y.n2 j hj).1
        · rw [e2, eP1, eP i e]; exact (h.y.n2 i hi).1
        · rw [eP i e, eP j e2]; exact h.y.n3 i j hi hj hij,
      h.y.dp⟩
    have hn0 : ∀ j, j < 1920 → cpK 1920 (R (6 + (b - 1))) (R 3) j = R (6 + (b - 1)) j := fun j hj => if_pos hj
    obtain ⟨n2, hd, _, _⟩ := h.turn (I' := up1 (up1 I 0 0) 12 ((b - 1 : Nat) : Int)) (F' := F2) (b2 := b - 1) (T' := cpK 1920 (R (6 + (b - 1))) (R 3)) hs rfl hy2 (fun f a q1 q2 => sFR_ne _ (fun z => q1 z.1)) kF3 hz (h.past (b - 1) (by omega)) hn0 (by omega) e257 ⟨rfl, rfl, up1_at _ _ _⟩ (fun i hi => by rw [eP i (by omega)]; exact h.past i (by omega))
    have hq := hok _ F2 _ n2 _ hd ⟨⟨Nat.le_refl _, Nat.le_add_right _ _, Nat.le_refl _, Nat.le_add_right _ _⟩, fun a q1 q2 => ⟨⟨rfl, rfl, if_neg (by omega), rfl, rfl⟩, fun f => ⟨sFR_ne _ (by omega), kF3 f a (by omega) (by omega)⟩⟩⟩
    have z27 : Ex (d + 1) DD_undo 27 [some (vR 100)] [] (CM (sFR (sAR m (142 + 1) (up1 (mAR m (142 + 1)) (b - 1) kb)) 709 100 (P (b - 1))) (upF F 257 142 ((b - 1 : Nat) : Int)) A L) Q := by
      have hk11 := w2.k100
      have hr713 := w2.r713
      have hr711 := w2.r711
      have hk4 := w2.k142
      have hk5 := w2.ov.1
      refine Ex_step (tk_DD_undo rfl) ?_
      refine gCR (tk_DD_undo rfl) (hk11) (hr713) ?_
      refine Ex_cV0 (av := []) (tk_DD_undo rfl) mk_Ov_forgetAll ⟨rfl, rfl, by decide, rfl, Nat.le_of_ble_eq_true rfl, Nat.le_of_ble_eq_true rfl⟩ (hk5) (fun _ h => hfg _ h) ?_
      refine Ex_step (tk_DD_undo rfl) ?_
      refine gCR (tk_DD_undo rfl) (hk11) (hr711) ?_
      refine gCI (tk_DD_undo rfl) (hk4) ?_
      rw [e257]
      refine Ex_step (tk_DD_undo rfl) ⟨rfl, ?_⟩
      exact hq
    refine Ex_step (tk_DD_undo rfl) ?_
    refine Ex_step (tk_DD_undo rfl) ?_
    refine gCR (tk_DD_undo rfl) (hk11) (hr711) ?_
    refine Ex_step (tk_DD_undo rfl) ?_
    refine gCR (tk_DD_undo rfl) (hk11) (hr709) ?_
    refine Ex_cV0 (av := [vR kb]) (tk_DD_undo rfl) mk_Hist_takeBack ⟨rfl, rfl, by decide, rfl, Nat.le_of_ble_eq_true rfl, Nat.le_of_ble_eq_true rfl⟩ (hk4) (fun _ h => htb _ h) ?_
    refine pCR (tk_DD_undo rfl) (hk11') ?_
    exact z27
  refine Ex_step (tk_DD_undo rfl) ?_
  refine gCR (tk_DD_undo rfl) (hk11) (hr711) ?_
  refine gCI (tk_DD_undo rfl) (hk4) ?_
  rw [h257]
  refine Ex_step (tk_DD_undo rfl) ⟨fun h7 => ?_, fun h7 => ?_⟩
  · try simp (disch := omega) only [cmpI, w32_b2i, b2i_0, b2i_1, w32_id, Classical.not_not, not_true_eq_false, not_false_eq_true] at h7
    exact z12 (by omega)
  · try simp (disch := omega) only [cmpI, w32_b2i, b2i_0, b2i_1, w32_id, Classical.not_not, not_true_eq_false, not_false_eq_true] at h7
    refine Ex_step (tk_DD_undo rfl) ?_
    refine Ex_step (tk_DD_undo rfl) ⟨rfl, ?_⟩
    exact h0 (by omega)
end Undo
