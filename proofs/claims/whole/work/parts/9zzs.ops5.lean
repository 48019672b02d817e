/-! ===== the law: feed, text ===== -/
set_option maxRecDepth 100000 in
theorem pI_0 (n : Int) (I : Nat → Int) (p : Int) (t : PSt) : pI (up1 (txI n I) 5 p) t 0 = 0 := rfl
set_option maxRecDepth 100000 in
theorem pI_0b (n : Int) (I : Nat → Int) (p x : Int) (t : PSt) : up1 (pI (up1 (txI n I) 5 p) t) 12 x 0 = 0 := rfl
section Ops5
variable {d sn k i : Nat} {S : Nat → Int} {M : Mem} {I : Nat → Int} {R : Nat → Nat → Int} {Q : Nat → Option AV → Mem → Prop} {l5 l6 : Option AV}
set_option maxRecDepth 100000 in
theorem op_feed (h : LV sn S k M I R) (hi : i + 7 ≤ sn) (hsn : sn ≤ 3584) (hn : Nxt d sn S k i Q) : Ex (d + 58) Law_law 128 [some (vR 1), some (vR 100), some (vR 362), some (vR 386), some (vI (i : Int)), l5, l6] [] M Q := by
  obtain ⟨⟨kb, kd, P, ds, nn, b, tp, hd⟩, h2, h3, ⟨Lr, h4⟩, h5, h6, h7, h8⟩ := id h
  have hk11 : mK M 100 = 11 := hd.w.k100
  have tl : ∀ (M1 : Mem) (I' : Nat → Int) (R' : Nat → Nat → Int) (v : Int), LW sn S k M1 I R I' R' → (∀ (Lr : Nat → Nat → Int) (Q1 : Nat → Option AV → Mem → Prop), Q1 0 (some (vI v)) (MS M1 I' R' Lr) → Ex (d + 57) M_feed 0 [some (vR 362), some (vI (S (i + 1))), some (vI (S (i + 2))), some (vI (S (i + 3))), some (vI (S (i + 4))), some (vI (S (i + 5))), none, none] [] (MS M1 I R Lr) Q1) → Ex (d + 58) Law_law 162 [some (vR 1), some (vR 100), some (vR 362), some (vR 386), some (vI (i : Int)), l5, l6] [vI v] M1 Q := by
    intro M1 I' R' v lw hre0
    have hk12 : mK M1 362 = 12 := lw.2.1.1
    have h6 := lw.2.2.2.2.2.1
    obtain ⟨L1, e⟩ := lw.ms
    have hq := hn _ _ _ l5 l6 (lw.ref (Lr := L1))
    have hre : ∀ Q1 : Nat → Option AV → Mem → Prop, Q1 0 (some (vI v)) (MS M1 I' R' L1) → Ex (d + 57) M_feed 0 [some (vR 362), some (vI (S (i + 1))), some (vI (S (i + 2))), some (vI (S (i + 3))), some (vI (S (i + 4))), some (vI (S (i + 5))), none, none] [] M1 Q1 := fun Q1 hq => by
      have z := hre0 L1 Q1 hq
      rw [← e] at z
      exact z
    refine Ex_step (tk_Law_law rfl) ?_
    refine Ex_step (tk_Law_law rfl) ?_
    refine Ex_step (tk_Law_law rfl) ?_
    refine Ex_step (tk_Law_law rfl) ?_
    refine Ex_step (tk_Law_law rfl) ?_
    refine lCS (n := i + 1) (tk_Law_law rfl) h6 (by rw [w32_id (by omega) (by omega)]; omega) (by omega) ?_
    refine Ex_step (tk_Law_law rfl) ?_
    refine Ex_step (tk_Law_law rfl) ?_
    refine Ex_step (tk_Law_law rfl) ?_
    refine Ex_step (tk_Law_law rfl) ?_
    refine lCS (n := i + 2) (tk_Law_law rfl) h6 (by rw [w32_id (by omega) (by omega)]; omega) (by omega) ?_
    refine Ex_step (tk_Law_law rfl) ?_
    refine Ex_step (tk_Law_law rfl) ?_
    refine Ex_step (tk_Law_law rfl) ?_
    refine Ex_step (tk_Law_law rfl) ?_
    refine lCS (n := i + 3) (tk_Law_law rfl) h6 (by rw [w32_id (by omega) (by omega)]; omega) (by omega) ?_
    refine Ex_step (tk_Law_law rfl) ?_
    refine Ex_step (tk_Law_law rfl) ?_
    refine Ex_step (tk_Law_law rfl) ?_
    refine Ex_step (tk_Law_law rfl) ?_
    refine lCS (n := i + 4) (tk_Law_law rfl) h6 (by rw [w32_id (by omega) (by omega)]; omega) (by omega) ?_
    refine Ex_step (tk_Law_law rfl) ?_
    refine Ex_step (tk_Law_law rfl) ?_
    refine Ex_step (tk_Law_law rfl) ?_
    refine Ex_step (tk_Law_law rfl) ?_
    refine lCS (n := i + 5) (tk_Law_law rfl) h6 (by rw [w32_id (by omega) (by omega)]; omega) (by omega) ?_
    refine Ex_cV0 (av := [vI (S (i + 1)), vI (S (i + 2)), vI (S (i + 3)), vI (S (i + 4)), vI (S (i + 5))]) (tk_Law_law rfl) mk_M_feed ⟨rfl, rfl, by decide, rfl, Nat.le_of_ble_eq_true rfl, Nat.le_of_ble_eq_true rfl⟩ (hk12) (fun _ h => hre _ h) ?_
    refine Ex_step (tk_Law_law rfl) ⟨fun h196 => ?_, fun h196 => ?_⟩
    · replace h196 : _ := h196
      exact hq
    · replace h196 : _ := h196
      exact absurd rfl h196
  have hw : Ex (d + 57) DD_feed 0 [some (vR 100), some (vI (S (i + 1))), some (vI (S (i + 2))), some (vI (S (i + 3))), some (vI (S (i + 4))), some (vI (S (i + 5)))] [] M (fun o v m2 => o = 0 ∧ Ex (d + 58) Law_law 162 [some (vR 1), some (vR 100), some (vR 362), some (vR 386), some (vI (i : Int)), l5, l6] (v.toList ++ []) m2 Q) := by
    refine d_feed (d := d + 56) hd (fun c => ⟨rfl, ?_⟩) (fun c => ⟨rfl, ?_⟩)
    · exact tl _ (up1 I 0 0) R (-1) ((h.cls (Out.rf M (mFI M) (mAI M) (mAL M)) hd).r (fun j hj => by rcases hj with rfl | rfl | rfl <;> rfl) (fun _ _ => rfl)) (fun Lr Q1 hq => f_feed (d := d + 57) h2 hd.tb hd.i2 (fun _ => hq) (fun e => absurd c (by omega)))
    · have lw := h.cls (Out.s (L' := mAL M) (fun f j q => upF_a _ _ _ (by omega)) (fun j q => up1_ne _ _ (by omega)) (fun _ _ => rfl)) (hd.feed (v1 := S (i + 1)) (v2 := S (i + 2)) (v3 := S (i + 3)) (v4 := S (i + 4)) (v5 := S (i + 5)) c)
      exact tl _ _ _ _ lw (fun Lr Q1 hq => f_feed (d := d + 57) lw.2.1 hd.tb hd.i2 (fun e => absurd c (by omega)) (fun _ => hq))
  refine Ex_step (tk_Law_law rfl) ?_
  refine Ex_step (tk_Law_law rfl) ?_
  refine Ex_step (tk_Law_law rfl) ?_
  refine Ex_step (tk_Law_law rfl) ?_
  refine Ex_step (tk_Law_law rfl) ?_
  refine lCS (n := i + 1) (tk_Law_law rfl) h6 (by rw [w32_id (by omega) (by omega)]; omega) (by omega) ?_
  refine Ex_step (tk_Law_law rfl) ?_
  refine Ex_step (tk_Law_law rfl) ?_
  refine Ex_step (tk_Law_law rfl) ?_
  refine Ex_step (tk_Law_law rfl) ?_
  refine lCS (n := i + 2) (tk_Law_law rfl) h6 (by rw [w32_id (by omega) (by omega)]; omega) (by omega) ?_
  refine Ex_step (tk_Law_law rfl) ?_
  refine Ex_step (tk_Law_law rfl) ?_
  refine Ex_step (tk_Law_law rfl) ?_
  refine Ex_step (tk_Law_law rfl) ?_
  refine lCS (n := i + 3) (tk_Law_law rfl) h6 (by rw [w32_id (by omega) (by omega)]; omega) (by omega) ?_
  refine Ex_step (tk_Law_law rfl) ?_
  refine Ex_step (tk_Law_law rfl) ?_
  refine Ex_step (tk_Law_law rfl) ?_
  refine Ex_step (tk_Law_law rfl) ?_
  refine lCS (n := i + 4) (tk_Law_law rfl) h6 (by rw [w32_id (by omega) (by omega)]; omega) (by omega) ?_
  refine Ex_step (tk_Law_law rfl) ?_
  refine Ex_step (tk_Law_law rfl) ?_
  refine Ex_step (tk_Law_law rfl) ?_
  refine Ex_step (tk_Law_law rfl) ?_
  refine lCS (n := i + 5) (tk_Law_law rfl) h6 (by rw [w32_id (by omega) (by omega)]; omega) (by omega) ?_
  exact Ex_cVK (av := [vI (S (i + 1)), vI (S (i + 2)), vI (S (i + 3)), vI (S (i + 4)), vI (S (i + 5))]) (tk_Law_law rfl) mk_DD_feed ⟨rfl, rfl, by decide, rfl, Nat.le_of_ble_eq_true rfl, Nat.le_of_ble_eq_true rfl⟩ hk11 hw
end Ops5
