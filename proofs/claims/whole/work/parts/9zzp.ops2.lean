/-! ===== the law: undo, groups, status, feed ===== -/
section Ops2
variable {d sn k i : Nat} {S : Nat → Int} {M : Mem} {I : Nat → Int} {R : Nat → Nat → Int} {Q : Nat → Option AV → Mem → Prop} {l5 l6 : Option AV}
set_option maxRecDepth 100000 in
theorem op_undo (h : LV sn S k M I R) (hn : Nxt d sn S k i Q) : Ex (d + 58) Law_law 486 [some (vR 1), some (vR 100), some (vR 362), some (vR 386), some (vI (i : Int)), l5, l6] [] M Q := by
  obtain ⟨⟨kb, kd, P, ds, nn, b, tp, hd⟩, h2, h3, ⟨Lr, h4⟩, h5, h6, h7, h8⟩ := id h
  have hk11 : mK M 100 = 11 := hd.w.k100
  have tl : ∀ (M1 : Mem) (I' : Nat → Int) (R' : Nat → Nat → Int) (v : Int), LW sn S k M1 I R I' R' → (∀ (Lr : Nat → Nat → Int) (Q1 : Nat → Option AV → Mem → Prop), Q1 0 (some (vI v)) (MS M1 I' R' Lr) → Ex (d + 57) M_undo 0 [some (vR 362)] [] (MS M1 I R Lr) Q1) → Ex (d + 58) Law_law 490 [some (vR 1), some (vR 100), some (vR 362), some (vR 386), some (vI (i : Int)), l5, l6] [vI v] M1 Q := by
    intro M1 I' R' v lw hre0
    have hk12 : mK M1 362 = 12 := lw.2.1.1
    obtain ⟨L1, e⟩ := lw.ms
    have hq := hn _ _ _ l5 l6 (lw.ref (Lr := L1))
    have hre : ∀ Q1 : Nat → Option AV → Mem → Prop, Q1 0 (some (vI v)) (MS M1 I' R' L1) → Ex (d + 57) M_undo 0 [some (vR 362)] [] M1 Q1 := fun Q1 hq => by
      have z := hre0 L1 Q1 hq
      rw [← e] at z
      exact z
    refine Ex_step (tk_Law_law rfl) ?_
    refine Ex_cV0 (av := []) (tk_Law_law rfl) mk_M_undo ⟨rfl, rfl, by decide, rfl, Nat.le_of_ble_eq_true rfl, Nat.le_of_ble_eq_true rfl⟩ (hk12) (fun _ h => hre _ h) ?_
    refine Ex_step (tk_Law_law rfl) ⟨fun h494 => ?_, fun h494 => ?_⟩
    · replace h494 : _ := h494
      exact hq
    · replace h494 : _ := h494
      exact absurd rfl h494
  have z487 : Ex (d + 57) DD_undo 0 [some (vR 100)] [] M (fun o v m2 => o = 0 ∧ Ex (d + 58) Law_law 490 [some (vR 1), some (vR 100), some (vR 362), some (vR 386), some (vI (i : Int)), l5, l6] (v.toList ++ []) m2 Q) := by
    refine d_undo (d := d + 56) hd (fun hb => ⟨rfl, ?_⟩) (fun hb m' F' kb' n2 P' hd' o => ⟨rfl, ?_⟩)
    · exact tl _ (up1 I 0 0) R (-1) ((h.cls (Out.rf M (mFI M) (mAI M) (mAL M)) hd).r (fun j hj => by rcases hj with rfl | rfl | rfl <;> rfl) (fun _ _ => rfl)) (fun Lr Q1 hq => f_undo (d := d + 56) (b := b) h2 hd.b8 hd.i12 (fun _ => hq) (fun w => absurd hb (by omega)))
    · exact tl _ _ _ _ (h.cls o hd') (fun Lr Q1 hq => f_undo (d := d + 56) (b := b) (h.cls o hd').2.1 hd.b8 hd.i12 (fun w => absurd hb (by omega)) (fun _ => hq))
  refine Ex_step (tk_Law_law rfl) ?_
  exact Ex_cVK (av := []) (tk_Law_law rfl) mk_DD_undo ⟨rfl, rfl, by decide, rfl, Nat.le_of_ble_eq_true rfl, Nat.le_of_ble_eq_true rfl⟩ hk11 z487
set_option maxRecDepth 100000 in
theorem op_groups (h : LV sn S k M I R) (hn : Nxt d sn S k i Q) : Ex (d + 58) Law_law 1093 [some (vR 1), some (vR 100), some (vR 362), some (vR 386), some (vI (i : Int)), l5, l6] [] M Q := by
  obtain ⟨⟨kb, kd, P, ds, nn, b, tp, hd⟩, h2, h3, ⟨Lr, h4⟩, h5, h6, h7, h8⟩ := id h
  have hk11 : mK M 100 = 11 := hd.w.k100
  obtain ⟨ru, hR, hX⟩ := hd.ru.x
  have tl : ∀ (M1 : Mem), LW sn S k M1 I R I R → Ex (d + 58) Law_law 1097 [some (vR 1), some (vR 100), some (vR 362), some (vR 386), some (vI (i : Int)), l5, l6] [vI (grS (R 3) ru nn (R 23))] M1 Q := by
    intro M1 lw
    have hk12 : mK M1 362 = 12 := lw.2.1.1
    obtain ⟨L1, e⟩ := lw.ms
    have hre : ∀ Q1 : Nat → Option AV → Mem → Prop, (∀ (I' : Nat → Int) (A' L' : Nat → Nat → Int), KpJ (up1 I 0 0) I' → KpA R A' → Q1 0 (some (vI (grS (R 3) ru nn (R 23)))) (MS M1 I' A' L')) → Ex (d + 57) M_groups 0 [some (vR 362), none, none, none, none, none] [] M1 Q1 := fun Q1 hq => by
      have z := f_groups (d := d + 51) (m := M1) (I := I) (A := R) (L := L1) (Q := Q1) lw.2.1 hd.now hR hq
      rw [← e] at z
      exact z
    refine Ex_step (tk_Law_law rfl) ?_
    refine Ex_cVK (av := []) (tk_Law_law rfl) mk_M_groups ⟨rfl, rfl, by decide, rfl, Nat.le_of_ble_eq_true rfl, Nat.le_of_ble_eq_true rfl⟩ (hk12) (hre _ (fun I2 A2 L2 k1 k2 => ⟨rfl, ?_⟩))
    refine Ex_step (tk_Law_law rfl) ⟨fun h1101 => ?_, fun h1101 => ?_⟩
    · replace h1101 : _ := h1101
      exact hn _ _ _ l5 l6 ((lw.r (I2 := I2) (R2 := A2) (fun j hj => by rcases hj with rfl | rfl | rfl <;> exact k1 _ (by decide)) (fun j hj => k2 j hj)).ref (Lr := L2))
    · replace h1101 : _ := h1101
      exact absurd rfl h1101
  have z1094 : Ex (d + 57) DD_groups 0 [some (vR 100), none, none, none] [] M (fun o v m2 => o = 0 ∧ Ex (d + 58) Law_law 1097 [some (vR 1), some (vR 100), some (vR 362), some (vR 386), some (vI (i : Int)), l5, l6] (v.toList ++ []) m2 Q) := d_groups (d := d + 50) (R 23) hd hX (fun m' F' A' L' hd' o => ⟨rfl, tl _ (h.cls o hd')⟩)
  refine Ex_step (tk_Law_law rfl) ?_
  exact Ex_cVK (av := []) (tk_Law_law rfl) mk_DD_groups ⟨rfl, rfl, by decide, rfl, Nat.le_of_ble_eq_true rfl, Nat.le_of_ble_eq_true rfl⟩ hk11 z1094
set_option maxRecDepth 100000 in
theorem op_status (h : LV sn S k M I R) (hS : ∀ j, okI (S j)) (hi : i + 7 ≤ sn) (hsn : sn ≤ 3584) (hn : Nxt d sn S k i Q) : Ex (d + 58) Law_law 1120 [some (vR 1), some (vR 100), some (vR 362), some (vR 386), some (vI (i : Int)), l5, l6] [] M Q := by
  obtain ⟨⟨kb, kd, P, ds, nn, b, tp, hd⟩, h2, h3, ⟨Lr, h4⟩, h5, h6, h7, h8⟩ := id h
  have hk11 : mK M 100 = 11 := hd.w.k100
  have hk12 : mK M 362 = 12 := h2.1
  have lw : LW sn S k M I R I R := h.cls (Out.rf M (mFI M) (mAI M) (mAL M)) hd
  have hcl : ∀ Q1 : Nat → Option AV → Mem → Prop, Q1 0 (some (vI (if 0 ≤ S (i + 1) ∧ S (i + 1) ≤ 1 then R 1 (S (i + 1)).toNat else -1))) M → Ex (d + 57) DD_status 0 [some (vR 100), some (vI (S (i + 1)))] [] M Q1 := fun Q1 hq => d_status (d := d + 57) hd (hS _) hq
  have hre : ∀ Q1 : Nat → Option AV → Mem → Prop, Q1 0 (some (vI (if 0 ≤ S (i + 1) ∧ S (i + 1) ≤ 1 then R 1 (S (i + 1)).toNat else -1))) (MS M (up1 I 0 0) R Lr) → Ex (d + 57) M_status 0 [some (vR 362), some (vI (S (i + 1)))] [] M Q1 := fun Q1 hq => by
    have z := f_status (d := d + 56) (m := M) (I := I) (A := R) (L := Lr) h2 (hS _) hq
    rw [← h4.ms] at z
    exact z
  have hq := hn _ _ _ l5 l6 ((lw.r (I2 := up1 I 0 0) (R2 := R) (fun j hj => by rcases hj with rfl | rfl | rfl <;> rfl) (fun _ _ => rfl)).ref (Lr := Lr))
  refine Ex_step (tk_Law_law rfl) ?_
  refine Ex_step (tk_Law_law rfl) ?_
  refine Ex_step (tk_Law_law rfl) ?_
  refine Ex_step (tk_Law_law rfl) ?_
  refine Ex_step (tk_Law_law rfl) ?_
  refine lCS (n := i + 1) (tk_Law_law rfl) h6 (by rw [w32_id (by omega) (by omega)]; omega) (by omega) ?_
  refine Ex_cV0 (av := [vI (S (i + 1))]) (tk_Law_law rfl) mk_DD_status ⟨rfl, rfl, by decide, rfl, Nat.le_of_ble_eq_true rfl, Nat.le_of_ble_eq_true rfl⟩ (hk11) (fun _ h => hcl _ h) ?_
  refine Ex_step (tk_Law_law rfl) ?_
  refine Ex_step (tk_Law_law rfl) ?_
  refine Ex_step (tk_Law_law rfl) ?_
  refine Ex_step (tk_Law_law rfl) ?_
  refine Ex_step (tk_Law_law rfl) ?_
  refine lCS (n := i + 1) (tk_Law_law rfl) h6 (by rw [w32_id (by omega) (by omega)]; omega) (by omega) ?_
  refine Ex_cV0 (av := [vI (S (i + 1))]) (tk_Law_law rfl) mk_M_status ⟨rfl, rfl, by decide, rfl, Nat.le_of_ble_eq_true rfl, Nat.le_of_ble_eq_true rfl⟩ (hk12) (fun _ h => hre _ h) ?_
  refine Ex_step (tk_Law_law rfl) ⟨fun h1140 => ?_, fun h1140 => ?_⟩
  · replace h1140 : _ := h1140
    exact hq
  · replace h1140 : _ := h1140
    exact absurd rfl h1140
end Ops2
