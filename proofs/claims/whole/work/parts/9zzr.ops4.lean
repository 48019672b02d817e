/-! ===== the law: calls behind wrappers ===== -/
section CallsX
variable {d y pc : Nat} {ls : Ls} {r : List AV} {m : Mem} {Q : Nat → Option AV → Mem → Prop} {nx idx : Nat} {rs : List Nat} {c0 : Int} {av : List AV}
set_option maxRecDepth 100000 in
theorem Ex_cSXK {y1 : Nat} {a9 : Nat × Nat × Nat × Nat} {b9 : List (Nat × Nat × Nat × Nat)} (hk : okE y pc (.invokestatic idx, nx, rs, c0)) (hm : mOk y1) (h9 : n1 (.invokestatic idx, nx, rs, c0) = y1 ∧ y1 ≠ 998 ∧ mI y1 0 = 1 ∧ mH y1 = a9 :: b9 ∧ av.length = mI y1 2 ∧ catS r ≤ 8 ∧ (laySl av).length ≤ mL y1) (h : Ex d y1 0 (entL y1 av) [] m (fun o v m2 => o = 0 ∧ Ex (d + 1) y nx ls (v.toList ++ r) m2 Q)) : Ex (d + 1) y pc ls (av.reverse ++ r) m Q :=
  Ex_cSX hk hm h9 h (by
    rintro o v m2 ⟨rfl, k⟩
    exact ⟨fun _ => k, fun z => absurd rfl z⟩)
end CallsX
set_option maxRecDepth 100000 in
theorem put_e (m' : Mem) (F' A' L' : Nat → Nat → Int) (v : Int) : mAL (CM m' F' A' (up1 L' 386 (up1 (L' 386) 0 v))) 386 0 = v := by
  show up1 L' 386 (up1 (L' 386) 0 v) 386 0 = v
  rw [up1_at, up1_at]
section Ops4
variable {d sn k i : Nat} {S : Nat → Int} {M : Mem} {I : Nat → Int} {R : Nat → Nat → Int} {Q : Nat → Option AV → Mem → Prop} {l5 l6 : Option AV}
set_option maxRecDepth 100000 in
theorem op_paint (h : LV sn S k M I R) (hS : ∀ j, okI (S j)) (hi : i + 7 ≤ sn) (hsn : sn ≤ 3584) (hn : Nxt d sn S k i Q) : Ex (d + 58) Law_law 270 [some (vR 1), some (vR 100), some (vR 362), some (vR 386), some (vI (i : Int)), l5, l6] [] M Q := by
  obtain ⟨⟨kb, kd, P, ds, nn, b, tp, hd⟩, h2, h3, ⟨Lr, h4⟩, h5, h6, h7, h8⟩ := id h
  have hk11 : mK M 100 = 11 := hd.w.k100
  have n0 := hd.n0
  have b1 : LW sn S k (alloc (CM M (upF (mFI M) 707 100 (mFI M 707 100 + 1)) (mAI M) (mAL M)) 22 0 6) I R (up1 (up1 I 0 0) 0 1) (refA 0 R) := h.cls (Out.al n0) (hd.no0 (fun j hj => by rcases hj with rfl | rfl | rfl <;> rfl))
  have b2 : LW sn S k (alloc (CM M (upF (mFI M) 708 100 (mFI M 708 100 + 1)) (mAI M) (mAL M)) 22 0 6) I R (up1 (up1 I 0 0) 0 2) (refA 1 R) := h.cls (Out.al n0) (hd.no1 (fun j hj => by rcases hj with rfl | rfl | rfl <;> rfl))
  have hw : Ex (d + 57) Law_paint 0 [some (vR 100), some (vI (S (i + 1))), some (vI (S (i + 2))), some (vI (S (i + 3))), some (vI (S (i + 4))), some (vR 386), none] [] M (fun o v m2 => o = 0 ∧ Ex (d + 58) Law_law 299 [some (vR 1), some (vR 100), some (vR 362), some (vR 386), some (vI (i : Int)), l5, l6] (v.toList ++ []) m2 Q) := by
    refine l_paint (d := d + 56) hk11 (d_paint (d := d + 53) hd (hS _) (hS _) (hS _) (hS _) (fun c1 => Or.inr (Or.inl ⟨rfl, by decide, rfl, rf_paint hn hi hsn b1 (by omega) (fun L1 Q1 hq => f_paint (d := d + 54) b1.2.1 hd.now (hS _) (hS _) (hS _) (hS _) hd.b8 hd.i12 (fun _ => hq _ _ _ 0 b1 rfl (fun z => absurd z (by decide))) (fun e => absurd e c1) (fun e => absurd e c1))⟩)) (fun c1 c2 => Or.inr (Or.inr ⟨rfl, by decide, rfl, rf_paint hn hi hsn b2 (by omega) (fun L1 Q1 hq => f_paint (d := d + 54) b2.2.1 hd.now (hS _) (hS _) (hS _) (hS _) hd.b8 hd.i12 (fun e => absurd c1 e) (fun _ _ => hq _ _ _ 0 b2 rfl (fun z => absurd z (by decide))) (fun _ e => absurd e c2))⟩)) (fun c1 c2 m1 F1 A1 P1 hd1 o1 => Or.inl ⟨rfl, _, m1, F1, A1, mAL M, rfl, rfl, (h.cls o1 hd1).2.2.2.2.1, rfl, ?_⟩))
    exact rf_paint hn hi hsn (LW.put (h.cls o1 hd1)) (Or.inl rfl) (fun L1 Q1 hq => f_paint (d := d + 54) (h.cls o1 hd1).2.1 hd.now (hS _) (hS _) (hS _) (hS _) hd.b8 hd.i12 (fun e => absurd c1 e) (fun _ e => absurd c2 e) (fun _ _ => hq _ _ _ _ (LW.put (h.cls o1 hd1)) rfl (fun _ => (put_e _ _ _ _ _))))
  refine Ex_step (tk_Law_law rfl) ?_
  refine Ex_step (tk_Law_law rfl) ?_
  refine Ex_step (tk_Law_law rfl) ?_
  refine Ex_step (tk_Law_law rfl) ?_
  refine Ex_step (tk_Law_law rfl) ?_
  refine lCS (n := i + 1) (tk_Law_law rfl) h6 (by rw [w32_id (by omega) (by omega)]; omega) (by omega) ?_
  refine Ex_step (tk_Law_law rfl) ?_
  refine Ex_step (tk_Law_law rfl) ?_
  refine Ex_step (tk_Law_law rfl) ?_
  refine Ex_step (tk_Law_law rfl) ?_
  refine lCS (n := i + 2) (tk_Law_law rfl) h6 (by rw [w32_id (by omega) (by omega)]; omega) (by omega) ?_
  refine Ex_step (tk_Law_law rfl) ?_
  refine Ex_step (tk_Law_law rfl) ?_
  refine Ex_step (tk_Law_law rfl) ?_
  refine Ex_step (tk_Law_law rfl) ?_
  refine lCS (n := i + 3) (tk_Law_law rfl) h6 (by rw [w32_id (by omega) (by omega)]; omega) (by omega) ?_
  refine Ex_step (tk_Law_law rfl) ?_
  refine Ex_step (tk_Law_law rfl) ?_
  refine Ex_step (tk_Law_law rfl) ?_
  refine Ex_step (tk_Law_law rfl) ?_
  refine lCS (n := i + 4) (tk_Law_law rfl) h6 (by rw [w32_id (by omega) (by omega)]; omega) (by omega) ?_
  refine Ex_step (tk_Law_law rfl) ?_
  exact Ex_cSXK (av := [vR 100, vI (S (i + 1)), vI (S (i + 2)), vI (S (i + 3)), vI (S (i + 4)), vR 386]) (tk_Law_law rfl) mk_Law_paint ⟨rfl, by decide, rfl, rfl, rfl, Nat.le_of_ble_eq_true rfl, Nat.le_of_ble_eq_true rfl⟩ hw
set_option maxRecDepth 100000 in
theorem op_day (h : LV sn S k M I R) (hS : ∀ j, okI (S j)) (hi : i + 7 ≤ sn) (hsn : sn ≤ 3584) (hn : Nxt d sn S k i Q) : Ex (d + 58) Law_law 362 [some (vR 1), some (vR 100), some (vR 362), some (vR 386), some (vI (i : Int)), l5, l6] [] M Q := by
  obtain ⟨⟨kb, kd, P, ds, nn, b, tp, hd⟩, h2, h3, ⟨Lr, h4⟩, h5, h6, h7, h8⟩ := id h
  have hk11 : mK M 100 = 11 := hd.w.k100
  have n0 := hd.n0
  have b1 : LW sn S k (alloc (CM M (upF (mFI M) 707 100 (mFI M 707 100 + 1)) (mAI M) (mAL M)) 22 0 6) I R (up1 (up1 I 0 0) 0 1) (refA 0 R) := h.cls (Out.al n0) (hd.no0 (fun j hj => by rcases hj with rfl | rfl | rfl <;> rfl))
  have b2 : LW sn S k (alloc (CM M (upF (mFI M) 708 100 (mFI M 708 100 + 1)) (mAI M) (mAL M)) 22 0 6) I R (up1 (up1 I 0 0) 0 2) (refA 1 R) := h.cls (Out.al n0) (hd.no1 (fun j hj => by rcases hj with rfl | rfl | rfl <;> rfl))
  have hw : Ex (d + 57) Law_day 0 [some (vR 100), some (vI (S (i + 1))), some (vI (S (i + 2))), some (vR 386), none] [] M (fun o v m2 => o = 0 ∧ Ex (d + 58) Law_law 379 [some (vR 1), some (vR 100), some (vR 362), some (vR 386), some (vI (i : Int)), l5, l6] (v.toList ++ []) m2 Q) := by
    refine l_day (d := d + 56) hk11 (d_day (d := d + 53) hd (hS _) (hS _) (fun c1 => Or.inr (Or.inl ⟨rfl, by decide, rfl, rf_day hn hi hsn b1 (by omega) (fun L1 Q1 hq => f_day (d := d + 55) b1.2.1 hd.now (hS _) (hS _) hd.b8 hd.i12 (fun _ => hq _ _ _ 0 b1 rfl (fun z => absurd z (by decide))) (fun e => absurd e c1) (fun e => absurd e c1))⟩)) (fun c1 c2 => Or.inr (Or.inr ⟨rfl, by decide, rfl, rf_day hn hi hsn b2 (by omega) (fun L1 Q1 hq => f_day (d := d + 55) b2.2.1 hd.now (hS _) (hS _) hd.b8 hd.i12 (fun e => absurd c1 e) (fun _ _ => hq _ _ _ 0 b2 rfl (fun z => absurd z (by decide))) (fun _ e => absurd e c2))⟩)) (fun c1 c2 m1 F1 A1 P1 hd1 o1 => Or.inl ⟨rfl, _, m1, F1, A1, mAL M, rfl, rfl, (h.cls o1 hd1).2.2.2.2.1, rfl, ?_⟩))
    exact rf_day hn hi hsn (LW.put (h.cls o1 hd1)) (Or.inl rfl) (fun L1 Q1 hq => f_day (d := d + 55) (h.cls o1 hd1).2.1 hd.now (hS _) (hS _) hd.b8 hd.i12 (fun e => absurd c1 e) (fun _ e => absurd c2 e) (fun _ _ => hq _ _ _ _ (LW.put (h.cls o1 hd1)) rfl (fun _ => (put_e _ _ _ _ _))))
  refine Ex_step (tk_Law_law rfl) ?_
  refine Ex_step (tk_Law_law rfl) ?_
  refine Ex_step (tk_Law_law rfl) ?_
  refine Ex_step (tk_Law_law rfl) ?_
  refine Ex_step (tk_Law_law rfl) ?_
  refine lCS (n := i + 1) (tk_Law_law rfl) h6 (by rw [w32_id (by omega) (by omega)]; omega) (by omega) ?_
  refine Ex_step (tk_Law_law rfl) ?_
  refine Ex_step (tk_Law_law rfl) ?_
  refine Ex_step (tk_Law_law rfl) ?_
  refine Ex_step (tk_Law_law rfl) ?_
  refine lCS (n := i + 2) (tk_Law_law rfl) h6 (by rw [w32_id (by omega) (by omega)]; omega) (by omega) ?_
  refine Ex_step (tk_Law_law rfl) ?_
  exact Ex_cSXK (av := [vR 100, vI (S (i + 1)), vI (S (i + 2)), vR 386]) (tk_Law_law rfl) mk_Law_day ⟨rfl, by decide, rfl, rfl, rfl, Nat.le_of_ble_eq_true rfl, Nat.le_of_ble_eq_true rfl⟩ hw
set_option maxRecDepth 100000 in
theorem op_drop (h : LV sn S k M I R) (hS : ∀ j, okI (S j)) (hi : i + 7 ≤ sn) (hsn : sn ≤ 3584) (hn : Nxt d sn S k i Q) : Ex (d + 58) Law_law 430 [some (vR 1), some (vR 100), some (vR 362), some (vR 386), some (vI (i : Int)), l5, l6] [] M Q := by
  obtain ⟨⟨kb, kd, P, ds, nn, b, tp, hd⟩, h2, h3, ⟨Lr, h4⟩, h5, h6, h7, h8⟩ := id h
  have hk11 : mK M 100 = 11 := hd.w.k100
  have n0 := hd.n0
  have b1 : LW sn S k (alloc (CM M (upF (mFI M) 707 100 (mFI M 707 100 + 1)) (mAI M) (mAL M)) 22 0 6) I R (up1 (up1 I 0 0) 0 1) (refA 0 R) := h.cls (Out.al n0) (hd.no0 (fun j hj => by rcases hj with rfl | rfl | rfl <;> rfl))
  have hw : Ex (d + 57) Law_drop 0 [some (vR 100), some (vI (S (i + 1))), some (vR 386), none] [] M (fun o v m2 => o = 0 ∧ Ex (d + 58) Law_law 441 [some (vR 1), some (vR 100), some (vR 362), some (vR 386), some (vI (i : Int)), l5, l6] (v.toList ++ []) m2 Q) := by
    refine l_drop (d := d + 56) hk11 (d_drop (d := d + 53) hd (hS _) (fun c1 => Or.inr (Or.inl ⟨rfl, by decide, rfl, rf_drop hn hi hsn b1 (by omega) (fun L1 Q1 hq => f_drop (d := d + 55) b1.2.1 hd.now (hS _) hd.b8 hd.i12 (fun _ => hq _ _ _ 0 b1 rfl (fun z => absurd z (by decide))) (fun e => absurd e c1))⟩)) (fun c1 m1 F1 A1 P1 ds1 hd1 o1 => Or.inl ⟨rfl, _, m1, F1, A1, mAL M, rfl, rfl, (h.cls o1 hd1).2.2.2.2.1, rfl, ?_⟩))
    exact rf_drop hn hi hsn (LW.put (h.cls o1 hd1)) (Or.inl rfl) (fun L1 Q1 hq => f_drop (d := d + 55) (h.cls o1 hd1).2.1 hd.now (hS _) hd.b8 hd.i12 (fun e => absurd c1 e) (fun _ => hq _ _ _ _ (LW.put (h.cls o1 hd1)) rfl (fun _ => (put_e _ _ _ _ _))))
  refine Ex_step (tk_Law_law rfl) ?_
  refine Ex_step (tk_Law_law rfl) ?_
  refine Ex_step (tk_Law_law rfl) ?_
  refine Ex_step (tk_Law_law rfl) ?_
  refine Ex_step (tk_Law_law rfl) ?_
  refine lCS (n := i + 1) (tk_Law_law rfl) h6 (by rw [w32_id (by omega) (by omega)]; omega) (by omega) ?_
  refine Ex_step (tk_Law_law rfl) ?_
  exact Ex_cSXK (av := [vR 100, vI (S (i + 1)), vR 386]) (tk_Law_law rfl) mk_Law_drop ⟨rfl, by decide, rfl, rfl, rfl, Nat.le_of_ble_eq_true rfl, Nat.le_of_ble_eq_true rfl⟩ hw
set_option maxRecDepth 100000 in
theorem op_told (h : LV sn S k M I R) (hS : ∀ j, okI (S j)) (hi : i + 7 ≤ sn) (hsn : sn ≤ 3584) (hn : Nxt d sn S k i Q) : Ex (d + 58) Law_law 499 [some (vR 1), some (vR 100), some (vR 362), some (vR 386), some (vI (i : Int)), l5, l6] [] M Q := by
  obtain ⟨⟨kb, kd, P, ds, nn, b, tp, hd⟩, h2, h3, ⟨Lr, h4⟩, h5, h6, h7, h8⟩ := id h
  have hk11 : mK M 100 = 11 := hd.w.k100
  have n0 := hd.n0
  have b2 : LW sn S k (alloc (CM M (upF (mFI M) 708 100 (mFI M 708 100 + 1)) (mAI M) (mAL M)) 22 0 6) I R (up1 (up1 I 0 0) 0 1) (refA 1 R) := h.cls (Out.al n0) (hd.no1 (fun j hj => by rcases hj with rfl | rfl | rfl <;> rfl))
  have lw0 : LW sn S k M I R (up1 I 0 0) R := (h.cls (Out.rf M (mFI M) (mAI M) (mAL M)) hd).r (fun j hj => by rcases hj with rfl | rfl | rfl <;> rfl) (fun _ _ => rfl)
  have hw : Ex (d + 57) Law_told 0 [some (vR 100), some (vI (S (i + 1))), some (vR 386), none] [] M (fun o v m2 => o = 0 ∧ Ex (d + 58) Law_law 510 [some (vR 1), some (vR 100), some (vR 362), some (vR 386), some (vI (i : Int)), l5, l6] (v.toList ++ []) m2 Q) := by
    refine l_told (d := d + 56) hk11 (d_told (d := d + 55) hd (hS _) (fun c1 => Or.inr (Or.inr ⟨rfl, by decide, rfl, rf_told hn hi hsn b2 (by omega) (fun L1 Q1 hq => f_toldM (d := d + 56) b2.2.1 (hS _) (fun _ => hq _ _ _ 0 b2 rfl (fun z => absurd z (by decide))) (fun e => absurd e c1))⟩)) (fun c1 => Or.inl ⟨rfl, _, M, mFI M, mAI M, mAL M, rfl, rfl, h5, rfl, ?_⟩))
    exact rf_told hn hi hsn (LW.put (m' := M) (F' := mFI M) (A' := mAI M) (L' := mAL M) lw0) (Or.inl rfl) (fun L1 Q1 hq => f_toldM (d := d + 56) lw0.2.1 (hS _) (fun e => absurd c1 e) (fun _ => hq _ _ _ _ (LW.put (m' := M) (F' := mFI M) (A' := mAI M) (L' := mAL M) lw0) rfl (fun _ => (put_e _ _ _ _ _))))
  refine Ex_step (tk_Law_law rfl) ?_
  refine Ex_step (tk_Law_law rfl) ?_
  refine Ex_step (tk_Law_law rfl) ?_
  refine Ex_step (tk_Law_law rfl) ?_
  refine Ex_step (tk_Law_law rfl) ?_
  refine lCS (n := i + 1) (tk_Law_law rfl) h6 (by rw [w32_id (by omega) (by omega)]; omega) (by omega) ?_
  refine Ex_step (tk_Law_law rfl) ?_
  exact Ex_cSXK (av := [vR 100, vI (S (i + 1)), vR 386]) (tk_Law_law rfl) mk_Law_told ⟨rfl, by decide, rfl, rfl, rfl, Nat.le_of_ble_eq_true rfl, Nat.le_of_ble_eq_true rfl⟩ hw
set_option maxRecDepth 100000 in
theorem op_of (h : LV sn S k M I R) (hS : ∀ j, okI (S j)) (hi : i + 7 ≤ sn) (hsn : sn ≤ 3584) (hn : Nxt d sn S k i Q) : Ex (d + 58) Law_law 555 [some (vR 1), some (vR 100), some (vR 362), some (vR 386), some (vI (i : Int)), l5, l6] [] M Q := by
  obtain ⟨⟨kb, kd, P, ds, nn, b, tp, hd⟩, h2, h3, ⟨Lr, h4⟩, h5, h6, h7, h8⟩ := id h
  have hk11 : mK M 100 = 11 := hd.w.k100
  have n0 := hd.n0
  have b1 : LW sn S k (alloc (CM M (upF (mFI M) 707 100 (mFI M 707 100 + 1)) (mAI M) (mAL M)) 22 0 6) I R (up1 (up1 I 0 0) 0 1) (refA 0 R) := h.cls (Out.al n0) (hd.no0 (fun j hj => by rcases hj with rfl | rfl | rfl <;> rfl))
  have b2 : LW sn S k (alloc (CM M (upF (mFI M) 708 100 (mFI M 708 100 + 1)) (mAI M) (mAL M)) 22 0 6) I R (up1 (up1 I 0 0) 0 2) (refA 1 R) := h.cls (Out.al n0) (hd.no1 (fun j hj => by rcases hj with rfl | rfl | rfl <;> rfl))
  have hw : Ex (d + 57) Law_of 0 [some (vR 100), some (vI (S (i + 1))), some (vI (S (i + 2))), some (vR 386), none] [] M (fun o v m2 => o = 0 ∧ Ex (d + 58) Law_law 572 [some (vR 1), some (vR 100), some (vR 362), some (vR 386), some (vI (i : Int)), l5, l6] (v.toList ++ []) m2 Q) := by
    refine l_of (d := d + 56) hk11 (d_of (d := d + 49) (R 21) hd (hS _) (hS _) (fun c1 => Or.inr (Or.inl ⟨rfl, by decide, rfl, rf_of hn hi hsn b1 (by omega) (fun L1 Q1 hq => f_of (d := d + 51) b1.2.1 hd.now (hS _) (hS _) (fun _ => hq _ _ _ 0 b1 rfl (fun z => absurd z (by decide))) (fun e => absurd e c1) (fun e => absurd e c1))⟩)) (fun c1 c2 => Or.inr (Or.inr ⟨rfl, by decide, rfl, rf_of hn hi hsn b2 (by omega) (fun L1 Q1 hq => f_of (d := d + 51) b2.2.1 hd.now (hS _) (hS _) (fun e => absurd c1 e) (fun _ _ => hq _ _ _ 0 b2 rfl (fun z => absurd z (by decide))) (fun _ e => absurd e c2))⟩)) (fun c1 c2 v m1 F1 A1 L1 hv hd1 o1 => Or.inl ⟨rfl, _, m1, F1, A1, L1, rfl, rfl, (h.cls o1 hd1).2.2.2.2.1, rfl, ?_⟩))
    exact rf_of hn hi hsn (LW.put (h.cls o1 hd1)) (Or.inl rfl) (fun L3 Q1 hq => f_of (d := d + 51) (h.cls o1 hd1).2.1 hd.now (hS _) (hS _) (fun e => absurd c1 e) (fun _ e => absurd c2 e) (fun _ _ I2 A2 L2 k1 k2 => hq I2 A2 L2 _ ((LW.put (h.cls o1 hd1)).r (fun j hj => by rcases hj with rfl | rfl | rfl <;> exact k1 _ (by decide)) (fun j hj => k2 j hj)) (k1 0 (by decide)) (fun _ => (put_e _ _ _ _ _).trans hv)))
  refine Ex_step (tk_Law_law rfl) ?_
  refine Ex_step (tk_Law_law rfl) ?_
  refine Ex_step (tk_Law_law rfl) ?_
  refine Ex_step (tk_Law_law rfl) ?_
  refine Ex_step (tk_Law_law rfl) ?_
  refine lCS (n := i + 1) (tk_Law_law rfl) h6 (by rw [w32_id (by omega) (by omega)]; omega) (by omega) ?_
  refine Ex_step (tk_Law_law rfl) ?_
  refine Ex_step (tk_Law_law rfl) ?_
  refine Ex_step (tk_Law_law rfl) ?_
  refine Ex_step (tk_Law_law rfl) ?_
  refine lCS (n := i + 2) (tk_Law_law rfl) h6 (by rw [w32_id (by omega) (by omega)]; omega) (by omega) ?_
  refine Ex_step (tk_Law_law rfl) ?_
  exact Ex_cSXK (av := [vR 100, vI (S (i + 1)), vI (S (i + 2)), vR 386]) (tk_Law_law rfl) mk_Law_of ⟨rfl, by decide, rfl, rfl, rfl, Nat.le_of_ble_eq_true rfl, Nat.le_of_ble_eq_true rfl⟩ hw
set_option maxRecDepth 100000 in
theorem op_cell (h : LV sn S k M I R) (hS : ∀ j, okI (S j)) (hi : i + 7 ≤ sn) (hsn : sn ≤ 3584) (hn : Nxt d sn S k i Q) : Ex (d + 58) Law_law 623 [some (vR 1), some (vR 100), some (vR 362), some (vR 386), some (vI (i : Int)), l5, l6] [] M Q := by
  obtain ⟨⟨kb, kd, P, ds, nn, b, tp, hd⟩, h2, h3, ⟨Lr, h4⟩, h5, h6, h7, h8⟩ := id h
  have hk11 : mK M 100 = 11 := hd.w.k100
  have n0 := hd.n0
  have b1 : LW sn S k (alloc (CM M (upF (mFI M) 707 100 (mFI M 707 100 + 1)) (mAI M) (mAL M)) 22 0 6) I R (up1 (up1 I 0 0) 0 1) (refA 0 R) := h.cls (Out.al n0) (hd.no0 (fun j hj => by rcases hj with rfl | rfl | rfl <;> rfl))
  have lw0 : LW sn S k M I R (up1 I 0 0) R := (h.cls (Out.rf M (mFI M) (mAI M) (mAL M)) hd).r (fun j hj => by rcases hj with rfl | rfl | rfl <;> rfl) (fun _ _ => rfl)
  have hw : Ex (d + 57) Law_cell 0 [some (vR 100), some (vI (S (i + 1))), some (vI (S (i + 2))), some (vI (S (i + 3))), some (vR 386), none] [] M (fun o v m2 => o = 0 ∧ Ex (d + 58) Law_law 646 [some (vR 1), some (vR 100), some (vR 362), some (vR 386), some (vI (i : Int)), l5, l6] (v.toList ++ []) m2 Q) := by
    refine l_cell (d := d + 56) hk11 (d_cell (d := d + 54) hd (hS _) (hS _) (hS _) (fun c1 => Or.inr (Or.inl ⟨rfl, by decide, rfl, rf_cell hn hi hsn b1 (by omega) (fun L1 Q1 hq => f_cell (d := d + 54) b1.2.1 hd.now (hS _) (hS _) (hS _) (fun _ => hq _ _ _ 0 b1 rfl (fun z => absurd z (by decide))) (fun e => absurd e c1))⟩)) (fun c1 => Or.inl ⟨rfl, _, M, mFI M, mAI M, mAL M, rfl, rfl, h5, rfl, ?_⟩))
    exact rf_cell hn hi hsn (LW.put (m' := M) (F' := mFI M) (A' := mAI M) (L' := mAL M) lw0) (Or.inl rfl) (fun L1 Q1 hq => f_cell (d := d + 54) lw0.2.1 hd.now (hS _) (hS _) (hS _) (fun e => absurd c1 e) (fun _ => hq _ _ _ _ (LW.put (m' := M) (F' := mFI M) (A' := mAI M) (L' := mAL M) lw0) rfl (fun _ => (put_e _ _ _ _ _))))
  refine Ex_step (tk_Law_law rfl) ?_
  refine Ex_step (tk_Law_law rfl) ?_
  refine Ex_step (tk_Law_law rfl) ?_
  refine Ex_step (tk_Law_law rfl) ?_
  refine Ex_step (tk_Law_law rfl) ?_
  refine lCS (n := i + 1) (tk_Law_law rfl) h6 (by rw [w32_id (by omega) (by omega)]; omega) (by omega) ?_
  refine Ex_step (tk_Law_law rfl) ?_
  refine Ex_step (tk_Law_law rfl) ?_
  refine Ex_step (tk_Law_law rfl) ?_
  refine Ex_step (tk_Law_law rfl) ?_
  refine lCS (n := i + 2) (tk_Law_law rfl) h6 (by rw [w32_id (by omega) (by omega)]; omega) (by omega) ?_
  refine Ex_step (tk_Law_law rfl) ?_
  refine Ex_step (tk_Law_law rfl) ?_
  refine Ex_step (tk_Law_law rfl) ?_
  refine Ex_step (tk_Law_law rfl) ?_
  refine lCS (n := i + 3) (tk_Law_law rfl) h6 (by rw [w32_id (by omega) (by omega)]; omega) (by omega) ?_
  refine Ex_step (tk_Law_law rfl) ?_
  exact Ex_cSXK (av := [vR 100, vI (S (i + 1)), vI (S (i + 2)), vI (S (i + 3)), vR 386]) (tk_Law_law rfl) mk_Law_cell ⟨rfl, by decide, rfl, rfl, rfl, Nat.le_of_ble_eq_true rfl, Nat.le_of_ble_eq_true rfl⟩ hw
set_option maxRecDepth 100000 in
theorem op_over (h : LV sn S k M I R) (hS : ∀ j, okI (S j)) (hi : i + 7 ≤ sn) (hsn : sn ≤ 3584) (hn : Nxt d sn S k i Q) : Ex (d + 58) Law_law 703 [some (vR 1), some (vR 100), some (vR 362), some (vR 386), some (vI (i : Int)), l5, l6] [] M Q := by
  obtain ⟨⟨kb, kd, P, ds, nn, b, tp, hd⟩, h2, h3, ⟨Lr, h4⟩, h5, h6, h7, h8⟩ := id h
  have hk11 : mK M 100 = 11 := hd.w.k100
  have n0 := hd.n0
  have b1 : LW sn S k (alloc (CM M (upF (mFI M) 707 100 (mFI M 707 100 + 1)) (mAI M) (mAL M)) 22 0 6) I R (up1 (up1 I 0 0) 0 1) (refA 0 R) := h.cls (Out.al n0) (hd.no0 (fun j hj => by rcases hj with rfl | rfl | rfl <;> rfl))
  have b2 : LW sn S k (alloc (CM M (upF (mFI M) 708 100 (mFI M 708 100 + 1)) (mAI M) (mAL M)) 22 0 6) I R (up1 (up1 I 0 0) 0 2) (refA 1 R) := h.cls (Out.al n0) (hd.no1 (fun j hj => by rcases hj with rfl | rfl | rfl <;> rfl))
  have hw : Ex (d + 57) Law_over 0 [some (vR 100), some (vI (S (i + 1))), some (vI (S (i + 2))), some (vI (S (i + 3))), some (vI (S (i + 4))), some (vI (S (i + 5))), some (vI (S (i + 6))), some (vR 386), none] [] M (fun o v m2 => o = 0 ∧ Ex (d + 58) Law_law 745 [some (vR 1), some (vR 100), some (vR 362), some (vR 386), some (vI (i : Int)), l5, l6] (v.toList ++ []) m2 Q) := by
    refine l_over (d := d + 56) hk11 (d_over (d := d + 49) hd (hS _) (hS _) (hS _) (hS _) (hS _) (hS _) (fun c1 => Or.inr (Or.inl ⟨rfl, by decide, rfl, rf_over hn hi hsn b1 (by omega) (fun L1 Q1 hq => f_over (d := d + 53) b1.2.1 hd.now (hS _) (hS _) (hS _) (hS _) (hS _) (hS _) (fun _ => hq _ _ _ 0 b1 rfl (fun z => absurd z (by decide))) (fun e => absurd e c1) (fun e => absurd e c1))⟩)) (fun c1 c2 => Or.inr (Or.inr ⟨rfl, by decide, rfl, rf_over hn hi hsn b2 (by omega) (fun L1 Q1 hq => f_over (d := d + 53) b2.2.1 hd.now (hS _) (hS _) (hS _) (hS _) (hS _) (hS _) (fun e => absurd c1 e) (fun _ _ => hq _ _ _ 0 b2 rfl (fun z => absurd z (by decide))) (fun _ e => absurd e c2))⟩)) (fun c1 c2 m1 F1 A1 L1 hd1 o1 => Or.inl ⟨rfl, _, m1, F1, A1, L1, rfl, rfl, (h.cls o1 hd1).2.2.2.2.1, rfl, ?_⟩))
    exact rf_over hn hi hsn (LW.put (h.cls o1 hd1)) (Or.inl rfl) (fun L3 Q1 hq => f_over (d := d + 53) (h.cls o1 hd1).2.1 hd.now (hS _) (hS _) (hS _) (hS _) (hS _) (hS _) (fun e => absurd c1 e) (fun _ e => absurd c2 e) (fun _ _ I2 A2 L2 k1 k2 => hq I2 A2 L2 _ ((LW.put (h.cls o1 hd1)).r (fun j hj => by rcases hj with rfl | rfl | rfl <;> exact k1 _ (by decide)) (fun j hj => k2 j hj)) (k1 0 (by decide)) (fun _ => (put_e _ _ _ _ _))))
  refine Ex_step (tk_Law_law rfl) ?_
  refine Ex_step (tk_Law_law rfl) ?_
  refine Ex_step (tk_Law_law rfl) ?_
  refine Ex_step (tk_Law_law rfl) ?_
  refine Ex_step (tk_Law_law rfl) ?_
  refine lCS (n := i + 1) (tk_Law_law rfl) h6 (by rw [w32_id (by omega) (by omega)]; omega) (by omega) ?_
  refine Ex_step (tk_Law_law rfl) ?_
  refine Ex_step (tk_Law_law rfl) ?_
  refine Ex_step (tk_Law_law rfl) ?_
  refine Ex_step (tk_Law_law rfl) ?_
  refine lCS (n := i + 2) (tk_Law_law rfl) h6 (by rw [w32_id (by omega) (by omega)]; omega) (by omega) ?_
  refine Ex_step (tk_Law_law rfl) ?_
  refine Ex_step (tk_Law_law rfl) ?_
  refine Ex_step (tk_Law_law rfl) ?_
  refine Ex_step (tk_Law_law rfl) ?_
  refine lCS (n := i + 3) (tk_Law_law rfl) h6 (by rw [w32_id (by omega) (by omega)]; omega) (by omega) ?_
  refine Ex_step (tk_Law_law rfl) ?_
  refine Ex_step (tk_Law_law rfl) ?_
  refine Ex_step (tk_Law_law rfl) ?_
  refine Ex_step (tk_Law_law rfl) ?_
  refine lCS (n := i + 4) (tk_Law_law rfl) h6 (by rw [w32_id (by omega) (by omega)]; omega) (by omega) ?_
  refine Ex_step (tk_Law_law rfl) ?_
  refine Ex_step (tk_Law_law rfl) ?_
  refine Ex_step (tk_Law_law rfl) ?_
  refine Ex_step (tk_Law_law rfl) ?_
  refine lCS (n := i + 5) (tk_Law_law rfl) h6 (by rw [w32_id (by omega) (by omega)]; omega) (by omega) ?_
  refine Ex_step (tk_Law_law rfl) ?_
  refine Ex_step (tk_Law_law rfl) ?_
  refine Ex_step (tk_Law_law rfl) ?_
  refine Ex_step (tk_Law_law rfl) ?_
  refine lCS (n := i + 6) (tk_Law_law rfl) h6 (by rw [w32_id (by omega) (by omega)]; omega) (by omega) ?_
  refine Ex_step (tk_Law_law rfl) ?_
  exact Ex_cSXK (av := [vR 100, vI (S (i + 1)), vI (S (i + 2)), vI (S (i + 3)), vI (S (i + 4)), vI (S (i + 5)), vI (S (i + 6)), vR 386]) (tk_Law_law rfl) mk_Law_over ⟨rfl, by decide, rfl, rfl, rfl, Nat.le_of_ble_eq_true rfl, Nat.le_of_ble_eq_true rfl⟩ hw
set_option maxRecDepth 100000 in
theorem op_best (h : LV sn S k M I R) (hS : ∀ j, okI (S j)) (hi : i + 7 ≤ sn) (hsn : sn ≤ 3584) (hn : Nxt d sn S k i Q) : Ex (d + 58) Law_law 821 [some (vR 1), some (vR 100), some (vR 362), some (vR 386), some (vI (i : Int)), l5, l6] [] M Q := by
  obtain ⟨⟨kb, kd, P, ds, nn, b, tp, hd⟩, h2, h3, ⟨Lr, h4⟩, h5, h6, h7, h8⟩ := id h
  have hk11 : mK M 100 = 11 := hd.w.k100
  have n0 := hd.n0
  have b1 : LW sn S k (alloc (CM M (upF (mFI M) 707 100 (mFI M 707 100 + 1)) (mAI M) (mAL M)) 22 0 6) I R (up1 (up1 I 0 0) 0 1) (refA 0 R) := h.cls (Out.al n0) (hd.no0 (fun j hj => by rcases hj with rfl | rfl | rfl <;> rfl))
  have b2 : LW sn S k (alloc (CM M (upF (mFI M) 708 100 (mFI M 708 100 + 1)) (mAI M) (mAL M)) 22 0 6) I R (up1 (up1 I 0 0) 0 2) (refA 1 R) := h.cls (Out.al n0) (hd.no1 (fun j hj => by rcases hj with rfl | rfl | rfl <;> rfl))
  have hw : Ex (d + 57) Law_best 0 [some (vR 100), some (vI (S (i + 1))), some (vI (S (i + 2))), some (vI (S (i + 3))), some (vR 386), none] [] M (fun o v m2 => o = 0 ∧ Ex (d + 58) Law_law 844 [some (vR 1), some (vR 100), some (vR 362), some (vR 386), some (vI (i : Int)), l5, l6] (v.toList ++ []) m2 Q) := by
    refine l_best (d := d + 56) hk11 (d_best (d := d + 49) hd (hS _) (hS _) (hS _) (fun c1 => Or.inr (Or.inl ⟨rfl, by decide, rfl, rf_best hn hi hsn b1 (by omega) (fun L1 Q1 hq => f_best (d := d + 52) b1.2.1 hd.now (hS _) (hS _) (hS _) (fun _ => hq _ _ _ 0 b1 rfl (fun z => absurd z (by decide))) (fun e => absurd e c1) (fun e => absurd e c1))⟩)) (fun c1 c2 => Or.inr (Or.inr ⟨rfl, by decide, rfl, rf_best hn hi hsn b2 (by omega) (fun L1 Q1 hq => f_best (d := d + 52) b2.2.1 hd.now (hS _) (hS _) (hS _) (fun e => absurd c1 e) (fun _ _ => hq _ _ _ 0 b2 rfl (fun z => absurd z (by decide))) (fun _ e => absurd e c2))⟩)) (fun c1 c2 m1 F1 A1 L1 hd1 o1 => Or.inl ⟨rfl, _, m1, F1, A1, L1, rfl, rfl, (h.cls o1 hd1).2.2.2.2.1, rfl, ?_⟩))
    exact rf_best hn hi hsn (LW.put (h.cls o1 hd1)) (Or.inl rfl) (fun L3 Q1 hq => f_best (d := d + 52) (h.cls o1 hd1).2.1 hd.now (hS _) (hS _) (hS _) (fun e => absurd c1 e) (fun _ e => absurd c2 e) (fun _ _ I2 A2 L2 k1 k2 => hq I2 A2 L2 _ ((LW.put (h.cls o1 hd1)).r (fun j hj => by rcases hj with rfl | rfl | rfl <;> exact k1 _ (by decide)) (fun j hj => k2 j hj)) (k1 0 (by decide)) (fun _ => (put_e _ _ _ _ _))))
  refine Ex_step (tk_Law_law rfl) ?_
  refine Ex_step (tk_Law_law rfl) ?_
  refine Ex_step (tk_Law_law rfl) ?_
  refine Ex_step (tk_Law_law rfl) ?_
  refine Ex_step (tk_Law_law rfl) ?_
  refine lCS (n := i + 1) (tk_Law_law rfl) h6 (by rw [w32_id (by omega) (by omega)]; omega) (by omega) ?_
  refine Ex_step (tk_Law_law rfl) ?_
  refine Ex_step (tk_Law_law rfl) ?_
  refine Ex_step (tk_Law_law rfl) ?_
  refine Ex_step (tk_Law_law rfl) ?_
  refine lCS (n := i + 2) (tk_Law_law rfl) h6 (by rw [w32_id (by omega) (by omega)]; omega) (by omega) ?_
  refine Ex_step (tk_Law_law rfl) ?_
  refine Ex_step (tk_Law_law rfl) ?_
  refine Ex_step (tk_Law_law rfl) ?_
  refine Ex_step (tk_Law_law rfl) ?_
  refine lCS (n := i + 3) (tk_Law_law rfl) h6 (by rw [w32_id (by omega) (by omega)]; omega) (by omega) ?_
  refine Ex_step (tk_Law_law rfl) ?_
  exact Ex_cSXK (av := [vR 100, vI (S (i + 1)), vI (S (i + 2)), vI (S (i + 3)), vR 386]) (tk_Law_law rfl) mk_Law_best ⟨rfl, by decide, rfl, rfl, rfl, Nat.le_of_ble_eq_true rfl, Nat.le_of_ble_eq_true rfl⟩ hw
set_option maxRecDepth 100000 in
theorem op_prior (h : LV sn S k M I R) (hS : ∀ j, okI (S j)) (hi : i + 7 ≤ sn) (hsn : sn ≤ 3584) (hn : Nxt d sn S k i Q) : Ex (d + 58) Law_law 901 [some (vR 1), some (vR 100), some (vR 362), some (vR 386), some (vI (i : Int)), l5, l6] [] M Q := by
  obtain ⟨⟨kb, kd, P, ds, nn, b, tp, hd⟩, h2, h3, ⟨Lr, h4⟩, h5, h6, h7, h8⟩ := id h
  have hk11 : mK M 100 = 11 := hd.w.k100
  have n0 := hd.n0
  have b1 : LW sn S k (alloc (CM M (upF (mFI M) 707 100 (mFI M 707 100 + 1)) (mAI M) (mAL M)) 22 0 6) I R (up1 (up1 I 0 0) 0 1) (refA 0 R) := h.cls (Out.al n0) (hd.no0 (fun j hj => by rcases hj with rfl | rfl | rfl <;> rfl))
  have b2 : LW sn S k (alloc (CM M (upF (mFI M) 708 100 (mFI M 708 100 + 1)) (mAI M) (mAL M)) 22 0 6) I R (up1 (up1 I 0 0) 0 2) (refA 1 R) := h.cls (Out.al n0) (hd.no1 (fun j hj => by rcases hj with rfl | rfl | rfl <;> rfl))
  have hw : Ex (d + 57) Law_prior 0 [some (vR 100), some (vI (S (i + 1))), some (vI (S (i + 2))), some (vR 386), none] [] M (fun o v m2 => o = 0 ∧ Ex (d + 58) Law_law 918 [some (vR 1), some (vR 100), some (vR 362), some (vR 386), some (vI (i : Int)), l5, l6] (v.toList ++ []) m2 Q) := by
    refine l_prior (d := d + 56) hk11 (d_prior (d := d + 49) hd (hS _) (hS _) (fun c1 => Or.inr (Or.inl ⟨rfl, by decide, rfl, rf_prior hn hi hsn b1 (by omega) (fun L1 Q1 hq => f_prior (d := d + 51) b1.2.1 hd.now (hS _) (hS _) (fun _ => hq _ _ _ 0 b1 rfl (fun z => absurd z (by decide))) (fun e => absurd e c1) (fun e => absurd e c1))⟩)) (fun c1 c2 => Or.inr (Or.inr ⟨rfl, by decide, rfl, rf_prior hn hi hsn b2 (by omega) (fun L1 Q1 hq => f_prior (d := d + 51) b2.2.1 hd.now (hS _) (hS _) (fun e => absurd c1 e) (fun _ _ => hq _ _ _ 0 b2 rfl (fun z => absurd z (by decide))) (fun _ e => absurd e c2))⟩)) (fun c1 c2 m1 F1 A1 L1 hd1 o1 => Or.inl ⟨rfl, _, m1, F1, A1, L1, rfl, rfl, (h.cls o1 hd1).2.2.2.2.1, rfl, ?_⟩))
    exact rf_prior hn hi hsn (LW.put (h.cls o1 hd1)) (Or.inl rfl) (fun L3 Q1 hq => f_prior (d := d + 51) (h.cls o1 hd1).2.1 hd.now (hS _) (hS _) (fun e => absurd c1 e) (fun _ e => absurd c2 e) (fun _ _ I2 A2 L2 k1 k2 => hq I2 A2 L2 _ ((LW.put (h.cls o1 hd1)).r (fun j hj => by rcases hj with rfl | rfl | rfl <;> exact k1 _ (by decide)) (fun j hj => k2 j hj)) (k1 0 (by decide)) (fun _ => (put_e _ _ _ _ _))))
  refine Ex_step (tk_Law_law rfl) ?_
  refine Ex_step (tk_Law_law rfl) ?_
  refine Ex_step (tk_Law_law rfl) ?_
  refine Ex_step (tk_Law_law rfl) ?_
  refine Ex_step (tk_Law_law rfl) ?_
  refine lCS (n := i + 1) (tk_Law_law rfl) h6 (by rw [w32_id (by omega) (by omega)]; omega) (by omega) ?_
  refine Ex_step (tk_Law_law rfl) ?_
  refine Ex_step (tk_Law_law rfl) ?_
  refine Ex_step (tk_Law_law rfl) ?_
  refine Ex_step (tk_Law_law rfl) ?_
  refine lCS (n := i + 2) (tk_Law_law rfl) h6 (by rw [w32_id (by omega) (by omega)]; omega) (by omega) ?_
  refine Ex_step (tk_Law_law rfl) ?_
  exact Ex_cSXK (av := [vR 100, vI (S (i + 1)), vI (S (i + 2)), vR 386]) (tk_Law_law rfl) mk_Law_prior ⟨rfl, by decide, rfl, rfl, rfl, Nat.le_of_ble_eq_true rfl, Nat.le_of_ble_eq_true rfl⟩ hw
set_option maxRecDepth 100000 in
theorem op_infringes (h : LV sn S k M I R) (hS : ∀ j, okI (S j)) (hi : i + 7 ≤ sn) (hsn : sn ≤ 3584) (hn : Nxt d sn S k i Q) : Ex (d + 58) Law_law 969 [some (vR 1), some (vR 100), some (vR 362), some (vR 386), some (vI (i : Int)), l5, l6] [] M Q := by
  obtain ⟨⟨kb, kd, P, ds, nn, b, tp, hd⟩, h2, h3, ⟨Lr, h4⟩, h5, h6, h7, h8⟩ := id h
  have hk11 : mK M 100 = 11 := hd.w.k100
  have n0 := hd.n0
  obtain ⟨ru, hR, hX⟩ := hd.ru.x
  have b1 : LW sn S k (alloc (CM M (upF (mFI M) 707 100 (mFI M 707 100 + 1)) (mAI M) (mAL M)) 22 0 6) I R (up1 (up1 I 0 0) 0 1) (refA 0 R) := h.cls (Out.al n0) (hd.no0 (fun j hj => by rcases hj with rfl | rfl | rfl <;> rfl))
  have b2 : LW sn S k (alloc (CM M (upF (mFI M) 708 100 (mFI M 708 100 + 1)) (mAI M) (mAL M)) 22 0 6) I R (up1 (up1 I 0 0) 0 2) (refA 1 R) := h.cls (Out.al n0) (hd.no1 (fun j hj => by rcases hj with rfl | rfl | rfl <;> rfl))
  have hw : Ex (d + 57) Law_infringes 0 [some (vR 100), some (vI (S (i + 1))), some (vI (S (i + 2))), some (vR 386), none] [] M (fun o v m2 => o = 0 ∧ Ex (d + 58) Law_law 986 [some (vR 1), some (vR 100), some (vR 362), some (vR 386), some (vI (i : Int)), l5, l6] (v.toList ++ []) m2 Q) := by
    refine l_infringes (d := d + 56) hk11 (d_infringes (d := d + 49) hd hX (hS _) (hS _) (fun c1 => Or.inr (Or.inl ⟨rfl, by decide, rfl, rf_infringes hn hi hsn b1 (by omega) (fun L1 Q1 hq => f_infringes (d := d + 51) b1.2.1 hd.now hR (hS _) (hS _) (fun _ => hq _ _ _ 0 b1 rfl (fun z => absurd z (by decide))) (fun e => absurd e c1) (fun e => absurd e c1))⟩)) (fun c1 c2 => Or.inr (Or.inr ⟨rfl, by decide, rfl, rf_infringes hn hi hsn b2 (by omega) (fun L1 Q1 hq => f_infringes (d := d + 51) b2.2.1 hd.now hR (hS _) (hS _) (fun e => absurd c1 e) (fun _ _ => hq _ _ _ 0 b2 rfl (fun z => absurd z (by decide))) (fun _ e => absurd e c2))⟩)) (fun c1 c2 m1 F1 A1 L1 hd1 o1 => Or.inl ⟨rfl, _, m1, F1, A1, L1, rfl, rfl, (h.cls o1 hd1).2.2.2.2.1, rfl, ?_⟩))
    exact rf_infringes hn hi hsn (LW.put (h.cls o1 hd1)) (Or.inl rfl) (fun L3 Q1 hq => f_infringes (d := d + 51) (h.cls o1 hd1).2.1 hd.now hR (hS _) (hS _) (fun e => absurd c1 e) (fun _ e => absurd c2 e) (fun _ _ I2 A2 L2 k1 k2 => hq I2 A2 L2 _ ((LW.put (h.cls o1 hd1)).r (fun j hj => by rcases hj with rfl | rfl | rfl <;> exact k1 _ (by decide)) (fun j hj => k2 j hj)) (k1 0 (by decide)) (fun _ => (put_e _ _ _ _ _))))
  refine Ex_step (tk_Law_law rfl) ?_
  refine Ex_step (tk_Law_law rfl) ?_
  refine Ex_step (tk_Law_law rfl) ?_
  refine Ex_step (tk_Law_law rfl) ?_
  refine Ex_step (tk_Law_law rfl) ?_
  refine lCS (n := i + 1) (tk_Law_law rfl) h6 (by rw [w32_id (by omega) (by omega)]; omega) (by omega) ?_
  refine Ex_step (tk_Law_law rfl) ?_
  refine Ex_step (tk_Law_law rfl) ?_
  refine Ex_step (tk_Law_law rfl) ?_
  refine Ex_step (tk_Law_law rfl) ?_
  refine lCS (n := i + 2) (tk_Law_law rfl) h6 (by rw [w32_id (by omega) (by omega)]; omega) (by omega) ?_
  refine Ex_step (tk_Law_law rfl) ?_
  exact Ex_cSXK (av := [vR 100, vI (S (i + 1)), vI (S (i + 2)), vR 386]) (tk_Law_law rfl) mk_Law_infringes ⟨rfl, by decide, rfl, rfl, rfl, Nat.le_of_ble_eq_true rfl, Nat.le_of_ble_eq_true rfl⟩ hw
set_option maxRecDepth 100000 in
theorem op_nearest (h : LV sn S k M I R) (hS : ∀ j, okI (S j)) (hi : i + 7 ≤ sn) (hsn : sn ≤ 3584) (hn : Nxt d sn S k i Q) : Ex (d + 58) Law_law 1037 [some (vR 1), some (vR 100), some (vR 362), some (vR 386), some (vI (i : Int)), l5, l6] [] M Q := by
  obtain ⟨⟨kb, kd, P, ds, nn, b, tp, hd⟩, h2, h3, ⟨Lr, h4⟩, h5, h6, h7, h8⟩ := id h
  have hk11 : mK M 100 = 11 := hd.w.k100
  have n0 := hd.n0
  have b1 : LW sn S k (alloc (CM M (upF (mFI M) 707 100 (mFI M 707 100 + 1)) (mAI M) (mAL M)) 22 0 6) I R (up1 (up1 I 0 0) 0 1) (refA 0 R) := h.cls (Out.al n0) (hd.no0 (fun j hj => by rcases hj with rfl | rfl | rfl <;> rfl))
  have hw : Ex (d + 57) Law_nearest 0 [some (vR 100), some (vI (S (i + 1))), some (vR 386), none] [] M (fun o v m2 => o = 0 ∧ Ex (d + 58) Law_law 1048 [some (vR 1), some (vR 100), some (vR 362), some (vR 386), some (vI (i : Int)), l5, l6] (v.toList ++ []) m2 Q) := by
    refine l_nearest (d := d + 56) hk11 (d_nearest (d := d + 49) hd (hS _) (fun c1 => Or.inr (Or.inl ⟨rfl, by decide, rfl, rf_nearest hn hi hsn b1 (by omega) (fun L1 Q1 hq => f_nearest (d := d + 52) b1.2.1 hd.now (hS _) (fun _ => hq _ _ _ 0 b1 rfl (fun z => absurd z (by decide))) (fun e => absurd e c1))⟩)) (fun c1 m1 F1 A1 L1 hd1 o1 => Or.inl ⟨rfl, _, m1, F1, A1, L1, rfl, rfl, (h.cls o1 hd1).2.2.2.2.1, rfl, ?_⟩))
    exact rf_nearest hn hi hsn (LW.put (h.cls o1 hd1)) (Or.inl rfl) (fun L3 Q1 hq => f_nearest (d := d + 52) (h.cls o1 hd1).2.1 hd.now (hS _) (fun e => absurd c1 e) (fun _ I2 A2 L2 k1 k2 => hq I2 A2 L2 _ ((LW.put (h.cls o1 hd1)).r (fun j hj => by rcases hj with rfl | rfl | rfl <;> exact k1 _ (by decide)) (fun j hj => k2 j hj)) (k1 0 (by decide)) (fun _ => (put_e _ _ _ _ _))))
  refine Ex_step (tk_Law_law rfl) ?_
  refine Ex_step (tk_Law_law rfl) ?_
  refine Ex_step (tk_Law_law rfl) ?_
  refine Ex_step (tk_Law_law rfl) ?_
  refine Ex_step (tk_Law_law rfl) ?_
  refine lCS (n := i + 1) (tk_Law_law rfl) h6 (by rw [w32_id (by omega) (by omega)]; omega) (by omega) ?_
  refine Ex_step (tk_Law_law rfl) ?_
  exact Ex_cSXK (av := [vR 100, vI (S (i + 1)), vR 386]) (tk_Law_law rfl) mk_Law_nearest ⟨rfl, by decide, rfl, rfl, rfl, Nat.le_of_ble_eq_true rfl, Nat.le_of_ble_eq_true rfl⟩ hw
end Ops4
