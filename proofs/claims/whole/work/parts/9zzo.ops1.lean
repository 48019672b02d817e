/-! ===== the law: calls without refusals ===== -/
set_option maxRecDepth 100000 in
theorem lCS {d y pc nx n z : Nat} {rs : List Nat} {c0 : Int} {ls : Ls} {r : List AV} {M : Mem} {Q : Nat → Option AV → Mem → Prop} {i : Int} {S : Nat → Int} (hk : okE y pc (.iaload, nx, rs, c0)) (h1 : mK M 1 = 13 ∧ mLen M 1 = z ∧ mAI M 1 = S) (hi : w32 i = (n : Int)) (hn : n < z) (h : Ex d y nx ls (vI (S n) :: r) M Q) : Ex d y pc ls (vI i :: vR 1 :: r) M Q := by
  refine Ex_step hk ⟨h1.1, inR_of hi (by rw [h1.2.1]; exact hn), ?_⟩
  rw [ix_of hi, h1.2.2]
  exact h
set_option maxRecDepth 100000 in
theorem lCmp_0 (x : Int) : lCmp x x = 0 := by
  unfold lCmp lg_cmp
  rw [if_neg (Int64.lt_irrefl), if_pos rfl]
  rfl
/-- the law goes on with the next call -/
def Nxt (d sn : Nat) (S : Nat → Int) (k i : Nat) (Q : Nat → Option AV → Mem → Prop) : Prop := ∀ (M' : Mem) (I' : Nat → Int) (R' : Nat → Nat → Int) (l5 l6 : Option AV), LV sn S (k + 1) M' I' R' → Ex (d + 58) Law_law 1145 [some (vR 1), some (vR 100), some (vR 362), some (vR 386), some (vI (i : Int)), l5, l6] [] M' Q
section Ops1
variable {d sn k i : Nat} {S : Nat → Int} {M : Mem} {I : Nat → Int} {R : Nat → Nat → Int} {Q : Nat → Option AV → Mem → Prop} {l5 l6 : Option AV}
set_option maxRecDepth 100000 in
theorem op_fault (h : LV sn S k M I R) (hn : Nxt d sn S k i Q) : Ex (d + 58) Law_law 257 [some (vR 1), some (vR 100), some (vR 362), some (vR 386), some (vI (i : Int)), l5, l6] [] M Q := by
  obtain ⟨⟨kb, kd, P, ds, nn, b, tp, hd⟩, h2, h3, ⟨Lr, h4⟩, h5, h6, h7, h8⟩ := id h
  have hk11 : mK M 100 = 11 := hd.w.k100
  have hk12 : mK M 362 = 12 := h2.1
  have hcl : ∀ Q1 : Nat → Option AV → Mem → Prop, Q1 0 (some (vI (I 5))) M → Ex (d + 57) DD_fault 0 [some (vR 100)] [] M Q1 := fun Q1 hq => d_fault (d := d + 57) hd hq
  have lw : LW sn S k M I R I R := h.cls (Out.rf M (mFI M) (mAI M) (mAL M)) hd
  have hre : ∀ Q1 : Nat → Option AV → Mem → Prop, Q1 0 (some (vI (I 5))) (MS M (up1 I 0 0) R Lr) → Ex (d + 57) M_fault 0 [some (vR 362)] [] M Q1 := fun Q1 hq => by
    have z := f_fault (d := d + 57) (m := M) (A := R) (L := Lr) h2 hq
    rw [← h4.ms] at z
    exact z
  have hq := hn _ _ _ l5 l6 ((lw.r (I2 := up1 I 0 0) (R2 := R) (fun j hj => by rcases hj with rfl | rfl | rfl <;> rfl) (fun _ _ => rfl)).ref (Lr := Lr))
  refine Ex_step (tk_Law_law rfl) ?_
  refine Ex_cV0 (av := []) (tk_Law_law rfl) mk_DD_fault ⟨rfl, rfl, by decide, rfl, Nat.le_of_ble_eq_true rfl, Nat.le_of_ble_eq_true rfl⟩ (hk11) (fun _ h => hcl _ h) ?_
  refine Ex_step (tk_Law_law rfl) ?_
  refine Ex_cV0 (av := []) (tk_Law_law rfl) mk_M_fault ⟨rfl, rfl, by decide, rfl, Nat.le_of_ble_eq_true rfl, Nat.le_of_ble_eq_true rfl⟩ (hk12) (fun _ h => hre _ h) ?_
  refine Ex_step (tk_Law_law rfl) ⟨fun h265 => ?_, fun h265 => ?_⟩
  · replace h265 : _ := h265
    exact hq
  · replace h265 : _ := h265
    exact absurd rfl h265
set_option maxRecDepth 100000 in
theorem op_print (h : LV sn S k M I R) (hn : Nxt d sn S k i Q) : Ex (d + 58) Law_law 1106 [some (vR 1), some (vR 100), some (vR 362), some (vR 386), some (vI (i : Int)), l5, l6] [] M Q := by
  obtain ⟨⟨kb, kd, P, ds, nn, b, tp, hd⟩, h2, h3, ⟨Lr, h4⟩, h5, h6, h7, h8⟩ := id h
  have hk11 : mK M 100 = 11 := hd.w.k100
  have hk12 : mK M 362 = 12 := h2.1
  have hcl : ∀ Q1 : Nat → Option AV → Mem → Prop, Q1 0 (some (vL (pnS (R 3) nn))) M → Ex (d + 57) DD_print 0 [some (vR 100), none, none, none, none, none, none] [] M Q1 := fun Q1 hq => d_print (d := d + 55) hd hq
  have lw : LW sn S k M I R I R := h.cls (Out.rf M (mFI M) (mAI M) (mAL M)) hd
  have hre : ∀ Q1 : Nat → Option AV → Mem → Prop, Q1 0 (some (vL (pnS (R 3) nn))) (MS M (up1 I 0 0) R Lr) → Ex (d + 57) M_print 0 [some (vR 362), none, none, none, none, none] [] M Q1 := fun Q1 hq => by
    have z := f_print (d := d + 55) (m := M) (I := I) (A := R) (L := Lr) h2 hd.now hq
    rw [← h4.ms] at z
    exact z
  have hq := hn _ _ _ l5 l6 ((lw.r (I2 := up1 I 0 0) (R2 := R) (fun j hj => by rcases hj with rfl | rfl | rfl <;> rfl) (fun _ _ => rfl)).ref (Lr := Lr))
  have e0 := lCmp_0 (pnS (R 3) nn)
  refine Ex_step (tk_Law_law rfl) ?_
  refine Ex_cV0 (av := []) (tk_Law_law rfl) mk_DD_print ⟨rfl, rfl, by decide, rfl, Nat.le_of_ble_eq_true rfl, Nat.le_of_ble_eq_true rfl⟩ (hk11) (fun _ h => hcl _ h) ?_
  refine Ex_step (tk_Law_law rfl) ?_
  refine Ex_cV0 (av := []) (tk_Law_law rfl) mk_M_print ⟨rfl, rfl, by decide, rfl, Nat.le_of_ble_eq_true rfl, Nat.le_of_ble_eq_true rfl⟩ (hk12) (fun _ h => hre _ h) ?_
  refine Ex_step (tk_Law_law rfl) ?_
  refine Ex_step (tk_Law_law rfl) ⟨fun h1115 => ?_, fun h1115 => ?_⟩
  · replace h1115 : _ := h1115
    exact hq
  · replace h1115 : _ := h1115
    exact absurd (by rw [e0]; rfl) h1115
end Ops1
