/-! ===== the law: calls behind wrappers, the reference's part ===== -/
set_option maxRecDepth 100000 in
theorem lL0 {d y pc nx : Nat} {rs : List Nat} {c0 : Int} {ls : Ls} {r : List AV} {M : Mem} {Q : Nat → Option AV → Mem → Prop} (hk : okE y pc (.laload, nx, rs, c0)) (h1 : LA M 386 1) (h : Ex d y nx ls (vL (mAL M 386 0) :: r) M Q) : Ex d y pc ls (vI 0 :: vR 386 :: r) M Q := by
  refine Ex_step hk ⟨h1.1, inR_of (n := 0) rfl (by rw [h1.2]; decide), ?_⟩
  rw [ix_of (n := 0) rfl]
  exact h
set_option maxRecDepth 100000 in
theorem MS_386 (M : Mem) (I : Nat → Int) (R L : Nat → Nat → Int) : mAL (MS M I R L) 386 = mAL M 386 := by
  show (if aM < 386 ∧ 386 ≤ aM + 23 then L (386 - aM) else mAL M 386) = mAL M 386
  exact if_neg (by decide)
/-- how the reference's call may end, beside the wrapper's answer c -/
def RE_ (sn : Nat) (S : Nat → Int) (k : Nat) (M1 : Mem) (I : Nat → Int) (R : Nat → Nat → Int) (c : Int) (Q1 : Nat → Option AV → Mem → Prop) : Prop := ∀ (I2 : Nat → Int) (R2 L2 : Nat → Nat → Int) (v : Int), LW sn S k M1 I R I2 R2 → I2 0 = c → (c = 0 → mAL M1 386 0 = w32 v) → Q1 0 (some (vI v)) (MS M1 I2 R2 L2)
section Ops3
variable {d sn k i : Nat} {S : Nat → Int} {M1 : Mem} {I : Nat → Int} {R : Nat → Nat → Int} {Q : Nat → Option AV → Mem → Prop} {c : Int} {l5 l6 : Option AV}
set_option maxRecDepth 100000 in
theorem tl_text {I2 : Nat → Int} {R2 L2 : Nat → Nat → Int} {v : Int} (hn : Nxt d sn S k i Q) (lw : LW sn S k M1 I R I2 R2) (hc : I2 0 = c) (hc3 : c = 0 ∨ c = 1 ∨ c = 2) (hv : c = 0 → mAL M1 386 0 = w32 v) : Ex (d + 58) Law_law 226 [some (vR 1), some (vR 100), some (vR 362), some (vR 386), some (vI (i : Int)), some (vI c), some (vI v)] [] (MS M1 I2 R2 L2) Q := by
  have hM : MW M1 := lw.2.1
  have hk12 : mK M1 362 = 12 := hM.1
  have hLA : LA (MS M1 I2 R2 L2) 386 1 := lw.2.2.2.2.1
  have eL : mAL (MS M1 I2 R2 L2) 386 = mAL M1 386 := MS_386 M1 I2 R2 L2
  have hq := hn _ _ _ (some (vI c)) (some (vI v)) (lw.ref (Lr := L2))
  have hth : ∀ Q1 : Nat → Option AV → Mem → Prop, Q1 0 (some (vI c)) (MS M1 I2 R2 L2) → Ex (d + 57) M_thrown 0 [some (vR 362)] [] (MS M1 I2 R2 L2) Q1 := fun Q1 h1 => f_thrown hM (by rw [hc]; exact h1)
  have hw : w32 c = c := w32_id (by omega) (by omega)
  by_cases h0 : c = 0
  · have e0 : lCmp (mAL M1 386 0) (w32 v) = 0 := by rw [hv h0]; exact lCmp_0 _
    subst h0
    refine Ex_step (tk_Law_law rfl) ?_
    refine Ex_cV0 (av := []) (tk_Law_law rfl) mk_M_thrown ⟨rfl, rfl, by decide, rfl, Nat.le_of_ble_eq_true rfl, Nat.le_of_ble_eq_true rfl⟩ (hk12) (fun _ h => hth _ h) ?_
    refine Ex_step (tk_Law_law rfl) ?_
    refine Ex_step (tk_Law_law rfl) ⟨fun h232 => ?_, fun h232 => ?_⟩
    · replace h232 : _ := h232
      refine Ex_step (tk_Law_law rfl) ?_
      refine Ex_step (tk_Law_law rfl) ⟨fun h239 => ?_, fun h239 => ?_⟩
      · replace h239 : _ := h239
        refine Ex_step (tk_Law_law rfl) ?_
        first | exact hq | exact absurd rfl h239
      · replace h239 : _ := h239
        refine Ex_step (tk_Law_law rfl) ?_
        refine Ex_step (tk_Law_law rfl) ?_
        refine lL0 (tk_Law_law rfl) hLA ?_
        rw [eL]
        refine Ex_step (tk_Law_law rfl) ?_
        refine Ex_step (tk_Law_law rfl) ?_
        refine Ex_step (tk_Law_law rfl) ?_
        refine Ex_step (tk_Law_law rfl) ⟨fun h249 => ?_, fun h249 => ?_⟩
        · replace h249 : _ := h249
          refine Ex_step (tk_Law_law rfl) ?_
          first | exact hq | exact absurd rfl h239
        · replace h249 : _ := h249
          exact absurd (by rw [show lCmp (mAL M1 386 0) (w32 v) = 0 from e0]; rfl) h249
    · replace h232 : _ := h232
      exact absurd rfl h232
  · refine Ex_step (tk_Law_law rfl) ?_
    refine Ex_cV0 (av := []) (tk_Law_law rfl) mk_M_thrown ⟨rfl, rfl, by decide, rfl, Nat.le_of_ble_eq_true rfl, Nat.le_of_ble_eq_true rfl⟩ (hk12) (fun _ h => hth _ h) ?_
    refine Ex_step (tk_Law_law rfl) ?_
    refine Ex_step (tk_Law_law rfl) ⟨fun h232 => ?_, fun h232 => ?_⟩
    · replace h232 : _ := h232
      refine Ex_step (tk_Law_law rfl) ?_
      refine Ex_step (tk_Law_law rfl) ⟨fun h239 => ?_, fun h239 => ?_⟩
      · replace h239 : _ := h239
        refine Ex_step (tk_Law_law rfl) ?_
        exact hq
      · replace h239 : _ := h239
        exact absurd (show w32 c = w32 0 from Classical.not_not.mp h239) (by rw [hw]; exact h0)
    · replace h232 : _ := h232
      exact absurd rfl h232
set_option maxRecDepth 100000 in
theorem rf_text (hn : Nxt d sn S k i Q) (hi : i + 7 ≤ sn) (hsn : sn ≤ 3584) {I' : Nat → Int} {R' : Nat → Nat → Int} (lw : LW sn S k M1 I R I' R') (hc3 : c = 0 ∨ c = 1 ∨ c = 2) (hre : ∀ (L1 : Nat → Nat → Int) (Q1 : Nat → Option AV → Mem → Prop), RE_ sn S k M1 I R c Q1 → Ex (d + 57) M_text 0 [some (vR 362), some (vI (S (i + 1))), none] [] (MS M1 I R L1) Q1) : Ex (d + 58) Law_law 212 [some (vR 1), some (vR 100), some (vR 362), some (vR 386), some (vI (i : Int)), l5, l6] [vI c] M1 Q := by
  have hk12 : mK M1 362 = 12 := lw.2.1.1
  have h6 := lw.2.2.2.2.2.1
  obtain ⟨L1, e⟩ := lw.ms
  have hre1 : ∀ Q1 : Nat → Option AV → Mem → Prop, RE_ sn S k M1 I R c Q1 → Ex (d + 57) M_text 0 [some (vR 362), some (vI (S (i + 1))), none] [] M1 Q1 := fun Q1 hq => by
    have z := hre L1 Q1 hq
    rw [← e] at z
    exact z
  refine Ex_step (tk_Law_law rfl) ?_
  refine Ex_step (tk_Law_law rfl) ?_
  refine Ex_step (tk_Law_law rfl) ?_
  refine Ex_step (tk_Law_law rfl) ?_
  refine Ex_step (tk_Law_law rfl) ?_
  refine Ex_step (tk_Law_law rfl) ?_
  refine lCS (n := i + 1) (tk_Law_law rfl) h6 (by rw [w32_id (by omega) (by omega)]; omega) (by omega) ?_
  refine Ex_cVK (av := [vI (S (i + 1))]) (tk_Law_law rfl) mk_M_text ⟨rfl, rfl, by decide, rfl, Nat.le_of_ble_eq_true rfl, Nat.le_of_ble_eq_true rfl⟩ (hk12) (hre1 _ (fun I2 R2 L2 v q1 q2 q3 => ⟨rfl, ?_⟩))
  refine Ex_step (tk_Law_law rfl) ?_
  exact tl_text hn q1 q2 hc3 q3
set_option maxRecDepth 100000 in
theorem tl_paint {I2 : Nat → Int} {R2 L2 : Nat → Nat → Int} {v : Int} (hn : Nxt d sn S k i Q) (lw : LW sn S k M1 I R I2 R2) (hc : I2 0 = c) (hc3 : c = 0 ∨ c = 1 ∨ c = 2) (hv : c = 0 → mAL M1 386 0 = w32 v) : Ex (d + 58) Law_law 331 [some (vR 1), some (vR 100), some (vR 362), some (vR 386), some (vI (i : Int)), some (vI c), some (vI v)] [] (MS M1 I2 R2 L2) Q := by
  have hM : MW M1 := lw.2.1
  have hk12 : mK M1 362 = 12 := hM.1
  have hLA : LA (MS M1 I2 R2 L2) 386 1 := lw.2.2.2.2.1
  have eL : mAL (MS M1 I2 R2 L2) 386 = mAL M1 386 := MS_386 M1 I2 R2 L2
  have hq := hn _ _ _ (some (vI c)) (some (vI v)) (lw.ref (Lr := L2))
  have hth : ∀ Q1 : Nat → Option AV → Mem → Prop, Q1 0 (some (vI c)) (MS M1 I2 R2 L2) → Ex (d + 57) M_thrown 0 [some (vR 362)] [] (MS M1 I2 R2 L2) Q1 := fun Q1 h1 => f_thrown hM (by rw [hc]; exact h1)
  have hw : w32 c = c := w32_id (by omega) (by omega)
  by_cases h0 : c = 0
  · have e0 : lCmp (mAL M1 386 0) (w32 v) = 0 := by rw [hv h0]; exact lCmp_0 _
    subst h0
    refine Ex_step (tk_Law_law rfl) ?_
    refine Ex_cV0 (av := []) (tk_Law_law rfl) mk_M_thrown ⟨rfl, rfl, by decide, rfl, Nat.le_of_ble_eq_true rfl, Nat.le_of_ble_eq_true rfl⟩ (hk12) (fun _ h => hth _ h) ?_
    refine Ex_step (tk_Law_law rfl) ?_
    refine Ex_step (tk_Law_law rfl) ⟨fun h337 => ?_, fun h337 => ?_⟩
    · replace h337 : _ := h337
      refine Ex_step (tk_Law_law rfl) ?_
      refine Ex_step (tk_Law_law rfl) ⟨fun h344 => ?_, fun h344 => ?_⟩
      · replace h344 : _ := h344
        refine Ex_step (tk_Law_law rfl) ?_
        first | exact hq | exact absurd rfl h344
      · replace h344 : _ := h344
        refine Ex_step (tk_Law_law rfl) ?_
        refine Ex_step (tk_Law_law rfl) ?_
        refine lL0 (tk_Law_law rfl) hLA ?_
        rw [eL]
        refine Ex_step (tk_Law_law rfl) ?_
        refine Ex_step (tk_Law_law rfl) ?_
        refine Ex_step (tk_Law_law rfl) ?_
        refine Ex_step (tk_Law_law rfl) ⟨fun h354 => ?_, fun h354 => ?_⟩
        · replace h354 : _ := h354
          refine Ex_step (tk_Law_law rfl) ?_
          first | exact hq | exact absurd rfl h344
        · replace h354 : _ := h354
          exact absurd (by rw [show lCmp (mAL M1 386 0) (w32 v) = 0 from e0]; rfl) h354
    · replace h337 : _ := h337
      exact absurd rfl h337
  · refine Ex_step (tk_Law_law rfl) ?_
    refine Ex_cV0 (av := []) (tk_Law_law rfl) mk_M_thrown ⟨rfl, rfl, by decide, rfl, Nat.le_of_ble_eq_true rfl, Nat.le_of_ble_eq_true rfl⟩ (hk12) (fun _ h => hth _ h) ?_
    refine Ex_step (tk_Law_law rfl) ?_
    refine Ex_step (tk_Law_law rfl) ⟨fun h337 => ?_, fun h337 => ?_⟩
    · replace h337 : _ := h337
      refine Ex_step (tk_Law_law rfl) ?_
      refine Ex_step (tk_Law_law rfl) ⟨fun h344 => ?_, fun h344 => ?_⟩
      · replace h344 : _ := h344
        refine Ex_step (tk_Law_law rfl) ?_
        exact hq
      · replace h344 : _ := h344
        exact absurd (show w32 c = w32 0 from Classical.not_not.mp h344) (by rw [hw]; exact h0)
    · replace h337 : _ := h337
      exact absurd rfl h337
set_option maxRecDepth 100000 in
theorem rf_paint (hn : Nxt d sn S k i Q) (hi : i + 7 ≤ sn) (hsn : sn ≤ 3584) {I' : Nat → Int} {R' : Nat → Nat → Int} (lw : LW sn S k M1 I R I' R') (hc3 : c = 0 ∨ c = 1 ∨ c = 2) (hre : ∀ (L1 : Nat → Nat → Int) (Q1 : Nat → Option AV → Mem → Prop), RE_ sn S k M1 I R c Q1 → Ex (d + 57) M_paint 0 [some (vR 362), some (vI (S (i + 1))), some (vI (S (i + 2))), some (vI (S (i + 3))), some (vI (S (i + 4))), none] [] (MS M1 I R L1) Q1) : Ex (d + 58) Law_law 299 [some (vR 1), some (vR 100), some (vR 362), some (vR 386), some (vI (i : Int)), l5, l6] [vI c] M1 Q := by
  have hk12 : mK M1 362 = 12 := lw.2.1.1
  have h6 := lw.2.2.2.2.2.1
  obtain ⟨L1, e⟩ := lw.ms
  have hre1 : ∀ Q1 : Nat → Option AV → Mem → Prop, RE_ sn S k M1 I R c Q1 → Ex (d + 57) M_paint 0 [some (vR 362), some (vI (S (i + 1))), some (vI (S (i + 2))), some (vI (S (i + 3))), some (vI (S (i + 4))), none] [] M1 Q1 := fun Q1 hq => by
    have z := hre L1 Q1 hq
    rw [← e] at z
    exact z
  refine Ex_step (tk_Law_law rfl) ?_
  refine Ex_step (tk_Law_law rfl) ?_
  refine Ex_step (tk_Law_law rfl) ?_
  refine Ex_step (tk_Law_law rfl) ?_
  refine Ex_step (tk_Law_law rfl) ?_
  refine Ex_step (tk_Law_law rfl) ?_
  refine lCS (n := i + 1) (tk_Law_law rfl) h6 (by rw [w32_id (by omega) (by omega)]; omega) (by omega) ?_
  refine Ex_step (tk_Law_law rfl) ?_
  refine Ex_step (tk_Law_law rfl) ?_
  refine Ex_step (tk_Law_law rfl) ?_
  refine Ex_step (tk_Law_law rfl) ?_
  refine lCS (n := i + 2) (tk_Law_law rfl) h6 (by rw [w32_id (by omega) (by omega)]; omega) (by omega) ?_
  refine Ex_step (tk_Law_law rfl) ?_
  refine Ex_step (tk_Law_law rfl) ?_
  refine Ex_step (tk_Law_law rfl) ?_
  refine Ex_step (tk_Law_law rfl) ?_
  refine lCS (n := i + 3) (tk_Law_law rfl) h6 (by rw [w32_id (by omega) (by omega)]; omega) (by omega) ?_
  refine Ex_step (tk_Law_law rfl) ?_
  refine Ex_step (tk_Law_law rfl) ?_
  refine Ex_step (tk_Law_law rfl) ?_
  refine Ex_step (tk_Law_law rfl) ?_
  refine lCS (n := i + 4) (tk_Law_law rfl) h6 (by rw [w32_id (by omega) (by omega)]; omega) (by omega) ?_
  refine Ex_cVK (av := [vI (S (i + 1)), vI (S (i + 2)), vI (S (i + 3)), vI (S (i + 4))]) (tk_Law_law rfl) mk_M_paint ⟨rfl, rfl, by decide, rfl, Nat.le_of_ble_eq_true rfl, Nat.le_of_ble_eq_true rfl⟩ (hk12) (hre1 _ (fun I2 R2 L2 v q1 q2 q3 => ⟨rfl, ?_⟩))
  refine Ex_step (tk_Law_law rfl) ?_
  exact tl_paint hn q1 q2 hc3 q3
set_option maxRecDepth 100000 in
theorem tl_day {I2 : Nat → Int} {R2 L2 : Nat → Nat → Int} {v : Int} (hn : Nxt d sn S k i Q) (lw : LW sn S k M1 I R I2 R2) (hc : I2 0 = c) (hc3 : c = 0 ∨ c = 1 ∨ c = 2) (hv : c = 0 → mAL M1 386 0 = w32 v) : Ex (d + 58) Law_law 399 [some (vR 1), some (vR 100), some (vR 362), some (vR 386), some (vI (i : Int)), some (vI c), some (vI v)] [] (MS M1 I2 R2 L2) Q := by
  have hM : MW M1 := lw.2.1
  have hk12 : mK M1 362 = 12 := hM.1
  have hLA : LA (MS M1 I2 R2 L2) 386 1 := lw.2.2.2.2.1
  have eL : mAL (MS M1 I2 R2 L2) 386 = mAL M1 386 := MS_386 M1 I2 R2 L2
  have hq := hn _ _ _ (some (vI c)) (some (vI v)) (lw.ref (Lr := L2))
  have hth : ∀ Q1 : Nat → Option AV → Mem → Prop, Q1 0 (some (vI c)) (MS M1 I2 R2 L2) → Ex (d + 57) M_thrown 0 [some (vR 362)] [] (MS M1 I2 R2 L2) Q1 := fun Q1 h1 => f_thrown hM (by rw [hc]; exact h1)
  have hw : w32 c = c := w32_id (by omega) (by omega)
  by_cases h0 : c = 0
  · have e0 : lCmp (mAL M1 386 0) (w32 v) = 0 := by rw [hv h0]; exact lCmp_0 _
    subst h0
    refine Ex_step (tk_Law_law rfl) ?_
    refine Ex_cV0 (av := []) (tk_Law_law rfl) mk_M_thrown ⟨rfl, rfl, by decide, rfl, Nat.le_of_ble_eq_true rfl, Nat.le_of_ble_eq_true rfl⟩ (hk12) (fun _ h => hth _ h) ?_
    refine Ex_step (tk_Law_law rfl) ?_
    refine Ex_step (tk_Law_law rfl) ⟨fun h405 => ?_, fun h405 => ?_⟩
    · replace h405 : _ := h405
      refine Ex_step (tk_Law_law rfl) ?_
      refine Ex_step (tk_Law_law rfl) ⟨fun h412 => ?_, fun h412 => ?_⟩
      · replace h412 : _ := h412
        refine Ex_step (tk_Law_law rfl) ?_
        first | exact hq | exact absurd rfl h412
      · replace h412 : _ := h412
        refine Ex_step (tk_Law_law rfl) ?_
        refine Ex_step (tk_Law_law rfl) ?_
        refine lL0 (tk_Law_law rfl) hLA ?_
        rw [eL]
        refine Ex_step (tk_Law_law rfl) ?_
        refine Ex_step (tk_Law_law rfl) ?_
        refine Ex_step (tk_Law_law rfl) ?_
        refine Ex_step (tk_Law_law rfl) ⟨fun h422 => ?_, fun h422 => ?_⟩
        · replace h422 : _ := h422
          refine Ex_step (tk_Law_law rfl) ?_
          first | exact hq | exact absurd rfl h412
        · replace h422 : _ := h422
          exact absurd (by rw [show lCmp (mAL M1 386 0) (w32 v) = 0 from e0]; rfl) h422
    · replace h405 : _ := h405
      exact absurd rfl h405
  · refine Ex_step (tk_Law_law rfl) ?_
    refine Ex_cV0 (av := []) (tk_Law_law rfl) mk_M_thrown ⟨rfl, rfl, by decide, rfl, Nat.le_of_ble_eq_true rfl, Nat.le_of_ble_eq_true rfl⟩ (hk12) (fun _ h => hth _ h) ?_
    refine Ex_step (tk_Law_law rfl) ?_
    refine Ex_step (tk_Law_law rfl) ⟨fun h405 => ?_, fun h405 => ?_⟩
    · replace h405 : _ := h405
      refine Ex_step (tk_Law_law rfl) ?_
      refine Ex_step (tk_Law_law rfl) ⟨fun h412 => ?_, fun h412 => ?_⟩
      · replace h412 : _ := h412
        refine Ex_step (tk_Law_law rfl) ?_
        exact hq
      · replace h412 : _ := h412
        exact absurd (show w32 c = w32 0 from Classical.not_not.mp h412) (by rw [hw]; exact h0)
    · replace h405 : _ := h405
      exact absurd rfl h405
set_option maxRecDepth 100000 in
theorem rf_day (hn : Nxt d sn S k i Q) (hi : i + 7 ≤ sn) (hsn : sn ≤ 3584) {I' : Nat → Int} {R' : Nat → Nat → Int} (lw : LW sn S k M1 I R I' R') (hc3 : c = 0 ∨ c = 1 ∨ c = 2) (hre : ∀ (L1 : Nat → Nat → Int) (Q1 : Nat → Option AV → Mem → Prop), RE_ sn S k M1 I R c Q1 → Ex (d + 57) M_day 0 [some (vR 362), some (vI (S (i + 1))), some (vI (S (i + 2))), none] [] (MS M1 I R L1) Q1) : Ex (d + 58) Law_law 379 [some (vR 1), some (vR 100), some (vR 362), some (vR 386), some (vI (i : Int)), l5, l6] [vI c] M1 Q := by
  have hk12 : mK M1 362 = 12 := lw.2.1.1
  have h6 := lw.2.2.2.2.2.1
  obtain ⟨L1, e⟩ := lw.ms
  have hre1 : ∀ Q1 : Nat → Option AV → Mem → Prop, RE_ sn S k M1 I R c Q1 → Ex (d + 57) M_day 0 [some (vR 362), some (vI (S (i + 1))), some (vI (S (i + 2))), none] [] M1 Q1 := fun Q1 hq => by
    have z := hre L1 Q1 hq
    rw [← e] at z
    exact z
  refine Ex_step (tk_Law_law rfl) ?_
  refine Ex_step (tk_Law_law rfl) ?_
  refine Ex_step (tk_Law_law rfl) ?_
  refine Ex_step (tk_Law_law rfl) ?_
  refine Ex_step (tk_Law_law rfl) ?_
  refine Ex_step (tk_Law_law rfl) ?_
  refine lCS (n := i + 1) (tk_Law_law rfl) h6 (by rw [w32_id (by omega) (by omega)]; omega) (by omega) ?_
  refine Ex_step (tk_Law_law rfl) ?_
  refine Ex_step (tk_Law_law rfl) ?_
  refine Ex_step (tk_Law_law rfl) ?_
  refine Ex_step (tk_Law_law rfl) ?_
  refine lCS (n := i + 2) (tk_Law_law rfl) h6 (by rw [w32_id (by omega) (by omega)]; omega) (by omega) ?_
  refine Ex_cVK (av := [vI (S (i + 1)), vI (S (i + 2))]) (tk_Law_law rfl) mk_M_day ⟨rfl, rfl, by decide, rfl, Nat.le_of_ble_eq_true rfl, Nat.le_of_ble_eq_true rfl⟩ (hk12) (hre1 _ (fun I2 R2 L2 v q1 q2 q3 => ⟨rfl, ?_⟩))
  refine Ex_step (tk_Law_law rfl) ?_
  exact tl_day hn q1 q2 hc3 q3
set_option maxRecDepth 100000 in
theorem tl_drop {I2 : Nat → Int} {R2 L2 : Nat → Nat → Int} {v : Int} (hn : Nxt d sn S k i Q) (lw : LW sn S k M1 I R I2 R2) (hc : I2 0 = c) (hc3 : c = 0 ∨ c = 1 ∨ c = 2) (hv : c = 0 → mAL M1 386 0 = w32 v) : Ex (d + 58) Law_law 455 [some (vR 1), some (vR 100), some (vR 362), some (vR 386), some (vI (i : Int)), some (vI c), some (vI v)] [] (MS M1 I2 R2 L2) Q := by
  have hM : MW M1 := lw.2.1
  have hk12 : mK M1 362 = 12 := hM.1
  have hLA : LA (MS M1 I2 R2 L2) 386 1 := lw.2.2.2.2.1
  have eL : mAL (MS M1 I2 R2 L2) 386 = mAL M1 386 := MS_386 M1 I2 R2 L2
  have hq := hn _ _ _ (some (vI c)) (some (vI v)) (lw.ref (Lr := L2))
  have hth : ∀ Q1 : Nat → Option AV → Mem → Prop, Q1 0 (some (vI c)) (MS M1 I2 R2 L2) → Ex (d + 57) M_thrown 0 [some (vR 362)] [] (MS M1 I2 R2 L2) Q1 := fun Q1 h1 => f_thrown hM (by rw [hc]; exact h1)
  have hw : w32 c = c := w32_id (by omega) (by omega)
  by_cases h0 : c = 0
  · have e0 : lCmp (mAL M1 386 0) (w32 v) = 0 := by rw [hv h0]; exact lCmp_0 _
    subst h0
    refine Ex_step (tk_Law_law rfl) ?_
    refine Ex_cV0 (av := []) (tk_Law_law rfl) mk_M_thrown ⟨rfl, rfl, by decide, rfl, Nat.le_of_ble_eq_true rfl, Nat.le_of_ble_eq_true rfl⟩ (hk12) (fun _ h => hth _ h) ?_
    refine Ex_step (tk_Law_law rfl) ?_
    refine Ex_step (tk_Law_law rfl) ⟨fun h461 => ?_, fun h461 => ?_⟩
    · replace h461 : _ := h461
      refine Ex_step (tk_Law_law rfl) ?_
      refine Ex_step (tk_Law_law rfl) ⟨fun h468 => ?_, fun h468 => ?_⟩
      · replace h468 : _ := h468
        refine Ex_step (tk_Law_law rfl) ?_
        first | exact hq | exact absurd rfl h468
      · replace h468 : _ := h468
        refine Ex_step (tk_Law_law rfl) ?_
        refine Ex_step (tk_Law_law rfl) ?_
        refine lL0 (tk_Law_law rfl) hLA ?_
        rw [eL]
        refine Ex_step (tk_Law_law rfl) ?_
        refine Ex_step (tk_Law_law rfl) ?_
        refine Ex_step (tk_Law_law rfl) ?_
        refine Ex_step (tk_Law_law rfl) ⟨fun h478 => ?_, fun h478 => ?_⟩
        · replace h478 : _ := h478
          refine Ex_step (tk_Law_law rfl) ?_
          first | exact hq | exact absurd rfl h468
        · replace h478 : _ := h478
          exact absurd (by rw [show lCmp (mAL M1 386 0) (w32 v) = 0 from e0]; rfl) h478
    · replace h461 : _ := h461
      exact absurd rfl h461
  · refine Ex_step (tk_Law_law rfl) ?_
    refine Ex_cV0 (av := []) (tk_Law_law rfl) mk_M_thrown ⟨rfl, rfl, by decide, rfl, Nat.le_of_ble_eq_true rfl, Nat.le_of_ble_eq_true rfl⟩ (hk12) (fun _ h => hth _ h) ?_
    refine Ex_step (tk_Law_law rfl) ?_
    refine Ex_step (tk_Law_law rfl) ⟨fun h461 => ?_, fun h461 => ?_⟩
    · replace h461 : _ := h461
      refine Ex_step (tk_Law_law rfl) ?_
      refine Ex_step (tk_Law_law rfl) ⟨fun h468 => ?_, fun h468 => ?_⟩
      · replace h468 : _ := h468
        refine Ex_step (tk_Law_law rfl) ?_
        exact hq
      · replace h468 : _ := h468
        exact absurd (show w32 c = w32 0 from Classical.not_not.mp h468) (by rw [hw]; exact h0)
    · replace h461 : _ := h461
      exact absurd rfl h461
set_option maxRecDepth 100000 in
theorem rf_drop (hn : Nxt d sn S k i Q) (hi : i + 7 ≤ sn) (hsn : sn ≤ 3584) {I' : Nat → Int} {R' : Nat → Nat → Int} (lw : LW sn S k M1 I R I' R') (hc3 : c = 0 ∨ c = 1 ∨ c = 2) (hre : ∀ (L1 : Nat → Nat → Int) (Q1 : Nat → Option AV → Mem → Prop), RE_ sn S k M1 I R c Q1 → Ex (d + 57) M_drop 0 [some (vR 362), some (vI (S (i + 1))), none] [] (MS M1 I R L1) Q1) : Ex (d + 58) Law_law 441 [some (vR 1), some (vR 100), some (vR 362), some (vR 386), some (vI (i : Int)), l5, l6] [vI c] M1 Q := by
  have hk12 : mK M1 362 = 12 := lw.2.1.1
  have h6 := lw.2.2.2.2.2.1
  obtain ⟨L1, e⟩ := lw.ms
  have hre1 : ∀ Q1 : Nat → Option AV → Mem → Prop, RE_ sn S k M1 I R c Q1 → Ex (d + 57) M_drop 0 [some (vR 362), some (vI (S (i + 1))), none] [] M1 Q1 := fun Q1 hq => by
    have z := hre L1 Q1 hq
    rw [← e] at z
    exact z
  refine Ex_step (tk_Law_law rfl) ?_
  refine Ex_step (tk_Law_law rfl) ?_
  refine Ex_step (tk_Law_law rfl) ?_
  refine Ex_step (tk_Law_law rfl) ?_
  refine Ex_step (tk_Law_law rfl) ?_
  refine Ex_step (tk_Law_law rfl) ?_
  refine lCS (n := i + 1) (tk_Law_law rfl) h6 (by rw [w32_id (by omega) (by omega)]; omega) (by omega) ?_
  refine Ex_cVK (av := [vI (S (i + 1))]) (tk_Law_law rfl) mk_M_drop ⟨rfl, rfl, by decide, rfl, Nat.le_of_ble_eq_true rfl, Nat.le_of_ble_eq_true rfl⟩ (hk12) (hre1 _ (fun I2 R2 L2 v q1 q2 q3 => ⟨rfl, ?_⟩))
  refine Ex_step (tk_Law_law rfl) ?_
  exact tl_drop hn q1 q2 hc3 q3
set_option maxRecDepth 100000 in
theorem tl_told {I2 : Nat → Int} {R2 L2 : Nat → Nat → Int} {v : Int} (hn : Nxt d sn S k i Q) (lw : LW sn S k M1 I R I2 R2) (hc : I2 0 = c) (hc3 : c = 0 ∨ c = 1 ∨ c = 2) (hv : c = 0 → mAL M1 386 0 = w32 v) : Ex (d + 58) Law_law 524 [some (vR 1), some (vR 100), some (vR 362), some (vR 386), some (vI (i : Int)), some (vI c), some (vI v)] [] (MS M1 I2 R2 L2) Q := by
  have hM : MW M1 := lw.2.1
  have hk12 : mK M1 362 = 12 := hM.1
  have hLA : LA (MS M1 I2 R2 L2) 386 1 := lw.2.2.2.2.1
  have eL : mAL (MS M1 I2 R2 L2) 386 = mAL M1 386 := MS_386 M1 I2 R2 L2
  have hq := hn _ _ _ (some (vI c)) (some (vI v)) (lw.ref (Lr := L2))
  have hth : ∀ Q1 : Nat → Option AV → Mem → Prop, Q1 0 (some (vI c)) (MS M1 I2 R2 L2) → Ex (d + 57) M_thrown 0 [some (vR 362)] [] (MS M1 I2 R2 L2) Q1 := fun Q1 h1 => f_thrown hM (by rw [hc]; exact h1)
  have hw : w32 c = c := w32_id (by omega) (by omega)
  by_cases h0 : c = 0
  · have e0 : lCmp (mAL M1 386 0) (w32 v) = 0 := by rw [hv h0]; exact lCmp_0 _
    subst h0
    refine Ex_step (tk_Law_law rfl) ?_
    refine Ex_cV0 (av := []) (tk_Law_law rfl) mk_M_thrown ⟨rfl, rfl, by decide, rfl, Nat.le_of_ble_eq_true rfl, Nat.le_of_ble_eq_true rfl⟩ (hk12) (fun _ h => hth _ h) ?_
    refine Ex_step (tk_Law_law rfl) ?_
    refine Ex_step (tk_Law_law rfl) ⟨fun h530 => ?_, fun h530 => ?_⟩
    · replace h530 : _ := h530
      refine Ex_step (tk_Law_law rfl) ?_
      refine Ex_step (tk_Law_law rfl) ⟨fun h537 => ?_, fun h537 => ?_⟩
      · replace h537 : _ := h537
        refine Ex_step (tk_Law_law rfl) ?_
        first | exact hq | exact absurd rfl h537
      · replace h537 : _ := h537
        refine Ex_step (tk_Law_law rfl) ?_
        refine Ex_step (tk_Law_law rfl) ?_
        refine lL0 (tk_Law_law rfl) hLA ?_
        rw [eL]
        refine Ex_step (tk_Law_law rfl) ?_
        refine Ex_step (tk_Law_law rfl) ?_
        refine Ex_step (tk_Law_law rfl) ?_
        refine Ex_step (tk_Law_law rfl) ⟨fun h547 => ?_, fun h547 => ?_⟩
        · replace h547 : _ := h547
          refine Ex_step (tk_Law_law rfl) ?_
          first | exact hq | exact absurd rfl h537
        · replace h547 : _ := h547
          exact absurd (by rw [show lCmp (mAL M1 386 0) (w32 v) = 0 from e0]; rfl) h547
    · replace h530 : _ := h530
      exact absurd rfl h530
  · refine Ex_step (tk_Law_law rfl) ?_
    refine Ex_cV0 (av := []) (tk_Law_law rfl) mk_M_thrown ⟨rfl, rfl, by decide, rfl, Nat.le_of_ble_eq_true rfl, Nat.le_of_ble_eq_true rfl⟩ (hk12) (fun _ h => hth _ h) ?_
    refine Ex_step (tk_Law_law rfl) ?_
    refine Ex_step (tk_Law_law rfl) ⟨fun h530 => ?_, fun h530 => ?_⟩
    · replace h530 : _ := h530
      refine Ex_step (tk_Law_law rfl) ?_
      refine Ex_step (tk_Law_law rfl) ⟨fun h537 => ?_, fun h537 => ?_⟩
      · replace h537 : _ := h537
        refine Ex_step (tk_Law_law rfl) ?_
        exact hq
      · replace h537 : _ := h537
        exact absurd (show w32 c = w32 0 from Classical.not_not.mp h537) (by rw [hw]; exact h0)
    · replace h530 : _ := h530
      exact absurd rfl h530
set_option maxRecDepth 100000 in
theorem rf_told (hn : Nxt d sn S k i Q) (hi : i + 7 ≤ sn) (hsn : sn ≤ 3584) {I' : Nat → Int} {R' : Nat → Nat → Int} (lw : LW sn S k M1 I R I' R') (hc3 : c = 0 ∨ c = 1 ∨ c = 2) (hre : ∀ (L1 : Nat → Nat → Int) (Q1 : Nat → Option AV → Mem → Prop), RE_ sn S k M1 I R c Q1 → Ex (d + 57) M_told 0 [some (vR 362), some (vI (S (i + 1)))] [] (MS M1 I R L1) Q1) : Ex (d + 58) Law_law 510 [some (vR 1), some (vR 100), some (vR 362), some (vR 386), some (vI (i : Int)), l5, l6] [vI c] M1 Q := by
  have hk12 : mK M1 362 = 12 := lw.2.1.1
  have h6 := lw.2.2.2.2.2.1
  obtain ⟨L1, e⟩ := lw.ms
  have hre1 : ∀ Q1 : Nat → Option AV → Mem → Prop, RE_ sn S k M1 I R c Q1 → Ex (d + 57) M_told 0 [some (vR 362), some (vI (S (i + 1)))] [] M1 Q1 := fun Q1 hq => by
    have z := hre L1 Q1 hq
    rw [← e] at z
    exact z
  refine Ex_step (tk_Law_law rfl) ?_
  refine Ex_step (tk_Law_law rfl) ?_
  refine Ex_step (tk_Law_law rfl) ?_
  refine Ex_step (tk_Law_law rfl) ?_
  refine Ex_step (tk_Law_law rfl) ?_
  refine Ex_step (tk_Law_law rfl) ?_
  refine lCS (n := i + 1) (tk_Law_law rfl) h6 (by rw [w32_id (by omega) (by omega)]; omega) (by omega) ?_
  refine Ex_cVK (av := [vI (S (i + 1))]) (tk_Law_law rfl) mk_M_told ⟨rfl, rfl, by decide, rfl, Nat.le_of_ble_eq_true rfl, Nat.le_of_ble_eq_true rfl⟩ (hk12) (hre1 _ (fun I2 R2 L2 v q1 q2 q3 => ⟨rfl, ?_⟩))
  refine Ex_step (tk_Law_law rfl) ?_
  exact tl_told hn q1 q2 hc3 q3
set_option maxRecDepth 100000 in
theorem tl_of {I2 : Nat → Int} {R2 L2 : Nat → Nat → Int} {v : Int} (hn : Nxt d sn S k i Q) (lw : LW sn S k M1 I R I2 R2) (hc : I2 0 = c) (hc3 : c = 0 ∨ c = 1 ∨ c = 2) (hv : c = 0 → mAL M1 386 0 = w32 v) : Ex (d + 58) Law_law 592 [some (vR 1), some (vR 100), some (vR 362), some (vR 386), some (vI (i : Int)), some (vI c), some (vI v)] [] (MS M1 I2 R2 L2) Q := by
  have hM : MW M1 := lw.2.1
  have hk12 : mK M1 362 = 12 := hM.1
  have hLA : LA (MS M1 I2 R2 L2) 386 1 := lw.2.2.2.2.1
  have eL : mAL (MS M1 I2 R2 L2) 386 = mAL M1 386 := MS_386 M1 I2 R2 L2
  have hq := hn _ _ _ (some (vI c)) (some (vI v)) (lw.ref (Lr := L2))
  have hth : ∀ Q1 : Nat → Option AV → Mem → Prop, Q1 0 (some (vI c)) (MS M1 I2 R2 L2) → Ex (d + 57) M_thrown 0 [some (vR 362)] [] (MS M1 I2 R2 L2) Q1 := fun Q1 h1 => f_thrown hM (by rw [hc]; exact h1)
  have hw : w32 c = c := w32_id (by omega) (by omega)
  by_cases h0 : c = 0
  · have e0 : lCmp (mAL M1 386 0) (w32 v) = 0 := by rw [hv h0]; exact lCmp_0 _
    subst h0
    refine Ex_step (tk_Law_law rfl) ?_
    refine Ex_cV0 (av := []) (tk_Law_law rfl) mk_M_thrown ⟨rfl, rfl, by decide, rfl, Nat.le_of_ble_eq_true rfl, Nat.le_of_ble_eq_true rfl⟩ (hk12) (fun _ h => hth _ h) ?_
    refine Ex_step (tk_Law_law rfl) ?_
    refine Ex_step (tk_Law_law rfl) ⟨fun h598 => ?_, fun h598 => ?_⟩
    · replace h598 : _ := h598
      refine Ex_step (tk_Law_law rfl) ?_
      refine Ex_step (tk_Law_law rfl) ⟨fun h605 => ?_, fun h605 => ?_⟩
      · replace h605 : _ := h605
        refine Ex_step (tk_Law_law rfl) ?_
        first | exact hq | exact absurd rfl h605
      · replace h605 : _ := h605
        refine Ex_step (tk_Law_law rfl) ?_
        refine Ex_step (tk_Law_law rfl) ?_
        refine lL0 (tk_Law_law rfl) hLA ?_
        rw [eL]
        refine Ex_step (tk_Law_law rfl) ?_
        refine Ex_step (tk_Law_law rfl) ?_
        refine Ex_step (tk_Law_law rfl) ?_
        refine Ex_step (tk_Law_law rfl) ⟨fun h615 => ?_, fun h615 => ?_⟩
        · replace h615 : _ := h615
          refine Ex_step (tk_Law_law rfl) ?_
          first | exact hq | exact absurd rfl h605
        · replace h615 : _ := h615
          exact absurd (by rw [show lCmp (mAL M1 386 0) (w32 v) = 0 from e0]; rfl) h615
    · replace h598 : _ := h598
      exact absurd rfl h598
  · refine Ex_step (tk_Law_law rfl) ?_
    refine Ex_cV0 (av := []) (tk_Law_law rfl) mk_M_thrown ⟨rfl, rfl, by decide, rfl, Nat.le_of_ble_eq_true rfl, Nat.le_of_ble_eq_true rfl⟩ (hk12) (fun _ h => hth _ h) ?_
    refine Ex_step (tk_Law_law rfl) ?_
    refine Ex_step (tk_Law_law rfl) ⟨fun h598 => ?_, fun h598 => ?_⟩
    · replace h598 : _ := h598
      refine Ex_step (tk_Law_law rfl) ?_
      refine Ex_step (tk_Law_law rfl) ⟨fun h605 => ?_, fun h605 => ?_⟩
      · replace h605 : _ := h605
        refine Ex_step (tk_Law_law rfl) ?_
        exact hq
      · replace h605 : _ := h605
        exact absurd (show w32 c = w32 0 from Classical.not_not.mp h605) (by rw [hw]; exact h0)
    · replace h598 : _ := h598
      exact absurd rfl h598
set_option maxRecDepth 100000 in
theorem rf_of (hn : Nxt d sn S k i Q) (hi : i + 7 ≤ sn) (hsn : sn ≤ 3584) {I' : Nat → Int} {R' : Nat → Nat → Int} (lw : LW sn S k M1 I R I' R') (hc3 : c = 0 ∨ c = 1 ∨ c = 2) (hre : ∀ (L1 : Nat → Nat → Int) (Q1 : Nat → Option AV → Mem → Prop), RE_ sn S k M1 I R c Q1 → Ex (d + 57) M_of 0 [some (vR 362), some (vI (S (i + 1))), some (vI (S (i + 2)))] [] (MS M1 I R L1) Q1) : Ex (d + 58) Law_law 572 [some (vR 1), some (vR 100), some (vR 362), some (vR 386), some (vI (i : Int)), l5, l6] [vI c] M1 Q := by
  have hk12 : mK M1 362 = 12 := lw.2.1.1
  have h6 := lw.2.2.2.2.2.1
  obtain ⟨L1, e⟩ := lw.ms
  have hre1 : ∀ Q1 : Nat → Option AV → Mem → Prop, RE_ sn S k M1 I R c Q1 → Ex (d + 57) M_of 0 [some (vR 362), some (vI (S (i + 1))), some (vI (S (i + 2)))] [] M1 Q1 := fun Q1 hq => by
    have z := hre L1 Q1 hq
    rw [← e] at z
    exact z
  refine Ex_step (tk_Law_law rfl) ?_
  refine Ex_step (tk_Law_law rfl) ?_
  refine Ex_step (tk_Law_law rfl) ?_
  refine Ex_step (tk_Law_law rfl) ?_
  refine Ex_step (tk_Law_law rfl) ?_
  refine Ex_step (tk_Law_law rfl) ?_
  refine lCS (n := i + 1) (tk_Law_law rfl) h6 (by rw [w32_id (by omega) (by omega)]; omega) (by omega) ?_
  refine Ex_step (tk_Law_law rfl) ?_
  refine Ex_step (tk_Law_law rfl) ?_
  refine Ex_step (tk_Law_law rfl) ?_
  refine Ex_step (tk_Law_law rfl) ?_
  refine lCS (n := i + 2) (tk_Law_law rfl) h6 (by rw [w32_id (by omega) (by omega)]; omega) (by omega) ?_
  refine Ex_cVK (av := [vI (S (i + 1)), vI (S (i + 2))]) (tk_Law_law rfl) mk_M_of ⟨rfl, rfl, by decide, rfl, Nat.le_of_ble_eq_true rfl, Nat.le_of_ble_eq_true rfl⟩ (hk12) (hre1 _ (fun I2 R2 L2 v q1 q2 q3 => ⟨rfl, ?_⟩))
  refine Ex_step (tk_Law_law rfl) ?_
  exact tl_of hn q1 q2 hc3 q3
set_option maxRecDepth 100000 in
theorem tl_cell {I2 : Nat → Int} {R2 L2 : Nat → Nat → Int} {v : Int} (hn : Nxt d sn S k i Q) (lw : LW sn S k M1 I R I2 R2) (hc : I2 0 = c) (hc3 : c = 0 ∨ c = 1 ∨ c = 2) (hv : c = 0 → mAL M1 386 0 = w32 v) : Ex (d + 58) Law_law 672 [some (vR 1), some (vR 100), some (vR 362), some (vR 386), some (vI (i : Int)), some (vI c), some (vI v)] [] (MS M1 I2 R2 L2) Q := by
  have hM : MW M1 := lw.2.1
  have hk12 : mK M1 362 = 12 := hM.1
  have hLA : LA (MS M1 I2 R2 L2) 386 1 := lw.2.2.2.2.1
  have eL : mAL (MS M1 I2 R2 L2) 386 = mAL M1 386 := MS_386 M1 I2 R2 L2
  have hq := hn _ _ _ (some (vI c)) (some (vI v)) (lw.ref (Lr := L2))
  have hth : ∀ Q1 : Nat → Option AV → Mem → Prop, Q1 0 (some (vI c)) (MS M1 I2 R2 L2) → Ex (d + 57) M_thrown 0 [some (vR 362)] [] (MS M1 I2 R2 L2) Q1 := fun Q1 h1 => f_thrown hM (by rw [hc]; exact h1)
  have hw : w32 c = c := w32_id (by omega) (by omega)
  by_cases h0 : c = 0
  · have e0 : lCmp (mAL M1 386 0) (w32 v) = 0 := by rw [hv h0]; exact lCmp_0 _
    subst h0
    refine Ex_step (tk_Law_law rfl) ?_
    refine Ex_cV0 (av := []) (tk_Law_law rfl) mk_M_thrown ⟨rfl, rfl, by decide, rfl, Nat.le_of_ble_eq_true rfl, Nat.le_of_ble_eq_true rfl⟩ (hk12) (fun _ h => hth _ h) ?_
    refine Ex_step (tk_Law_law rfl) ?_
    refine Ex_step (tk_Law_law rfl) ⟨fun h678 => ?_, fun h678 => ?_⟩
    · replace h678 : _ := h678
      refine Ex_step (tk_Law_law rfl) ?_
      refine Ex_step (tk_Law_law rfl) ⟨fun h685 => ?_, fun h685 => ?_⟩
      · replace h685 : _ := h685
        refine Ex_step (tk_Law_law rfl) ?_
        first | exact hq | exact absurd rfl h685
      · replace h685 : _ := h685
        refine Ex_step (tk_Law_law rfl) ?_
        refine Ex_step (tk_Law_law rfl) ?_
        refine lL0 (tk_Law_law rfl) hLA ?_
        rw [eL]
        refine Ex_step (tk_Law_law rfl) ?_
        refine Ex_step (tk_Law_law rfl) ?_
        refine Ex_step (tk_Law_law rfl) ?_
        refine Ex_step (tk_Law_law rfl) ⟨fun h695 => ?_, fun h695 => ?_⟩
        · replace h695 : _ := h695
          refine Ex_step (tk_Law_law rfl) ?_
          first | exact hq | exact absurd rfl h685
        · replace h695 : _ := h695
          exact absurd (by rw [show lCmp (mAL M1 386 0) (w32 v) = 0 from e0]; rfl) h695
    · replace h678 : _ := h678
      exact absurd rfl h678
  · refine Ex_step (tk_Law_law rfl) ?_
    refine Ex_cV0 (av := []) (tk_Law_law rfl) mk_M_thrown ⟨rfl, rfl, by decide, rfl, Nat.le_of_ble_eq_true rfl, Nat.le_of_ble_eq_true rfl⟩ (hk12) (fun _ h => hth _ h) ?_
    refine Ex_step (tk_Law_law rfl) ?_
    refine Ex_step (tk_Law_law rfl) ⟨fun h678 => ?_, fun h678 => ?_⟩
    · replace h678 : _ := h678
      refine Ex_step (tk_Law_law rfl) ?_
      refine Ex_step (tk_Law_law rfl) ⟨fun h685 => ?_, fun h685 => ?_⟩
      · replace h685 : _ := h685
        refine Ex_step (tk_Law_law rfl) ?_
        exact hq
      · replace h685 : _ := h685
        exact absurd (show w32 c = w32 0 from Classical.not_not.mp h685) (by rw [hw]; exact h0)
    · replace h678 : _ := h678
      exact absurd rfl h678
set_option maxRecDepth 100000 in
theorem rf_cell (hn : Nxt d sn S k i Q) (hi : i + 7 ≤ sn) (hsn : sn ≤ 3584) {I' : Nat → Int} {R' : Nat → Nat → Int} (lw : LW sn S k M1 I R I' R') (hc3 : c = 0 ∨ c = 1 ∨ c = 2) (hre : ∀ (L1 : Nat → Nat → Int) (Q1 : Nat → Option AV → Mem → Prop), RE_ sn S k M1 I R c Q1 → Ex (d + 57) M_cell 0 [some (vR 362), some (vI (S (i + 1))), some (vI (S (i + 2))), some (vI (S (i + 3)))] [] (MS M1 I R L1) Q1) : Ex (d + 58) Law_law 646 [some (vR 1), some (vR 100), some (vR 362), some (vR 386), some (vI (i : Int)), l5, l6] [vI c] M1 Q := by
  have hk12 : mK M1 362 = 12 := lw.2.1.1
  have h6 := lw.2.2.2.2.2.1
  obtain ⟨L1, e⟩ := lw.ms
  have hre1 : ∀ Q1 : Nat → Option AV → Mem → Prop, RE_ sn S k M1 I R c Q1 → Ex (d + 57) M_cell 0 [some (vR 362), some (vI (S (i + 1))), some (vI (S (i + 2))), some (vI (S (i + 3)))] [] M1 Q1 := fun Q1 hq => by
    have z := hre L1 Q1 hq
    rw [← e] at z
    exact z
  refine Ex_step (tk_Law_law rfl) ?_
  refine Ex_step (tk_Law_law rfl) ?_
  refine Ex_step (tk_Law_law rfl) ?_
  refine Ex_step (tk_Law_law rfl) ?_
  refine Ex_step (tk_Law_law rfl) ?_
  refine Ex_step (tk_Law_law rfl) ?_
  refine lCS (n := i + 1) (tk_Law_law rfl) h6 (by rw [w32_id (by omega) (by omega)]; omega) (by omega) ?_
  refine Ex_step (tk_Law_law rfl) ?_
  refine Ex_step (tk_Law_law rfl) ?_
  refine Ex_step (tk_Law_law rfl) ?_
  refine Ex_step (tk_Law_law rfl) ?_
  refine lCS (n := i + 2) (tk_Law_law rfl) h6 (by rw [w32_id (by omega) (by omega)]; omega) (by omega) ?_
  refine Ex_step (tk_Law_law rfl) ?_
  refine Ex_step (tk_Law_law rfl) ?_
  refine Ex_step (tk_Law_law rfl) ?_
  refine Ex_step (tk_Law_law rfl) ?_
  refine lCS (n := i + 3) (tk_Law_law rfl) h6 (by rw [w32_id (by omega) (by omega)]; omega) (by omega) ?_
  refine Ex_cVK (av := [vI (S (i + 1)), vI (S (i + 2)), vI (S (i + 3))]) (tk_Law_law rfl) mk_M_cell ⟨rfl, rfl, by decide, rfl, Nat.le_of_ble_eq_true rfl, Nat.le_of_ble_eq_true rfl⟩ (hk12) (hre1 _ (fun I2 R2 L2 v q1 q2 q3 => ⟨rfl, ?_⟩))
  refine Ex_step (tk_Law_law rfl) ?_
  exact tl_cell hn q1 q2 hc3 q3
set_option maxRecDepth 100000 in
theorem tl_over {I2 : Nat → Int} {R2 L2 : Nat → Nat → Int} {v : Int} (hn : Nxt d sn S k i Q) (lw : LW sn S k M1 I R I2 R2) (hc : I2 0 = c) (hc3 : c = 0 ∨ c = 1 ∨ c = 2) (hv : c = 0 → mAL M1 386 0 = w32 v) : Ex (d + 58) Law_law 790 [some (vR 1), some (vR 100), some (vR 362), some (vR 386), some (vI (i : Int)), some (vI c), some (vI v)] [] (MS M1 I2 R2 L2) Q := by
  have hM : MW M1 := lw.2.1
  have hk12 : mK M1 362 = 12 := hM.1
  have hLA : LA (MS M1 I2 R2 L2) 386 1 := lw.2.2.2.2.1
  have eL : mAL (MS M1 I2 R2 L2) 386 = mAL M1 386 := MS_386 M1 I2 R2 L2
  have hq := hn _ _ _ (some (vI c)) (some (vI v)) (lw.ref (Lr := L2))
  have hth : ∀ Q1 : Nat → Option AV → Mem → Prop, Q1 0 (some (vI c)) (MS M1 I2 R2 L2) → Ex (d + 57) M_thrown 0 [some (vR 362)] [] (MS M1 I2 R2 L2) Q1 := fun Q1 h1 => f_thrown hM (by rw [hc]; exact h1)
  have hw : w32 c = c := w32_id (by omega) (by omega)
  by_cases h0 : c = 0
  · have e0 : lCmp (mAL M1 386 0) (w32 v) = 0 := by rw [hv h0]; exact lCmp_0 _
    subst h0
    refine Ex_step (tk_Law_law rfl) ?_
    refine Ex_cV0 (av := []) (tk_Law_law rfl) mk_M_thrown ⟨rfl, rfl, by decide, rfl, Nat.le_of_ble_eq_true rfl, Nat.le_of_ble_eq_true rfl⟩ (hk12) (fun _ h => hth _ h) ?_
    refine Ex_step (tk_Law_law rfl) ?_
    refine Ex_step (tk_Law_law rfl) ⟨fun h796 => ?_, fun h796 => ?_⟩
    · replace h796 : _ := h796
      refine Ex_step (tk_Law_law rfl) ?_
      refine Ex_step (tk_Law_law rfl) ⟨fun h803 => ?_, fun h803 => ?_⟩
      · replace h803 : _ := h803
        refine Ex_step (tk_Law_law rfl) ?_
        first | exact hq | exact absurd rfl h803
      · replace h803 : _ := h803
        refine Ex_step (tk_Law_law rfl) ?_
        refine Ex_step (tk_Law_law rfl) ?_
        refine lL0 (tk_Law_law rfl) hLA ?_
        rw [eL]
        refine Ex_step (tk_Law_law rfl) ?_
        refine Ex_step (tk_Law_law rfl) ?_
        refine Ex_step (tk_Law_law rfl) ?_
        refine Ex_step (tk_Law_law rfl) ⟨fun h813 => ?_, fun h813 => ?_⟩
        · replace h813 : _ := h813
          refine Ex_step (tk_Law_law rfl) ?_
          first | exact hq | exact absurd rfl h803
        · replace h813 : _ := h813
          exact absurd (by rw [show lCmp (mAL M1 386 0) (w32 v) = 0 from e0]; rfl) h813
    · replace h796 : _ := h796
      exact absurd rfl h796
  · refine Ex_step (tk_Law_law rfl) ?_
    refine Ex_cV0 (av := []) (tk_Law_law rfl) mk_M_thrown ⟨rfl, rfl, by decide, rfl, Nat.le_of_ble_eq_true rfl, Nat.le_of_ble_eq_true rfl⟩ (hk12) (fun _ h => hth _ h) ?_
    refine Ex_step (tk_Law_law rfl) ?_
    refine Ex_step (tk_Law_law rfl) ⟨fun h796 => ?_, fun h796 => ?_⟩
    · replace h796 : _ := h796
      refine Ex_step (tk_Law_law rfl) ?_
      refine Ex_step (tk_Law_law rfl) ⟨fun h803 => ?_, fun h803 => ?_⟩
      · replace h803 : _ := h803
        refine Ex_step (tk_Law_law rfl) ?_
        exact hq
      · replace h803 : _ := h803
        exact absurd (show w32 c = w32 0 from Classical.not_not.mp h803) (by rw [hw]; exact h0)
    · replace h796 : _ := h796
      exact absurd rfl h796
set_option maxRecDepth 100000 in
theorem rf_over (hn : Nxt d sn S k i Q) (hi : i + 7 ≤ sn) (hsn : sn ≤ 3584) {I' : Nat → Int} {R' : Nat → Nat → Int} (lw : LW sn S k M1 I R I' R') (hc3 : c = 0 ∨ c = 1 ∨ c = 2) (hre : ∀ (L1 : Nat → Nat → Int) (Q1 : Nat → Option AV → Mem → Prop), RE_ sn S k M1 I R c Q1 → Ex (d + 57) M_over 0 [some (vR 362), some (vI (S (i + 1))), some (vI (S (i + 2))), some (vI (S (i + 3))), some (vI (S (i + 4))), some (vI (S (i + 5))), some (vI (S (i + 6)))] [] (MS M1 I R L1) Q1) : Ex (d + 58) Law_law 745 [some (vR 1), some (vR 100), some (vR 362), some (vR 386), some (vI (i : Int)), l5, l6] [vI c] M1 Q := by
  have hk12 : mK M1 362 = 12 := lw.2.1.1
  have h6 := lw.2.2.2.2.2.1
  obtain ⟨L1, e⟩ := lw.ms
  have hre1 : ∀ Q1 : Nat → Option AV → Mem → Prop, RE_ sn S k M1 I R c Q1 → Ex (d + 57) M_over 0 [some (vR 362), some (vI (S (i + 1))), some (vI (S (i + 2))), some (vI (S (i + 3))), some (vI (S (i + 4))), some (vI (S (i + 5))), some (vI (S (i + 6)))] [] M1 Q1 := fun Q1 hq => by
    have z := hre L1 Q1 hq
    rw [← e] at z
    exact z
  refine Ex_step (tk_Law_law rfl) ?_
  refine Ex_step (tk_Law_law rfl) ?_
  refine Ex_step (tk_Law_law rfl) ?_
  refine Ex_step (tk_Law_law rfl) ?_
  refine Ex_step (tk_Law_law rfl) ?_
  refine Ex_step (tk_Law_law rfl) ?_
  refine lCS (n := i + 1) (tk_Law_law rfl) h6 (by rw [w32_id (by omega) (by omega)]; omega) (by omega) ?_
  refine Ex_step (tk_Law_law rfl) ?_
  refine Ex_step (tk_Law_law rfl) ?_
  refine Ex_step (tk_Law_law rfl) ?_
  refine Ex_step (tk_Law_law rfl) ?_
  refine lCS (n := i + 2) (tk_Law_law rfl) h6 (by rw [w32_id (by omega) (by omega)]; omega) (by omega) ?_
  refine Ex_step (tk_Law_law rfl) ?_
  refine Ex_step (tk_Law_law rfl) ?_
  refine Ex_step (tk_Law_law rfl) ?_
  refine Ex_step (tk_Law_law rfl) ?_
  refine lCS (n := i + 3) (tk_Law_law rfl) h6 (by rw [w32_id (by omega) (by omega)]; omega) (by omega) ?_
  refine Ex_step (tk_Law_law rfl) ?_
  refine Ex_step (tk_Law_law rfl) ?_
  refine Ex_step (tk_Law_law rfl) ?_
  refine Ex_step (tk_Law_law rfl) ?_
  refine lCS (n := i + 4) (tk_Law_law rfl) h6 (by rw [w32_id (by omega) (by omega)]; omega) (by omega) ?_
  refine Ex_step (tk_Law_law rfl) ?_
  refine Ex_step (tk_Law_law rfl) ?_
  refine Ex_step (tk_Law_law rfl) ?_
  refine Ex_step (tk_Law_law rfl) ?_
  refine lCS (n := i + 5) (tk_Law_law rfl) h6 (by rw [w32_id (by omega) (by omega)]; omega) (by omega) ?_
  refine Ex_step (tk_Law_law rfl) ?_
  refine Ex_step (tk_Law_law rfl) ?_
  refine Ex_step (tk_Law_law rfl) ?_
  refine Ex_step (tk_Law_law rfl) ?_
  refine lCS (n := i + 6) (tk_Law_law rfl) h6 (by rw [w32_id (by omega) (by omega)]; omega) (by omega) ?_
  refine Ex_cVK (av := [vI (S (i + 1)), vI (S (i + 2)), vI (S (i + 3)), vI (S (i + 4)), vI (S (i + 5)), vI (S (i + 6))]) (tk_Law_law rfl) mk_M_over ⟨rfl, rfl, by decide, rfl, Nat.le_of_ble_eq_true rfl, Nat.le_of_ble_eq_true rfl⟩ (hk12) (hre1 _ (fun I2 R2 L2 v q1 q2 q3 => ⟨rfl, ?_⟩))
  refine Ex_step (tk_Law_law rfl) ?_
  exact tl_over hn q1 q2 hc3 q3
set_option maxRecDepth 100000 in
theorem tl_best {I2 : Nat → Int} {R2 L2 : Nat → Nat → Int} {v : Int} (hn : Nxt d sn S k i Q) (lw : LW sn S k M1 I R I2 R2) (hc : I2 0 = c) (hc3 : c = 0 ∨ c = 1 ∨ c = 2) (hv : c = 0 → mAL M1 386 0 = w32 v) : Ex (d + 58) Law_law 870 [some (vR 1), some (vR 100), some (vR 362), some (vR 386), some (vI (i : Int)), some (vI c), some (vI v)] [] (MS M1 I2 R2 L2) Q := by
  have hM : MW M1 := lw.2.1
  have hk12 : mK M1 362 = 12 := hM.1
  have hLA : LA (MS M1 I2 R2 L2) 386 1 := lw.2.2.2.2.1
  have eL : mAL (MS M1 I2 R2 L2) 386 = mAL M1 386 := MS_386 M1 I2 R2 L2
  have hq := hn _ _ _ (some (vI c)) (some (vI v)) (lw.ref (Lr := L2))
  have hth : ∀ Q1 : Nat → Option AV → Mem → Prop, Q1 0 (some (vI c)) (MS M1 I2 R2 L2) → Ex (d + 57) M_thrown 0 [some (vR 362)] [] (MS M1 I2 R2 L2) Q1 := fun Q1 h1 => f_thrown hM (by rw [hc]; exact h1)
  have hw : w32 c = c := w32_id (by omega) (by omega)
  by_cases h0 : c = 0
  · have e0 : lCmp (mAL M1 386 0) (w32 v) = 0 := by rw [hv h0]; exact lCmp_0 _
    subst h0
    refine Ex_step (tk_Law_law rfl) ?_
    refine Ex_cV0 (av := []) (tk_Law_law rfl) mk_M_thrown ⟨rfl, rfl, by decide, rfl, Nat.le_of_ble_eq_true rfl, Nat.le_of_ble_eq_true rfl⟩ (hk12) (fun _ h => hth _ h) ?_
    refine Ex_step (tk_Law_law rfl) ?_
    refine Ex_step (tk_Law_law rfl) ⟨fun h876 => ?_, fun h876 => ?_⟩
    · replace h876 : _ := h876
      refine Ex_step (tk_Law_law rfl) ?_
      refine Ex_step (tk_Law_law rfl) ⟨fun h883 => ?_, fun h883 => ?_⟩
      · replace h883 : _ := h883
        refine Ex_step (tk_Law_law rfl) ?_
        first | exact hq | exact absurd rfl h883
      · replace h883 : _ := h883
        refine Ex_step (tk_Law_law rfl) ?_
        refine Ex_step (tk_Law_law rfl) ?_
        refine lL0 (tk_Law_law rfl) hLA ?_
        rw [eL]
        refine Ex_step (tk_Law_law rfl) ?_
        refine Ex_step (tk_Law_law rfl) ?_
        refine Ex_step (tk_Law_law rfl) ?_
        refine Ex_step (tk_Law_law rfl) ⟨fun h893 => ?_, fun h893 => ?_⟩
        · replace h893 : _ := h893
          refine Ex_step (tk_Law_law rfl) ?_
          first | exact hq | exact absurd rfl h883
        · replace h893 : _ := h893
          exact absurd (by rw [show lCmp (mAL M1 386 0) (w32 v) = 0 from e0]; rfl) h893
    · replace h876 : _ := h876
      exact absurd rfl h876
  · refine Ex_step (tk_Law_law rfl) ?_
    refine Ex_cV0 (av := []) (tk_Law_law rfl) mk_M_thrown ⟨rfl, rfl, by decide, rfl, Nat.le_of_ble_eq_true rfl, Nat.le_of_ble_eq_true rfl⟩ (hk12) (fun _ h => hth _ h) ?_
    refine Ex_step (tk_Law_law rfl) ?_
    refine Ex_step (tk_Law_law rfl) ⟨fun h876 => ?_, fun h876 => ?_⟩
    · replace h876 : _ := h876
      refine Ex_step (tk_Law_law rfl) ?_
      refine Ex_step (tk_Law_law rfl) ⟨fun h883 => ?_, fun h883 => ?_⟩
      · replace h883 : _ := h883
        refine Ex_step (tk_Law_law rfl) ?_
        exact hq
      · replace h883 : _ := h883
        exact absurd (show w32 c = w32 0 from Classical.not_not.mp h883) (by rw [hw]; exact h0)
    · replace h876 : _ := h876
      exact absurd rfl h876
set_option maxRecDepth 100000 in
theorem rf_best (hn : Nxt d sn S k i Q) (hi : i + 7 ≤ sn) (hsn : sn ≤ 3584) {I' : Nat → Int} {R' : Nat → Nat → Int} (lw : LW sn S k M1 I R I' R') (hc3 : c = 0 ∨ c = 1 ∨ c = 2) (hre : ∀ (L1 : Nat → Nat → Int) (Q1 : Nat → Option AV → Mem → Prop), RE_ sn S k M1 I R c Q1 → Ex (d + 57) M_best 0 [some (vR 362), some (vI (S (i + 1))), some (vI (S (i + 2))), some (vI (S (i + 3)))] [] (MS M1 I R L1) Q1) : Ex (d + 58) Law_law 844 [some (vR 1), some (vR 100), some (vR 362), some (vR 386), some (vI (i : Int)), l5, l6] [vI c] M1 Q := by
  have hk12 : mK M1 362 = 12 := lw.2.1.1
  have h6 := lw.2.2.2.2.2.1
  obtain ⟨L1, e⟩ := lw.ms
  have hre1 : ∀ Q1 : Nat → Option AV → Mem → Prop, RE_ sn S k M1 I R c Q1 → Ex (d + 57) M_best 0 [some (vR 362), some (vI (S (i + 1))), some (vI (S (i + 2))), some (vI (S (i + 3)))] [] M1 Q1 := fun Q1 hq => by
    have z := hre L1 Q1 hq
    rw [← e] at z
    exact z
  refine Ex_step (tk_Law_law rfl) ?_
  refine Ex_step (tk_Law_law rfl) ?_
  refine Ex_step (tk_Law_law rfl) ?_
  refine Ex_step (tk_Law_law rfl) ?_
  refine Ex_step (tk_Law_law rfl) ?_
  refine Ex_step (tk_Law_law rfl) ?_
  refine lCS (n := i + 1) (tk_Law_law rfl) h6 (by rw [w32_id (by omega) (by omega)]; omega) (by omega) ?_
  refine Ex_step (tk_Law_law rfl) ?_
  refine Ex_step (tk_Law_law rfl) ?_
  refine Ex_step (tk_Law_law rfl) ?_
  refine Ex_step (tk_Law_law rfl) ?_
  refine lCS (n := i + 2) (tk_Law_law rfl) h6 (by rw [w32_id (by omega) (by omega)]; omega) (by omega) ?_
  refine Ex_step (tk_Law_law rfl) ?_
  refine Ex_step (tk_Law_law rfl) ?_
  refine Ex_step (tk_Law_law rfl) ?_
  refine Ex_step (tk_Law_law rfl) ?_
  refine lCS (n := i + 3) (tk_Law_law rfl) h6 (by rw [w32_id (by omega) (by omega)]; omega) (by omega) ?_
  refine Ex_cVK (av := [vI (S (i + 1)), vI (S (i + 2)), vI (S (i + 3))]) (tk_Law_law rfl) mk_M_best ⟨rfl, rfl, by decide, rfl, Nat.le_of_ble_eq_true rfl, Nat.le_of_ble_eq_true rfl⟩ (hk12) (hre1 _ (fun I2 R2 L2 v q1 q2 q3 => ⟨rfl, ?_⟩))
  refine Ex_step (tk_Law_law rfl) ?_
  exact tl_best hn q1 q2 hc3 q3
set_option maxRecDepth 100000 in
theorem tl_prior {I2 : Nat → Int} {R2 L2 : Nat → Nat → Int} {v : Int} (hn : Nxt d sn S k i Q) (lw : LW sn S k M1 I R I2 R2) (hc : I2 0 = c) (hc3 : c = 0 ∨ c = 1 ∨ c = 2) (hv : c = 0 → mAL M1 386 0 = w32 v) : Ex (d + 58) Law_law 938 [some (vR 1), some (vR 100), some (vR 362), some (vR 386), some (vI (i : Int)), some (vI c), some (vI v)] [] (MS M1 I2 R2 L2) Q := by
  have hM : MW M1 := lw.2.1
  have hk12 : mK M1 362 = 12 := hM.1
  have hLA : LA (MS M1 I2 R2 L2) 386 1 := lw.2.2.2.2.1
  have eL : mAL (MS M1 I2 R2 L2) 386 = mAL M1 386 := MS_386 M1 I2 R2 L2
  have hq := hn _ _ _ (some (vI c)) (some (vI v)) (lw.ref (Lr := L2))
  have hth : ∀ Q1 : Nat → Option AV → Mem → Prop, Q1 0 (some (vI c)) (MS M1 I2 R2 L2) → Ex (d + 57) M_thrown 0 [some (vR 362)] [] (MS M1 I2 R2 L2) Q1 := fun Q1 h1 => f_thrown hM (by rw [hc]; exact h1)
  have hw : w32 c = c := w32_id (by omega) (by omega)
  by_cases h0 : c = 0
  · have e0 : lCmp (mAL M1 386 0) (w32 v) = 0 := by rw [hv h0]; exact lCmp_0 _
    subst h0
    refine Ex_step (tk_Law_law rfl) ?_
    refine Ex_cV0 (av := []) (tk_Law_law rfl) mk_M_thrown ⟨rfl, rfl, by decide, rfl, Nat.le_of_ble_eq_true rfl, Nat.le_of_ble_eq_true rfl⟩ (hk12) (fun _ h => hth _ h) ?_
    refine Ex_step (tk_Law_law rfl) ?_
    refine Ex_step (tk_Law_law rfl) ⟨fun h944 => ?_, fun h944 => ?_⟩
    · replace h944 : _ := h944
      refine Ex_step (tk_Law_law rfl) ?_
      refine Ex_step (tk_Law_law rfl) ⟨fun h951 => ?_, fun h951 => ?_⟩
      · replace h951 : _ := h951
        refine Ex_step (tk_Law_law rfl) ?_
        first | exact hq | exact absurd rfl h951
      · replace h951 : _ := h951
        refine Ex_step (tk_Law_law rfl) ?_
        refine Ex_step (tk_Law_law rfl) ?_
        refine lL0 (tk_Law_law rfl) hLA ?_
        rw [eL]
        refine Ex_step (tk_Law_law rfl) ?_
        refine Ex_step (tk_Law_law rfl) ?_
        refine Ex_step (tk_Law_law rfl) ?_
        refine Ex_step (tk_Law_law rfl) ⟨fun h961 => ?_, fun h961 => ?_⟩
        · replace h961 : _ := h961
          refine Ex_step (tk_Law_law rfl) ?_
          first | exact hq | exact absurd rfl h951
        · replace h961 : _ := h961
          exact absurd (by rw [show lCmp (mAL M1 386 0) (w32 v) = 0 from e0]; rfl) h961
    · replace h944 : _ := h944
      exact absurd rfl h944
  · refine Ex_step (tk_Law_law rfl) ?_
    refine Ex_cV0 (av := []) (tk_Law_law rfl) mk_M_thrown ⟨rfl, rfl, by decide, rfl, Nat.le_of_ble_eq_true rfl, Nat.le_of_ble_eq_true rfl⟩ (hk12) (fun _ h => hth _ h) ?_
    refine Ex_step (tk_Law_law rfl) ?_
    refine Ex_step (tk_Law_law rfl) ⟨fun h944 => ?_, fun h944 => ?_⟩
    · replace h944 : _ := h944
      refine Ex_step (tk_Law_law rfl) ?_
      refine Ex_step (tk_Law_law rfl) ⟨fun h951 => ?_, fun h951 => ?_⟩
      · replace h951 : _ := h951
        refine Ex_step (tk_Law_law rfl) ?_
        exact hq
      · replace h951 : _ := h951
        exact absurd (show w32 c = w32 0 from Classical.not_not.mp h951) (by rw [hw]; exact h0)
    · replace h944 : _ := h944
      exact absurd rfl h944
set_option maxRecDepth 100000 in
theorem rf_prior (hn : Nxt d sn S k i Q) (hi : i + 7 ≤ sn) (hsn : sn ≤ 3584) {I' : Nat → Int} {R' : Nat → Nat → Int} (lw : LW sn S k M1 I R I' R') (hc3 : c = 0 ∨ c = 1 ∨ c = 2) (hre : ∀ (L1 : Nat → Nat → Int) (Q1 : Nat → Option AV → Mem → Prop), RE_ sn S k M1 I R c Q1 → Ex (d + 57) M_prior 0 [some (vR 362), some (vI (S (i + 1))), some (vI (S (i + 2)))] [] (MS M1 I R L1) Q1) : Ex (d + 58) Law_law 918 [some (vR 1), some (vR 100), some (vR 362), some (vR 386), some (vI (i : Int)), l5, l6] [vI c] M1 Q := by
  have hk12 : mK M1 362 = 12 := lw.2.1.1
  have h6 := lw.2.2.2.2.2.1
  obtain ⟨L1, e⟩ := lw.ms
  have hre1 : ∀ Q1 : Nat → Option AV → Mem → Prop, RE_ sn S k M1 I R c Q1 → Ex (d + 57) M_prior 0 [some (vR 362), some (vI (S (i + 1))), some (vI (S (i + 2)))] [] M1 Q1 := fun Q1 hq => by
    have z := hre L1 Q1 hq
    rw [← e] at z
    exact z
  refine Ex_step (tk_Law_law rfl) ?_
  refine Ex_step (tk_Law_law rfl) ?_
  refine Ex_step (tk_Law_law rfl) ?_
  refine Ex_step (tk_Law_law rfl) ?_
  refine Ex_step (tk_Law_law rfl) ?_
  refine Ex_step (tk_Law_law rfl) ?_
  refine lCS (n := i + 1) (tk_Law_law rfl) h6 (by rw [w32_id (by omega) (by omega)]; omega) (by omega) ?_
  refine Ex_step (tk_Law_law rfl) ?_
  refine Ex_step (tk_Law_law rfl) ?_
  refine Ex_step (tk_Law_law rfl) ?_
  refine Ex_step (tk_Law_law rfl) ?_
  refine lCS (n := i + 2) (tk_Law_law rfl) h6 (by rw [w32_id (by omega) (by omega)]; omega) (by omega) ?_
  refine Ex_cVK (av := [vI (S (i + 1)), vI (S (i + 2))]) (tk_Law_law rfl) mk_M_prior ⟨rfl, rfl, by decide, rfl, Nat.le_of_ble_eq_true rfl, Nat.le_of_ble_eq_true rfl⟩ (hk12) (hre1 _ (fun I2 R2 L2 v q1 q2 q3 => ⟨rfl, ?_⟩))
  refine Ex_step (tk_Law_law rfl) ?_
  exact tl_prior hn q1 q2 hc3 q3
set_option maxRecDepth 100000 in
theorem tl_infringes {I2 : Nat → Int} {R2 L2 : Nat → Nat → Int} {v : Int} (hn : Nxt d sn S k i Q) (lw : LW sn S k M1 I R I2 R2) (hc : I2 0 = c) (hc3 : c = 0 ∨ c = 1 ∨ c = 2) (hv : c = 0 → mAL M1 386 0 = w32 v) : Ex (d + 58) Law_law 1006 [some (vR 1), some (vR 100), some (vR 362), some (vR 386), some (vI (i : Int)), some (vI c), some (vI v)] [] (MS M1 I2 R2 L2) Q := by
  have hM : MW M1 := lw.2.1
  have hk12 : mK M1 362 = 12 := hM.1
  have hLA : LA (MS M1 I2 R2 L2) 386 1 := lw.2.2.2.2.1
  have eL : mAL (MS M1 I2 R2 L2) 386 = mAL M1 386 := MS_386 M1 I2 R2 L2
  have hq := hn _ _ _ (some (vI c)) (some (vI v)) (lw.ref (Lr := L2))
  have hth : ∀ Q1 : Nat → Option AV → Mem → Prop, Q1 0 (some (vI c)) (MS M1 I2 R2 L2) → Ex (d + 57) M_thrown 0 [some (vR 362)] [] (MS M1 I2 R2 L2) Q1 := fun Q1 h1 => f_thrown hM (by rw [hc]; exact h1)
  have hw : w32 c = c := w32_id (by omega) (by omega)
  by_cases h0 : c = 0
  · have e0 : lCmp (mAL M1 386 0) (w32 v) = 0 := by rw [hv h0]; exact lCmp_0 _
    subst h0
    refine Ex_step (tk_Law_law rfl) ?_
    refine Ex_cV0 (av := []) (tk_Law_law rfl) mk_M_thrown ⟨rfl, rfl, by decide, rfl, Nat.le_of_ble_eq_true rfl, Nat.le_of_ble_eq_true rfl⟩ (hk12) (fun _ h => hth _ h) ?_
    refine Ex_step (tk_Law_law rfl) ?_
    refine Ex_step (tk_Law_law rfl) ⟨fun h1012 => ?_, fun h1012 => ?_⟩
    · replace h1012 : _ := h1012
      refine Ex_step (tk_Law_law rfl) ?_
      refine Ex_step (tk_Law_law rfl) ⟨fun h1019 => ?_, fun h1019 => ?_⟩
      · replace h1019 : _ := h1019
        refine Ex_step (tk_Law_law rfl) ?_
        first | exact hq | exact absurd rfl h1019
      · replace h1019 : _ := h1019
        refine Ex_step (tk_Law_law rfl) ?_
        refine Ex_step (tk_Law_law rfl) ?_
        refine lL0 (tk_Law_law rfl) hLA ?_
        rw [eL]
        refine Ex_step (tk_Law_law rfl) ?_
        refine Ex_step (tk_Law_law rfl) ?_
        refine Ex_step (tk_Law_law rfl) ?_
        refine Ex_step (tk_Law_law rfl) ⟨fun h1029 => ?_, fun h1029 => ?_⟩
        · replace h1029 : _ := h1029
          refine Ex_step (tk_Law_law rfl) ?_
          first | exact hq | exact absurd rfl h1019
        · replace h1029 : _ := h1029
          exact absurd (by rw [show lCmp (mAL M1 386 0) (w32 v) = 0 from e0]; rfl) h1029
    · replace h1012 : _ := h1012
      exact absurd rfl h1012
  · refine Ex_step (tk_Law_law rfl) ?_
    refine Ex_cV0 (av := []) (tk_Law_law rfl) mk_M_thrown ⟨rfl, rfl, by decide, rfl, Nat.le_of_ble_eq_true rfl, Nat.le_of_ble_eq_true rfl⟩ (hk12) (fun _ h => hth _ h) ?_
    refine Ex_step (tk_Law_law rfl) ?_
    refine Ex_step (tk_Law_law rfl) ⟨fun h1012 => ?_, fun h1012 => ?_⟩
    · replace h1012 : _ := h1012
      refine Ex_step (tk_Law_law rfl) ?_
      refine Ex_step (tk_Law_law rfl) ⟨fun h1019 => ?_, fun h1019 => ?_⟩
      · replace h1019 : _ := h1019
        refine Ex_step (tk_Law_law rfl) ?_
        exact hq
      · replace h1019 : _ := h1019
        exact absurd (show w32 c = w32 0 from Classical.not_not.mp h1019) (by rw [hw]; exact h0)
    · replace h1012 : _ := h1012
      exact absurd rfl h1012
set_option maxRecDepth 100000 in
theorem rf_infringes (hn : Nxt d sn S k i Q) (hi : i + 7 ≤ sn) (hsn : sn ≤ 3584) {I' : Nat → Int} {R' : Nat → Nat → Int} (lw : LW sn S k M1 I R I' R') (hc3 : c = 0 ∨ c = 1 ∨ c = 2) (hre : ∀ (L1 : Nat → Nat → Int) (Q1 : Nat → Option AV → Mem → Prop), RE_ sn S k M1 I R c Q1 → Ex (d + 57) M_infringes 0 [some (vR 362), some (vI (S (i + 1))), some (vI (S (i + 2)))] [] (MS M1 I R L1) Q1) : Ex (d + 58) Law_law 986 [some (vR 1), some (vR 100), some (vR 362), some (vR 386), some (vI (i : Int)), l5, l6] [vI c] M1 Q := by
  have hk12 : mK M1 362 = 12 := lw.2.1.1
  have h6 := lw.2.2.2.2.2.1
  obtain ⟨L1, e⟩ := lw.ms
  have hre1 : ∀ Q1 : Nat → Option AV → Mem → Prop, RE_ sn S k M1 I R c Q1 → Ex (d + 57) M_infringes 0 [some (vR 362), some (vI (S (i + 1))), some (vI (S (i + 2)))] [] M1 Q1 := fun Q1 hq => by
    have z := hre L1 Q1 hq
    rw [← e] at z
    exact z
  refine Ex_step (tk_Law_law rfl) ?_
  refine Ex_step (tk_Law_law rfl) ?_
  refine Ex_step (tk_Law_law rfl) ?_
  refine Ex_step (tk_Law_law rfl) ?_
  refine Ex_step (tk_Law_law rfl) ?_
  refine Ex_step (tk_Law_law rfl) ?_
  refine lCS (n := i + 1) (tk_Law_law rfl) h6 (by rw [w32_id (by omega) (by omega)]; omega) (by omega) ?_
  refine Ex_step (tk_Law_law rfl) ?_
  refine Ex_step (tk_Law_law rfl) ?_
  refine Ex_step (tk_Law_law rfl) ?_
  refine Ex_step (tk_Law_law rfl) ?_
  refine lCS (n := i + 2) (tk_Law_law rfl) h6 (by rw [w32_id (by omega) (by omega)]; omega) (by omega) ?_
  refine Ex_cVK (av := [vI (S (i + 1)), vI (S (i + 2))]) (tk_Law_law rfl) mk_M_infringes ⟨rfl, rfl, by decide, rfl, Nat.le_of_ble_eq_true rfl, Nat.le_of_ble_eq_true rfl⟩ (hk12) (hre1 _ (fun I2 R2 L2 v q1 q2 q3 => ⟨rfl, ?_⟩))
  refine Ex_step (tk_Law_law rfl) ?_
  exact tl_infringes hn q1 q2 hc3 q3
set_option maxRecDepth 100000 in
theorem tl_nearest {I2 : Nat → Int} {R2 L2 : Nat → Nat → Int} {v : Int} (hn : Nxt d sn S k i Q) (lw : LW sn S k M1 I R I2 R2) (hc : I2 0 = c) (hc3 : c = 0 ∨ c = 1 ∨ c = 2) (hv : c = 0 → mAL M1 386 0 = w32 v) : Ex (d + 58) Law_law 1062 [some (vR 1), some (vR 100), some (vR 362), some (vR 386), some (vI (i : Int)), some (vI c), some (vI v)] [] (MS M1 I2 R2 L2) Q := by
  have hM : MW M1 := lw.2.1
  have hk12 : mK M1 362 = 12 := hM.1
  have hLA : LA (MS M1 I2 R2 L2) 386 1 := lw.2.2.2.2.1
  have eL : mAL (MS M1 I2 R2 L2) 386 = mAL M1 386 := MS_386 M1 I2 R2 L2
  have hq := hn _ _ _ (some (vI c)) (some (vI v)) (lw.ref (Lr := L2))
  have hth : ∀ Q1 : Nat → Option AV → Mem → Prop, Q1 0 (some (vI c)) (MS M1 I2 R2 L2) → Ex (d + 57) M_thrown 0 [some (vR 362)] [] (MS M1 I2 R2 L2) Q1 := fun Q1 h1 => f_thrown hM (by rw [hc]; exact h1)
  have hw : w32 c = c := w32_id (by omega) (by omega)
  by_cases h0 : c = 0
  · have e0 : lCmp (mAL M1 386 0) (w32 v) = 0 := by rw [hv h0]; exact lCmp_0 _
    subst h0
    refine Ex_step (tk_Law_law rfl) ?_
    refine Ex_cV0 (av := []) (tk_Law_law rfl) mk_M_thrown ⟨rfl, rfl, by decide, rfl, Nat.le_of_ble_eq_true rfl, Nat.le_of_ble_eq_true rfl⟩ (hk12) (fun _ h => hth _ h) ?_
    refine Ex_step (tk_Law_law rfl) ?_
    refine Ex_step (tk_Law_law rfl) ⟨fun h1068 => ?_, fun h1068 => ?_⟩
    · replace h1068 : _ := h1068
      refine Ex_step (tk_Law_law rfl) ?_
      refine Ex_step (tk_Law_law rfl) ⟨fun h1075 => ?_, fun h1075 => ?_⟩
      · replace h1075 : _ := h1075
        refine Ex_step (tk_Law_law rfl) ?_
        first | exact hq | exact absurd rfl h1075
      · replace h1075 : _ := h1075
        refine Ex_step (tk_Law_law rfl) ?_
        refine Ex_step (tk_Law_law rfl) ?_
        refine lL0 (tk_Law_law rfl) hLA ?_
        rw [eL]
        refine Ex_step (tk_Law_law rfl) ?_
        refine Ex_step (tk_Law_law rfl) ?_
        refine Ex_step (tk_Law_law rfl) ?_
        refine Ex_step (tk_Law_law rfl) ⟨fun h1085 => ?_, fun h1085 => ?_⟩
        · replace h1085 : _ := h1085
          refine Ex_step (tk_Law_law rfl) ?_
          first | exact hq | exact absurd rfl h1075
        · replace h1085 : _ := h1085
          exact absurd (by rw [show lCmp (mAL M1 386 0) (w32 v) = 0 from e0]; rfl) h1085
    · replace h1068 : _ := h1068
      exact absurd rfl h1068
  · refine Ex_step (tk_Law_law rfl) ?_
    refine Ex_cV0 (av := []) (tk_Law_law rfl) mk_M_thrown ⟨rfl, rfl, by decide, rfl, Nat.le_of_ble_eq_true rfl, Nat.le_of_ble_eq_true rfl⟩ (hk12) (fun _ h => hth _ h) ?_
    refine Ex_step (tk_Law_law rfl) ?_
    refine Ex_step (tk_Law_law rfl) ⟨fun h1068 => ?_, fun h1068 => ?_⟩
    · replace h1068 : _ := h1068
      refine Ex_step (tk_Law_law rfl) ?_
      refine Ex_step (tk_Law_law rfl) ⟨fun h1075 => ?_, fun h1075 => ?_⟩
      · replace h1075 : _ := h1075
        refine Ex_step (tk_Law_law rfl) ?_
        exact hq
      · replace h1075 : _ := h1075
        exact absurd (show w32 c = w32 0 from Classical.not_not.mp h1075) (by rw [hw]; exact h0)
    · replace h1068 : _ := h1068
      exact absurd rfl h1068
set_option maxRecDepth 100000 in
theorem rf_nearest (hn : Nxt d sn S k i Q) (hi : i + 7 ≤ sn) (hsn : sn ≤ 3584) {I' : Nat → Int} {R' : Nat → Nat → Int} (lw : LW sn S k M1 I R I' R') (hc3 : c = 0 ∨ c = 1 ∨ c = 2) (hre : ∀ (L1 : Nat → Nat → Int) (Q1 : Nat → Option AV → Mem → Prop), RE_ sn S k M1 I R c Q1 → Ex (d + 57) M_nearest 0 [some (vR 362), some (vI (S (i + 1))), none, none, none, none] [] (MS M1 I R L1) Q1) : Ex (d + 58) Law_law 1048 [some (vR 1), some (vR 100), some (vR 362), some (vR 386), some (vI (i : Int)), l5, l6] [vI c] M1 Q := by
  have hk12 : mK M1 362 = 12 := lw.2.1.1
  have h6 := lw.2.2.2.2.2.1
  obtain ⟨L1, e⟩ := lw.ms
  have hre1 : ∀ Q1 : Nat → Option AV → Mem → Prop, RE_ sn S k M1 I R c Q1 → Ex (d + 57) M_nearest 0 [some (vR 362), some (vI (S (i + 1))), none, none, none, none] [] M1 Q1 := fun Q1 hq => by
    have z := hre L1 Q1 hq
    rw [← e] at z
    exact z
  refine Ex_step (tk_Law_law rfl) ?_
  refine Ex_step (tk_Law_law rfl) ?_
  refine Ex_step (tk_Law_law rfl) ?_
  refine Ex_step (tk_Law_law rfl) ?_
  refine Ex_step (tk_Law_law rfl) ?_
  refine Ex_step (tk_Law_law rfl) ?_
  refine lCS (n := i + 1) (tk_Law_law rfl) h6 (by rw [w32_id (by omega) (by omega)]; omega) (by omega) ?_
  refine Ex_cVK (av := [vI (S (i + 1))]) (tk_Law_law rfl) mk_M_nearest ⟨rfl, rfl, by decide, rfl, Nat.le_of_ble_eq_true rfl, Nat.le_of_ble_eq_true rfl⟩ (hk12) (hre1 _ (fun I2 R2 L2 v q1 q2 q3 => ⟨rfl, ?_⟩))
  refine Ex_step (tk_Law_law rfl) ?_
  exact tl_nearest hn q1 q2 hc3 q3
end Ops3
