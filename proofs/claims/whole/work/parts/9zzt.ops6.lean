/-! ===== the law: text ===== -/
section Ops6
variable {d sn k i : Nat} {S : Nat → Int} {m M : Mem} {F A L : Nat → Nat → Int} {I : Nat → Int} {R : Nat → Nat → Int} {Q : Nat → Option AV → Mem → Prop} {l5 l6 : Option AV} {kb kd : Nat} {P : Nat → Nat} {ds : Nat → Nat → Nat} {nn b tp : Nat} {n : Int}
set_option maxRecDepth 100000 in
/-- what both make of a text, told by what was read -/
theorem txC (d : Nat) (h : DK m F A L I R kb kd P ds nn b tp) (hn : okI n) : ∃ t : PSt, (∀ Q : Nat → Option AV → Mem → Prop, (¬ (0 ≤ n ∧ n ≤ (tp : Int)) → Q 2 none (alloc (CM m (upF F 708 100 (F 708 100 + 1)) A L) 22 0 6)) →
    (0 ≤ n ∧ n ≤ (tp : Int) → ¬ pFl t = 0 → ∀ (m' : Mem) (F' A' L' : Nat → Nat → Int), DK m' F' A' L' (pI (up1 (txI n I) 5 (pFa t)) t) (up1 R 4 (pT t)) kb kd P ds nn b 0 → Out m m' F F' A A' L L' → Q 0 (some (vI ((pFl t : Int) - 10))) (CM m' F' A' L')) →
    (0 ≤ n ∧ n ≤ (tp : Int) → pFl t = 0 → ∀ (m' : Mem) (F' A' L' : Nat → Nat → Int) (P' : Nat → Nat) (n2 : Nat), DK m' F' A' L' (up1 (pI (up1 (txI n I) 5 (pFa t)) t) 12 (remB b : Nat)) (up1 (remA b (up1 R 4 (pT t))) 3 (cpK 1920 (pT t) (R 3))) kd kb P' ds n2 (remB b) 0 → Out m m' F F' A A' L L' → Q 0 (some (vI (pT t 0))) (CM m' F' A' L')) → Ex (d + 10) DD_text 0 [some (vR 100), some (vI n), none, none] [] (CM m F A L) Q) ∧
    (∀ (d2 : Nat) (m2 : Mem) (Lr : Nat → Nat → Int) (Q : Nat → Option AV → Mem → Prop), LowW m2 → MW m2 → (¬ (0 ≤ n ∧ n ≤ (tp : Int)) → Q 0 (some (vI 0)) (MS m2 (up1 (up1 I 0 0) 0 1) (up1 R 1 (up1 (R 1) 1 (R 1 1 + 1))) Lr)) →
    (0 ≤ n ∧ n ≤ (tp : Int) → ¬ pFl t = 0 → Q 0 (some (vI ((pFl t : Int) - 10))) (MS m2 (pI (up1 (txI n I) 5 (pFa t)) t) (up1 R 4 (pT t)) Lr)) →
    (0 ≤ n ∧ n ≤ (tp : Int) → pFl t = 0 → Q 0 (some (vI (pT t 0))) (MS m2 (up1 (pI (up1 (txI n I) 5 (pFa t)) t) 12 (remB b : Nat)) (up1 (remA b (up1 R 4 (pT t))) 3 (cpK 1920 (pT t) (R 3))) Lr)) → Ex (d2 + 57) M_text 0 [some (vR aM), some (vI n), none] [] (MS m2 I R Lr) Q) := by
  refine ⟨txS (R 2) (R 4) n, fun Q a1 a2 a3 => d_text h hn a1 a2 a3, fun d2 m2 Lr Q w1 w2 a1 a2 a3 => f_text w1 w2 hn.1 hn.2 h.tb h.i2 h.b8 h.i12 h.byt a1 a2 a3⟩
set_option maxRecDepth 100000 in
theorem op_text (h : LV sn S k M I R) (hS : ∀ j, okI (S j)) (hi : i + 7 ≤ sn) (hsn : sn ≤ 3584) (hn : Nxt d sn S k i Q) : Ex (d + 58) Law_law 201 [some (vR 1), some (vR 100), some (vR 362), some (vR 386), some (vI (i : Int)), l5, l6] [] M Q := by
  obtain ⟨⟨kb, kd, P, ds, nn, b, tp, hd⟩, h2, h3, ⟨Lr, h4⟩, h5, h6, h7, h8⟩ := id h
  have hk11 : mK M 100 = 11 := hd.w.k100
  have n0 := hd.n0
  obtain ⟨t, hC, hF⟩ := txC (d + 46) hd (hS (i + 1))
  have b2 : LW sn S k (alloc (CM M (upF (mFI M) 708 100 (mFI M 708 100 + 1)) (mAI M) (mAL M)) 22 0 6) I R (up1 (up1 I 0 0) 0 1) (refA 1 R) := h.cls (Out.al n0) (hd.no1 (fun j hj => by rcases hj with rfl | rfl | rfl <;> rfl))
  have hw : Ex (d + 57) Law_text 0 [some (vR 100), some (vI (S (i + 1))), some (vR 386), none] [] M (fun o v m2 => o = 0 ∧ Ex (d + 58) Law_law 212 [some (vR 1), some (vR 100), some (vR 362), some (vR 386), some (vI (i : Int)), l5, l6] (v.toList ++ []) m2 Q) := by
    refine l_text (d := d + 56) hk11 (hC _ (fun c1 => Or.inr (Or.inr ⟨rfl, by decide, rfl, ?_⟩)) (fun c1 c2 m1 F1 A1 L1 hd1 o1 => Or.inl ⟨rfl, _, m1, F1, A1, L1, rfl, rfl, (h.cls o1 hd1).2.2.2.2.1, rfl, ?_⟩) (fun c1 c2 m1 F1 A1 L1 P1 n1 hd1 o1 => Or.inl ⟨rfl, _, m1, F1, A1, L1, rfl, rfl, (h.cls o1 hd1).2.2.2.2.1, rfl, ?_⟩))
    · exact rf_text hn hi hsn b2 (Or.inr (Or.inl rfl)) (fun L1 Q1 hq => hF d _ L1 Q1 b2.2.2.1 b2.2.1 (fun _ => hq _ _ _ 0 b2 rfl (fun z => absurd z (by decide))) (fun e => absurd e c1) (fun e => absurd e c1))
    · have lw := LW.put (v := w32 ((pFl t : Int) - 10)) (h.cls o1 hd1)
      exact rf_text hn hi hsn lw (Or.inl rfl) (fun L3 Q1 hq => hF d _ L3 Q1 lw.2.2.1 lw.2.1 (fun e => absurd c1 e) (fun _ _ => hq _ _ _ _ lw (pI_0 _ _ _ _) (fun _ => (put_e _ _ _ _ _))) (fun _ e => absurd e c2))
    · have lw := LW.put (v := w32 (pT t 0)) (h.cls o1 hd1)
      exact rf_text hn hi hsn lw (Or.inl rfl) (fun L3 Q1 hq => hF d _ L3 Q1 lw.2.2.1 lw.2.1 (fun e => absurd c1 e) (fun _ e => absurd c2 e) (fun _ _ => hq _ _ _ _ lw (pI_0b _ _ _ _ _) (fun _ => (put_e _ _ _ _ _))))
  refine Ex_step (tk_Law_law rfl) ?_
  refine Ex_step (tk_Law_law rfl) ?_
  refine Ex_step (tk_Law_law rfl) ?_
  refine Ex_step (tk_Law_law rfl) ?_
  refine Ex_step (tk_Law_law rfl) ?_
  refine lCS (n := i + 1) (tk_Law_law rfl) h6 (by rw [w32_id (by omega) (by omega)]; omega) (by omega) ?_
  refine Ex_step (tk_Law_law rfl) ?_
  exact Ex_cSXK (av := [vR 100, vI (S (i + 1)), vR 386]) (tk_Law_law rfl) mk_Law_text ⟨rfl, by decide, rfl, rfl, rfl, Nat.le_of_ble_eq_true rfl, Nat.le_of_ble_eq_true rfl⟩ hw
end Ops6
