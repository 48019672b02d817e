/-! ===== the class: sets of cells ===== -/
def FK (s : FSt) : Prop := ∀ k, k < s.2.2 → s.1 (s.2.1 k).toNat ≠ 0
set_option maxRecDepth 100000 in
theorem flC_keep {T : Nat → Int} {dd : Nat} {dk : Prop} [Decidable dk] {x y : Int} {i : Nat} {s : FSt} {j : Nat} (h : s.1 j ≠ 0) : (flC T dd dk x y i s).1 j ≠ 0 := by
  unfold flC
  split
  · show up1 s.1 _ 1 j ≠ 0
    by_cases e : j = (10 * nbY y i + nbX x i).toNat
    · rw [e, up1_at]; decide
    · rw [up1_ne _ _ e]; exact h
  · exact h
set_option maxRecDepth 100000 in
theorem flN_keep {T : Nat → Int} {dd : Nat} {dk : Prop} [Decidable dk] {x y : Int} {j : Nat} : ∀ (i : Nat) {s : FSt}, s.1 j ≠ 0 → (flN T dd dk x y i s).1 j ≠ 0
  | 0, _, h => h
  | i + 1, _, h => flC_keep (flN_keep i h)
set_option maxRecDepth 100000 in
theorem flC_K {T : Nat → Int} {dd : Nat} {dk : Prop} [Decidable dk] {x y : Int} {i : Nat} {s : FSt} (h : FK s) : FK (flC T dd dk x y i s) := by
  unfold flC
  split
  · intro k hk
    show up1 s.1 _ 1 (up1 s.2.1 s.2.2 _ k).toNat ≠ 0
    have hk : k < s.2.2 + 1 := hk
    by_cases e : k = s.2.2
    · rw [e, up1_at, up1_at]; decide
    · rw [up1_ne s.2.1 _ e]
      by_cases e2 : (s.2.1 k).toNat = (10 * nbY y i + nbX x i).toNat
      · rw [e2, up1_at]; decide
      · rw [up1_ne _ _ e2]; exact h k (by omega)
  · exact h
set_option maxRecDepth 100000 in
theorem flN_K {T : Nat → Int} {dd : Nat} {dk : Prop} [Decidable dk] {x y : Int} : ∀ (i : Nat) {s : FSt}, FK s → FK (flN T dd dk x y i s)
  | 0, _, h => h
  | i + 1, _, h => flC_K (flN_K i h)
/-- the class's rows stand for what was seen and lined up -/
def RS (F A : Nat → Nat → Int) (s : Nat) (z : FSt) : Prop := (∀ y : Nat, y < 10 → ∀ i : Nat, i < 32 → ib (A (s + 4) y) i = decide (i < 10 ∧ z.1 (10 * y + i) ≠ 0)) ∧ (∀ k, k < z.2.2 → A (s + 5) k = z.2.1 k) ∧ F 579 s = (z.2.2 : Int)
def SF (s : Nat) (F F' A A' : Nat → Nat → Int) : Prop := (∀ f j, ¬ (f = 579 ∧ j = s) → F' f j = F f j) ∧ ∀ j, j ≠ s + 4 → j ≠ s + 5 → A' j = A j
set_option maxRecDepth 100000 in
theorem SF.rf (s : Nat) (F A : Nat → Nat → Int) : SF s F F A A := ⟨fun _ _ _ => rfl, fun _ _ _ => rfl⟩
set_option maxRecDepth 100000 in
theorem SF.tr {s : Nat} {F F' F2 A A' A2 : Nat → Nat → Int} (h : SF s F F' A A') (g : SF s F' F2 A' A2) : SF s F F2 A A2 := ⟨fun f j q => (g.1 f j q).trans (h.1 f j q), fun j q1 q2 => (g.2 j q1 q2).trans (h.2 j q1 q2)⟩
set_option maxRecDepth 100000 in
theorem SF.dg {s b : Nat} {F F' A A' : Nat → Nat → Int} {w h : Int} {f : Int → Int → Int} (g : SF s F F' A A') (hb : s + 6 ≤ b ∨ b + 3 ≤ s + 4) (k : DG F A b w h f) : DG F' A' b w h f := ⟨(g.1 193 b (fun z => by omega)).trans k.1, (g.1 194 b (fun z => by omega)).trans k.2.1, fun y hy i hi => by rw [g.2 (b + 1) (by omega) (by omega), g.2 (b + 2) (by omega) (by omega)]; exact k.2.2 y hy i hi⟩
def RB (A : Nat → Nat → Int) (s : Nat) (be : Nat → Int) : Prop := ∀ y : Nat, y < 10 → ∀ i : Nat, i < 32 → ib (A (s + 4) y) i = decide (i < 10 ∧ be (10 * y + i) ≠ 0)
section CSets
variable {d b s dd : Nat} {x y : Int} {T : Nat → Int} {m : Mem} {F A L : Nat → Nat → Int} {z : FSt} {Q : Nat → Option AV → Mem → Prop}
set_option maxRecDepth 100000 in
theorem c_isFresh2 {dk : Prop} [Decidable dk] (hS : SW m s) (hE : DW m b) (hG : DG F A b (T (bD dd + 1)) (T (bD dd + 2)) (srt T dd)) (hW : DsW T dd) {be : Nat → Int} (hR : RB A s be) (hx : okI x) (hy : okI y) (hq : Q 0 (some (vI (b2i (inG T dd x y ∧ (dkP T dd x y ↔ dk) ∧ be (10 * y + x).toNat = 0)))) (CM m F A L)) : Ex (d + 2) Shp_isFresh 0 [some (vR s), some (vR b), some (vI x), some (vI y), some (vI (b2i dk))] [] (CM m F A L) Q := by
  have hk9 := hS.1
  have hr577 := hS.2.2.2.1
  have hw := hW.2.1
  have hh := hW.2.2.1
  have hF := srt_FG hW
  have hin : ((0 ≤ x ∧ x < T (bD dd + 1)) ∧ 0 ≤ y ∧ y < T (bD dd + 2)) ↔ inG T dd x y := by
    constructor
    · intro q; exact ⟨⟨by omega, by omega⟩, by omega, by omega⟩
    · intro q; obtain ⟨⟨q1, q2⟩, q3, q4⟩ := q; omega
  by_cases q1 : inG T dd x y
  · have q1' := hin.mpr q1
    have e : iAnd (iShr (A (s + 4) y.toNat) x) 1 = if be (10 * y + x).toNat = 0 then 0 else 1 := by
      obtain ⟨xn, rfl⟩ := Int.eq_ofNat_of_zero_le q1'.1.1
      obtain ⟨yn, rfl⟩ := Int.eq_ofNat_of_zero_le q1'.2.1
      show iAnd (iShr (A (s + 4) yn) (xn : Int)) 1 = _
      rw [bit_v _ (by omega) (by rw [hR yn (by omega) 31 (by decide)]; exact decide_eq_false (fun u => absurd u.1 (by decide))), hR yn (by omega) xn (by omega), show (10 * ((yn : Nat) : Int) + ((xn : Nat) : Int)).toNat = 10 * yn + xn by omega]
      by_cases u : be (10 * yn + xn) = 0
      · rw [if_pos u, decide_eq_false (fun v => v.2 u)]; rfl
      · rw [if_neg u, decide_eq_true ⟨by omega, u⟩]; rfl
    have hv : (if be (10 * y + x).toNat = 0 then (0 : Int) else 1) = 0 ↔ be (10 * y + x).toNat = 0 := by
      split
      · next u => exact ⟨fun _ => u, fun _ => rfl⟩
      · next u => exact ⟨fun v => absurd v (by decide), fun v => absurd v u⟩
    have hb : (if be (10 * y + x).toNat = 0 then (0 : Int) else 1) = 0 ∨ (if be (10 * y + x).toNat = 0 then (0 : Int) else 1) = 1 := by split <;> simp
    generalize (if be (10 * y + x).toNat = 0 then (0 : Int) else 1) = u at *
    refine Ex_step (tk_Shp_isFresh rfl) ?_
    refine Ex_step (tk_Shp_isFresh rfl) ?_
    refine Ex_step (tk_Shp_isFresh rfl) ?_
    refine Ex_cV0 (av := [vI x, vI y]) (tk_Shp_isFresh rfl) mk_Des_hasCell ⟨rfl, rfl, by decide, rfl, Nat.le_of_ble_eq_true rfl, Nat.le_of_ble_eq_true rfl⟩ (hE.1) (fun _ h => c_hasCell hE.1 hG.1 hG.2.1 hF.1.1 hF.1.2 hx hy h) ?_
    refine Ex_step (tk_Shp_isFresh rfl) ⟨fun h6 => ?_, fun h6 => ?_⟩
    · try simp (disch := omega) only [cmpI, w32_b2i, b2i_0, b2i_1, b2i_eq, w32_id, Classical.not_not, not_true_eq_false, not_false_eq_true] at h6
      rw [b2i_f (fun w => by first | exact h6 q1' | exact h17 w.2.1 | exact h30 (hv.mpr w.2.2))] at hq
      refine Ex_step (tk_Shp_isFresh rfl) ?_
      refine Ex_step (tk_Shp_isFresh rfl) ⟨rfl, by first | exact Or.inl rfl | exact Or.inr rfl | exact b2i_01 _ | assumption, ?_⟩
      exact hq
    · try simp (disch := omega) only [cmpI, w32_b2i, b2i_0, b2i_1, b2i_eq, w32_id, Classical.not_not, not_true_eq_false, not_false_eq_true] at h6
      refine Ex_step (tk_Shp_isFresh rfl) ?_
      refine Ex_step (tk_Shp_isFresh rfl) ?_
      refine Ex_step (tk_Shp_isFresh rfl) ?_
      refine Ex_cV0 (av := [vI x, vI y]) (tk_Shp_isFresh rfl) mk_Des_isDark ⟨rfl, rfl, by decide, rfl, Nat.le_of_ble_eq_true rfl, Nat.le_of_ble_eq_true rfl⟩ (hE.1) (fun _ h => c_isDark hE hG hF hx hy h) ?_
      refine Ex_step (tk_Shp_isFresh rfl) ?_
      refine Ex_step (tk_Shp_isFresh rfl) ⟨fun h17 => ?_, fun h17 => ?_⟩
      · try simp (disch := omega) only [cmpI, w32_b2i, b2i_0, b2i_1, b2i_eq, w32_id, Classical.not_not, not_true_eq_false, not_false_eq_true] at h17
        rw [b2i_f (fun w => by first | exact h6 q1' | exact h17 w.2.1 | exact h30 (hv.mpr w.2.2))] at hq
        refine Ex_step (tk_Shp_isFresh rfl) ?_
        refine Ex_step (tk_Shp_isFresh rfl) ⟨rfl, by first | exact Or.inl rfl | exact Or.inr rfl | exact b2i_01 _ | assumption, ?_⟩
        exact hq
      · try simp (disch := omega) only [cmpI, w32_b2i, b2i_0, b2i_1, b2i_eq, w32_id, Classical.not_not, not_true_eq_false, not_false_eq_true] at h17
        refine Ex_step (tk_Shp_isFresh rfl) ?_
        refine gCR (tk_Shp_isFresh rfl) (hk9) (hr577) ?_
        refine Ex_step (tk_Shp_isFresh rfl) ?_
        refine lCI (n := y.toNat) (tk_Shp_isFresh rfl) (hS.2.2.2.2.1) (by rw [w32_id (by omega) (by omega)]; omega) (by omega) ?_
        refine Ex_step (tk_Shp_isFresh rfl) ?_
        refine Ex_step (tk_Shp_isFresh rfl) ?_
        refine Ex_step (tk_Shp_isFresh rfl) ?_
        refine Ex_step (tk_Shp_isFresh rfl) ?_
        show Ex (d + 2) Shp_isFresh 30 _ [vI (iAnd (iShr (A (s + 4) y.toNat) x) 1)] _ Q
        rw [e]
        refine Ex_step (tk_Shp_isFresh rfl) ⟨fun h30 => ?_, fun h30 => ?_⟩
        · try simp (disch := omega) only [cmpI, w32_b2i, b2i_0, b2i_1, b2i_eq, w32_id, Classical.not_not, not_true_eq_false, not_false_eq_true] at h30
          rw [b2i_f (fun w => by first | exact h6 q1' | exact h17 w.2.1 | exact h30 (hv.mpr w.2.2))] at hq
          refine Ex_step (tk_Shp_isFresh rfl) ?_
          refine Ex_step (tk_Shp_isFresh rfl) ⟨rfl, by first | exact Or.inl rfl | exact Or.inr rfl | exact b2i_01 _ | assumption, ?_⟩
          exact hq
        · try simp (disch := omega) only [cmpI, w32_b2i, b2i_0, b2i_1, b2i_eq, w32_id, Classical.not_not, not_true_eq_false, not_false_eq_true] at h30
          rw [b2i_t ⟨q1, h17, hv.mp (by omega)⟩] at hq
          refine Ex_step (tk_Shp_isFresh rfl) ?_
          refine Ex_step (tk_Shp_isFresh rfl) ?_
          refine Ex_step (tk_Shp_isFresh rfl) ⟨rfl, by first | exact Or.inl rfl | exact Or.inr rfl | exact b2i_01 _ | assumption, ?_⟩
          exact hq
  · rw [b2i_f (fun w => q1 w.1)] at hq
    refine Ex_step (tk_Shp_isFresh rfl) ?_
    refine Ex_step (tk_Shp_isFresh rfl) ?_
    refine Ex_step (tk_Shp_isFresh rfl) ?_
    refine Ex_cV0 (av := [vI x, vI y]) (tk_Shp_isFresh rfl) mk_Des_hasCell ⟨rfl, rfl, by decide, rfl, Nat.le_of_ble_eq_true rfl, Nat.le_of_ble_eq_true rfl⟩ (hE.1) (fun _ h => c_hasCell hE.1 hG.1 hG.2.1 hF.1.1 hF.1.2 hx hy h) ?_
    refine Ex_step (tk_Shp_isFresh rfl) ⟨fun h6 => ?_, fun h6 => ?_⟩
    · try simp (disch := omega) only [cmpI, w32_b2i, b2i_0, b2i_1, w32_id, Classical.not_not, not_true_eq_false, not_false_eq_true] at h6
      refine Ex_step (tk_Shp_isFresh rfl) ?_
      refine Ex_step (tk_Shp_isFresh rfl) ⟨rfl, by first | exact Or.inl rfl | exact Or.inr rfl | exact b2i_01 _ | assumption, ?_⟩
      exact hq
    · try simp (disch := omega) only [cmpI, w32_b2i, b2i_0, b2i_1, w32_id, Classical.not_not, not_true_eq_false, not_false_eq_true] at h6
      exact absurd (hin.mp h6) q1
set_option maxRecDepth 100000 in
theorem c_isFresh {dk : Prop} [Decidable dk] (hS : SW m s) (hE : DW m b) (hG : DG F A b (T (bD dd + 1)) (T (bD dd + 2)) (srt T dd)) (hW : DsW T dd) (hR : RS F A s z) (hx : okI x) (hy : okI y) (hq : Q 0 (some (vI (b2i (inG T dd x y ∧ (dkP T dd x y ↔ dk) ∧ z.1 (10 * y + x).toNat = 0)))) (CM m F A L)) : Ex (d + 2) Shp_isFresh 0 [some (vR s), some (vR b), some (vI x), some (vI y), some (vI (b2i dk))] [] (CM m F A L) Q := c_isFresh2 hS hE hG hW hR.1 hx hy hq
set_option maxRecDepth 100000 in
theorem c_lineUp (hS : SW m s) (hR : RS F A s z) (hm : z.2.2 < 100) (hx : 0 ≤ x ∧ x < 10) (hy : 0 ≤ y ∧ y < 10) (hq : ∀ F' A' : Nat → Nat → Int, SF s F F' A A' → RS F' A' s (up1 z.1 (10 * y + x).toNat 1, up1 z.2.1 z.2.2 (10 * y + x), z.2.2 + 1) → Q 0 none (CM m F' A' L)) : Ex d Shp_lineUp 0 [some (vR s), some (vI x), some (vI y)] [] (CM m F A L) Q := by
  have hk9 := hS.1
  have hr577 := hS.2.2.2.1
  have hr578 := hS.2.2.2.2.2.1
  obtain ⟨xn, rfl⟩ := Int.eq_ofNat_of_zero_le hx.1
  obtain ⟨yn, rfl⟩ := Int.eq_ofNat_of_zero_le hy.1
  have h3 := hR.2.2
  have hgo : Ex d Shp_lineUp 12 [some (vR s), some (vI (xn : Int)), some (vI (yn : Int))] [] (CM m F A L) Q := by
    refine Ex_step (tk_Shp_lineUp rfl) ?_
    refine gCR (tk_Shp_lineUp rfl) (hk9) (hr578) ?_
    refine Ex_step (tk_Shp_lineUp rfl) ?_
    refine gCI (tk_Shp_lineUp rfl) (hk9) ?_
    rw [h3]
    refine Ex_step (tk_Shp_lineUp rfl) ?_
    refine Ex_step (tk_Shp_lineUp rfl) ?_
    refine Ex_step (tk_Shp_lineUp rfl) ?_
    refine Ex_step (tk_Shp_lineUp rfl) ?_
    refine Ex_step (tk_Shp_lineUp rfl) ?_
    refine tCI (n := z.2.2) (tk_Shp_lineUp rfl) (hS.2.2.2.2.2.2) (w32_id (by omega) (by omega)) (by omega) ?_
    refine Ex_step (tk_Shp_lineUp rfl) ?_
    refine Ex_step (tk_Shp_lineUp rfl) ?_
    refine gCI (tk_Shp_lineUp rfl) (hk9) ?_
    rw [h3]
    refine Ex_step (tk_Shp_lineUp rfl) ?_
    refine Ex_step (tk_Shp_lineUp rfl) ?_
    refine pCI (tk_Shp_lineUp rfl) (hk9) ?_
    refine Ex_step (tk_Shp_lineUp rfl) ?_
    refine gCR (tk_Shp_lineUp rfl) (hk9) (hr577) ?_
    refine Ex_step (tk_Shp_lineUp rfl) ?_
    refine Ex_step (tk_Shp_lineUp rfl) ?_
    refine lCI (n := yn) (tk_Shp_lineUp rfl) (hS.2.2.2.2.1) (w32_id (by omega) (by omega)) (by omega) ?_
    refine Ex_step (tk_Shp_lineUp rfl) ?_
    refine Ex_step (tk_Shp_lineUp rfl) ?_
    refine Ex_step (tk_Shp_lineUp rfl) ?_
    refine Ex_step (tk_Shp_lineUp rfl) ?_
    refine tCI (n := yn) (tk_Shp_lineUp rfl) (hS.2.2.2.2.1) (w32_id (by omega) (by omega)) (by omega) ?_
    refine Ex_step (tk_Shp_lineUp rfl) ⟨rfl, ?_⟩
    refine hq _ _ ⟨fun f j q => ?_, fun j q1 q2 => ?_⟩ ⟨fun y2 hy2 i hi => ?_, fun k hk => ?_, ?_⟩
    · exact if_neg q
    · rw [up1_ne _ _ q1, up1_ne _ _ q2]
    · rw [up1_at, up1_ne A _ (show s + 4 ≠ s + 5 by omega), show (10 * ((yn : Nat) : Int) + ((xn : Nat) : Int)).toNat = 10 * yn + xn by omega]
      by_cases e : y2 = yn
      · rw [← e]
        rw [up1_at, ib_or, hR.1 y2 hy2 i hi, ib_shl 1 (by omega), ib_1, decide_eq_true hi, Bool.true_and]
        by_cases e2 : i = xn
        · subst e2
          show _ = decide (i < 10 ∧ up1 z.1 (10 * y2 + i) 1 (10 * y2 + i) ≠ 0)
          rw [up1_at, decide_eq_true (show i < 10 ∧ (1 : Int) ≠ 0 from ⟨by omega, by decide⟩), Nat.sub_self]
          simp
        · show _ = decide (i < 10 ∧ up1 z.1 (10 * y2 + xn) 1 (10 * y2 + i) ≠ 0)
          rw [up1_ne _ _ (show 10 * y2 + i ≠ 10 * y2 + xn by omega)]
          have e3 : (!decide (i < xn) && decide (i - xn = 0)) = false := by
            by_cases e4 : i < xn
            · simp [e4]
            · simp [e4]; omega
          rw [e3, Bool.or_false]
      · rw [up1_ne _ _ e, hR.1 y2 hy2 i hi]
        refine decide_eq_decide.mpr ⟨fun u => ⟨u.1, ?_⟩, fun u => ⟨u.1, ?_⟩⟩
        · show up1 z.1 (10 * yn + xn) 1 (10 * y2 + i) ≠ 0
          rw [up1_ne _ _ (show 10 * y2 + i ≠ 10 * yn + xn by omega)]; exact u.2
        · have u2 : up1 z.1 (10 * yn + xn) 1 (10 * y2 + i) ≠ 0 := u.2
          rw [up1_ne _ _ (show 10 * y2 + i ≠ 10 * yn + xn by omega)] at u2; exact u2
    · have hk : k < z.2.2 + 1 := hk
      show _ = up1 z.2.1 z.2.2 (10 * ((yn : Nat) : Int) + ((xn : Nat) : Int)) k
      rw [up1_ne _ _ (show s + 5 ≠ s + 4 by omega), up1_at]
      by_cases e : k = z.2.2
      · rw [e, up1_at, up1_at, Int.mul_comm]
      · rw [up1_ne _ _ e, up1_ne _ _ e]; exact hR.2.1 k (by omega)
    · exact upF_at _ _ _ _
  refine Ex_step (tk_Shp_lineUp rfl) ?_
  refine gCI (tk_Shp_lineUp rfl) (hk9) ?_
  rw [h3]
  refine Ex_step (tk_Shp_lineUp rfl) ?_
  refine gCR (tk_Shp_lineUp rfl) (hk9) (hr578) ?_
  refine lenC (tk_Shp_lineUp rfl) hS.2.2.2.2.2.2 ?_
  refine Ex_step (tk_Shp_lineUp rfl) ⟨fun h9 => ?_, fun h9 => ?_⟩
  · try simp (disch := omega) only [cmpI, w32_b2i, b2i_0, b2i_1, w32_id, Classical.not_not, not_true_eq_false, not_false_eq_true] at h9
    omega
  · try simp (disch := omega) only [cmpI, w32_b2i, b2i_0, b2i_1, w32_id, Classical.not_not, not_true_eq_false, not_false_eq_true] at h9
    exact hgo
abbrev cor (c : Nat) : Prop := c % 3 ≠ 1 ∧ c / 3 ≠ 1
set_option maxRecDepth 100000 in
theorem c_walkC {dk : Prop} [Decidable dk] (hS : SW m s) (hE : DW m b) (hsb : s + 6 ≤ b ∨ b + 3 ≤ s + 4) (hG : DG F A b (T (bD dd + 1)) (T (bD dd + 2)) (srt T dd)) (hW : DsW T dd) (hR : RS F A s z) (hI : FI T dd z) {c : Nat} (hc : c < 9) (hx : 0 ≤ x ∧ x ≤ 9) (hy : 0 ≤ y ∧ y ≤ 9) (hb : z.1 (10 * y + x).toNat ≠ 0) {u2 u3 : Int} {l5 l6 l10 l11 l12 : Option AV} (hq : ∀ (F' A' : Nat → Nat → Int) (l10 l11 l12 : Option AV), SF s F F' A A' → RS F' A' s (flC T dd dk x y c z) → Ex (d + 3) Shp_walkSet 191 [some (vR s), some (vR b), some (vI u2), some (vI u3), some (vI (b2i dk)), l5, l6, some (vI x), some (vI y), some (vI (c : Int)), l10, l11, l12] [] (CM m F' A' L) Q) : Ex (d + 3) Shp_walkSet 114 [some (vR s), some (vR b), some (vI u2), some (vI u3), some (vI (b2i dk)), l5, l6, some (vI x), some (vI y), some (vI (c : Int)), l10, l11, l12] [] (CM m F A L) Q := by
  have hw := hW.2.1
  have hh := hW.2.2.1
  have e1 : iRem (c : Int) 3 = ((c % 3 : Nat) : Int) := by rw [iRem_nn (by omega) (by omega) (by omega) (by omega)]; rfl
  have e2 : iDiv (c : Int) 3 = ((c / 3 : Nat) : Int) := by rw [iDiv_nn (by omega) (by omega) (by omega) (by omega)]; rfl
  have ex : x + (((c % 3 : Nat) : Int) - 1) = nbX x c := by unfold nbX; omega
  have ey : y + (((c / 3 : Nat) : Int) - 1) = nbY y c := by unfold nbY; omega
  have bnx : -1 ≤ nbX x c ∧ nbX x c ≤ 11 := by unfold nbX; omega
  have bny : -1 ≤ nbY y c ∧ nbY y c ≤ 11 := by unfold nbY; omega
  have onx : okI (nbX x c) := by unfold okI; omega
  have ony : okI (nbY y c) := by unfold okI; omega
  have hfm := cB_le z.1 100
  have hf2 := hI.2.1
  have eqv : (inG T dd (nbX x c) (nbY y c) ∧ ¬ (dk ∧ c % 2 = 0) ∧ z.1 (10 * nbY y c + nbX x c).toNat = 0 ∧ (dkP T dd (nbX x c) (nbY y c) ↔ dk)) ↔ (¬ (dk ∧ cor c) ∧ inG T dd (nbX x c) (nbY y c) ∧ (dkP T dd (nbX x c) (nbY y c) ↔ dk) ∧ z.1 (10 * nbY y c + nbX x c).toNat = 0) := by
    constructor
    · rintro ⟨q1, q2, q3, q4⟩
      exact ⟨fun w => q2 ⟨w.1, by have := w.2; unfold cor at this; omega⟩, q1, q4, q3⟩
    · rintro ⟨q1, q2, q3, q4⟩
      refine ⟨q2, fun w => ?_, q4, q3⟩
      by_cases u : c = 4
      · subst u
        have f1 : nbX x 4 = x := by unfold nbX; omega
        have f2 : nbY y 4 = y := by unfold nbY; omega
        rw [f1, f2] at q4
        exact hb q4
      · exact q1 ⟨w.1, by have := w.2; unfold cor; omega⟩
  unfold flC at hq
  have hne : ¬ (¬ (dk ∧ cor c) ∧ inG T dd (nbX x c) (nbY y c) ∧ (dkP T dd (nbX x c) (nbY y c) ↔ dk) ∧ z.1 (10 * nbY y c + nbX x c).toNat = 0) → ∀ l10 l11 l12 : Option AV, Ex (d + 3) Shp_walkSet 191 [some (vR s), some (vR b), some (vI u2), some (vI u3), some (vI (b2i dk)), l5, l6, some (vI x), some (vI y), some (vI (c : Int)), l10, l11, l12] [] (CM m F A L) Q := by
    intro hz l10 l11 l12
    rw [if_neg (fun w => hz (eqv.mp w))] at hq
    exact hq F A l10 l11 l12 (SF.rf s F A) hR
  have hyes : (¬ (dk ∧ cor c) ∧ inG T dd (nbX x c) (nbY y c) ∧ (dkP T dd (nbX x c) (nbY y c) ↔ dk) ∧ z.1 (10 * nbY y c + nbX x c).toNat = 0) → ∀ l12 : Option AV, Ex (d + 3) Shp_walkSet 177 [some (vR s), some (vR b), some (vI u2), some (vI u3), some (vI (b2i dk)), l5, l6, some (vI x), some (vI y), some (vI (c : Int)), some (vI (((c % 3 : Nat) : Int) - 1)), some (vI (((c / 3 : Nat) : Int) - 1)), l12] [] (CM m F A L) Q := by
    intro hz l12
    rw [if_pos (eqv.mpr hz)] at hq
    obtain ⟨-, ⟨⟨q1, q2⟩, q3, q4⟩, -, q5⟩ := hz
    have hlt := cB_lt (k := 100) q5 (by omega)
    refine Ex_step (tk_Shp_walkSet rfl) ?_
    refine Ex_step (tk_Shp_walkSet rfl) ?_
    refine Ex_step (tk_Shp_walkSet rfl) ?_
    refine Ex_step (tk_Shp_walkSet rfl) ?_
    show Ex (d + 3) Shp_walkSet 183 _ (vI (x + (((c % 3 : Nat) : Int) - 1)) :: _) _ Q
    rw [ex]
    refine Ex_step (tk_Shp_walkSet rfl) ?_
    refine Ex_step (tk_Shp_walkSet rfl) ?_
    refine Ex_step (tk_Shp_walkSet rfl) ?_
    show Ex (d + 3) Shp_walkSet 188 _ (vI (y + (((c / 3 : Nat) : Int) - 1)) :: _) _ Q
    rw [ey]
    refine Ex_cVK (av := [vI (nbX x c), vI (nbY y c)]) (tk_Shp_walkSet rfl) mk_Shp_lineUp ⟨rfl, rfl, by decide, rfl, Nat.le_of_ble_eq_true rfl, Nat.le_of_ble_eq_true rfl⟩ (hS.1) (c_lineUp hS hR (by omega) (by omega) (by omega) (fun F' A' k1 k2 => ⟨rfl, ?_⟩))
    exact hq F' A' _ _ _ k1 k2
  have h157 : ¬ (dk ∧ cor c) → ∀ l12 : Option AV, Ex (d + 3) Shp_walkSet 157 [some (vR s), some (vR b), some (vI u2), some (vI u3), some (vI (b2i dk)), l5, l6, some (vI x), some (vI y), some (vI (c : Int)), some (vI (((c % 3 : Nat) : Int) - 1)), some (vI (((c / 3 : Nat) : Int) - 1)), l12] [] (CM m F A L) Q := by
    intro hz l12
    refine Ex_step (tk_Shp_walkSet rfl) ?_
    refine Ex_step (tk_Shp_walkSet rfl) ?_
    refine Ex_step (tk_Shp_walkSet rfl) ?_
    refine Ex_step (tk_Shp_walkSet rfl) ?_
    refine Ex_step (tk_Shp_walkSet rfl) ?_
    show Ex (d + 3) Shp_walkSet 164 _ (vI (x + (((c % 3 : Nat) : Int) - 1)) :: _) _ Q
    rw [ex]
    refine Ex_step (tk_Shp_walkSet rfl) ?_
    refine Ex_step (tk_Shp_walkSet rfl) ?_
    refine Ex_step (tk_Shp_walkSet rfl) ?_
    show Ex (d + 3) Shp_walkSet 169 _ (vI (y + (((c / 3 : Nat) : Int) - 1)) :: _) _ Q
    rw [ey]
    refine Ex_step (tk_Shp_walkSet rfl) ?_
    refine Ex_cV0 (av := [vR b, vI (nbX x c), vI (nbY y c), vI (b2i dk)]) (tk_Shp_walkSet rfl) mk_Shp_isFresh ⟨rfl, rfl, by decide, rfl, Nat.le_of_ble_eq_true rfl, Nat.le_of_ble_eq_true rfl⟩ (hS.1) (fun _ h => c_isFresh hS hE hG hW hR onx ony h) ?_
    refine Ex_step (tk_Shp_walkSet rfl) ⟨fun h174 => ?_, fun h174 => ?_⟩
    · try simp (disch := omega) only [cmpI, w32_b2i, b2i_0, b2i_1, w32_id, Classical.not_not, not_true_eq_false, not_false_eq_true] at h174
      exact hne (fun w => h174 w.2) _ _ _
    · try simp (disch := omega) only [cmpI, w32_b2i, b2i_0, b2i_1, w32_id, Classical.not_not, not_true_eq_false, not_false_eq_true] at h174
      exact hyes ⟨hz, h174⟩ _
  have h145 : ∀ v : Int, v = b2i (cor c) → Ex (d + 3) Shp_walkSet 145 [some (vR s), some (vR b), some (vI u2), some (vI u3), some (vI (b2i dk)), l5, l6, some (vI x), some (vI y), some (vI (c : Int)), some (vI (((c % 3 : Nat) : Int) - 1)), some (vI (((c / 3 : Nat) : Int) - 1)), l12] [vI v] (CM m F A L) Q := by
    intro v hv
    subst hv
    refine Ex_step (tk_Shp_walkSet rfl) ?_
    refine Ex_step (tk_Shp_walkSet rfl) ?_
    refine Ex_step (tk_Shp_walkSet rfl) ⟨fun h149 => ?_, fun h149 => ?_⟩
    · try simp (disch := omega) only [cmpI, w32_b2i, b2i_0, b2i_1, w32_id, Classical.not_not, not_true_eq_false, not_false_eq_true] at h149
      exact h157 (fun w => by first | exact h149 w.1 | exact h154 w.2) _
    · try simp (disch := omega) only [cmpI, w32_b2i, b2i_0, b2i_1, w32_id, Classical.not_not, not_true_eq_false, not_false_eq_true] at h149
      refine Ex_step (tk_Shp_walkSet rfl) ?_
      refine Ex_step (tk_Shp_walkSet rfl) ⟨fun h154 => ?_, fun h154 => ?_⟩
      · try simp (disch := omega) only [cmpI, w32_b2i, b2i_0, b2i_1, w32_id, Classical.not_not, not_true_eq_false, not_false_eq_true] at h154
        exact hne (fun w => w.1 ⟨h149, h154⟩) _ _ _
      · try simp (disch := omega) only [cmpI, w32_b2i, b2i_0, b2i_1, w32_id, Classical.not_not, not_true_eq_false, not_false_eq_true] at h154
        exact h157 (fun w => by first | exact h149 w.1 | exact h154 w.2) _
  refine Ex_step (tk_Shp_walkSet rfl) ?_
  refine Ex_step (tk_Shp_walkSet rfl) ?_
  refine Ex_step (tk_Shp_walkSet rfl) ⟨by decide, ?_⟩
  rw [e1]
  refine Ex_step (tk_Shp_walkSet rfl) ?_
  refine Ex_step (tk_Shp_walkSet rfl) ?_
  refine Ex_step (tk_Shp_walkSet rfl) ?_
  refine Ex_step (tk_Shp_walkSet rfl) ?_
  refine Ex_step (tk_Shp_walkSet rfl) ?_
  refine Ex_step (tk_Shp_walkSet rfl) ⟨by decide, ?_⟩
  rw [e2]
  refine Ex_step (tk_Shp_walkSet rfl) ?_
  refine Ex_step (tk_Shp_walkSet rfl) ?_
  refine Ex_step (tk_Shp_walkSet rfl) ?_
  refine Ex_step (tk_Shp_walkSet rfl) ?_
  refine Ex_step (tk_Shp_walkSet rfl) ⟨fun h132 => ?_, fun h132 => ?_⟩
  · try simp (disch := omega) only [cmpI, w32_b2i, b2i_0, b2i_1, w32_id, Classical.not_not, not_true_eq_false, not_false_eq_true] at h132
    have hx := h145 0 (b2i_f (by unfold cor; omega)).symm
    refine Ex_step (tk_Shp_walkSet rfl) ?_
    exact hx
  · try simp (disch := omega) only [cmpI, w32_b2i, b2i_0, b2i_1, w32_id, Classical.not_not, not_true_eq_false, not_false_eq_true] at h132
    refine Ex_step (tk_Shp_walkSet rfl) ?_
    refine Ex_step (tk_Shp_walkSet rfl) ⟨fun h137 => ?_, fun h137 => ?_⟩
    · try simp (disch := omega) only [cmpI, w32_b2i, b2i_0, b2i_1, w32_id, Classical.not_not, not_true_eq_false, not_false_eq_true] at h137
      have hx := h145 0 (b2i_f (by unfold cor; omega)).symm
      refine Ex_step (tk_Shp_walkSet rfl) ?_
      exact hx
    · try simp (disch := omega) only [cmpI, w32_b2i, b2i_0, b2i_1, w32_id, Classical.not_not, not_true_eq_false, not_false_eq_true] at h137
      have hx := h145 1 (b2i_t (by unfold cor; omega)).symm
      refine Ex_step (tk_Shp_walkSet rfl) ?_
      refine Ex_step (tk_Shp_walkSet rfl) ?_
      exact hx
end CSets
