/-! ===== the reference: what hangs together ===== -/
set_option maxRecDepth 100000 in
theorem b2i_eq (p q : Prop) [Decidable p] [Decidable q] : (b2i p = b2i q) = (p ↔ q) := by
  refine propext ?_
  by_cases h1 : p <;> by_cases h2 : q <;> simp [b2i, h1, h2]
/-- how many of the first k are not 0 -/
def cB (f : Nat → Int) : Nat → Nat
  | 0 => 0
  | k + 1 => cB f k + (if f k = 0 then 0 else 1)
set_option maxRecDepth 100000 in
theorem cB_le (f : Nat → Int) : ∀ k, cB f k ≤ k
  | 0 => Nat.le_refl 0
  | k + 1 => by
    have := cB_le f k
    unfold cB
    split <;> omega
set_option maxRecDepth 100000 in
theorem cB_out {f : Nat → Int} {j : Nat} (v : Int) : ∀ {k : Nat}, k ≤ j → cB (up1 f j v) k = cB f k
  | 0, _ => rfl
  | k + 1, h => by
    show cB (up1 f j v) k + (if up1 f j v k = 0 then 0 else 1) = cB f k + (if f k = 0 then 0 else 1)
    rw [cB_out v (by omega), up1_ne _ _ (by omega)]
set_option maxRecDepth 100000 in
theorem cB_up {f : Nat → Int} {j : Nat} (h0 : f j = 0) : ∀ {k : Nat}, j < k → cB (up1 f j 1) k = cB f k + 1
  | 0, h => absurd h (Nat.not_lt_zero j)
  | k + 1, h => by
    show cB (up1 f j 1) k + (if up1 f j 1 k = 0 then 0 else 1) = cB f k + (if f k = 0 then 0 else 1) + 1
    by_cases q : j = k
    · subst q
      rw [cB_out 1 (Nat.le_refl _), up1_at, if_neg (by decide), if_pos h0]
    · rw [cB_up h0 (by omega), up1_ne _ _ (by omega)]
      omega
set_option maxRecDepth 100000 in
theorem cB_lt {f : Nat → Int} {j : Nat} (h0 : f j = 0) {k : Nat} (h : j < k) : cB f k < k := by
  have := cB_up h0 h
  have := cB_le (up1 f j 1) k
  omega
abbrev FSt : Type := (Nat → Int) × (Nat → Int) × Nat
abbrev nbX (x : Int) (i : Nat) : Int := x + ((i % 3 : Nat) : Int) - 1
abbrev nbY (y : Int) (i : Nat) : Int := y + ((i / 3 : Nat) : Int) - 1
def flC (T : Nat → Int) (dd : Nat) (dk : Prop) [Decidable dk] (x y : Int) (i : Nat) (s : FSt) : FSt := if inG T dd (nbX x i) (nbY y i) ∧ ¬ (dk ∧ i % 2 = 0) ∧ s.1 (10 * nbY y i + nbX x i).toNat = 0 ∧ (dkP T dd (nbX x i) (nbY y i) ↔ dk) then (up1 s.1 (10 * nbY y i + nbX x i).toNat 1, up1 s.2.1 s.2.2 (10 * nbY y i + nbX x i), s.2.2 + 1) else s
def flN (T : Nat → Int) (dd : Nat) (dk : Prop) [Decidable dk] (x y : Int) : Nat → FSt → FSt
  | 0, s => s
  | i + 1, s => flC T dd dk x y i (flN T dd dk x y i s)
/-- inside still: no place at the rim -/
abbrev insP (T : Nat → Int) (dd : Nat) (x y : Int) : Prop := (1 ≤ x ∧ x ≤ T (bD dd + 1) - 2) ∧ 1 ≤ y ∧ y ≤ T (bD dd + 2) - 2
def flQ (T : Nat → Int) (dd : Nat) (dk : Prop) [Decidable dk] : Nat → Nat → Bool → FSt → Bool × FSt
  | 0, _, b, s => (b, s)
  | f + 1, k, b, s => if k < s.2.2 then flQ T dd dk f (k + 1) (b && decide (insP T dd (s.2.1 k % 10) (s.2.1 k / 10))) (flN T dd dk (s.2.1 k % 10) (s.2.1 k / 10) 9 s) else (b, s)
def flG (T : Nat → Int) (dd : Nat) (dk : Prop) [Decidable dk] (from_ : Int) (been : Nat → Int) : Bool × FSt := flQ T dd dk 101 0 true (up1 been from_.toNat 1, fun _ => from_, 1)
def FQ (q : Nat → Int) (s : FSt) : Prop := ∀ k, k < s.2.2 → q k = s.2.1 k
def FI (T : Nat → Int) (dd : Nat) (s : FSt) : Prop := (∀ k, k < 100 → s.1 k = 0 ∨ s.1 k = 1) ∧ s.2.2 ≤ cB s.1 100 ∧ ∀ k, k < s.2.2 → inG T dd (s.2.1 k % 10) (s.2.1 k / 10) ∧ 0 ≤ s.2.1 k ∧ s.2.1 k ≤ 99
set_option maxRecDepth 100000 in
theorem flC_I {T : Nat → Int} {dd : Nat} {dk : Prop} [Decidable dk] (hW : DsW T dd) {x y : Int} {i : Nat} {s : FSt} (h : FI T dd s) : FI T dd (flC T dd dk x y i s) := by
  unfold flC
  split
  · next q =>
    obtain ⟨⟨⟨q1, q2⟩, q3, q4⟩, -, q5, -⟩ := q
    have := hW.2.1
    have := hW.2.2.1
    generalize nbX x i = nx at *
    generalize nbY y i = ny at *
    have hi : (10 * ny + nx).toNat < 100 := by omega
    refine ⟨fun k hk => ?_, ?_, fun k hk => ?_⟩
    · show up1 s.1 (10 * ny + nx).toNat 1 k = 0 ∨ up1 s.1 (10 * ny + nx).toNat 1 k = 1
      by_cases e : k = (10 * ny + nx).toNat
      · rw [e, up1_at]; exact Or.inr rfl
      · rw [up1_ne _ _ e]; exact h.1 k hk
    · show s.2.2 + 1 ≤ cB (up1 s.1 (10 * ny + nx).toNat 1) 100
      rw [cB_up q5 hi]
      exact Nat.succ_le_succ h.2.1
    · show inG T dd (up1 s.2.1 s.2.2 (10 * ny + nx) k % 10) (up1 s.2.1 s.2.2 (10 * ny + nx) k / 10) ∧ 0 ≤ up1 s.2.1 s.2.2 (10 * ny + nx) k ∧ up1 s.2.1 s.2.2 (10 * ny + nx) k ≤ 99
      have hk : k < s.2.2 + 1 := hk
      by_cases e : k = s.2.2
      · rw [e, up1_at]
        have e1 : (10 * ny + nx) % 10 = nx := by omega
        have e2 : (10 * ny + nx) / 10 = ny := by omega
        rw [e1, e2]
        exact ⟨⟨⟨q1, q2⟩, q3, q4⟩, by omega, by omega⟩
      · rw [up1_ne _ _ e]; exact h.2.2 k (by omega)
  · exact h
set_option maxRecDepth 100000 in
theorem flN_I {T : Nat → Int} {dd : Nat} {dk : Prop} [Decidable dk] (hW : DsW T dd) {x y : Int} : ∀ (i : Nat) {s : FSt}, FI T dd s → FI T dd (flN T dd dk x y i s)
  | 0, _, h => h
  | i + 1, _, h => flC_I hW (flN_I hW i h)
set_option maxRecDepth 100000 in
theorem flQ_I {T : Nat → Int} {dd : Nat} {dk : Prop} [Decidable dk] (hW : DsW T dd) : ∀ (f k : Nat) (b : Bool) {s : FSt}, FI T dd s → FI T dd (flQ T dd dk f k b s).2
  | 0, _, _, _, h => h
  | f + 1, k, b, s, h => by
    unfold flQ
    split
    · exact flQ_I hW f (k + 1) _ (flN_I hW 9 h)
    · exact h
section MFlood
variable {d dd nn : Nat} {i : Int} {m : Mem} {I : Nat → Int} {A L : Nat → Nat → Int} {Q : Nat → Option AV → Mem → Prop}
set_option maxRecDepth 100000 in
theorem f_floodC {dk : Prop} [Decidable dk] (hM : MW m) (hN : NowW (A 3) nn) (hd : dd < nn) (hi : i = (dd : Int)) {x y : Int} {c : Nat} {s : FSt} (hF : FI (A 3) dd s) {q : Nat → Int} (hq : FQ q s) (hx : 0 ≤ x ∧ x ≤ 9) (hy : 0 ≤ y ∧ y ≤ 9) (hc : c < 9) {f : Int} {l4 l6 l10 l11 : Option AV} (h : ∀ (q : Nat → Int) (l10 l11 : Option AV), FQ q (flC (A 3) dd dk x y c s) → Ex (d + 3) M_floods 231 [some (vR aM), some (vI i), some (vI f), some (vI ((flC (A 3) dd dk x y c s).2.2 : Int)), l4, some (vI (b2i dk)), l6, some (vI x), some (vI y), some (vI (c : Int)), l10, l11] [] (MS m I (F2 21 22 A (flC (A 3) dd dk x y c s).1 q) L) Q) : Ex (d + 3) M_floods 121 [some (vR aM), some (vI i), some (vI f), some (vI (s.2.2 : Int)), l4, some (vI (b2i dk)), l6, some (vI x), some (vI y), some (vI (c : Int)), l10, l11] [] (MS m I (F2 21 22 A s.1 q) L) Q := by
  have hn6 := hN.1
  have hW := hN.2.2.2 dd hd
  have hw := hW.2.1
  have hh := hW.2.2.1
  have e1 : iRem (c : Int) 3 = ((c % 3 : Nat) : Int) := by rw [iRem_nn (by omega) (by omega) (by omega) (by omega)]; rfl
  have e2 : iDiv (c : Int) 3 = ((c / 3 : Nat) : Int) := by rw [iDiv_nn (by omega) (by omega) (by omega) (by omega)]; rfl
  have e3 : iRem (c : Int) 2 = ((c % 2 : Nat) : Int) := by rw [iRem_nn (by omega) (by omega) (by omega) (by omega)]; rfl
  have onx : okI (nbX x c) := by unfold okI nbX; omega
  have ony : okI (nbY y c) := by unfold okI nbY; omega
  have bnx : -1 ≤ nbX x c ∧ nbX x c ≤ 11 := by unfold nbX; omega
  have bny : -1 ≤ nbY y c ∧ nbY y c ≤ 11 := by unfold nbY; omega
  have ei : (0 ≤ i ∧ i < (nn : Int)) := by omega
  have eit : i.toNat = dd := by omega
  unfold flC at h
  have hfm := cB_le s.1 100
  have hf1 := hF.1
  have hf2 := hF.2.1
  have hne : ¬ (inG (A 3) dd (nbX x c) (nbY y c) ∧ ¬ (dk ∧ c % 2 = 0) ∧ s.1 (10 * nbY y c + nbX x c).toNat = 0 ∧ (dkP (A 3) dd (nbX x c) (nbY y c) ↔ dk)) → Ex (d + 3) M_floods 231 [some (vR aM), some (vI i), some (vI f), some (vI (s.2.2 : Int)), l4, some (vI (b2i dk)), l6, some (vI x), some (vI y), some (vI (c : Int)), some (vI (nbX x c)), some (vI (nbY y c))] [] (MS m I (F2 21 22 A s.1 q) L) Q := by
    intro hz
    rw [if_neg hz] at h
    exact h _ _ _ hq
  have h200 : (inG (A 3) dd (nbX x c) (nbY y c) ∧ ¬ (dk ∧ c % 2 = 0) ∧ s.1 (10 * nbY y c + nbX x c).toNat = 0 ∧ (dkP (A 3) dd (nbX x c) (nbY y c) ↔ dk)) → Ex (d + 3) M_floods 200 [some (vR aM), some (vI i), some (vI f), some (vI (s.2.2 : Int)), l4, some (vI (b2i dk)), l6, some (vI x), some (vI y), some (vI (c : Int)), some (vI (nbX x c)), some (vI (nbY y c))] [] (MS m I (F2 21 22 A s.1 q) L) Q := by
    intro hz
    rw [if_pos hz] at h
    obtain ⟨⟨⟨q1, q2⟩, q3, q4⟩, -, q5, -⟩ := hz
    have hlt := cB_lt (k := 100) q5 (by omega)
    have hx := h (up1 q s.2.2 (10 * nbY y c + nbX x c)) (some (vI (nbX x c))) (some (vI (nbY y c))) (fun k hk => by
      have hk : k < s.2.2 + 1 := hk
      show up1 q s.2.2 (10 * nbY y c + nbX x c) k = up1 s.2.1 s.2.2 (10 * nbY y c + nbX x c) k
      by_cases e : k = s.2.2
      · rw [e, up1_at, up1_at]
      · rw [up1_ne _ _ e, up1_ne _ _ e]
        exact hq k (by omega))
    rw [show ((s.2.2 + 1 : Nat) : Int) = (s.2.2 : Int) + 1 from rfl] at hx
    refine Ex_step (tk_M_floods rfl) ?_
    refine gMR (tk_M_floods rfl) hM hM.r34 ?_
    refine Ex_step (tk_M_floods rfl) ?_
    refine Ex_step (tk_M_floods rfl) ?_
    refine Ex_step (tk_M_floods rfl) ?_
    refine Ex_step (tk_M_floods rfl) ?_
    refine Ex_step (tk_M_floods rfl) ?_
    refine Ex_step (tk_M_floods rfl) ?_
    refine tMZ (j := 21) (n := (10 * nbY y c + nbX x c).toNat) (tk_M_floods rfl) (by decide) hM.k21 hM.n21 (by rw [w32_id (by omega) (by omega)]; omega) (by omega) (Or.inr rfl) ?_
    rw [F2_a, F2_wa]
    refine Ex_step (tk_M_floods rfl) ?_
    refine gMR (tk_M_floods rfl) hM hM.r35 ?_
    refine Ex_step (tk_M_floods rfl) ?_
    refine Ex_step (tk_M_floods rfl) ?_
    refine Ex_step (tk_M_floods rfl) ?_
    refine Ex_step (tk_M_floods rfl) ?_
    refine Ex_step (tk_M_floods rfl) ?_
    refine Ex_step (tk_M_floods rfl) ?_
    refine tMI (j := 22) (n := s.2.2) (tk_M_floods rfl) (by decide) hM.k22 hM.n22 (w32_id (by omega) (by omega)) (by omega) ?_
    rw [F2_b (by decide), F2_wb (by decide)]
    refine Ex_step (tk_M_floods rfl) ?_
    exact hx
  generalize hnx : nbX x c = nx at *
  generalize hny : nbY y c = ny at *
  have h143 : Ex (d + 3) M_floods 143 [some (vR aM), some (vI i), some (vI f), some (vI (s.2.2 : Int)), l4, some (vI (b2i dk)), l6, some (vI x), some (vI y), some (vI (c : Int)), some (vI nx), some (vI ny)] [] (MS m I (F2 21 22 A s.1 q) L) Q := by
    by_cases q1 : inG (A 3) dd nx ny
    · have q1' := q1
      obtain ⟨⟨r1, r2⟩, r3, r4⟩ := q1'
      have hb := hf1 (10 * ny + nx).toNat (by omega)
      refine Ex_step (tk_M_floods rfl) ?_
      refine Ex_step (tk_M_floods rfl) ?_
      refine Ex_step (tk_M_floods rfl) ?_
      refine Ex_step (tk_M_floods rfl) ?_
      refine Ex_cV0 (av := [vI i, vI nx, vI ny]) (tk_M_floods rfl) mk_M_isCell ⟨rfl, rfl, by decide, rfl, Nat.le_of_ble_eq_true rfl, Nat.le_of_ble_eq_true rfl⟩ (hM.k) (fun _ h => f_isCell (A := F2 21 22 A s.1 q) hM hN (by unfold okI; omega) onx ony h) ?_
      refine Ex_step (tk_M_floods rfl) ⟨fun h152 => ?_, fun h152 => ?_⟩
      · try simp (disch := omega) only [cmpI, w32_b2i, b2i_0, b2i_1, b2i_eq, w32_id, Classical.not_not, not_true_eq_false, not_false_eq_true] at h152
        exact hne (fun z => by first | exact h152 ⟨ei, by rw [eit]; exact q1⟩ | exact z.2.1 ⟨h157, by omega⟩ | (have z2 := z.2.2.1; omega) | exact h194 z.2.2.2)
      · try simp (disch := omega) only [cmpI, w32_b2i, b2i_0, b2i_1, b2i_eq, w32_id, Classical.not_not, not_true_eq_false, not_false_eq_true] at h152
        refine Ex_step (tk_M_floods rfl) ?_
        refine Ex_step (tk_M_floods rfl) ⟨fun h157 => ?_, fun h157 => ?_⟩
        · try simp (disch := omega) only [cmpI, w32_b2i, b2i_0, b2i_1, b2i_eq, w32_id, Classical.not_not, not_true_eq_false, not_false_eq_true] at h157
          refine Ex_step (tk_M_floods rfl) ?_
          refine gMR (tk_M_floods rfl) hM hM.r34 ?_
          refine Ex_step (tk_M_floods rfl) ?_
          refine Ex_step (tk_M_floods rfl) ?_
          refine Ex_step (tk_M_floods rfl) ?_
          refine Ex_step (tk_M_floods rfl) ?_
          refine Ex_step (tk_M_floods rfl) ?_
          refine lMZ (j := 21) (n := (10 * ny + nx).toNat) (tk_M_floods rfl) (by decide) hM.k21 hM.n21 (by rw [w32_id (by omega) (by omega)]; omega) (by omega) ?_
          rw [F2_a]
          refine Ex_step (tk_M_floods rfl) ⟨fun h180 => ?_, fun h180 => ?_⟩
          · try simp (disch := omega) only [cmpI, w32_b2i, b2i_0, b2i_1, b2i_eq, w32_id, Classical.not_not, not_true_eq_false, not_false_eq_true] at h180
            exact hne (fun z => by first | exact h152 ⟨ei, by rw [eit]; exact q1⟩ | exact z.2.1 ⟨h157, by omega⟩ | (have z2 := z.2.2.1; omega) | exact h194 z.2.2.2)
          · try simp (disch := omega) only [cmpI, w32_b2i, b2i_0, b2i_1, b2i_eq, w32_id, Classical.not_not, not_true_eq_false, not_false_eq_true] at h180
            refine Ex_step (tk_M_floods rfl) ?_
            refine Ex_step (tk_M_floods rfl) ?_
            refine Ex_step (tk_M_floods rfl) ?_
            refine Ex_step (tk_M_floods rfl) ?_
            refine Ex_cV0 (av := [vI i, vI nx, vI ny]) (tk_M_floods rfl) mk_M_isDark ⟨rfl, rfl, by decide, rfl, Nat.le_of_ble_eq_true rfl, Nat.le_of_ble_eq_true rfl⟩ (hM.k) (fun _ h => f_isDark (A := F2 21 22 A s.1 q) hM (show dd ≤ 5 by omega) hi hW onx ony h) ?_
            refine Ex_step (tk_M_floods rfl) ?_
            refine Ex_step (tk_M_floods rfl) ⟨fun h194 => ?_, fun h194 => ?_⟩
            · try simp (disch := omega) only [cmpI, w32_b2i, b2i_0, b2i_1, b2i_eq, w32_id, Classical.not_not, not_true_eq_false, not_false_eq_true] at h194
              exact h200 ⟨q1, fun z => by first | exact h157 z.1 | (have := z.2; omega), by omega, h194⟩
            · try simp (disch := omega) only [cmpI, w32_b2i, b2i_0, b2i_1, b2i_eq, w32_id, Classical.not_not, not_true_eq_false, not_false_eq_true] at h194
              refine Ex_step (tk_M_floods rfl) ?_
              exact hne (fun z => by first | exact h152 ⟨ei, by rw [eit]; exact q1⟩ | exact z.2.1 ⟨h157, by omega⟩ | (have z2 := z.2.2.1; omega) | exact h194 z.2.2.2)
        · try simp (disch := omega) only [cmpI, w32_b2i, b2i_0, b2i_1, b2i_eq, w32_id, Classical.not_not, not_true_eq_false, not_false_eq_true] at h157
          refine Ex_step (tk_M_floods rfl) ?_
          refine Ex_step (tk_M_floods rfl) ?_
          refine Ex_step (tk_M_floods rfl) ⟨by decide, ?_⟩
          rw [e3]
          refine Ex_step (tk_M_floods rfl) ⟨fun h164 => ?_, fun h164 => ?_⟩
          · try simp (disch := omega) only [cmpI, w32_b2i, b2i_0, b2i_1, b2i_eq, w32_id, Classical.not_not, not_true_eq_false, not_false_eq_true] at h164
            exact hne (fun z => by first | exact h152 ⟨ei, by rw [eit]; exact q1⟩ | exact z.2.1 ⟨h157, by omega⟩ | (have z2 := z.2.2.1; omega) | exact h194 z.2.2.2)
          · try simp (disch := omega) only [cmpI, w32_b2i, b2i_0, b2i_1, b2i_eq, w32_id, Classical.not_not, not_true_eq_false, not_false_eq_true] at h164
            refine Ex_step (tk_M_floods rfl) ?_
            refine gMR (tk_M_floods rfl) hM hM.r34 ?_
            refine Ex_step (tk_M_floods rfl) ?_
            refine Ex_step (tk_M_floods rfl) ?_
            refine Ex_step (tk_M_floods rfl) ?_
            refine Ex_step (tk_M_floods rfl) ?_
            refine Ex_step (tk_M_floods rfl) ?_
            refine lMZ (j := 21) (n := (10 * ny + nx).toNat) (tk_M_floods rfl) (by decide) hM.k21 hM.n21 (by rw [w32_id (by omega) (by omega)]; omega) (by omega) ?_
            rw [F2_a]
            refine Ex_step (tk_M_floods rfl) ⟨fun h180 => ?_, fun h180 => ?_⟩
            · try simp (disch := omega) only [cmpI, w32_b2i, b2i_0, b2i_1, b2i_eq, w32_id, Classical.not_not, not_true_eq_false, not_false_eq_true] at h180
              exact hne (fun z => by first | exact h152 ⟨ei, by rw [eit]; exact q1⟩ | exact z.2.1 ⟨h157, by omega⟩ | (have z2 := z.2.2.1; omega) | exact h194 z.2.2.2)
            · try simp (disch := omega) only [cmpI, w32_b2i, b2i_0, b2i_1, b2i_eq, w32_id, Classical.not_not, not_true_eq_false, not_false_eq_true] at h180
              refine Ex_step (tk_M_floods rfl) ?_
              refine Ex_step (tk_M_floods rfl) ?_
              refine Ex_step (tk_M_floods rfl) ?_
              refine Ex_step (tk_M_floods rfl) ?_
              refine Ex_cV0 (av := [vI i, vI nx, vI ny]) (tk_M_floods rfl) mk_M_isDark ⟨rfl, rfl, by decide, rfl, Nat.le_of_ble_eq_true rfl, Nat.le_of_ble_eq_true rfl⟩ (hM.k) (fun _ h => f_isDark (A := F2 21 22 A s.1 q) hM (show dd ≤ 5 by omega) hi hW onx ony h) ?_
              refine Ex_step (tk_M_floods rfl) ?_
              refine Ex_step (tk_M_floods rfl) ⟨fun h194 => ?_, fun h194 => ?_⟩
              · try simp (disch := omega) only [cmpI, w32_b2i, b2i_0, b2i_1, b2i_eq, w32_id, Classical.not_not, not_true_eq_false, not_false_eq_true] at h194
                exact h200 ⟨q1, fun z => by first | exact h157 z.1 | (have := z.2; omega), by omega, h194⟩
              · try simp (disch := omega) only [cmpI, w32_b2i, b2i_0, b2i_1, b2i_eq, w32_id, Classical.not_not, not_true_eq_false, not_false_eq_true] at h194
                refine Ex_step (tk_M_floods rfl) ?_
                exact hne (fun z => by first | exact h152 ⟨ei, by rw [eit]; exact q1⟩ | exact z.2.1 ⟨h157, by omega⟩ | (have z2 := z.2.2.1; omega) | exact h194 z.2.2.2)
    · refine Ex_step (tk_M_floods rfl) ?_
      refine Ex_step (tk_M_floods rfl) ?_
      refine Ex_step (tk_M_floods rfl) ?_
      refine Ex_step (tk_M_floods rfl) ?_
      refine Ex_cV0 (av := [vI i, vI nx, vI ny]) (tk_M_floods rfl) mk_M_isCell ⟨rfl, rfl, by decide, rfl, Nat.le_of_ble_eq_true rfl, Nat.le_of_ble_eq_true rfl⟩ (hM.k) (fun _ h => f_isCell (A := F2 21 22 A s.1 q) hM hN (by unfold okI; omega) onx ony h) ?_
      refine Ex_step (tk_M_floods rfl) ⟨fun h152 => ?_, fun h152 => ?_⟩
      · try simp (disch := omega) only [cmpI, w32_b2i, b2i_0, b2i_1, b2i_eq, w32_id, Classical.not_not, not_true_eq_false, not_false_eq_true] at h152
        exact hne (fun z => q1 z.1)
      · try simp (disch := omega) only [cmpI, w32_b2i, b2i_0, b2i_1, b2i_eq, w32_id, Classical.not_not, not_true_eq_false, not_false_eq_true] at h152
        exact absurd (by have := h152.2; rw [eit] at this; exact this) q1
  refine Ex_step (tk_M_floods rfl) ?_
  refine Ex_step (tk_M_floods rfl) ?_
  refine Ex_step (tk_M_floods rfl) ?_
  refine Ex_step (tk_M_floods rfl) ⟨by decide, ?_⟩
  rw [e1]
  refine Ex_step (tk_M_floods rfl) ?_
  refine Ex_step (tk_M_floods rfl) ?_
  refine Ex_step (tk_M_floods rfl) ?_
  refine Ex_step (tk_M_floods rfl) ?_
  refine Ex_step (tk_M_floods rfl) ?_
  refine Ex_step (tk_M_floods rfl) ?_
  refine Ex_step (tk_M_floods rfl) ?_
  refine Ex_step (tk_M_floods rfl) ⟨by decide, ?_⟩
  rw [e2]
  refine Ex_step (tk_M_floods rfl) ?_
  refine Ex_step (tk_M_floods rfl) ?_
  refine Ex_step (tk_M_floods rfl) ?_
  refine Ex_step (tk_M_floods rfl) ?_
  rw [show x + ((c % 3 : Nat) : Int) - 1 = nx from hnx, show y + ((c / 3 : Nat) : Int) - 1 = ny from hny]
  exact h143
end MFlood
