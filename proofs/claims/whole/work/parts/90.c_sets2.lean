/-! ===== the class: sets of cells, all of them ===== -/
section CSets2
variable {d b s dd : Nat} {x y : Int} {T : Nat → Int} {m : Mem} {F A L : Nat → Nat → Int} {z : FSt} {Q : Nat → Option AV → Mem → Prop}
set_option maxRecDepth 100000 in
theorem c_walkN {dk : Prop} [Decidable dk] (hS : SW m s) (hE : DW m b) (hsb : s + 6 ≤ b ∨ b + 3 ≤ s + 4) (hG : DG F A b (T (bD dd + 1)) (T (bD dd + 2)) (srt T dd)) (hW : DsW T dd) (hI : FI T dd z) (hx : 0 ≤ x ∧ x ≤ 9) (hy : 0 ≤ y ∧ y ≤ 9) (hb : z.1 (10 * y + x).toNat ≠ 0) {u2 u3 : Int} {l5 l6 : Option AV} (hq : ∀ (F' A' : Nat → Nat → Int) (l9 l10 l11 l12 : Option AV), SF s F F' A A' → RS F' A' s (flN T dd dk x y 9 z) → Ex (d + 3) Shp_walkSet 197 [some (vR s), some (vR b), some (vI u2), some (vI u3), some (vI (b2i dk)), l5, l6, some (vI x), some (vI y), l9, l10, l11, l12] [] (CM m F' A' L) Q) : ∀ (r c : Nat) (F' A' : Nat → Nat → Int) (l10 l11 l12 : Option AV), c + r = 9 → SF s F F' A A' → RS F' A' s (flN T dd dk x y c z) → Ex (d + 3) Shp_walkSet 107 [some (vR s), some (vR b), some (vI u2), some (vI u3), some (vI (b2i dk)), l5, l6, some (vI x), some (vI y), some (vI (c : Int)), l10, l11, l12] [] (CM m F' A' L) Q := by
  intro r
  induction r with
  | zero =>
    intro c F' A' l10 l11 l12 hc k1 k2
    have : c = 9 := by omega
    subst this
    refine Ex_step (tk_Shp_walkSet rfl) ?_
    refine Ex_step (tk_Shp_walkSet rfl) ?_
    refine Ex_step (tk_Shp_walkSet rfl) ⟨fun h111 => ?_, fun h111 => ?_⟩
    · replace h111 : _ := h111
      exact hq F' A' _ _ _ _ k1 k2
    · replace h111 : _ := h111
      exact absurd (show w32 9 ≤ w32 9 from Int.le_refl _) h111
  | succ r ih =>
    intro c F' A' l10 l11 l12 hc k1 k2
    have h191 : ∀ (F2 A2 : Nat → Nat → Int) (l10 l11 l12 : Option AV), SF s F' F2 A' A2 → RS F2 A2 s (flC T dd dk x y c (flN T dd dk x y c z)) → Ex (d + 3) Shp_walkSet 191 [some (vR s), some (vR b), some (vI u2), some (vI u3), some (vI (b2i dk)), l5, l6, some (vI x), some (vI y), some (vI (c : Int)), l10, l11, l12] [] (CM m F2 A2 L) Q := by
      intro F2 A2 l10 l11 l12 q1 q2
      have hnx := ih (c + 1) F2 A2 l10 l11 l12 (by omega) (k1.tr q1) q2
      refine Ex_step (tk_Shp_walkSet rfl) ?_
      refine Ex_step (tk_Shp_walkSet rfl) ?_
      exact hnx
    refine Ex_step (tk_Shp_walkSet rfl) ?_
    refine Ex_step (tk_Shp_walkSet rfl) ?_
    refine Ex_step (tk_Shp_walkSet rfl) ⟨fun h111 => ?_, fun h111 => ?_⟩
    · try simp (disch := omega) only [cmpI, w32_b2i, b2i_0, b2i_1, w32_id, Classical.not_not, not_true_eq_false, not_false_eq_true] at h111
      omega
    · try simp (disch := omega) only [cmpI, w32_b2i, b2i_0, b2i_1, w32_id, Classical.not_not, not_true_eq_false, not_false_eq_true] at h111
      exact c_walkC hS hE hsb (k1.dg hsb hG) hW k2 (flN_I hW c hI) (by omega) hx hy (flN_keep c hb) h191
set_option maxRecDepth 100000 in
theorem c_walkQ {dk : Prop} [Decidable dk] (hS : SW m s) (hE : DW m b) (hsb : s + 6 ≤ b ∨ b + 3 ≤ s + 4) (hG : DG F A b (T (bD dd + 1)) (T (bD dd + 2)) (srt T dd)) (hW : DsW T dd) {u2 u3 : Int} : ∀ (f k : Nat) (v : Bool) (z : FSt) (F' A' : Nat → Nat → Int) (l7 l8 l9 l10 l11 l12 : Option AV), SF s F F' A A' → FI T dd z → FK z → RS F' A' s z → 101 ≤ f + k → k ≤ 100 → (∀ F' A' : Nat → Nat → Int, SF s F F' A A' → RS F' A' s (flQ T dd dk f k v z).2 → Q 0 (some (vI (b2i (¬ (flQ T dd dk f k v z).1 = true)))) (CM m F' A' L)) → Ex (d + 3) Shp_walkSet 17 [some (vR s), some (vR b), some (vI u2), some (vI u3), some (vI (b2i dk)), some (vI (b2i (¬ v = true))), some (vI (k : Int)), l7, l8, l9, l10, l11, l12] [] (CM m F' A' L) Q := by
  have hw := hW.2.1
  have hh := hW.2.2.1
  have hk9 := hS.1
  have hr578 := hS.2.2.2.2.2.1
  have hk3 := hE.1
  intro f
  induction f with
  | zero => intro k v z F' A' l7 l8 l9 l10 l11 l12 k1 hI hK hR hf hk; omega
  | succ f ih =>
    intro k v z F' A' l7 l8 l9 l10 l11 l12 k1 hI hK hR hf hk h
    have hm := hI.2.1
    have hm2 := cB_le z.1 100
    have hG2 := k1.dg hsb hG
    have h3 := hR.2.2
    unfold flQ at h
    by_cases hlt : k < z.2.2
    · rw [if_pos hlt] at h
      obtain ⟨⟨⟨g1, g2⟩, g3, g4⟩, g5, g6⟩ := hI.2.2 k hlt
      have hqk := hR.2.1 k hlt
      have hb := hK k hlt
      have e1 : iRem (z.2.1 k) 10 = z.2.1 k % 10 := iRem_nn (by omega) (by omega) (by omega) (by omega)
      have e2 : iDiv (z.2.1 k) 10 = z.2.1 k / 10 := iDiv_nn (by omega) (by omega) (by omega) (by omega)
      have e3 : z.2.1 k = 10 * (z.2.1 k / 10) + z.2.1 k % 10 := by omega
      rw [e3] at hb
      generalize z.2.1 k % 10 = x at *
      generalize z.2.1 k / 10 = y at *
      have h197 : ∀ (F2 A2 : Nat → Nat → Int) (l9 l10 l11 l12 : Option AV), SF s F' F2 A' A2 → RS F2 A2 s (flN T dd dk x y 9 z) → Ex (d + 3) Shp_walkSet 197 [some (vR s), some (vR b), some (vI u2), some (vI u3), some (vI (b2i dk)), some (vI (b2i (¬ (v && decide (insP T dd x y)) = true))), some (vI (k : Int)), some (vI x), some (vI y), l9, l10, l11, l12] [] (CM m F2 A2 L) Q := by
        intro F2 A2 l9 l10 l11 l12 q1 q2
        have hnx := ih (k + 1) (v && decide (insP T dd x y)) (flN T dd dk x y 9 z) F2 A2 (some (vI x)) (some (vI y)) l9 l10 l11 l12 (k1.tr q1) (flN_I hW 9 hI) (flN_K 9 hK) q2 (by omega) (by omega) h
        refine Ex_step (tk_Shp_walkSet rfl) ?_
        refine Ex_step (tk_Shp_walkSet rfl) ?_
        exact hnx
      have h102 : ∀ u : Int, u = b2i (¬ (v && decide (insP T dd x y)) = true) → Ex (d + 3) Shp_walkSet 102 [some (vR s), some (vR b), some (vI u2), some (vI u3), some (vI (b2i dk)), some (vI (b2i (¬ v = true))), some (vI (k : Int)), some (vI x), some (vI y), l9, l10, l11, l12] [vI u] (CM m F' A' L) Q := by
        intro u hu
        subst hu
        have h107 := c_walkN (d := d) (u2 := u2) (u3 := u3) (l6 := some (vI (k : Int))) hS hE hsb hG2 hW hI (x := x) (y := y) (by omega) (by omega) hb h197 9 0 F' A' l10 l11 l12 (by omega) (SF.rf s F' A') hR
        refine Ex_step (tk_Shp_walkSet rfl) ?_
        refine Ex_step (tk_Shp_walkSet rfl) ?_
        refine Ex_step (tk_Shp_walkSet rfl) ?_
        exact h107
      have en : (¬ (v && decide (insP T dd x y)) = true) ↔ (¬ v = true ∨ x = 0 ∨ y = 0 ∨ x = T (bD dd + 1) - 1 ∨ y = T (bD dd + 2) - 1) := by
        rw [Bool.and_eq_true, decide_eq_true_iff]
        constructor
        · intro q
          by_cases hv : v = true
          · exact Or.inr (Classical.byContradiction fun w => q ⟨hv, ⟨by omega, by omega⟩, by omega, by omega⟩)
          · exact Or.inl hv
        · rintro (q | q) ⟨w1, ⟨w2, w3⟩, w4, w5⟩
          · exact q w1
          · omega
      refine Ex_step (tk_Shp_walkSet rfl) ?_
      refine Ex_step (tk_Shp_walkSet rfl) ?_
      refine gCI (tk_Shp_walkSet rfl) (hk9) ?_
      rw [h3]
      refine Ex_step (tk_Shp_walkSet rfl) ⟨fun h23 => ?_, fun h23 => ?_⟩
      · try simp (disch := omega) only [cmpI, w32_b2i, b2i_0, b2i_1, w32_id, Classical.not_not, not_true_eq_false, not_false_eq_true] at h23
        omega
      · try simp (disch := omega) only [cmpI, w32_b2i, b2i_0, b2i_1, w32_id, Classical.not_not, not_true_eq_false, not_false_eq_true] at h23
        refine Ex_step (tk_Shp_walkSet rfl) ?_
        refine Ex_step (tk_Shp_walkSet rfl) ?_
        refine gCR (tk_Shp_walkSet rfl) (hk9) (hr578) ?_
        refine lenC (tk_Shp_walkSet rfl) hS.2.2.2.2.2.2 ?_
        refine Ex_step (tk_Shp_walkSet rfl) ⟨fun h33 => ?_, fun h33 => ?_⟩
        · try simp (disch := omega) only [cmpI, w32_b2i, b2i_0, b2i_1, w32_id, Classical.not_not, not_true_eq_false, not_false_eq_true] at h33
          omega
        · try simp (disch := omega) only [cmpI, w32_b2i, b2i_0, b2i_1, w32_id, Classical.not_not, not_true_eq_false, not_false_eq_true] at h33
          refine Ex_step (tk_Shp_walkSet rfl) ?_
          refine gCR (tk_Shp_walkSet rfl) (hk9) (hr578) ?_
          refine Ex_step (tk_Shp_walkSet rfl) ?_
          refine lCI (n := k) (tk_Shp_walkSet rfl) (hS.2.2.2.2.2.2) (w32_id (by omega) (by omega)) (by omega) ?_
          rw [hqk]
          refine Ex_step (tk_Shp_walkSet rfl) ?_
          refine Ex_step (tk_Shp_walkSet rfl) ⟨by decide, ?_⟩
          rw [e1]
          refine Ex_step (tk_Shp_walkSet rfl) ?_
          refine Ex_step (tk_Shp_walkSet rfl) ?_
          refine gCR (tk_Shp_walkSet rfl) (hk9) (hr578) ?_
          refine Ex_step (tk_Shp_walkSet rfl) ?_
          refine lCI (n := k) (tk_Shp_walkSet rfl) (hS.2.2.2.2.2.2) (w32_id (by omega) (by omega)) (by omega) ?_
          rw [hqk]
          refine Ex_step (tk_Shp_walkSet rfl) ?_
          refine Ex_step (tk_Shp_walkSet rfl) ⟨by decide, ?_⟩
          rw [e2]
          refine Ex_step (tk_Shp_walkSet rfl) ?_
          refine Ex_step (tk_Shp_walkSet rfl) ?_
          refine Ex_step (tk_Shp_walkSet rfl) ⟨fun h62 => ?_, fun h62 => ?_⟩
          · try simp (disch := omega) only [cmpI, w32_b2i, b2i_0, b2i_1, w32_id, Classical.not_not, not_true_eq_false, not_false_eq_true] at h62
            have hx := h102 1 (b2i_t (en.mpr (by first | exact Or.inl h62 | exact Or.inr (Or.inl h67) | exact Or.inr (Or.inr (Or.inl h72)) | exact Or.inr (Or.inr (Or.inr (Or.inl h83))) | exact Or.inr (Or.inr (Or.inr (Or.inr h94)))))).symm
            refine Ex_step (tk_Shp_walkSet rfl) ?_
            refine Ex_step (tk_Shp_walkSet rfl) ?_
            exact hx
          · try simp (disch := omega) only [cmpI, w32_b2i, b2i_0, b2i_1, w32_id, Classical.not_not, not_true_eq_false, not_false_eq_true] at h62
            refine Ex_step (tk_Shp_walkSet rfl) ?_
            refine Ex_step (tk_Shp_walkSet rfl) ⟨fun h67 => ?_, fun h67 => ?_⟩
            · try simp (disch := omega) only [cmpI, w32_b2i, b2i_0, b2i_1, w32_id, Classical.not_not, not_true_eq_false, not_false_eq_true] at h67
              have hx := h102 1 (b2i_t (en.mpr (by first | exact Or.inl h62 | exact Or.inr (Or.inl h67) | exact Or.inr (Or.inr (Or.inl h72)) | exact Or.inr (Or.inr (Or.inr (Or.inl h83))) | exact Or.inr (Or.inr (Or.inr (Or.inr h94)))))).symm
              refine Ex_step (tk_Shp_walkSet rfl) ?_
              refine Ex_step (tk_Shp_walkSet rfl) ?_
              exact hx
            · try simp (disch := omega) only [cmpI, w32_b2i, b2i_0, b2i_1, w32_id, Classical.not_not, not_true_eq_false, not_false_eq_true] at h67
              refine Ex_step (tk_Shp_walkSet rfl) ?_
              refine Ex_step (tk_Shp_walkSet rfl) ⟨fun h72 => ?_, fun h72 => ?_⟩
              · try simp (disch := omega) only [cmpI, w32_b2i, b2i_0, b2i_1, w32_id, Classical.not_not, not_true_eq_false, not_false_eq_true] at h72
                have hx := h102 1 (b2i_t (en.mpr (by first | exact Or.inl h62 | exact Or.inr (Or.inl h67) | exact Or.inr (Or.inr (Or.inl h72)) | exact Or.inr (Or.inr (Or.inr (Or.inl h83))) | exact Or.inr (Or.inr (Or.inr (Or.inr h94)))))).symm
                refine Ex_step (tk_Shp_walkSet rfl) ?_
                refine Ex_step (tk_Shp_walkSet rfl) ?_
                exact hx
              · try simp (disch := omega) only [cmpI, w32_b2i, b2i_0, b2i_1, w32_id, Classical.not_not, not_true_eq_false, not_false_eq_true] at h72
                refine Ex_step (tk_Shp_walkSet rfl) ?_
                refine Ex_step (tk_Shp_walkSet rfl) ?_
                refine gCI (tk_Shp_walkSet rfl) (hk3) ?_
                rw [hG2.1]
                refine Ex_step (tk_Shp_walkSet rfl) ?_
                refine Ex_step (tk_Shp_walkSet rfl) ?_
                refine Ex_step (tk_Shp_walkSet rfl) ⟨fun h83 => ?_, fun h83 => ?_⟩
                · try simp (disch := omega) only [cmpI, w32_b2i, b2i_0, b2i_1, w32_id, Classical.not_not, not_true_eq_false, not_false_eq_true] at h83
                  have hx := h102 1 (b2i_t (en.mpr (by first | exact Or.inl h62 | exact Or.inr (Or.inl h67) | exact Or.inr (Or.inr (Or.inl h72)) | exact Or.inr (Or.inr (Or.inr (Or.inl h83))) | exact Or.inr (Or.inr (Or.inr (Or.inr h94)))))).symm
                  refine Ex_step (tk_Shp_walkSet rfl) ?_
                  refine Ex_step (tk_Shp_walkSet rfl) ?_
                  exact hx
                · try simp (disch := omega) only [cmpI, w32_b2i, b2i_0, b2i_1, w32_id, Classical.not_not, not_true_eq_false, not_false_eq_true] at h83
                  refine Ex_step (tk_Shp_walkSet rfl) ?_
                  refine Ex_step (tk_Shp_walkSet rfl) ?_
                  refine gCI (tk_Shp_walkSet rfl) (hk3) ?_
                  rw [hG2.2.1]
                  refine Ex_step (tk_Shp_walkSet rfl) ?_
                  refine Ex_step (tk_Shp_walkSet rfl) ?_
                  refine Ex_step (tk_Shp_walkSet rfl) ⟨fun h94 => ?_, fun h94 => ?_⟩
                  · try simp (disch := omega) only [cmpI, w32_b2i, b2i_0, b2i_1, w32_id, Classical.not_not, not_true_eq_false, not_false_eq_true] at h94
                    have hx := h102 0 (b2i_f (fun w => by rcases en.mp w with q | q | q | q | q; exact q h62; exact h67 q; exact h72 q; exact h83 q; exact h94 q)).symm
                    refine Ex_step (tk_Shp_walkSet rfl) ?_
                    exact hx
                  · try simp (disch := omega) only [cmpI, w32_b2i, b2i_0, b2i_1, w32_id, Classical.not_not, not_true_eq_false, not_false_eq_true] at h94
                    have hx := h102 1 (b2i_t (en.mpr (by first | exact Or.inl h62 | exact Or.inr (Or.inl h67) | exact Or.inr (Or.inr (Or.inl h72)) | exact Or.inr (Or.inr (Or.inr (Or.inl h83))) | exact Or.inr (Or.inr (Or.inr (Or.inr h94)))))).symm
                    refine Ex_step (tk_Shp_walkSet rfl) ?_
                    refine Ex_step (tk_Shp_walkSet rfl) ?_
                    exact hx
    · rw [if_neg hlt] at h
      have hh2 := h F' A' k1 hR
      refine Ex_step (tk_Shp_walkSet rfl) ?_
      refine Ex_step (tk_Shp_walkSet rfl) ?_
      refine gCI (tk_Shp_walkSet rfl) (hk9) ?_
      rw [h3]
      refine Ex_step (tk_Shp_walkSet rfl) ⟨fun h23 => ?_, fun h23 => ?_⟩
      · try simp (disch := omega) only [cmpI, w32_b2i, b2i_0, b2i_1, w32_id, Classical.not_not, not_true_eq_false, not_false_eq_true] at h23
        refine Ex_step (tk_Shp_walkSet rfl) ?_
        refine Ex_step (tk_Shp_walkSet rfl) ⟨rfl, by first | exact Or.inl rfl | exact Or.inr rfl | exact b2i_01 _ | assumption, ?_⟩
        exact hh2
      · try simp (disch := omega) only [cmpI, w32_b2i, b2i_0, b2i_1, w32_id, Classical.not_not, not_true_eq_false, not_false_eq_true] at h23
        omega
set_option maxRecDepth 100000 in
theorem c_walkSet {dk : Prop} [Decidable dk] (hS : SW m s) (hE : DW m b) (hsb : s + 6 ≤ b ∨ b + 3 ≤ s + 4) (hG : DG F A b (T (bD dd + 1)) (T (bD dd + 2)) (srt T dd)) (hW : DsW T dd) {xn yn : Nat} (hx : (xn : Int) < T (bD dd + 1)) (hy : (yn : Int) < T (bD dd + 2)) {be : Nat → Int} (hbe : BE be) (hb0 : be (10 * yn + xn) = 0) (hR : RB A s be) (hq : ∀ F' A' : Nat → Nat → Int, SF s F F' A A' → RB A' s (flG T dd dk ((10 * yn + xn : Nat) : Int) be).2.1 → Q 0 (some (vI (b2i (¬ (flG T dd dk ((10 * yn + xn : Nat) : Int) be).1 = true)))) (CM m F' A' L)) : Ex (d + 3) Shp_walkSet 0 [some (vR s), some (vR b), some (vI (xn : Int)), some (vI (yn : Int)), some (vI (b2i dk)), none, none, none, none, none, none, none, none] [] (CM m F A L) Q := by
  have hw := hW.2.1
  have hh := hW.2.2.1
  have hk9 := hS.1
  have fr := fr_in hW hx hy
  have hF : FI T dd (up1 be (10 * yn + xn) 1, fun _ => ((10 * yn + xn : Nat) : Int), 1) := by
    refine ⟨fun k hk => ?_, ?_, fun k hk => ⟨fr.2.2, fr.2.1⟩⟩
    · show up1 be (10 * yn + xn) 1 k = 0 ∨ up1 be (10 * yn + xn) 1 k = 1
      by_cases e : k = 10 * yn + xn
      · rw [e, up1_at]; exact Or.inr rfl
      · rw [up1_ne _ _ e]; exact hbe k hk
    · show 1 ≤ cB (up1 be (10 * yn + xn) 1) 100
      rw [cB_up hb0 (by omega)]
      omega
  have hK : FK (up1 be (10 * yn + xn) 1, fun _ => ((10 * yn + xn : Nat) : Int), 1) := fun k hk => by
    show up1 be (10 * yn + xn) 1 (10 * yn + xn) ≠ 0
    rw [up1_at]
    decide
  have hR0 : RS (upF F 579 s 0) A s (be, fun _ => ((10 * yn + xn : Nat) : Int), 0) := ⟨hR, fun k hk => absurd hk (Nat.not_lt_zero k), upF_at _ _ _ _⟩
  have e0 : up1 (fun _ => ((10 * yn + xn : Nat) : Int)) 0 (10 * (yn : Int) + (xn : Int)) = (fun _ => ((10 * yn + xn : Nat) : Int)) := up1_self (by omega)
  have e1 : (10 * ((yn : Nat) : Int) + ((xn : Nat) : Int)).toNat = 10 * yn + xn := by omega
  have hs0 : SF s F (upF F 579 s 0) A A := ⟨fun f j q => if_neg q, fun _ _ _ => rfl⟩
  refine Ex_step (tk_Shp_walkSet rfl) ?_
  refine Ex_step (tk_Shp_walkSet rfl) ?_
  refine Ex_step (tk_Shp_walkSet rfl) ?_
  refine Ex_step (tk_Shp_walkSet rfl) ?_
  refine pCI (tk_Shp_walkSet rfl) (hk9) ?_
  refine Ex_step (tk_Shp_walkSet rfl) ?_
  refine Ex_step (tk_Shp_walkSet rfl) ?_
  refine Ex_step (tk_Shp_walkSet rfl) ?_
  refine Ex_cVK (av := [vI (xn : Int), vI (yn : Int)]) (tk_Shp_walkSet rfl) mk_Shp_lineUp ⟨rfl, rfl, by decide, rfl, Nat.le_of_ble_eq_true rfl, Nat.le_of_ble_eq_true rfl⟩ (hS.1) (c_lineUp hS hR0 (show 0 < 100 by decide) (by omega) (by omega) (fun F' A' k1 k2 => ⟨rfl, ?_⟩))
  refine Ex_step (tk_Shp_walkSet rfl) ?_
  refine Ex_step (tk_Shp_walkSet rfl) ?_
  have k2 : RS F' A' s (up1 be (10 * yn + xn) 1, fun _ => ((10 * yn + xn : Nat) : Int), 1) := by rw [e0, e1] at k2; exact k2
  exact c_walkQ (dk := dk) hS hE hsb hG hW 101 0 true _ F' A' _ _ _ _ _ _ (hs0.tr k1) hF hK k2 (by omega) (by omega) (fun F2 A2 q1 q2 => hq F2 A2 q1 q2.1)
set_option maxRecDepth 100000 in
theorem c_setC {dk : Prop} [Decidable dk] (hS : SW m s) (hE : DW m b) (hsb : s + 6 ≤ b ∨ b + 3 ≤ s + 4) (hG : DG F A b (T (bD dd + 1)) (T (bD dd + 2)) (srt T dd)) (hW : DsW T dd) {xn yn : Nat} (hx : (xn : Int) < T (bD dd + 1)) (hy : (yn : Int) < T (bD dd + 2)) {t : SSt} (hbe : BE t.2) (hR : RB A s t.2) {l6 : Option AV} (hq : ∀ (F' A' : Nat → Nat → Int) (l6 : Option AV), SF s F F' A A' → RB A' s (stC T dd dk yn xn t).2 → Ex (d + 4) Shp_countSets 76 [some (vR s), some (vR b), some (vI (b2i dk)), some (vI (stC T dd dk yn xn t).1), some (vI (yn : Int)), some (vI (xn : Int)), l6] [] (CM m F' A' L) Q) : Ex (d + 4) Shp_countSets 34 [some (vR s), some (vR b), some (vI (b2i dk)), some (vI t.1), some (vI (yn : Int)), some (vI (xn : Int)), l6] [] (CM m F A L) Q := by
  have hw := hW.2.1
  have hh := hW.2.2.1
  have e1 : (10 * ((yn : Nat) : Int) + ((xn : Nat) : Int)).toNat = 10 * yn + xn := by omega
  have hin : inG T dd (xn : Int) (yn : Int) := ⟨⟨by omega, by omega⟩, by omega, by omega⟩
  unfold stC at hq
  have hfre : ∀ Q1 : Nat → Option AV → Mem → Prop, Q1 0 (some (vI (b2i (inG T dd (xn : Int) (yn : Int) ∧ (dkP T dd (xn : Int) (yn : Int) ↔ dk) ∧ t.2 (10 * yn + xn) = 0)))) (CM m F A L) → Ex (d + 3) Shp_isFresh 0 [some (vR s), some (vR b), some (vI (xn : Int)), some (vI (yn : Int)), some (vI (b2i dk))] [] (CM m F A L) Q1 := by
    intro Q1 h
    exact c_isFresh2 hS hE hG hW hR (by unfold okI; omega) (by unfold okI; omega) (by rw [e1]; exact h)
  by_cases hz : t.2 (10 * yn + xn) = 0 ∧ (dkP T dd (xn : Nat) (yn : Nat) ↔ dk)
  · rw [if_pos hz] at hq
    have key : ∀ (g : Bool × FSt) (F' A' : Nat → Nat → Int), (∀ l6 : Option AV, Ex (d + 4) Shp_countSets 76 [some (vR s), some (vR b), some (vI (b2i dk)), some (vI (t.1 + oI (dk ∨ g.1 = true))), some (vI (yn : Int)), some (vI (xn : Int)), l6] [] (CM m F' A' L) Q) → Ex (d + 4) Shp_countSets 57 [some (vR s), some (vR b), some (vI (b2i dk)), some (vI t.1), some (vI (yn : Int)), some (vI (xn : Int)), l6] [vI (b2i (¬ g.1 = true))] (CM m F' A' L) Q := by
      intro g F' A' h
      have ht : dk ∨ g.1 = true → oI (dk ∨ g.1 = true) = 1 := fun z => oI_t z
      have hf : ¬ (dk ∨ g.1 = true) → oI (dk ∨ g.1 = true) = 0 := fun z => oI_f z
      have hx := h (some (vI (b2i (¬ g.1 = true))))
      refine Ex_step (tk_Shp_countSets rfl) ?_
      refine Ex_step (tk_Shp_countSets rfl) ?_
      refine Ex_step (tk_Shp_countSets rfl) ?_
      refine Ex_step (tk_Shp_countSets rfl) ⟨fun h61 => ?_, fun h61 => ?_⟩
      · try simp (disch := omega) only [cmpI, w32_b2i, b2i_0, b2i_1, w32_id, Classical.not_not, not_true_eq_false, not_false_eq_true] at h61
        rw [ht (by first | exact Or.inl h61 | exact Or.inr h66 | exact Or.inr (Classical.not_not.mp h66))] at hx
        refine Ex_step (tk_Shp_countSets rfl) ?_
        refine Ex_step (tk_Shp_countSets rfl) ?_
        refine Ex_step (tk_Shp_countSets rfl) ?_
        refine Ex_step (tk_Shp_countSets rfl) ?_
        exact hx
      · try simp (disch := omega) only [cmpI, w32_b2i, b2i_0, b2i_1, w32_id, Classical.not_not, not_true_eq_false, not_false_eq_true] at h61
        refine Ex_step (tk_Shp_countSets rfl) ?_
        refine Ex_step (tk_Shp_countSets rfl) ⟨fun h66 => ?_, fun h66 => ?_⟩
        · try simp (disch := omega) only [cmpI, w32_b2i, b2i_0, b2i_1, w32_id, Classical.not_not, not_true_eq_false, not_false_eq_true] at h66
          rw [hf (fun z => z.elim h61 (fun y => h66 y))] at hx
          refine Ex_step (tk_Shp_countSets rfl) ?_
          refine Ex_step (tk_Shp_countSets rfl) ?_
          refine Ex_step (tk_Shp_countSets rfl) ?_
          exact hx
        · try simp (disch := omega) only [cmpI, w32_b2i, b2i_0, b2i_1, w32_id, Classical.not_not, not_true_eq_false, not_false_eq_true] at h66
          rw [ht (by first | exact Or.inl h61 | exact Or.inr h66 | exact Or.inr (Classical.not_not.mp h66))] at hx
          refine Ex_step (tk_Shp_countSets rfl) ?_
          refine Ex_step (tk_Shp_countSets rfl) ?_
          refine Ex_step (tk_Shp_countSets rfl) ?_
          refine Ex_step (tk_Shp_countSets rfl) ?_
          exact hx
    refine Ex_step (tk_Shp_countSets rfl) ?_
    refine Ex_step (tk_Shp_countSets rfl) ?_
    refine Ex_step (tk_Shp_countSets rfl) ?_
    refine Ex_step (tk_Shp_countSets rfl) ?_
    refine Ex_step (tk_Shp_countSets rfl) ?_
    refine Ex_cV0 (av := [vR b, vI (xn : Int), vI (yn : Int), vI (b2i dk)]) (tk_Shp_countSets rfl) mk_Shp_isFresh ⟨rfl, rfl, by decide, rfl, Nat.le_of_ble_eq_true rfl, Nat.le_of_ble_eq_true rfl⟩ (hS.1) (fun _ h => hfre _ h) ?_
    refine Ex_step (tk_Shp_countSets rfl) ⟨fun h44 => ?_, fun h44 => ?_⟩
    · try simp (disch := omega) only [cmpI, w32_b2i, b2i_0, b2i_1, w32_id, Classical.not_not, not_true_eq_false, not_false_eq_true] at h44
      exact absurd ⟨hin, hz.2, hz.1⟩ h44
    · try simp (disch := omega) only [cmpI, w32_b2i, b2i_0, b2i_1, w32_id, Classical.not_not, not_true_eq_false, not_false_eq_true] at h44
      refine Ex_step (tk_Shp_countSets rfl) ?_
      refine Ex_step (tk_Shp_countSets rfl) ?_
      refine Ex_step (tk_Shp_countSets rfl) ?_
      refine Ex_step (tk_Shp_countSets rfl) ?_
      refine Ex_step (tk_Shp_countSets rfl) ?_
      refine Ex_cVK (av := [vR b, vI (xn : Int), vI (yn : Int), vI (b2i dk)]) (tk_Shp_countSets rfl) mk_Shp_walkSet ⟨rfl, rfl, by decide, rfl, Nat.le_of_ble_eq_true rfl, Nat.le_of_ble_eq_true rfl⟩ (hS.1) (c_walkSet (dk := dk) hS hE hsb hG hW hx hy hbe hz.1 hR (fun F' A' k1 k2 => ⟨rfl, ?_⟩))
      exact key _ F' A' (fun l6 => hq F' A' l6 k1 k2)
  · rw [if_neg hz] at hq
    have h76 := hq F A l6 (SF.rf s F A) hR
    refine Ex_step (tk_Shp_countSets rfl) ?_
    refine Ex_step (tk_Shp_countSets rfl) ?_
    refine Ex_step (tk_Shp_countSets rfl) ?_
    refine Ex_step (tk_Shp_countSets rfl) ?_
    refine Ex_step (tk_Shp_countSets rfl) ?_
    refine Ex_cV0 (av := [vR b, vI (xn : Int), vI (yn : Int), vI (b2i dk)]) (tk_Shp_countSets rfl) mk_Shp_isFresh ⟨rfl, rfl, by decide, rfl, Nat.le_of_ble_eq_true rfl, Nat.le_of_ble_eq_true rfl⟩ (hS.1) (fun _ h => hfre _ h) ?_
    refine Ex_step (tk_Shp_countSets rfl) ⟨fun h44 => ?_, fun h44 => ?_⟩
    · try simp (disch := omega) only [cmpI, w32_b2i, b2i_0, b2i_1, w32_id, Classical.not_not, not_true_eq_false, not_false_eq_true] at h44
      exact h76
    · try simp (disch := omega) only [cmpI, w32_b2i, b2i_0, b2i_1, w32_id, Classical.not_not, not_true_eq_false, not_false_eq_true] at h44
      exact absurd ⟨h44.2.2, h44.2.1⟩ hz
end CSets2
