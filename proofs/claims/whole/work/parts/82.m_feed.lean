/-! ===== the reference: feed ===== -/
def fdV (a b c d e : Int) (k : Nat) : Int := if k < 4 then a else if k < 8 then b else if k < 12 then c else if k < 16 then d else e
def fdB (v : Int) (k : Nat) : Int := iAnd (iShr v (24 - 8 * ((k % 4 : Nat) : Int))) 255
def fdK (a b c d e : Int) (tp n : Nat) (F : Nat → Int) : Nat → Int := fun j => if tp ≤ j ∧ j < tp + n then fdB (fdV a b c d e (j - tp)) (j - tp) else F j
set_option maxRecDepth 100000 in
theorem fdK_s (a b c d e : Int) (tp n : Nat) (F : Nat → Int) : up1 (fdK a b c d e tp n F) (tp + n) (fdB (fdV a b c d e n) n) = fdK a b c d e tp (n + 1) F := by
  funext j
  unfold up1 fdK
  by_cases q : j = tp + n
  · subst q
    rw [if_pos rfl, if_pos (by omega), Nat.add_sub_cancel_left]
  · rw [if_neg q]
    by_cases q2 : tp ≤ j ∧ j < tp + n
    · rw [if_pos q2, if_pos (by omega)]
    · rw [if_neg q2, if_neg (by omega)]
set_option maxRecDepth 100000 in
theorem fdK_0 (a b c d e : Int) (tp : Nat) (F : Nat → Int) : fdK a b c d e tp 0 F = F := by
  funext j
  exact if_neg (by omega)
section MFeed
variable {d : Nat} {a b c x e : Int} {m : Mem} {I : Nat → Int} {A L : Nat → Nat → Int} {Q : Nat → Option AV → Mem → Prop}
set_option maxRecDepth 100000 in
theorem f_feed (hM : MW m) {tp : Nat} (htp : tp ≤ 800) (h2 : I 2 = (tp : Int)) (hno : 780 < tp → Q 0 (some (vI (-1))) (MS m (up1 I 0 0) A L)) (hok : tp ≤ 780 → Q 0 (some (vI ((tp + 20 : Nat) : Int))) (MS m (up1 (up1 I 0 0) 2 ((tp + 20 : Nat) : Int)) (up1 A 2 (fdK a b c x e tp 20 (A 2))) L)) : Ex d M_feed 0 [some (vR aM), some (vI a), some (vI b), some (vI c), some (vI x), some (vI e), none, none] [] (MS m I A L) Q := by
  have h20 : up1 I 0 0 2 = (tp : Int) := h2
  have hloop : tp ≤ 780 → ∀ (r k : Nat) (l7 : Option AV), k + r = 20 → Ex d M_feed 23 [some (vR aM), some (vI a), some (vI b), some (vI c), some (vI x), some (vI e), some (vI (k : Int)), l7] [] (MS m (up1 (up1 I 0 0) 2 ((tp + k : Nat) : Int)) (up1 A 2 (fdK a b c x e tp k (A 2))) L) Q := by
    intro ht r
    induction r with
    | zero =>
      intro k l7 hk
      have : k = 20 := by omega
      subst this
      refine Ex_step (tk_M_feed rfl) ?_
      refine Ex_step (tk_M_feed rfl) ?_
      refine Ex_step (tk_M_feed rfl) ⟨fun h27 => ?_, fun h27 => ?_⟩
      · replace h27 : _ := h27
        refine Ex_step (tk_M_feed rfl) ?_
        refine gMI (tk_M_feed rfl) hM ?_
        rw [up1_at]
        refine Ex_step (tk_M_feed rfl) ⟨rfl, ?_⟩
        exact hok ht
      · replace h27 : _ := h27
        exact absurd (show w32 20 ≤ w32 20 from Int.le_refl _) h27
    | succ r ih =>
      intro k l7 hk
      have e4 : iRem (k : Int) 4 = ((k % 4 : Nat) : Int) := by rw [iRem_nn (by omega) (by omega) (by omega) (by omega)]; rfl
      have h76 : ∀ (v : Int) (l7 : Option AV), v = fdV a b c x e k → Ex d M_feed 76 [some (vR aM), some (vI a), some (vI b), some (vI c), some (vI x), some (vI e), some (vI (k : Int)), l7] [vI v] (MS m (up1 (up1 I 0 0) 2 ((tp + k : Nat) : Int)) (up1 A 2 (fdK a b c x e tp k (A 2))) L) Q := by
        intro v l7 hv
        subst hv
        have hnx := ih (k + 1) (some (vI (fdV a b c x e k))) (by omega)
        rw [← fdK_s] at hnx
        refine Ex_step (tk_M_feed rfl) ?_
        refine Ex_step (tk_M_feed rfl) ?_
        refine gMR (tk_M_feed rfl) hM hM.r8 ?_
        refine Ex_step (tk_M_feed rfl) ?_
        refine gMI (tk_M_feed rfl) hM ?_
        rw [up1_at]
        refine Ex_step (tk_M_feed rfl) ?_
        refine Ex_step (tk_M_feed rfl) ?_
        refine Ex_step (tk_M_feed rfl) ?_
        refine Ex_step (tk_M_feed rfl) ?_
        refine Ex_step (tk_M_feed rfl) ?_
        refine Ex_step (tk_M_feed rfl) ⟨by decide, ?_⟩
        rw [e4]
        refine Ex_step (tk_M_feed rfl) ?_
        refine Ex_step (tk_M_feed rfl) ?_
        refine Ex_step (tk_M_feed rfl) ?_
        refine Ex_step (tk_M_feed rfl) ?_
        refine Ex_step (tk_M_feed rfl) ?_
        refine tMI (j := 2) (n := tp + k) (tk_M_feed rfl) (by decide) hM.k2 hM.n2 (w32_id (by omega) (by omega)) (by omega) ?_
        rw [up1_at, up1_same]
        refine Ex_step (tk_M_feed rfl) ?_
        refine Ex_step (tk_M_feed rfl) ?_
        refine gMI (tk_M_feed rfl) hM ?_
        rw [up1_at]
        refine Ex_step (tk_M_feed rfl) ?_
        refine Ex_step (tk_M_feed rfl) ?_
        refine pMI (tk_M_feed rfl) hM ?_
        rw [up1_same]
        refine Ex_step (tk_M_feed rfl) ?_
        refine Ex_step (tk_M_feed rfl) ?_
        exact hnx
      have v1 : k < 4 → a = fdV a b c x e k := fun q => (if_pos q).symm
      have v2 : ¬ k < 4 → k < 8 → b = fdV a b c x e k := fun q q2 => by unfold fdV; rw [if_neg q, if_pos q2]
      have v3 : ¬ k < 8 → k < 12 → c = fdV a b c x e k := fun q q2 => by unfold fdV; rw [if_neg (by omega), if_neg q, if_pos q2]
      have v4 : ¬ k < 12 → k < 16 → x = fdV a b c x e k := fun q q2 => by unfold fdV; rw [if_neg (by omega), if_neg (by omega), if_neg q, if_pos q2]
      have v5 : ¬ k < 16 → e = fdV a b c x e k := fun q => by unfold fdV; rw [if_neg (by omega), if_neg (by omega), if_neg (by omega), if_neg q]
      refine Ex_step (tk_M_feed rfl) ?_
      refine Ex_step (tk_M_feed rfl) ?_
      refine Ex_step (tk_M_feed rfl) ⟨fun h27 => ?_, fun h27 => ?_⟩
      · try simp (disch := omega) only [cmpI, w32_b2i, b2i_0, b2i_1, w32_id, Classical.not_not, not_true_eq_false, not_false_eq_true] at h27
        omega
      · try simp (disch := omega) only [cmpI, w32_b2i, b2i_0, b2i_1, w32_id, Classical.not_not, not_true_eq_false, not_false_eq_true] at h27
        refine Ex_step (tk_M_feed rfl) ?_
        refine Ex_step (tk_M_feed rfl) ?_
        refine Ex_step (tk_M_feed rfl) ⟨fun h33 => ?_, fun h33 => ?_⟩
        · try simp (disch := omega) only [cmpI, w32_b2i, b2i_0, b2i_1, w32_id, Classical.not_not, not_true_eq_false, not_false_eq_true] at h33
          refine Ex_step (tk_M_feed rfl) ?_
          refine Ex_step (tk_M_feed rfl) ?_
          refine Ex_step (tk_M_feed rfl) ⟨fun h44 => ?_, fun h44 => ?_⟩
          · try simp (disch := omega) only [cmpI, w32_b2i, b2i_0, b2i_1, w32_id, Classical.not_not, not_true_eq_false, not_false_eq_true] at h44
            refine Ex_step (tk_M_feed rfl) ?_
            refine Ex_step (tk_M_feed rfl) ?_
            refine Ex_step (tk_M_feed rfl) ⟨fun h55 => ?_, fun h55 => ?_⟩
            · try simp (disch := omega) only [cmpI, w32_b2i, b2i_0, b2i_1, w32_id, Classical.not_not, not_true_eq_false, not_false_eq_true] at h55
              refine Ex_step (tk_M_feed rfl) ?_
              refine Ex_step (tk_M_feed rfl) ?_
              refine Ex_step (tk_M_feed rfl) ⟨fun h66 => ?_, fun h66 => ?_⟩
              · try simp (disch := omega) only [cmpI, w32_b2i, b2i_0, b2i_1, w32_id, Classical.not_not, not_true_eq_false, not_false_eq_true] at h66
                have hx := h76 e l7 (v5 (by omega))
                refine Ex_step (tk_M_feed rfl) ?_
                exact hx
              · try simp (disch := omega) only [cmpI, w32_b2i, b2i_0, b2i_1, w32_id, Classical.not_not, not_true_eq_false, not_false_eq_true] at h66
                have hx := h76 x l7 (v4 (by omega) (by omega))
                refine Ex_step (tk_M_feed rfl) ?_
                refine Ex_step (tk_M_feed rfl) ?_
                exact hx
            · try simp (disch := omega) only [cmpI, w32_b2i, b2i_0, b2i_1, w32_id, Classical.not_not, not_true_eq_false, not_false_eq_true] at h55
              have hx := h76 c l7 (v3 (by omega) (by omega))
              refine Ex_step (tk_M_feed rfl) ?_
              refine Ex_step (tk_M_feed rfl) ?_
              exact hx
          · try simp (disch := omega) only [cmpI, w32_b2i, b2i_0, b2i_1, w32_id, Classical.not_not, not_true_eq_false, not_false_eq_true] at h44
            have hx := h76 b l7 (v2 (by omega) (by omega))
            refine Ex_step (tk_M_feed rfl) ?_
            refine Ex_step (tk_M_feed rfl) ?_
            exact hx
        · try simp (disch := omega) only [cmpI, w32_b2i, b2i_0, b2i_1, w32_id, Classical.not_not, not_true_eq_false, not_false_eq_true] at h33
          have hx := h76 a l7 (v1 (by omega))
          refine Ex_step (tk_M_feed rfl) ?_
          refine Ex_step (tk_M_feed rfl) ?_
          exact hx
  refine Ex_step (tk_M_feed rfl) ?_
  refine Ex_step (tk_M_feed rfl) ?_
  refine pMI (tk_M_feed rfl) hM ?_
  refine Ex_step (tk_M_feed rfl) ?_
  refine gMI (tk_M_feed rfl) hM ?_
  rw [h20]
  refine Ex_step (tk_M_feed rfl) ?_
  refine Ex_step (tk_M_feed rfl) ?_
  refine Ex_step (tk_M_feed rfl) ?_
  refine Ex_step (tk_M_feed rfl) ⟨fun h15 => ?_, fun h15 => ?_⟩
  · try simp (disch := omega) only [cmpI, w32_b2i, b2i_0, b2i_1, w32_id, Classical.not_not, not_true_eq_false, not_false_eq_true] at h15
    have h23 := hloop (by omega) 20 0 none (by omega)
    rw [fdK_0, up1_self (f := A) rfl, Nat.add_zero, up1_self (f := up1 I 0 0) h20] at h23
    refine Ex_step (tk_M_feed rfl) ?_
    refine Ex_step (tk_M_feed rfl) ?_
    exact h23
  · try simp (disch := omega) only [cmpI, w32_b2i, b2i_0, b2i_1, w32_id, Classical.not_not, not_true_eq_false, not_false_eq_true] at h15
    refine Ex_step (tk_M_feed rfl) ?_
    refine Ex_step (tk_M_feed rfl) ⟨rfl, ?_⟩
    exact hno (by omega)
end MFeed
