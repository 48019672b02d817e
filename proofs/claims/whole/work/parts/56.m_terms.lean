/-! ===== the reference: lowest terms ===== -/
set_option maxRecDepth 100000 in
theorem iRem_nn {x y : Int} (hx : 0 ≤ x) (hx2 : x ≤ 2147483647) (hy : 1 ≤ y) (hy2 : y ≤ 2147483647) : iRem x y = x % y := by
  have h1 : 0 ≤ x / y := Int.ediv_nonneg hx (by omega)
  have h2 : x / y ≤ x := Int.ediv_le_self y hx
  have ex : (Int32.ofInt x).toInt = x := w32_id (by omega) (by omega)
  have ey : (Int32.ofInt y).toInt = y := w32_id (by omega) (by omega)
  have hd : (Int32.ofInt x / Int32.ofInt y).toInt = x / y := iDiv_nn hx hx2 hy hy2
  have hm := Int.emod_add_mul_ediv x y
  have r1 := Int.emod_nonneg x (show y ≠ 0 by omega)
  have r2 := Int.emod_lt_of_pos x (show 0 < y by omega)
  have hc : y * (x / y) = x / y * y := Int.mul_comm _ _
  unfold iRem
  rw [Int32.toInt_sub, Int32.toInt_mul, hd, ex, ey, Int.bmod_eq_of_le (n := x / y * y) (by omega) (by omega), Int.bmod_eq_of_le (by omega) (by omega)]
  omega
def trm (a u : Nat) (what : Int) : Int := if a = 0 then what else (if what = 0 then ((a / Nat.gcd a u : Nat) : Int) else ((u / Nat.gcd a u : Nat) : Int))
section MTerms
variable {d : Nat} {m : Mem} {Q : Nat → Option AV → Mem → Prop}
set_option maxRecDepth 100000 in
theorem f_terms {a u : Nat} {x z what : Int} (hx : x = (a : Int)) (hz : z = (u : Int)) (ha : a ≤ 1000000) (hu : 1 ≤ u ∧ u ≤ 1000000) (hwh : 0 ≤ what ∧ what ≤ 1) (h : Q 0 (some (vI (trm a u what))) m) : Ex d M_terms 0 [some (vI x), some (vI z), some (vI what), none, none, none] [] m Q := by
  subst hx
  subst hz
  unfold trm at h
  by_cases h0 : a = 0
  · rw [if_pos h0] at h
    refine Ex_step (tk_M_terms rfl) ?_
    refine Ex_step (tk_M_terms rfl) ⟨fun h1 => ?_, fun h1 => ?_⟩
    · try simp (disch := omega) only [cmpI, w32_b2i, b2i_0, b2i_1, w32_id, Classical.not_not, not_true_eq_false, not_false_eq_true] at h1
      omega
    · try simp (disch := omega) only [cmpI, w32_b2i, b2i_0, b2i_1, w32_id, Classical.not_not, not_true_eq_false, not_false_eq_true] at h1
      refine Ex_step (tk_M_terms rfl) ?_
      refine Ex_step (tk_M_terms rfl) ⟨rfl, ?_⟩
      exact h
  · rw [if_neg h0] at h
    have hg1 : 1 ≤ Nat.gcd a u := Nat.gcd_pos_of_pos_left u (by omega)
    have hg2 : Nat.gcd a u ≤ a := Nat.gcd_le_left u (by omega)
    have h32 : ∀ l4 l5 : Option AV, Ex d M_terms 32 [some (vI (a : Int)), some (vI (u : Int)), some (vI what), some (vI ((Nat.gcd a u : Nat) : Int)), l4, l5] [] m Q := by
      intro l4 l5
      have e1 : iDiv (a : Int) ((Nat.gcd a u : Nat) : Int) = ((a / Nat.gcd a u : Nat) : Int) := by rw [iDiv_nn (by omega) (by omega) (by omega) (by omega)]; rfl
      have e2 : iDiv (u : Int) ((Nat.gcd a u : Nat) : Int) = ((u / Nat.gcd a u : Nat) : Int) := by rw [iDiv_nn (by omega) (by omega) (by omega) (by omega)]; rfl
      refine Ex_step (tk_M_terms rfl) ?_
      refine Ex_step (tk_M_terms rfl) ⟨fun h33 => ?_, fun h33 => ?_⟩
      · try simp (disch := omega) only [cmpI, w32_b2i, b2i_0, b2i_1, w32_id, Classical.not_not, not_true_eq_false, not_false_eq_true] at h33
        rw [if_neg (by omega), ← e2] at h
        refine Ex_step (tk_M_terms rfl) ?_
        refine Ex_step (tk_M_terms rfl) ?_
        refine Ex_step (tk_M_terms rfl) ⟨by rw [w32_id (by omega) (by omega)]; omega, ?_⟩
        refine Ex_step (tk_M_terms rfl) ⟨rfl, ?_⟩
        exact h
      · try simp (disch := omega) only [cmpI, w32_b2i, b2i_0, b2i_1, w32_id, Classical.not_not, not_true_eq_false, not_false_eq_true] at h33
        rw [if_pos (by omega), ← e1] at h
        refine Ex_step (tk_M_terms rfl) ?_
        refine Ex_step (tk_M_terms rfl) ?_
        refine Ex_step (tk_M_terms rfl) ?_
        refine Ex_step (tk_M_terms rfl) ⟨by rw [w32_id (by omega) (by omega)]; omega, ?_⟩
        refine Ex_step (tk_M_terms rfl) ⟨rfl, ?_⟩
        exact h
    have hloop : ∀ (n p q : Nat) (l5 : Option AV), q < n → p ≤ 1000000 → q ≤ 1000000 → Nat.gcd p q = Nat.gcd a u → Ex d M_terms 11 [some (vI (a : Int)), some (vI (u : Int)), some (vI what), some (vI (p : Int)), some (vI (q : Int)), l5] [] m Q := by
      intro n
      induction n with
      | zero => intro p q l5 hq; omega
      | succ n ih =>
        intro p q l5 hq hp hq2 hg
        by_cases hq0 : q = 0
        · subst hq0
          rw [Nat.gcd_zero_right] at hg
          subst hg
          refine Ex_step (tk_M_terms rfl) ?_
          refine Ex_step (tk_M_terms rfl) ⟨fun h13 => ?_, fun h13 => ?_⟩
          · try simp (disch := omega) only [cmpI, w32_b2i, b2i_0, b2i_1, w32_id, Classical.not_not, not_true_eq_false, not_false_eq_true] at h13
            exact h32 _ _
          · try simp (disch := omega) only [cmpI, w32_b2i, b2i_0, b2i_1, w32_id, Classical.not_not, not_true_eq_false, not_false_eq_true] at h13
            omega
        · have hlt : p % q < q := Nat.mod_lt _ (by omega)
          have e : iRem (p : Int) (q : Int) = ((p % q : Nat) : Int) := by rw [iRem_nn (by omega) (by omega) (by omega) (by omega)]; rfl
          have hgq : Nat.gcd q (p % q) = Nat.gcd a u := by rw [← hg, Nat.gcd_comm p q, Nat.gcd_rec q p, Nat.gcd_comm]
          have hnx := ih q (p % q) (some (vI ((p % q : Nat) : Int))) (by omega) (by omega) (by omega) hgq
          rw [← e] at hnx
          refine Ex_step (tk_M_terms rfl) ?_
          refine Ex_step (tk_M_terms rfl) ⟨fun h13 => ?_, fun h13 => ?_⟩
          · try simp (disch := omega) only [cmpI, w32_b2i, b2i_0, b2i_1, w32_id, Classical.not_not, not_true_eq_false, not_false_eq_true] at h13
            omega
          · try simp (disch := omega) only [cmpI, w32_b2i, b2i_0, b2i_1, w32_id, Classical.not_not, not_true_eq_false, not_false_eq_true] at h13
            refine Ex_step (tk_M_terms rfl) ?_
            refine Ex_step (tk_M_terms rfl) ?_
            refine Ex_step (tk_M_terms rfl) ⟨by rw [w32_id (by omega) (by omega)]; omega, ?_⟩
            refine Ex_step (tk_M_terms rfl) ?_
            refine Ex_step (tk_M_terms rfl) ?_
            refine Ex_step (tk_M_terms rfl) ?_
            refine Ex_step (tk_M_terms rfl) ?_
            refine Ex_step (tk_M_terms rfl) ?_
            refine Ex_step (tk_M_terms rfl) ?_
            exact hnx
    refine Ex_step (tk_M_terms rfl) ?_
    refine Ex_step (tk_M_terms rfl) ⟨fun h1 => ?_, fun h1 => ?_⟩
    · try simp (disch := omega) only [cmpI, w32_b2i, b2i_0, b2i_1, w32_id, Classical.not_not, not_true_eq_false, not_false_eq_true] at h1
      refine Ex_step (tk_M_terms rfl) ?_
      refine Ex_step (tk_M_terms rfl) ?_
      refine Ex_step (tk_M_terms rfl) ?_
      refine Ex_step (tk_M_terms rfl) ?_
      exact hloop (u + 1) a u none (by omega) ha (by omega) rfl
    · try simp (disch := omega) only [cmpI, w32_b2i, b2i_0, b2i_1, w32_id, Classical.not_not, not_true_eq_false, not_false_eq_true] at h1
      omega
end MTerms
