/-! ===== small functions of the reference ===== -/
abbrev b2i (p : Prop) [Decidable p] : Int := if p then 1 else 0
theorem w32_b2i (p : Prop) [Decidable p] : w32 (b2i p) = b2i p := by
  unfold b2i
  split <;> decide
theorem b2i_0 (p : Prop) [Decidable p] : (b2i p = 0) = ¬ p := by
  unfold b2i
  split <;> simp_all
theorem b2i_1 (p : Prop) [Decidable p] : (b2i p = 1) = p := by
  unfold b2i
  split <;> simp_all
theorem b2i_01 (p : Prop) [Decidable p] : b2i p = 0 ∨ b2i p = 1 := by
  unfold b2i
  split <;> simp_all
theorem b2i_congr {p q : Prop} [Decidable p] [Decidable q] (h : p ↔ q) : b2i p = b2i q := by
  unfold b2i
  by_cases hp : p
  · rw [if_pos hp, if_pos (h.mp hp)]
  · rw [if_neg hp, if_neg (fun z => hp (h.mpr z))]
theorem b2i_t {p : Prop} [Decidable p] (h : p) : b2i p = 1 := if_pos h
theorem b2i_f {p : Prop} [Decidable p] (h : ¬ p) : b2i p = 0 := if_neg h
theorem e_less {d : Nat} {m : Mem} {x z : Int} {Q : Nat → Option AV → Mem → Prop} (h : Q 0 (some (vI (if w32 x < w32 z then x else z))) m) : Ex d M_less 0 [some (vI x), some (vI z)] [] m Q := by
  refine Ex_step (tk_M_less rfl) ?_
  refine Ex_step (tk_M_less rfl) ?_
  refine Ex_step (tk_M_less rfl) ⟨fun h2 => ?_, fun h2 => ?_⟩
  · simp only [cmpI] at h2
    refine Ex_step (tk_M_less rfl) ?_
    refine Ex_step (tk_M_less rfl) ⟨rfl, ?_⟩
    first | (rw [if_neg (by omega)] at h; exact h) | (rw [if_pos (by omega)] at h; exact h)
  · simp only [cmpI] at h2
    refine Ex_step (tk_M_less rfl) ?_
    refine Ex_step (tk_M_less rfl) ?_
    refine Ex_step (tk_M_less rfl) ⟨rfl, ?_⟩
    first | (rw [if_neg (by omega)] at h; exact h) | (rw [if_pos (by omega)] at h; exact h)
theorem e_more {d : Nat} {m : Mem} {x z : Int} {Q : Nat → Option AV → Mem → Prop} (h : Q 0 (some (vI (if w32 z < w32 x then x else z))) m) : Ex d M_more 0 [some (vI x), some (vI z)] [] m Q := by
  refine Ex_step (tk_M_more rfl) ?_
  refine Ex_step (tk_M_more rfl) ?_
  refine Ex_step (tk_M_more rfl) ⟨fun h2 => ?_, fun h2 => ?_⟩
  · simp only [cmpI] at h2
    refine Ex_step (tk_M_more rfl) ?_
    refine Ex_step (tk_M_more rfl) ⟨rfl, ?_⟩
    first | (rw [if_neg (by omega)] at h; exact h) | (rw [if_pos (by omega)] at h; exact h)
  · simp only [cmpI] at h2
    refine Ex_step (tk_M_more rfl) ?_
    refine Ex_step (tk_M_more rfl) ?_
    refine Ex_step (tk_M_more rfl) ⟨rfl, ?_⟩
    first | (rw [if_neg (by omega)] at h; exact h) | (rw [if_pos (by omega)] at h; exact h)
theorem e_in {d : Nat} {m : Mem} {v lo hi : Int} {Q : Nat → Option AV → Mem → Prop} (h : Q 0 (some (vI (b2i (w32 lo ≤ w32 v ∧ w32 v ≤ w32 hi)))) m) : Ex d M_in 0 [some (vI v), some (vI lo), some (vI hi)] [] m Q := by
  refine Ex_step (tk_M_in rfl) ?_
  refine Ex_step (tk_M_in rfl) ?_
  refine Ex_step (tk_M_in rfl) ⟨fun h2 => ?_, fun h2 => ?_⟩
  · simp only [cmpI] at h2
    refine Ex_step (tk_M_in rfl) ?_
    refine Ex_step (tk_M_in rfl) ⟨rfl, by first | exact Or.inl rfl | exact Or.inr rfl | exact b2i_01 _ | assumption, ?_⟩
    first | (rw [b2i_f (by omega)] at h; exact h) | (rw [b2i_t (by omega)] at h; exact h)
  · simp only [cmpI] at h2
    refine Ex_step (tk_M_in rfl) ?_
    refine Ex_step (tk_M_in rfl) ?_
    refine Ex_step (tk_M_in rfl) ⟨fun h7 => ?_, fun h7 => ?_⟩
    · simp only [cmpI] at h7
      refine Ex_step (tk_M_in rfl) ?_
      refine Ex_step (tk_M_in rfl) ⟨rfl, by first | exact Or.inl rfl | exact Or.inr rfl | exact b2i_01 _ | assumption, ?_⟩
      first | (rw [b2i_f (by omega)] at h; exact h) | (rw [b2i_t (by omega)] at h; exact h)
    · simp only [cmpI] at h7
      refine Ex_step (tk_M_in rfl) ?_
      refine Ex_step (tk_M_in rfl) ?_
      refine Ex_step (tk_M_in rfl) ⟨rfl, by first | exact Or.inl rfl | exact Or.inr rfl | exact b2i_01 _ | assumption, ?_⟩
      first | (rw [b2i_f (by omega)] at h; exact h) | (rw [b2i_t (by omega)] at h; exact h)
theorem e_isDigit {d : Nat} {m : Mem} {v : Int} (hv : -1 ≤ v ∧ v ≤ 255) {Q : Nat → Option AV → Mem → Prop} (h : Q 0 (some (vI (b2i (48 ≤ v ∧ v ≤ 57)))) m) : Ex d M_isDigit 0 [some (vI v)] [] m Q := by
  refine Ex_step (tk_M_isDigit rfl) ?_
  refine Ex_step (tk_M_isDigit rfl) ?_
  refine Ex_step (tk_M_isDigit rfl) ⟨fun h3 => ?_, fun h3 => ?_⟩
  · try simp (disch := omega) only [cmpI, w32_b2i, b2i_0, b2i_1, w32_id, Classical.not_not, not_true_eq_false, not_false_eq_true] at h3
    refine Ex_step (tk_M_isDigit rfl) ?_
    refine Ex_step (tk_M_isDigit rfl) ⟨rfl, by first | exact Or.inl rfl | exact Or.inr rfl | exact b2i_01 _ | assumption, ?_⟩
    first | (rw [b2i_f (by omega)] at h; exact h) | (rw [b2i_t (by omega)] at h; exact h)
  · try simp (disch := omega) only [cmpI, w32_b2i, b2i_0, b2i_1, w32_id, Classical.not_not, not_true_eq_false, not_false_eq_true] at h3
    refine Ex_step (tk_M_isDigit rfl) ?_
    refine Ex_step (tk_M_isDigit rfl) ?_
    refine Ex_step (tk_M_isDigit rfl) ⟨fun h9 => ?_, fun h9 => ?_⟩
    · try simp (disch := omega) only [cmpI, w32_b2i, b2i_0, b2i_1, w32_id, Classical.not_not, not_true_eq_false, not_false_eq_true] at h9
      refine Ex_step (tk_M_isDigit rfl) ?_
      refine Ex_step (tk_M_isDigit rfl) ⟨rfl, by first | exact Or.inl rfl | exact Or.inr rfl | exact b2i_01 _ | assumption, ?_⟩
      first | (rw [b2i_f (by omega)] at h; exact h) | (rw [b2i_t (by omega)] at h; exact h)
    · try simp (disch := omega) only [cmpI, w32_b2i, b2i_0, b2i_1, w32_id, Classical.not_not, not_true_eq_false, not_false_eq_true] at h9
      refine Ex_step (tk_M_isDigit rfl) ?_
      refine Ex_step (tk_M_isDigit rfl) ?_
      refine Ex_step (tk_M_isDigit rfl) ⟨rfl, by first | exact Or.inl rfl | exact Or.inr rfl | exact b2i_01 _ | assumption, ?_⟩
      first | (rw [b2i_f (by omega)] at h; exact h) | (rw [b2i_t (by omega)] at h; exact h)
theorem e_fine {d : Nat} {m : Mem} {I : Nat → Int} {A L : Nat → Nat → Int} {Q : Nat → Option AV → Mem → Prop} (hM : MW m) (hI : 0 ≤ I 6 ∧ I 6 ≤ 9) (h : Q 0 (some (vI (b2i (I 6 = 0)))) (MS m I A L)) : Ex d M_fine 0 [some (vR aM)] [] (MS m I A L) Q := by
  refine Ex_step (tk_M_fine rfl) ?_
  refine gMI (tk_M_fine rfl) hM ?_
  refine Ex_step (tk_M_fine rfl) ⟨fun h4 => ?_, fun h4 => ?_⟩
  · try simp (disch := omega) only [cmpI, w32_b2i, b2i_0, b2i_1, w32_id, Classical.not_not, not_true_eq_false, not_false_eq_true] at h4
    refine Ex_step (tk_M_fine rfl) ?_
    refine Ex_step (tk_M_fine rfl) ⟨rfl, by first | exact Or.inl rfl | exact Or.inr rfl | exact b2i_01 _ | assumption, ?_⟩
    first | (rw [b2i_f (by omega)] at h; exact h) | (rw [b2i_t (by omega)] at h; exact h)
  · try simp (disch := omega) only [cmpI, w32_b2i, b2i_0, b2i_1, w32_id, Classical.not_not, not_true_eq_false, not_false_eq_true] at h4
    refine Ex_step (tk_M_fine rfl) ?_
    refine Ex_step (tk_M_fine rfl) ?_
    refine Ex_step (tk_M_fine rfl) ⟨rfl, by first | exact Or.inl rfl | exact Or.inr rfl | exact b2i_01 _ | assumption, ?_⟩
    first | (rw [b2i_f (by omega)] at h; exact h) | (rw [b2i_t (by omega)] at h; exact h)
theorem e_wrong {d : Nat} {m : Mem} {I : Nat → Int} {A L : Nat → Nat → Int} {w z : Int} {Q : Nat → Option AV → Mem → Prop} (hM : MW m) (hI : 0 ≤ I 6 ∧ I 6 ≤ 9) (h : Q 0 none (MS m (if I 6 = 0 then up1 (up1 I 6 w) 7 z else I) A L)) : Ex d M_wrong 0 [some (vR aM), some (vI w), some (vI z)] [] (MS m I A L) Q := by
  refine Ex_step (tk_M_wrong rfl) ?_
  refine gMI (tk_M_wrong rfl) hM ?_
  refine Ex_step (tk_M_wrong rfl) ⟨fun h4 => ?_, fun h4 => ?_⟩
  · try simp (disch := omega) only [cmpI, w32_b2i, b2i_0, b2i_1, w32_id, Classical.not_not, not_true_eq_false, not_false_eq_true] at h4
    refine Ex_step (tk_M_wrong rfl) ⟨rfl, ?_⟩
    first | (rw [if_neg (by omega)] at h; exact h) | (rw [if_pos (by omega)] at h; exact h)
  · try simp (disch := omega) only [cmpI, w32_b2i, b2i_0, b2i_1, w32_id, Classical.not_not, not_true_eq_false, not_false_eq_true] at h4
    refine Ex_step (tk_M_wrong rfl) ?_
    refine Ex_step (tk_M_wrong rfl) ?_
    refine pMI (tk_M_wrong rfl) hM ?_
    refine Ex_step (tk_M_wrong rfl) ?_
    refine Ex_step (tk_M_wrong rfl) ?_
    refine pMI (tk_M_wrong rfl) hM ?_
    refine Ex_step (tk_M_wrong rfl) ⟨rfl, ?_⟩
    first | (rw [if_neg (by omega)] at h; exact h) | (rw [if_pos (by omega)] at h; exact h)
/-! ===== the text: its bytes, blanks ===== -/
def bt (f : Nat → Int) (sz k : Nat) : Int := if k < sz then f k else -1
def sk (f : Nat → Int) (sz k : Nat) : Nat := if k < sz ∧ f k = 32 then sk f sz (k + 1) else k
termination_by sz - k
theorem sk_eq (f : Nat → Int) (sz k : Nat) : sk f sz k = if k < sz ∧ f k = 32 then sk f sz (k + 1) else k := by rw [sk]
theorem sk_stay {f : Nat → Int} {sz k : Nat} (h : bt f sz k ≠ 32) : sk f sz k = k := by
  rw [sk_eq, if_neg]
  rintro ⟨h1, h2⟩
  unfold bt at h
  rw [if_pos h1] at h
  exact h h2
theorem sk_go {f : Nat → Int} {sz k : Nat} (h : bt f sz k = 32) : sk f sz k = sk f sz (k + 1) := by
  have : k < sz ∧ f k = 32 := by
    unfold bt at h
    split at h
    · exact ⟨by assumption, h⟩
    · cases h
  rw [sk_eq f sz k, if_pos this]
/-- bytes of a text -/
def byts (f : Nat → Int) : Prop := ∀ k, k < 800 → 0 ≤ f k ∧ f k ≤ 255
theorem bt_range {f : Nat → Int} (hf : byts f) {sz : Nat} (hsz : sz ≤ 800) (k : Nat) : -1 ≤ bt f sz k ∧ bt f sz k ≤ 255 := by
  unfold bt
  split
  · have := hf k (by omega)
    omega
  · omega
theorem e_byteAt {d : Nat} {m : Mem} {I : Nat → Int} {A L : Nat → Nat → Int} {sz k : Nat} {i : Int} {Q : Nat → Option AV → Mem → Prop} (hM : MW m) (h3 : I 3 = (sz : Int)) (hsz : sz ≤ 800) (hi : i = (k : Int)) (hk : k ≤ 100000) (h : Q 0 (some (vI (bt (A 2) sz k))) (MS m I A L)) : Ex d M_byteAt 0 [some (vR aM), some (vI i)] [] (MS m I A L) Q := by
  subst hi
  refine Ex_step (tk_M_byteAt rfl) ?_
  refine Ex_step (tk_M_byteAt rfl) ?_
  refine gMI (tk_M_byteAt rfl) hM ?_
  refine Ex_step (tk_M_byteAt rfl) ⟨fun h5 => ?_, fun h5 => ?_⟩
  · try simp (disch := omega) only [cmpI, w32_b2i, b2i_0, b2i_1, w32_id, Classical.not_not, not_true_eq_false, not_false_eq_true] at h5
    refine Ex_step (tk_M_byteAt rfl) ?_
    refine gMR (tk_M_byteAt rfl) hM hM.r8 ?_
    refine Ex_step (tk_M_byteAt rfl) ?_
    refine lMI (j := 2) (n := k) (tk_M_byteAt rfl) (by decide) hM.k2 hM.n2 (w32_id (by omega) (by omega)) (by omega) ?_
    refine Ex_step (tk_M_byteAt rfl) ⟨rfl, ?_⟩
    first | (rw [show bt (A 2) sz k = A 2 k from if_pos (by omega)] at h; exact h) | (rw [show bt (A 2) sz k = -1 from if_neg (by omega)] at h; exact h)
  · try simp (disch := omega) only [cmpI, w32_b2i, b2i_0, b2i_1, w32_id, Classical.not_not, not_true_eq_false, not_false_eq_true] at h5
    refine Ex_step (tk_M_byteAt rfl) ?_
    refine Ex_step (tk_M_byteAt rfl) ?_
    refine Ex_step (tk_M_byteAt rfl) ⟨rfl, ?_⟩
    first | (rw [show bt (A 2) sz k = A 2 k from if_pos (by omega)] at h; exact h) | (rw [show bt (A 2) sz k = -1 from if_neg (by omega)] at h; exact h)
theorem e_here {d : Nat} {m : Mem} {A L : Nat → Nat → Int} {sz : Nat} {Q : Nat → Option AV → Mem → Prop} (hM : MW m) (hsz : sz ≤ 800) (hf : byts (A 2)) : ∀ (n p : Nat) (I : Nat → Int), sz - p < n → p ≤ 10000 → I 3 = (sz : Int) → I 4 = (p : Int) → Q 0 (some (vI (bt (A 2) sz (sk (A 2) sz p)))) (MS m (up1 I 4 (sk (A 2) sz p : Nat)) A L) → Ex (d + 1) M_here 0 [some (vR aM)] [] (MS m I A L) Q := by
  intro n
  induction n with
  | zero => intro p I h; omega
  | succ n ih =>
    intro p I hn hp h3 h4 h
    have hb := bt_range hf hsz p
    refine Ex_step (tk_M_here rfl) ?_
    refine Ex_step (tk_M_here rfl) ?_
    refine gMI (tk_M_here rfl) hM ?_
    refine Ex_cV0 (av := [vI (I 4)]) (tk_M_here rfl) mk_M_byteAt ⟨rfl, rfl, by decide, rfl, Nat.le_of_ble_eq_true rfl, Nat.le_of_ble_eq_true rfl⟩ (hM.k) (fun _ h => e_byteAt hM h3 hsz h4 (by omega) h) ?_
    refine Ex_step (tk_M_here rfl) ?_
    refine Ex_step (tk_M_here rfl) ⟨fun h10 => ?_, fun h10 => ?_⟩
    · try simp (disch := omega) only [cmpI, w32_b2i, b2i_0, b2i_1, w32_id, Classical.not_not, not_true_eq_false, not_false_eq_true] at h10
      rw [sk_stay (by omega), up1_self h4] at h
      refine Ex_step (tk_M_here rfl) ?_
      refine Ex_step (tk_M_here rfl) ?_
      refine gMI (tk_M_here rfl) hM ?_
      refine Ex_cV0 (av := [vI (I 4)]) (tk_M_here rfl) mk_M_byteAt ⟨rfl, rfl, by decide, rfl, Nat.le_of_ble_eq_true rfl, Nat.le_of_ble_eq_true rfl⟩ (hM.k) (fun _ h => e_byteAt hM h3 hsz h4 (by omega) h) ?_
      refine Ex_step (tk_M_here rfl) ⟨rfl, ?_⟩
      exact h
    · try simp (disch := omega) only [cmpI, w32_b2i, b2i_0, b2i_1, w32_id, Classical.not_not, not_true_eq_false, not_false_eq_true] at h10
      refine Ex_step (tk_M_here rfl) ?_
      refine Ex_step (tk_M_here rfl) ?_
      refine gMI (tk_M_here rfl) hM ?_
      refine Ex_step (tk_M_here rfl) ?_
      refine Ex_step (tk_M_here rfl) ?_
      refine pMI (tk_M_here rfl) hM ?_
      refine Ex_step (tk_M_here rfl) ?_
      refine ih (p + 1) _ ?_ ?_ h3 ?_ ?_
      · have : p < sz := by unfold bt at h10; split at h10 <;> omega
        omega
      · have : p < sz := by unfold bt at h10; split at h10 <;> omega
        omega
      · show I 4 + 1 = ((p + 1 : Nat) : Int)
        omega
      · rw [sk_go h10] at h
        rw [up1_same]
        exact h
