/-! ===== the reference copies rows, refuses, remembers ===== -/
def cpK (c : Nat) (a b : Nat → Int) : Nat → Int := fun k => if k < c then a k else b k
set_option maxRecDepth 100000 in
theorem cpK_0 (a b : Nat → Int) : cpK 0 a b = b := rfl
set_option maxRecDepth 100000 in
theorem cpK_s (c : Nat) (a b : Nat → Int) : up1 (cpK c a b) c (a c) = cpK (c + 1) a b := by
  funext k
  unfold up1 cpK
  by_cases h : k = c
  · rw [if_pos h, if_pos (by omega), h]
  · rw [if_neg h]
    by_cases h2 : k < c
    · rw [if_pos h2, if_pos (by omega)]
    · rw [if_neg h2, if_neg (by omega)]
section MKeep
variable {d sz n e : Nat} {m : Mem} {I : Nat → Int} {A L : Nat → Nat → Int} {Q : Nat → Option AV → Mem → Prop}
set_option maxRecDepth 100000 in
theorem f_copies {j1 j2 : Nat} (hj1 : 1 ≤ j1 ∧ j1 ≤ 23) (hj2 : 1 ≤ j2 ∧ j2 ≤ 23) (hne : j1 ≠ j2) (hk1 : mK m (aM + j1) = 13) (hl1 : mLen m (aM + j1) = 1920) (hk2 : mK m (aM + j2) = 13) (hl2 : mLen m (aM + j2) = 1920) (h : Q 0 none (MS m I (up1 A j2 (cpK 1920 (A j1) (A j2))) L)) : Ex d M_copies 0 [some (vR (aM + j1)), some (vR (aM + j2)), none] [] (MS m I A L) Q := by
  have hloop : ∀ (r c : Nat), c + r = 1920 → Ex d M_copies 2 [some (vR (aM + j1)), some (vR (aM + j2)), some (vI (c : Int))] [] (MS m I (up1 A j2 (cpK c (A j1) (A j2))) L) Q := by
    intro r
    induction r with
    | zero =>
      intro c hc
      have : c = 1920 := by omega
      subst this
      refine Ex_step (tk_M_copies rfl) ?_
      refine Ex_step (tk_M_copies rfl) ?_
      refine Ex_step (tk_M_copies rfl) ⟨fun h6 => ?_, fun h6 => ?_⟩
      · replace h6 : _ := h6
        refine Ex_step (tk_M_copies rfl) ⟨rfl, ?_⟩
        exact h
      · replace h6 : _ := h6
        exact absurd (show w32 1920 ≤ w32 1920 from Int.le_refl _) h6
    | succ r ih =>
      intro c hc
      refine Ex_step (tk_M_copies rfl) ?_
      refine Ex_step (tk_M_copies rfl) ?_
      refine Ex_step (tk_M_copies rfl) ⟨fun h6 => ?_, fun h6 => ?_⟩
      · try simp (disch := omega) only [cmpI, w32_b2i, b2i_0, b2i_1, w32_id, Classical.not_not, not_true_eq_false, not_false_eq_true] at h6
        omega
      · try simp (disch := omega) only [cmpI, w32_b2i, b2i_0, b2i_1, w32_id, Classical.not_not, not_true_eq_false, not_false_eq_true] at h6
        refine Ex_step (tk_M_copies rfl) ?_
        refine Ex_step (tk_M_copies rfl) ?_
        refine Ex_step (tk_M_copies rfl) ?_
        refine Ex_step (tk_M_copies rfl) ?_
        refine lMI (j := j1) (n := c) (tk_M_copies rfl) hj1 hk1 hl1 (w32_id (by omega) (by omega)) (by omega) ?_
        rw [up1_ne _ _ hne]
        refine tMI (j := j2) (n := c) (tk_M_copies rfl) hj2 hk2 hl2 (w32_id (by omega) (by omega)) (by omega) ?_
        rw [up1_at, up1_same, cpK_s]
        refine Ex_step (tk_M_copies rfl) ?_
        refine Ex_step (tk_M_copies rfl) ?_
        exact ih (c + 1) (by omega)
  have h2 := hloop 1920 0 (by omega)
  rw [cpK_0, up1_self rfl] at h2
  refine Ex_step (tk_M_copies rfl) ?_
  refine Ex_step (tk_M_copies rfl) ?_
  exact h2
def badI (p : Prop) [Decidable p] (w : Int) (I : Nat → Int) : Nat → Int := if p ∧ I 0 = 0 then up1 I 0 w else I
def badA (p : Prop) [Decidable p] (r : Nat) (I : Nat → Int) (A : Nat → Nat → Int) : Nat → Nat → Int := if p ∧ I 0 = 0 then up1 A 1 (up1 (A 1) r (A 1 r + 1)) else A
set_option maxRecDepth 100000 in
theorem f_bad {p : Prop} [Decidable p] {w : Int} {r : Nat} (hM : MW m) (hw : 1 ≤ w ∧ w ≤ 2) (hr : r ≤ 1) (hI : 0 ≤ I 0 ∧ I 0 ≤ 2) (h : Q 0 (some (vI (b2i (¬ badI p w I 0 = 0)))) (MS m (badI p w I) (badA p r I A) L)) : Ex d M_bad 0 [some (vR aM), some (vI (b2i p)), some (vI w), some (vI (r : Int))] [] (MS m I A L) Q := by
  have h26 : ∀ (I : Nat → Int) (A : Nat → Nat → Int), 0 ≤ I 0 ∧ I 0 ≤ 2 → Q 0 (some (vI (b2i (¬ I 0 = 0)))) (MS m I A L) → Ex d M_bad 26 [some (vR aM), some (vI (b2i p)), some (vI w), some (vI (r : Int))] [] (MS m I A L) Q := by
    intro I A hI h
    refine Ex_step (tk_M_bad rfl) ?_
    refine gMI (tk_M_bad rfl) hM ?_
    refine Ex_step (tk_M_bad rfl) ⟨fun h30 => ?_, fun h30 => ?_⟩
    · try simp (disch := omega) only [cmpI, w32_b2i, b2i_0, b2i_1, w32_id, Classical.not_not, not_true_eq_false, not_false_eq_true] at h30
      refine Ex_step (tk_M_bad rfl) ?_
      refine Ex_step (tk_M_bad rfl) ⟨rfl, by first | exact Or.inl rfl | exact Or.inr rfl | exact b2i_01 _ | assumption, ?_⟩
      first | (rw [b2i_f (by omega)] at h; exact h) | (rw [b2i_t (by omega)] at h; exact h)
    · try simp (disch := omega) only [cmpI, w32_b2i, b2i_0, b2i_1, w32_id, Classical.not_not, not_true_eq_false, not_false_eq_true] at h30
      refine Ex_step (tk_M_bad rfl) ?_
      refine Ex_step (tk_M_bad rfl) ?_
      refine Ex_step (tk_M_bad rfl) ⟨rfl, by first | exact Or.inl rfl | exact Or.inr rfl | exact b2i_01 _ | assumption, ?_⟩
      first | (rw [b2i_f (by omega)] at h; exact h) | (rw [b2i_t (by omega)] at h; exact h)
  unfold badI badA at h
  refine Ex_step (tk_M_bad rfl) ?_
  refine Ex_step (tk_M_bad rfl) ⟨fun h1 => ?_, fun h1 => ?_⟩
  · try simp (disch := omega) only [cmpI, w32_b2i, b2i_0, b2i_1, w32_id, Classical.not_not, not_true_eq_false, not_false_eq_true] at h1
    first | (rw [if_neg (fun z => h1 z.1), if_neg (fun z => h1 z.1)] at h; exact h26 _ _ hI h) | (rw [if_neg (fun z => h8 z.2), if_neg (fun z => h8 z.2)] at h; exact h26 _ _ hI h) | (rw [if_pos ⟨h1, h8⟩, if_pos ⟨h1, h8⟩] at h; exact h26 _ _ (by rw [up1_at]; omega) h)
  · try simp (disch := omega) only [cmpI, w32_b2i, b2i_0, b2i_1, w32_id, Classical.not_not, not_true_eq_false, not_false_eq_true] at h1
    refine Ex_step (tk_M_bad rfl) ?_
    refine gMI (tk_M_bad rfl) hM ?_
    refine Ex_step (tk_M_bad rfl) ⟨fun h8 => ?_, fun h8 => ?_⟩
    · try simp (disch := omega) only [cmpI, w32_b2i, b2i_0, b2i_1, w32_id, Classical.not_not, not_true_eq_false, not_false_eq_true] at h8
      first | (rw [if_neg (fun z => h1 z.1), if_neg (fun z => h1 z.1)] at h; exact h26 _ _ hI h) | (rw [if_neg (fun z => h8 z.2), if_neg (fun z => h8 z.2)] at h; exact h26 _ _ hI h) | (rw [if_pos ⟨h1, h8⟩, if_pos ⟨h1, h8⟩] at h; exact h26 _ _ (by rw [up1_at]; omega) h)
    · try simp (disch := omega) only [cmpI, w32_b2i, b2i_0, b2i_1, w32_id, Classical.not_not, not_true_eq_false, not_false_eq_true] at h8
      refine Ex_step (tk_M_bad rfl) ?_
      refine Ex_step (tk_M_bad rfl) ?_
      refine pMI (tk_M_bad rfl) hM ?_
      refine Ex_step (tk_M_bad rfl) ?_
      refine gMR (tk_M_bad rfl) hM hM.r1 ?_
      refine Ex_step (tk_M_bad rfl) ?_
      refine Ex_step (tk_M_bad rfl) ?_
      refine lMI (j := 1) (n := r) (tk_M_bad rfl) (by decide) hM.k1 hM.n1 (w32_id (by omega) (by omega)) (by omega) ?_
      refine Ex_step (tk_M_bad rfl) ?_
      refine Ex_step (tk_M_bad rfl) ?_
      refine tMI (j := 1) (n := r) (tk_M_bad rfl) (by decide) hM.k1 hM.n1 (w32_id (by omega) (by omega)) (by omega) ?_
      first | (rw [if_neg (fun z => h1 z.1), if_neg (fun z => h1 z.1)] at h; exact h26 _ _ hI h) | (rw [if_neg (fun z => h8 z.2), if_neg (fun z => h8 z.2)] at h; exact h26 _ _ hI h) | (rw [if_pos ⟨h1, h8⟩, if_pos ⟨h1, h8⟩] at h; exact h26 _ _ (by rw [up1_at]; omega) h)
end MKeep
