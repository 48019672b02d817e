/-! ===== the reference: where its rows lie ===== -/
def MW (M : Nat) (m : Mem) : Prop := 100 ≤ M ∧ mK m M = 12 ∧
  (mFR m 769 M = M + 1 ∧ mFR m 776 M = M + 2 ∧ mFR m 777 M = M + 3 ∧ mFR m 778 M = M + 4 ∧ mFR m 779 M = M + 5 ∧ mFR m 785 M = M + 14 ∧ mFR m 786 M = M + 15 ∧ mFR m 787 M = M + 16 ∧ mFR m 788 M = M + 17 ∧ mFR m 789 M = M + 18 ∧ mFR m 800 M = M + 19 ∧ mFR m 801 M = M + 20 ∧ mFR m 802 M = M + 21 ∧ mFR m 803 M = M + 22 ∧ mFR m 804 M = M + 23) ∧
  (mK m (M + 1) = 13 ∧ mK m (M + 2) = 13 ∧ mK m (M + 3) = 13 ∧ mK m (M + 4) = 13 ∧ mK m (M + 5) = 19 ∧ mK m (M + 14) = 13 ∧ mK m (M + 15) = 14 ∧ mK m (M + 16) = 14 ∧ mK m (M + 17) = 14 ∧ mK m (M + 18) = 14 ∧ mK m (M + 19) = 14 ∧ mK m (M + 20) = 14 ∧ mK m (M + 21) = 15 ∧ mK m (M + 22) = 13 ∧ mK m (M + 23) = 13) ∧
  (mLen m (M + 1) = 2 ∧ mLen m (M + 2) = 800 ∧ mLen m (M + 3) = 1920 ∧ mLen m (M + 4) = 1920 ∧ mLen m (M + 5) = 8 ∧ mLen m (M + 14) = 100 ∧ mLen m (M + 15) = 10 ∧ mLen m (M + 16) = 10 ∧ mLen m (M + 17) = 10 ∧ mLen m (M + 18) = 10 ∧ mLen m (M + 19) = 1300 ∧ mLen m (M + 20) = 5 ∧ mLen m (M + 21) = 100 ∧ mLen m (M + 22) = 100 ∧ mLen m (M + 23) = 6) ∧
  ∀ j, j < 8 → mAR m (M + 5) j = M + 6 + j ∧ mK m (M + 6 + j) = 13 ∧ mLen m (M + 6 + j) = 1920
theorem MW.sI {M : Nat} {m : Mem} (h : MW M m) (f a : Nat) (v : Int) : MW M (sFI m f a v) := h
theorem MW.sA {M : Nat} {m : Mem} (h : MW M m) (a : Nat) (r : Nat → Int) : MW M (sAI m a r) := h
theorem MW.sL {M : Nat} {m : Mem} (h : MW M m) (a : Nat) (r : Nat → Int) : MW M (sAL m a r) := h
/-! ===== small functions of the reference ===== -/
abbrev b2i (p : Prop) [Decidable p] : Int := if p then 1 else 0
theorem e_less {d : Nat} {m : Mem} {x z : Int} {Q : Nat → Option AV → Mem → Prop} (h : Q 0 (some (vI (if w32 x < w32 z then x else z))) m) : Ex d M_less 0 [some (vI x), some (vI z)] [] m Q := by
  refine Ex_step (tk_M_less rfl) ?_
  refine Ex_step (tk_M_less rfl) ?_
  refine Ex_step (tk_M_less rfl) ⟨fun hc => ?_, fun hc => ?_⟩
  · refine Ex_step (tk_M_less rfl) ?_
    refine Ex_step (tk_M_less rfl) ⟨rfl, ?_⟩
    rw [if_neg (by unfold cmpI at hc; omega)] at h
    exact h
  · refine Ex_step (tk_M_less rfl) ?_
    refine Ex_step (tk_M_less rfl) ?_
    refine Ex_step (tk_M_less rfl) ⟨rfl, ?_⟩
    rw [if_pos (by unfold cmpI at hc; omega)] at h
    exact h
theorem e_more {d : Nat} {m : Mem} {x z : Int} {Q : Nat → Option AV → Mem → Prop} (h : Q 0 (some (vI (if w32 z < w32 x then x else z))) m) : Ex d M_more 0 [some (vI x), some (vI z)] [] m Q := by
  refine Ex_step (tk_M_more rfl) ?_
  refine Ex_step (tk_M_more rfl) ?_
  refine Ex_step (tk_M_more rfl) ⟨fun hc => ?_, fun hc => ?_⟩
  · refine Ex_step (tk_M_more rfl) ?_
    refine Ex_step (tk_M_more rfl) ⟨rfl, ?_⟩
    rw [if_neg (by unfold cmpI at hc; omega)] at h
    exact h
  · refine Ex_step (tk_M_more rfl) ?_
    refine Ex_step (tk_M_more rfl) ?_
    refine Ex_step (tk_M_more rfl) ⟨rfl, ?_⟩
    rw [if_pos (by unfold cmpI at hc; omega)] at h
    exact h
theorem e_in {d : Nat} {m : Mem} {v lo hi : Int} {Q : Nat → Option AV → Mem → Prop} (h : Q 0 (some (vI (b2i (w32 lo ≤ w32 v ∧ w32 v ≤ w32 hi)))) m) : Ex d M_in 0 [some (vI v), some (vI lo), some (vI hi)] [] m Q := by
  refine Ex_step (tk_M_in rfl) ?_
  refine Ex_step (tk_M_in rfl) ?_
  refine Ex_step (tk_M_in rfl) ⟨fun hc => ?_, fun hc => ?_⟩
  · refine Ex_step (tk_M_in rfl) ?_
    refine Ex_step (tk_M_in rfl) ⟨rfl, Or.inl rfl, ?_⟩
    rw [show b2i (w32 lo ≤ w32 v ∧ w32 v ≤ w32 hi) = 0 from if_neg (by unfold cmpI at hc; omega)] at h
    exact h
  · refine Ex_step (tk_M_in rfl) ?_
    refine Ex_step (tk_M_in rfl) ?_
    refine Ex_step (tk_M_in rfl) ⟨fun hd => ?_, fun hd => ?_⟩
    · refine Ex_step (tk_M_in rfl) ?_
      refine Ex_step (tk_M_in rfl) ⟨rfl, Or.inl rfl, ?_⟩
      rw [show b2i (w32 lo ≤ w32 v ∧ w32 v ≤ w32 hi) = 0 from if_neg (by unfold cmpI at hc hd; omega)] at h
      exact h
    · refine Ex_step (tk_M_in rfl) ?_
      refine Ex_step (tk_M_in rfl) ?_
      refine Ex_step (tk_M_in rfl) ⟨rfl, Or.inr rfl, ?_⟩
      rw [show b2i (w32 lo ≤ w32 v ∧ w32 v ≤ w32 hi) = 1 from if_pos (by unfold cmpI at hc hd; omega)] at h
      exact h
theorem e_fine {d M : Nat} {m : Mem} {Q : Nat → Option AV → Mem → Prop} (hM : MW M m) (h : Q 0 (some (vI (b2i (w32 (mFI m 774 M) = 0)))) m) : Ex d M_fine 0 [some (vR M)] [] m Q := by
  have hk12 : mK m M = 12 := hM.2.1
  refine Ex_step (tk_M_fine rfl) ?_
  refine Ex_step (tk_M_fine rfl) ⟨hk12, ?_⟩
  refine Ex_step (tk_M_fine rfl) ⟨fun hc => ?_, fun hc => ?_⟩
  · refine Ex_step (tk_M_fine rfl) ?_
    refine Ex_step (tk_M_fine rfl) ⟨rfl, Or.inl rfl, ?_⟩
    rw [show b2i (w32 (mFI m 774 M) = 0) = 0 from if_neg (by unfold cmpI at hc; exact hc)] at h
    exact h
  · refine Ex_step (tk_M_fine rfl) ?_
    refine Ex_step (tk_M_fine rfl) ?_
    refine Ex_step (tk_M_fine rfl) ⟨rfl, Or.inr rfl, ?_⟩
    rw [show b2i (w32 (mFI m 774 M) = 0) = 1 from if_pos (by unfold cmpI at hc; exact Classical.not_not.mp hc)] at h
    exact h
