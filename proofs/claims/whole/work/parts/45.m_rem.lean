/-! ===== the reference remembers ===== -/
def shK (c : Nat) (A : Nat → Nat → Int) : Nat → Nat → Int := fun j => if 6 ≤ j ∧ j < 5 + c then cpK 1920 (A (j + 1)) (A j) else A j
set_option maxRecDepth 100000 in
theorem shK_1 (A : Nat → Nat → Int) : shK 1 A = A := by
  funext j
  exact if_neg (by omega)
set_option maxRecDepth 100000 in
theorem shK_s {c : Nat} (hc : 1 ≤ c) (A : Nat → Nat → Int) : up1 (shK c A) (5 + c) (cpK 1920 (shK c A (6 + c)) (shK c A (5 + c))) = shK (c + 1) A := by
  funext j
  rw [show shK c A (6 + c) = A (6 + c) from if_neg (by omega), show shK c A (5 + c) = A (5 + c) from if_neg (by omega)]
  unfold up1 shK
  by_cases h : j = 5 + c
  · subst h
    rw [if_pos rfl, if_pos (by omega), show 6 + c = 5 + c + 1 by omega]
  · rw [if_neg h]
    by_cases h2 : 6 ≤ j ∧ j < 5 + c
    · rw [if_pos h2, if_pos (by omega)]
    · rw [if_neg h2, if_neg (by omega)]
def remA (b : Nat) (A : Nat → Nat → Int) : Nat → Nat → Int := if b = 8 then up1 (shK 8 A) 13 (cpK 1920 (A 3) (A 13)) else up1 A (6 + b) (cpK 1920 (A 3) (A (6 + b)))
def remB (b : Nat) : Nat := if b = 8 then 8 else b + 1
set_option maxRecDepth 100000 in
theorem MW.pk {m : Mem} (h : MW m) {j : Nat} (hj : j < 8) : mK m (aM + (6 + j)) = 13 := by
  match j with
  | 0 => exact h.k6
  | 1 => exact h.k7
  | 2 => exact h.k8
  | 3 => exact h.k9
  | 4 => exact h.k10
  | 5 => exact h.k11
  | 6 => exact h.k12
  | 7 => exact h.k13
  | _ + 8 => omega
set_option maxRecDepth 100000 in
theorem MW.pn {m : Mem} (h : MW m) {j : Nat} (hj : j < 8) : mLen m (aM + (6 + j)) = 1920 := by
  match j with
  | 0 => exact h.n6
  | 1 => exact h.n7
  | 2 => exact h.n8
  | 3 => exact h.n9
  | 4 => exact h.n10
  | 5 => exact h.n11
  | 6 => exact h.n12
  | 7 => exact h.n13
  | _ + 8 => omega
section MRem
variable {d sz n e : Nat} {m : Mem} {I : Nat → Int} {A L : Nat → Nat → Int} {Q : Nat → Option AV → Mem → Prop}
set_option maxRecDepth 100000 in
theorem f_remembers {b : Nat} (hM : MW m) (hb : b ≤ 8) (hI : I 12 = (b : Int)) (h : Q 0 none (MS m (up1 I 12 (remB b : Nat)) (remA b A) L)) : Ex (d + 1) M_remembers 0 [some (vR aM), none] [] (MS m I A L) Q := by
  have h50 : ∀ (I : Nat → Int) (A : Nat → Nat → Int) (b : Nat) (l1 : Option AV), b < 8 → I 12 = (b : Int) → Q 0 none (MS m (up1 I 12 ((b + 1 : Nat) : Int)) (up1 A (6 + b) (cpK 1920 (A 3) (A (6 + b)))) L) → Ex (d + 1) M_remembers 50 [some (vR aM), l1] [] (MS m I A L) Q := by
    intro I A b l1 hb hI h
    refine Ex_step (tk_M_remembers rfl) ?_
    refine gMR (tk_M_remembers rfl) hM hM.r9 ?_
    refine Ex_step (tk_M_remembers rfl) ?_
    refine gMR (tk_M_remembers rfl) hM hM.r11 ?_
    refine Ex_step (tk_M_remembers rfl) ?_
    refine gMI (tk_M_remembers rfl) hM ?_
    refine lMP (j := b) hM (tk_M_remembers rfl) (by rw [hI]; exact w32_id (by omega) (by omega)) (hb) ?_
    refine Ex_cS0 (av := [vR (aM + 3), vR (aM + (6 + b))]) (tk_M_remembers rfl) mk_M_copies ⟨rfl, by decide, rfl, rfl, rfl, Nat.le_of_ble_eq_true rfl, Nat.le_of_ble_eq_true rfl⟩ (fun _ h => f_copies (by decide) (by omega) (by omega) hM.k3 hM.n3 (hM.pk hb) (hM.pn hb) h) ?_
    refine Ex_step (tk_M_remembers rfl) ?_
    refine Ex_step (tk_M_remembers rfl) ?_
    refine gMI (tk_M_remembers rfl) hM ?_
    refine Ex_step (tk_M_remembers rfl) ?_
    refine Ex_step (tk_M_remembers rfl) ?_
    refine pMI (tk_M_remembers rfl) hM ?_
    refine Ex_step (tk_M_remembers rfl) ⟨rfl, ?_⟩
    rw [show I 12 + 1 = ((b + 1 : Nat) : Int) by omega]
    exact h
  by_cases h8 : b = 8
  · subst h8
    have hloop : ∀ (r c : Nat), c + r = 8 → 1 ≤ c → Ex (d + 1) M_remembers 11 [some (vR aM), some (vI (c : Int))] [] (MS m I (shK c A) L) Q := by
      intro r
      induction r with
      | zero =>
        intro c hc hc1
        have : c = 8 := by omega
        subst this
        refine Ex_step (tk_M_remembers rfl) ?_
        refine Ex_step (tk_M_remembers rfl) ?_
        refine Ex_step (tk_M_remembers rfl) ⟨fun h14 => ?_, fun h14 => ?_⟩
        · replace h14 : _ := h14
          refine Ex_step (tk_M_remembers rfl) ?_
          refine Ex_step (tk_M_remembers rfl) ?_
          refine gMI (tk_M_remembers rfl) hM ?_
          refine Ex_step (tk_M_remembers rfl) ?_
          refine Ex_step (tk_M_remembers rfl) ?_
          refine pMI (tk_M_remembers rfl) hM ?_
          refine h50 _ _ 7 _ (by decide) (by rw [up1_at, hI]; rfl) ?_
          rw [up1_same, show shK 8 A 3 = A 3 from if_neg (by omega), show shK 8 A (6 + 7) = A 13 from if_neg (by omega)]
          exact h
        · replace h14 : _ := h14
          exact absurd (show w32 8 ≤ w32 8 from Int.le_refl _) h14
      | succ r ih =>
        intro c hc hc1
        have hne : 6 + c ≠ 6 + (c - 1) := by omega
        refine Ex_step (tk_M_remembers rfl) ?_
        refine Ex_step (tk_M_remembers rfl) ?_
        refine Ex_step (tk_M_remembers rfl) ⟨fun h14 => ?_, fun h14 => ?_⟩
        · try simp (disch := omega) only [cmpI, w32_b2i, b2i_0, b2i_1, w32_id, Classical.not_not, not_true_eq_false, not_false_eq_true] at h14
          omega
        · try simp (disch := omega) only [cmpI, w32_b2i, b2i_0, b2i_1, w32_id, Classical.not_not, not_true_eq_false, not_false_eq_true] at h14
          refine Ex_step (tk_M_remembers rfl) ?_
          refine gMR (tk_M_remembers rfl) hM hM.r11 ?_
          refine Ex_step (tk_M_remembers rfl) ?_
          refine lMP (j := c) hM (tk_M_remembers rfl) (w32_id (by omega) (by omega)) (by omega) ?_
          refine Ex_step (tk_M_remembers rfl) ?_
          refine gMR (tk_M_remembers rfl) hM hM.r11 ?_
          refine Ex_step (tk_M_remembers rfl) ?_
          refine Ex_step (tk_M_remembers rfl) ?_
          refine Ex_step (tk_M_remembers rfl) ?_
          refine lMP (j := c - 1) hM (tk_M_remembers rfl) (by rw [w32_id (by omega) (by omega)]; omega) (by omega) ?_
          refine Ex_cS0 (av := [vR (aM + (6 + c)), vR (aM + (6 + (c - 1)))]) (tk_M_remembers rfl) mk_M_copies ⟨rfl, by decide, rfl, rfl, rfl, Nat.le_of_ble_eq_true rfl, Nat.le_of_ble_eq_true rfl⟩ (fun _ h => f_copies (by omega) (by omega) hne (hM.pk (by omega)) (hM.pn (by omega)) (hM.pk (by omega)) (hM.pn (by omega)) h) ?_
          refine Ex_step (tk_M_remembers rfl) ?_
          refine Ex_step (tk_M_remembers rfl) ?_
          rw [show 6 + (c - 1) = 5 + c by omega, shK_s hc1]
          exact ih (c + 1) (by omega) (by omega)
    have h2 := hloop 7 1 (by omega) (by omega)
    rw [shK_1] at h2
    refine Ex_step (tk_M_remembers rfl) ?_
    refine gMI (tk_M_remembers rfl) hM ?_
    refine Ex_step (tk_M_remembers rfl) ?_
    refine Ex_step (tk_M_remembers rfl) ⟨fun h6 => ?_, fun h6 => ?_⟩
    · replace h6 : _ := h6
      exact absurd (show w32 (I 12) = w32 8 from by rw [hI]; rfl) h6
    · replace h6 : _ := h6
      refine Ex_step (tk_M_remembers rfl) ?_
      refine Ex_step (tk_M_remembers rfl) ?_
      exact h2
  · unfold remA remB at h
    rw [if_neg h8, if_neg h8] at h
    refine Ex_step (tk_M_remembers rfl) ?_
    refine gMI (tk_M_remembers rfl) hM ?_
    refine Ex_step (tk_M_remembers rfl) ?_
    refine Ex_step (tk_M_remembers rfl) ⟨fun h6 => ?_, fun h6 => ?_⟩
    · simp only [cmpI] at h6
      rw [hI, w32_id (by omega) (by omega), show w32 8 = 8 by decide] at h6
      exact h50 I A b none (by omega) hI h
    · simp only [cmpI] at h6
      rw [hI, w32_id (by omega) (by omega), show w32 8 = 8 by decide] at h6
      omega
end MRem
