/-! ===== the reference reads a text ===== -/
noncomputable def tlP (f : Nat → Int) (sz : Nat) : Nat → PSt → PSt
  | 0, s => s
  | r + 1, s => if pFl s = 0 then (if hereC f sz s = -1 then hereP f sz s else tlP f sz r (lineP f sz (hereP f sz s))) else s
set_option maxRecDepth 100000 in
theorem tl_ok {f : Nat → Int} {sz : Nat} (hsz : sz ≤ 800) : ∀ (r : Nat) (s : PSt), LI sz s → LI sz (tlP f sz r s)
  | 0, s, h => h
  | r + 1, s, h => by
    have hh : LI sz (hereP f sz s) := ⟨h.1.here, h.2⟩
    unfold tlP
    split
    · next h0 =>
      split
      · exact hh
      · exact tl_ok hsz r _ (line_ok hh h0 hsz).1
    · exact h
section MText
variable {d sz n e : Nat} {m : Mem} {I : Nat → Int} {A L : Nat → Nat → Int} {Q : Nat → Option AV → Mem → Prop}
set_option maxRecDepth 100000 in
theorem f_tl (hW : LowW m) (hR : RdW m I A sz) {l1 l2 : Option AV} : ∀ (r : Nat) (s : PSt), LI sz s → 1 ≤ r → (pFl s = 0 → sz + 2 - pAt s ≤ r) → Ex (d + 57) M_text 112 [some (vR aM), l1, l2] [] (PM m I A L (tlP (A 2) sz r s)) Q → Ex (d + 57) M_text 90 [some (vR aM), l1, l2] [] (PM m I A L s) Q := by
  have hM := hR.1
  have hsz := hR.2.2.1
  intro r
  induction r with
  | zero => intro s hL h1; omega
  | succ r ih =>
    intro s hL h1 hr h
    have hh : LI sz (hereP (A 2) sz s) := ⟨hL.1.here, hL.2⟩
    have hc := hereC_range hR s
    unfold tlP at h
    refine Ex_step (tk_M_text rfl) ?_
    refine Ex_cV0 (av := []) (tk_M_text rfl) mk_M_fine ⟨rfl, rfl, by decide, rfl, Nat.le_of_ble_eq_true rfl, Nat.le_of_ble_eq_true rfl⟩ (hM.k) (fun _ h => f_fine hR hL.1.1.1 h) ?_
    refine Ex_step (tk_M_text rfl) ⟨fun h94 => ?_, fun h94 => ?_⟩
    · try simp (disch := omega) only [cmpI, w32_b2i, b2i_0, b2i_1, w32_id, Classical.not_not, not_true_eq_false, not_false_eq_true] at h94
      first | (rw [if_neg h94] at h; exact h) | (rw [if_pos h94, if_pos h102] at h; exact h)
    · try simp (disch := omega) only [cmpI, w32_b2i, b2i_0, b2i_1, w32_id, Classical.not_not, not_true_eq_false, not_false_eq_true] at h94
      refine Ex_step (tk_M_text rfl) ?_
      refine Ex_cV0 (av := []) (tk_M_text rfl) mk_M_here ⟨rfl, rfl, by decide, rfl, Nat.le_of_ble_eq_true rfl, Nat.le_of_ble_eq_true rfl⟩ (hM.k) (fun _ h => f_here hR (hL.1.gd hsz).1 h) ?_
      refine Ex_step (tk_M_text rfl) ?_
      refine Ex_step (tk_M_text rfl) ⟨fun h102 => ?_, fun h102 => ?_⟩
      · try simp (disch := omega) only [cmpI, w32_b2i, b2i_0, b2i_1, w32_id, Classical.not_not, not_true_eq_false, not_false_eq_true] at h102
        first | (rw [if_neg h94] at h; exact h) | (rw [if_pos h94, if_pos h102] at h; exact h)
      · try simp (disch := omega) only [cmpI, w32_b2i, b2i_0, b2i_1, w32_id, Classical.not_not, not_true_eq_false, not_false_eq_true] at h102
        rw [if_pos h94, if_neg h102] at h
        have ln := line_ok (f := A 2) hh h94 hsz
        have hat : sk (A 2) sz (pAt s) < sz := bt_ne (k := sk (A 2) sz (pAt s)) (c := hereC (A 2) sz s) rfl (by omega)
        have hk := (sk_le (A 2) sz (sz + 1) (pAt s) (by omega)).1
        have hr1 := hr h94
        refine Ex_step (tk_M_text rfl) ?_
        refine Ex_cV0 (av := []) (tk_M_text rfl) mk_M_readsLine ⟨rfl, rfl, by decide, rfl, Nat.le_of_ble_eq_true rfl, Nat.le_of_ble_eq_true rfl⟩ (hM.k) (fun _ h => f_readsLine hW hR hh h94 h) ?_
        refine Ex_step (tk_M_text rfl) ?_
        exact ih _ ln.1 (by omega) (fun q => by have q2 : sk (A 2) sz (pAt s) < _ := ln.2 q; omega) h
def s0P (T : Nat → Int) : PSt := (0, 0, -1, 0, 0, T)
def txI (n : Int) (I : Nat → Int) : Nat → Int := up1 (up1 (up1 I 0 0) 2 0) 3 n
set_option maxRecDepth 100000 in
theorem s0_I (I : Nat → Int) (T : Nat → Int) : up1 (up1 (up1 (up1 (up1 I 4 0) 6 0) 7 (-1)) 13 0) 14 0 = pI I (s0P T) := by
  funext k
  unfold up1 pI
  by_cases h14 : k = 14
  · subst h14; rfl
  · rw [if_neg h14]
    by_cases h13 : k = 13
    · subst h13; rfl
    · rw [if_neg h13]
      by_cases h7 : k = 7
      · subst h7; rfl
      · rw [if_neg h7]
        by_cases h6 : k = 6
        · subst h6; rfl
        · rw [if_neg h6]
          by_cases h4 : k = 4
          · subst h4; rfl
          · rw [if_neg h4, if_neg h4, if_neg h6, if_neg h7, if_neg h13, if_neg h14]
set_option maxRecDepth 100000 in
theorem pI_5 (I : Nat → Int) (s : PSt) (x : Int) : up1 (pI I s) 5 x = pI (up1 I 5 x) s := by
  funext k
  unfold up1 pI
  by_cases h : k = 5
  · subst h; rfl
  · rw [if_neg h, show (fun j => if j = 5 then x else I j) k = I k from if_neg h]
set_option maxRecDepth 100000 in
theorem f_text0 (hM : MW m) {n : Int} (hn1 : -2147483648 ≤ n) (hn2 : n ≤ 2147483647) {tp : Nat} (htp : tp ≤ 800) (h2 : I 2 = (tp : Int)) (hbad : ¬ (0 ≤ n ∧ n ≤ (tp : Int)) → Q 0 (some (vI 0)) (MS m (up1 (up1 I 0 0) 0 1) (up1 A 1 (up1 (A 1) 1 (A 1 1 + 1))) L)) (hok : 0 ≤ n ∧ n ≤ (tp : Int) → Ex (d + 57) M_text 90 [some (vR aM), some (vI n), some (vI 1920)] [] (PM m (txI n I) A L (s0P (cpK 1920 (fun _ => 0) (A 4)))) Q) : Ex (d + 57) M_text 0 [some (vR aM), some (vI n), none] [] (MS m I A L) Q := by
  have h02 : up1 I 0 0 2 = (tp : Int) := h2
  have hloop : ∀ (I : Nat → Int) (r c : Nat), c + r = 1920 → Ex (d + 57) M_text 90 [some (vR aM), some (vI n), some (vI 1920)] [] (MS m I (up1 A 4 (cpK 1920 (fun _ => 0) (A 4))) L) Q → Ex (d + 57) M_text 70 [some (vR aM), some (vI n), some (vI (c : Int))] [] (MS m I (up1 A 4 (cpK c (fun _ => 0) (A 4))) L) Q := by
    intro I r
    induction r with
    | zero =>
      intro c hc h
      have : c = 1920 := by omega
      subst this
      refine Ex_step (tk_M_text rfl) ?_
      refine Ex_step (tk_M_text rfl) ?_
      refine Ex_step (tk_M_text rfl) ⟨fun h74 => ?_, fun h74 => ?_⟩
      · replace h74 : _ := h74
        exact h
      · replace h74 : _ := h74
        exact absurd (show w32 1920 ≤ w32 1920 from Int.le_refl _) h74
    | succ r ih =>
      intro c hc h
      refine Ex_step (tk_M_text rfl) ?_
      refine Ex_step (tk_M_text rfl) ?_
      refine Ex_step (tk_M_text rfl) ⟨fun h74 => ?_, fun h74 => ?_⟩
      · try simp (disch := omega) only [cmpI, w32_b2i, b2i_0, b2i_1, w32_id, Classical.not_not, not_true_eq_false, not_false_eq_true] at h74
        omega
      · try simp (disch := omega) only [cmpI, w32_b2i, b2i_0, b2i_1, w32_id, Classical.not_not, not_true_eq_false, not_false_eq_true] at h74
        refine Ex_step (tk_M_text rfl) ?_
        refine gMR (tk_M_text rfl) hM hM.r10 ?_
        refine Ex_step (tk_M_text rfl) ?_
        refine Ex_step (tk_M_text rfl) ?_
        refine tMI (j := 4) (n := c) (tk_M_text rfl) (by decide) hM.k4 hM.n4 (w32_id (by omega) (by omega)) (by omega) ?_
        rw [up1_at, up1_same, cpK_s c (fun _ => 0) (A 4)]
        refine Ex_step (tk_M_text rfl) ?_
        refine Ex_step (tk_M_text rfl) ?_
        exact ih (c + 1) (by omega) h
  have h33 : 0 ≤ n ∧ n ≤ (tp : Int) → Ex (d + 57) M_text 33 [some (vR aM), some (vI n), none] [] (MS m (up1 I 0 0) A L) Q := by
    intro hq
    have h9 := hloop (pI (txI n I) (s0P (cpK 1920 (fun _ => 0) (A 4)))) 1920 0 (by omega) (hok hq)
    rw [cpK_0, up1_self rfl, ← s0_I] at h9
    refine Ex_step (tk_M_text rfl) ?_
    refine Ex_step (tk_M_text rfl) ?_
    refine pMI (tk_M_text rfl) hM ?_
    refine Ex_step (tk_M_text rfl) ?_
    refine Ex_step (tk_M_text rfl) ?_
    refine pMI (tk_M_text rfl) hM ?_
    refine Ex_step (tk_M_text rfl) ?_
    refine Ex_step (tk_M_text rfl) ?_
    refine pMI (tk_M_text rfl) hM ?_
    refine Ex_step (tk_M_text rfl) ?_
    refine Ex_step (tk_M_text rfl) ?_
    refine pMI (tk_M_text rfl) hM ?_
    refine Ex_step (tk_M_text rfl) ?_
    refine Ex_step (tk_M_text rfl) ?_
    refine pMI (tk_M_text rfl) hM ?_
    refine Ex_step (tk_M_text rfl) ?_
    refine Ex_step (tk_M_text rfl) ?_
    refine pMI (tk_M_text rfl) hM ?_
    refine Ex_step (tk_M_text rfl) ?_
    refine Ex_step (tk_M_text rfl) ?_
    refine pMI (tk_M_text rfl) hM ?_
    refine Ex_step (tk_M_text rfl) ?_
    refine Ex_step (tk_M_text rfl) ?_
    exact h9
  have hb : ∀ v : Int, v = b2i (¬ (0 ≤ n ∧ n ≤ (tp : Int))) → Ex (d + 57) M_text 23 [some (vR aM), some (vI n), none] [vI v, vR aM] (MS m (up1 I 0 0) A L) Q := by
    intro v hv
    subst hv
    by_cases hq : 0 ≤ n ∧ n ≤ (tp : Int)
    · have e1 : badI (¬ (0 ≤ n ∧ n ≤ (tp : Int))) 1 (up1 I 0 0) = up1 I 0 0 := if_neg (fun z => z.1 hq)
      have e2 : badA (¬ (0 ≤ n ∧ n ≤ (tp : Int))) 1 (up1 I 0 0) A = A := if_neg (fun z => z.1 hq)
      have e3 : b2i (¬ badI (¬ (0 ≤ n ∧ n ≤ (tp : Int))) 1 (up1 I 0 0) 0 = 0) = 0 := b2i_f (fun z => z (by rw [e1]; exact up1_at _ _ _))
      refine Ex_step (tk_M_text rfl) ?_
      refine Ex_step (tk_M_text rfl) ?_
      refine Ex_cV0 (av := [vI (b2i (¬ (0 ≤ n ∧ n ≤ (tp : Int)))), vI 1, vI 1]) (tk_M_text rfl) mk_M_bad ⟨rfl, rfl, by decide, rfl, Nat.le_of_ble_eq_true rfl, Nat.le_of_ble_eq_true rfl⟩ (hM.k) (fun _ h => f_bad (r := 1) hM (by decide) (by decide) (by rw [up1_at]; decide) h) ?_
      rw [e3, e1, e2]
      refine Ex_step (tk_M_text rfl) ⟨fun h28 => ?_, fun h28 => ?_⟩
      · replace h28 : _ := h28
        exact h33 hq
      · replace h28 : _ := h28
        exact absurd rfl h28
    · have e1 : badI (¬ (0 ≤ n ∧ n ≤ (tp : Int))) 1 (up1 I 0 0) = up1 (up1 I 0 0) 0 1 := if_pos ⟨hq, up1_at _ _ _⟩
      have e2 : badA (¬ (0 ≤ n ∧ n ≤ (tp : Int))) 1 (up1 I 0 0) A = up1 A 1 (up1 (A 1) 1 (A 1 1 + 1)) := if_pos ⟨hq, up1_at _ _ _⟩
      have e3 : b2i (¬ badI (¬ (0 ≤ n ∧ n ≤ (tp : Int))) 1 (up1 I 0 0) 0 = 0) = 1 := b2i_t (by rw [e1, up1_at]; decide)
      refine Ex_step (tk_M_text rfl) ?_
      refine Ex_step (tk_M_text rfl) ?_
      refine Ex_cV0 (av := [vI (b2i (¬ (0 ≤ n ∧ n ≤ (tp : Int)))), vI 1, vI 1]) (tk_M_text rfl) mk_M_bad ⟨rfl, rfl, by decide, rfl, Nat.le_of_ble_eq_true rfl, Nat.le_of_ble_eq_true rfl⟩ (hM.k) (fun _ h => f_bad (r := 1) hM (by decide) (by decide) (by rw [up1_at]; decide) h) ?_
      rw [e3, e1, e2]
      refine Ex_step (tk_M_text rfl) ⟨fun h28 => ?_, fun h28 => ?_⟩
      · replace h28 : _ := h28
        exact absurd (show w32 1 = w32 0 from h28) (by decide)
      · replace h28 : _ := h28
        refine Ex_step (tk_M_text rfl) ?_
        refine Ex_step (tk_M_text rfl) ⟨rfl, ?_⟩
        exact hbad hq
  refine Ex_step (tk_M_text rfl) ?_
  refine Ex_step (tk_M_text rfl) ?_
  refine pMI (tk_M_text rfl) hM ?_
  refine Ex_step (tk_M_text rfl) ?_
  refine Ex_step (tk_M_text rfl) ?_
  refine Ex_step (tk_M_text rfl) ?_
  refine Ex_step (tk_M_text rfl) ?_
  refine gMI (tk_M_text rfl) hM ?_
  refine Ex_cS0 (av := [vI n, vI 0, vI (up1 I 0 0 2)]) (tk_M_text rfl) mk_M_in ⟨rfl, by decide, rfl, rfl, rfl, Nat.le_of_ble_eq_true rfl, Nat.le_of_ble_eq_true rfl⟩ (fun _ h => e_in h) ?_
  refine Ex_step (tk_M_text rfl) ⟨fun h15 => ?_, fun h15 => ?_⟩
  · try simp (disch := omega) only [cmpI, w32_b2i, b2i_0, b2i_1, w32_id, Classical.not_not, not_true_eq_false, not_false_eq_true] at h15
    refine Ex_step (tk_M_text rfl) ?_
    first | exact hb 1 (b2i_t (by omega)).symm | exact hb 0 (b2i_f (by omega)).symm
  · try simp (disch := omega) only [cmpI, w32_b2i, b2i_0, b2i_1, w32_id, Classical.not_not, not_true_eq_false, not_false_eq_true] at h15
    refine Ex_step (tk_M_text rfl) ?_
    refine Ex_step (tk_M_text rfl) ?_
    first | exact hb 1 (b2i_t (by omega)).symm | exact hb 0 (b2i_f (by omega)).symm
end MText
