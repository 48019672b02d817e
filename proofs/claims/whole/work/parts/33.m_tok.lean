/-! ===== words and numbers ===== -/
def wordAt (f : Nat → Int) (sz p n : Nat) (g : Nat → Int) : Prop := (∀ j, j < n → bt f sz (p + j) = g j) ∧ ¬ (97 ≤ bt f sz (p + n) ∧ bt f sz (p + n) ≤ 122)
set_option maxRecDepth 100000 in
theorem Txt_MS {m : Mem} {a v n : Nat} {g : Nat → Int} (ha : a < 100) (hv : v < 100) (h : Txt m a v n g) (I : Nat → Int) (A L : Nat → Nat → Int) : Txt (MS m I A L) a v n g := by
  obtain ⟨h1, h2, h3, h4, h5, h6, h7⟩ := h
  refine ⟨h1, h2, ?_, h4, h5, h6, fun j hj => ?_⟩
  · rw [mFI_MS, if_neg (by unfold aM; omega)]
    exact h3
  · rw [show mAI (MS m I A L) v = mAI m v from if_neg (by unfold aM; omega)]
    exact h7 j hj
noncomputable def takesB (f : Nat → Int) (sz n : Nat) (g : Nat → Int) (s : PSt) : Int := haveI := Classical.propDecidable; b2i (pFl s = 0 ∧ wordAt f sz (sk f sz (pAt s)) n g)
noncomputable def takesP (f : Nat → Int) (sz n : Nat) (g : Nat → Int) (s : PSt) : PSt := haveI := Classical.propDecidable; if pFl s = 0 then (if wordAt f sz (sk f sz (pAt s)) n g then wAtP s (sk f sz (pAt s) + n) else hereP f sz s) else s
set_option maxRecDepth 100000 in
theorem takesB_t {f : Nat → Int} {sz n : Nat} {g : Nat → Int} {s : PSt} (h : pFl s = 0 ∧ wordAt f sz (sk f sz (pAt s)) n g) : takesB f sz n g s = 1 := by
  unfold takesB
  exact if_pos h
set_option maxRecDepth 100000 in
theorem takesB_f {f : Nat → Int} {sz n : Nat} {g : Nat → Int} {s : PSt} (h : ¬ (pFl s = 0 ∧ wordAt f sz (sk f sz (pAt s)) n g)) : takesB f sz n g s = 0 := by
  unfold takesB
  exact if_neg h
set_option maxRecDepth 100000 in
theorem takesB_01 (f : Nat → Int) (sz n : Nat) (g : Nat → Int) (s : PSt) : takesB f sz n g s = 0 ∨ takesB f sz n g s = 1 := by
  unfold takesB
  exact @b2i_01 _ (Classical.propDecidable _)
section MTok
variable {d sz : Nat} {m : Mem} {I : Nat → Int} {A L : Nat → Nat → Int} {s : PSt} {Q : Nat → Option AV → Mem → Prop}
set_option maxRecDepth 100000 in
theorem f_takes {a v n : Nat} {g : Nat → Int} (ha : a < 100) (hv : v < 100) (hT : Txt m a v n g) (hR : RdW m I A sz) (hG : Gd s) (h : Q 0 (some (vI (takesB (A 2) sz n g s))) (PM m I A L (takesP (A 2) sz n g s))) : Ex (d + 4) M_takes 0 [some (vR aM), some (vR a), none] [] (PM m I A L s) Q := by
  have hM := hR.1
  have hn := hT.2.2.2.2.2.1
  have hsz := hR.2.2.1
  have hb := sk_bd (A 2) hG.1 (show sz ≤ 9000 by omega)
  have hT2 : ∀ s2, Txt (PM m I A L s2) a v n g := fun s2 => Txt_MS ha hv hT _ _ _
  have hbt : ∀ k, -1 ≤ bt (A 2) sz k ∧ bt (A 2) sz k ≤ 255 := fun k => bt_range hR.2.2.2 hsz k
  by_cases h0 : pFl s = 0
  · have hfin : ∀ k : Nat, k ≤ n → (∀ j, j < k → bt (A 2) sz (sk (A 2) sz (pAt s) + j) = g j) → (k = n ∨ ∃ j, j < n ∧ bt (A 2) sz (sk (A 2) sz (pAt s) + j) ≠ g j) → (k < n → ∃ j, j < n ∧ bt (A 2) sz (sk (A 2) sz (pAt s) + j) ≠ g j) → Ex (d + 4) M_takes 48 [some (vR aM), some (vR a), some (vI (k : Int))] [] (PM m I A L (hereP (A 2) sz s)) Q := by
      intro k hk hall hor hmis
      have hbk := hbt (sk (A 2) sz (pAt s) + k)
      refine Ex_step (tk_M_takes rfl) ?_
      refine Ex_step (tk_M_takes rfl) ?_
      refine Ex_cV0 (av := []) (tk_M_takes rfl) mk_Str_length ⟨rfl, rfl, by decide, rfl, Nat.le_of_ble_eq_true rfl, Nat.le_of_ble_eq_true rfl⟩ (((hT2 _).1)) (fun _ h => e_length (hT2 _) h) ?_
      refine Ex_step (tk_M_takes rfl) ⟨fun h53 => ?_, fun h53 => ?_⟩
      · try simp (disch := omega) only [cmpI, w32_b2i, b2i_0, b2i_1, w32_id, Classical.not_not, not_true_eq_false, not_false_eq_true] at h53
        have hno : ¬ (pFl s = 0 ∧ wordAt (A 2) sz (sk (A 2) sz (pAt s)) n g) := by
          rintro ⟨-, w1, w2⟩
          rcases Nat.lt_or_ge k n with q | q
          · obtain ⟨j, hj, hne⟩ := hmis q
            exact hne (w1 j hj)
          · have : k = n := by omega
            subst this
            first | omega | exact w2 (by simp (disch := omega) only [w32_id] at h73; exact h73)
        rw [takesB_f hno, show takesP (A 2) sz n g s = hereP (A 2) sz s from by unfold takesP; rw [if_pos h0, if_neg (fun w => hno ⟨h0, w⟩)]] at h
        refine Ex_step (tk_M_takes rfl) ?_
        refine Ex_step (tk_M_takes rfl) ⟨rfl, Or.inl rfl, ?_⟩
        exact h
      · try simp (disch := omega) only [cmpI, w32_b2i, b2i_0, b2i_1, w32_id, Classical.not_not, not_true_eq_false, not_false_eq_true] at h53
        refine Ex_step (tk_M_takes rfl) ?_
        refine Ex_step (tk_M_takes rfl) ?_
        refine gMI (tk_M_takes rfl) hM ?_
        refine Ex_step (tk_M_takes rfl) ?_
        refine Ex_step (tk_M_takes rfl) ?_
        refine Ex_cV0 (av := [vI (pI I (hereP (A 2) sz s) 4 + (k : Int))]) (tk_M_takes rfl) mk_M_byteAt ⟨rfl, rfl, by decide, rfl, Nat.le_of_ble_eq_true rfl, Nat.le_of_ble_eq_true rfl⟩ (hM.k) (fun _ h => f_byteAt (k := sk (A 2) sz (pAt s) + k) hR (by show ((sk (A 2) sz (pAt s) : Nat) : Int) + (k : Int) = _; omega) (by omega) h) ?_
        refine Ex_step (tk_M_takes rfl) ?_
        refine Ex_step (tk_M_takes rfl) ?_
        refine Ex_cS0 (av := [vI (bt (A 2) sz (sk (A 2) sz (pAt s) + k)), vI 97, vI 122]) (tk_M_takes rfl) mk_M_in ⟨rfl, by decide, rfl, rfl, rfl, Nat.le_of_ble_eq_true rfl, Nat.le_of_ble_eq_true rfl⟩ (fun _ h => e_in h) ?_
        refine Ex_step (tk_M_takes rfl) ⟨fun h73 => ?_, fun h73 => ?_⟩
        · try simp (disch := omega) only [cmpI, w32_b2i, b2i_0, b2i_1, w32_id, Classical.not_not, not_true_eq_false, not_false_eq_true] at h73
          have hkn : k = n := by omega
          subst hkn
          have hyes : pFl s = 0 ∧ wordAt (A 2) sz (sk (A 2) sz (pAt s)) k g := ⟨h0, hall, fun w => h73 w⟩
          rw [takesB_t hyes, show takesP (A 2) sz k g s = wAtP s (sk (A 2) sz (pAt s) + k) from by unfold takesP; rw [if_pos h0, if_pos hyes.2]] at h
          refine Ex_step (tk_M_takes rfl) ?_
          refine Ex_step (tk_M_takes rfl) ?_
          refine gMI (tk_M_takes rfl) hM ?_
          refine Ex_step (tk_M_takes rfl) ?_
          refine Ex_step (tk_M_takes rfl) ?_
          refine pMI (tk_M_takes rfl) hM ?_
          rw [pI_at _ _ (sk (A 2) sz (pAt s) + k) (by show ((sk (A 2) sz (pAt s) : Nat) : Int) + (k : Int) = _; omega)]
          refine Ex_step (tk_M_takes rfl) ?_
          refine Ex_step (tk_M_takes rfl) ⟨rfl, by first | exact Or.inl rfl | exact Or.inr rfl | exact b2i_01 _ | assumption, ?_⟩
          exact h
        · try simp (disch := omega) only [cmpI, w32_b2i, b2i_0, b2i_1, w32_id, Classical.not_not, not_true_eq_false, not_false_eq_true] at h73
          have hno : ¬ (pFl s = 0 ∧ wordAt (A 2) sz (sk (A 2) sz (pAt s)) n g) := by
            rintro ⟨-, w1, w2⟩
            rcases Nat.lt_or_ge k n with q | q
            · obtain ⟨j, hj, hne⟩ := hmis q
              exact hne (w1 j hj)
            · have : k = n := by omega
              subst this
              first | omega | exact w2 (by simp (disch := omega) only [w32_id] at h73; exact h73)
          rw [takesB_f hno, show takesP (A 2) sz n g s = hereP (A 2) sz s from by unfold takesP; rw [if_pos h0, if_neg (fun w => hno ⟨h0, w⟩)]] at h
          refine Ex_step (tk_M_takes rfl) ?_
          refine Ex_step (tk_M_takes rfl) ⟨rfl, Or.inl rfl, ?_⟩
          exact h
    have hloop : ∀ (r k : Nat), n - k < r → k ≤ n → (∀ j, j < k → bt (A 2) sz (sk (A 2) sz (pAt s) + j) = g j) → Ex (d + 4) M_takes 16 [some (vR aM), some (vR a), some (vI (k : Int))] [] (PM m I A L (hereP (A 2) sz s)) Q := by
      intro r
      induction r with
      | zero => intro k hk; omega
      | succ r ih =>
        intro k hr hk hall
        have hbk := hbt (sk (A 2) sz (pAt s) + k)
        refine Ex_step (tk_M_takes rfl) ?_
        refine Ex_step (tk_M_takes rfl) ?_
        refine Ex_cV0 (av := []) (tk_M_takes rfl) mk_Str_length ⟨rfl, rfl, by decide, rfl, Nat.le_of_ble_eq_true rfl, Nat.le_of_ble_eq_true rfl⟩ (((hT2 _).1)) (fun _ h => e_length (hT2 _) h) ?_
        refine Ex_step (tk_M_takes rfl) ⟨fun h21 => ?_, fun h21 => ?_⟩
        · try simp (disch := omega) only [cmpI, w32_b2i, b2i_0, b2i_1, w32_id, Classical.not_not, not_true_eq_false, not_false_eq_true] at h21
          first | exact hfin k hk hall (Or.inl (by omega)) (by omega) | exact hfin k hk hall (Or.inr ⟨k, hkn, h39⟩) (fun _ => ⟨k, hkn, h39⟩)
        · try simp (disch := omega) only [cmpI, w32_b2i, b2i_0, b2i_1, w32_id, Classical.not_not, not_true_eq_false, not_false_eq_true] at h21
          have hkn : k < n := by omega
          have hgk := (hT.2.2.2.2.2.2 k hkn).2
          refine Ex_step (tk_M_takes rfl) ?_
          refine Ex_step (tk_M_takes rfl) ?_
          refine gMI (tk_M_takes rfl) hM ?_
          refine Ex_step (tk_M_takes rfl) ?_
          refine Ex_step (tk_M_takes rfl) ?_
          refine Ex_cV0 (av := [vI (pI I (hereP (A 2) sz s) 4 + (k : Int))]) (tk_M_takes rfl) mk_M_byteAt ⟨rfl, rfl, by decide, rfl, Nat.le_of_ble_eq_true rfl, Nat.le_of_ble_eq_true rfl⟩ (hM.k) (fun _ h => f_byteAt (k := sk (A 2) sz (pAt s) + k) hR (by show ((sk (A 2) sz (pAt s) : Nat) : Int) + (k : Int) = _; omega) (by omega) h) ?_
          refine Ex_step (tk_M_takes rfl) ?_
          refine Ex_step (tk_M_takes rfl) ?_
          refine Ex_cV0 (av := [vI (k : Int)]) (tk_M_takes rfl) mk_Str_charAt ⟨rfl, rfl, by decide, rfl, Nat.le_of_ble_eq_true rfl, Nat.le_of_ble_eq_true rfl⟩ (((hT2 _).1)) (fun _ h => e_charAt (hT2 _) rfl hkn h) ?_
          refine Ex_step (tk_M_takes rfl) ⟨fun h39 => ?_, fun h39 => ?_⟩
          · try simp (disch := omega) only [cmpI, w32_b2i, b2i_0, b2i_1, w32_id, Classical.not_not, not_true_eq_false, not_false_eq_true] at h39
            first | exact hfin k hk hall (Or.inl (by omega)) (by omega) | exact hfin k hk hall (Or.inr ⟨k, hkn, h39⟩) (fun _ => ⟨k, hkn, h39⟩)
          · try simp (disch := omega) only [cmpI, w32_b2i, b2i_0, b2i_1, w32_id, Classical.not_not, not_true_eq_false, not_false_eq_true] at h39
            refine Ex_step (tk_M_takes rfl) ?_
            refine Ex_step (tk_M_takes rfl) ?_
            refine ih (k + 1) (by omega) (by omega) (fun j hj => ?_)
            rcases Nat.lt_or_ge j k with q | q
            · exact hall j q
            · have : j = k := by omega
              subst this
              exact h39
    refine Ex_step (tk_M_takes rfl) ?_
    refine Ex_cV0 (av := []) (tk_M_takes rfl) mk_M_fine ⟨rfl, rfl, by decide, rfl, Nat.le_of_ble_eq_true rfl, Nat.le_of_ble_eq_true rfl⟩ (hM.k) (fun _ h => f_fine hR hG.2.1 h) ?_
    refine Ex_step (tk_M_takes rfl) ⟨fun h4 => ?_, fun h4 => ?_⟩
    · try simp (disch := omega) only [cmpI, w32_b2i, b2i_0, b2i_1, w32_id, Classical.not_not, not_true_eq_false, not_false_eq_true] at h4
      refine Ex_step (tk_M_takes rfl) ?_
      refine Ex_cV0 (av := []) (tk_M_takes rfl) mk_M_here ⟨rfl, rfl, by decide, rfl, Nat.le_of_ble_eq_true rfl, Nat.le_of_ble_eq_true rfl⟩ (hM.k) (fun _ h => f_here hR hG.1 h) ?_
      refine Ex_step (tk_M_takes rfl) ?_
      refine Ex_step (tk_M_takes rfl) ?_
      refine Ex_step (tk_M_takes rfl) ?_
      exact hloop (n + 1) 0 (by omega) (by omega) (fun j hj => absurd hj (by omega))
    · try simp (disch := omega) only [cmpI, w32_b2i, b2i_0, b2i_1, w32_id, Classical.not_not, not_true_eq_false, not_false_eq_true] at h4
      exact absurd h0 h4
  · rw [takesB_f (fun w => h0 w.1), show takesP (A 2) sz n g s = s from by unfold takesP; rw [if_neg h0]] at h
    refine Ex_step (tk_M_takes rfl) ?_
    refine Ex_cV0 (av := []) (tk_M_takes rfl) mk_M_fine ⟨rfl, rfl, by decide, rfl, Nat.le_of_ble_eq_true rfl, Nat.le_of_ble_eq_true rfl⟩ (hM.k) (fun _ h => f_fine hR hG.2.1 h) ?_
    refine Ex_step (tk_M_takes rfl) ⟨fun h4 => ?_, fun h4 => ?_⟩
    · try simp (disch := omega) only [cmpI, w32_b2i, b2i_0, b2i_1, w32_id, Classical.not_not, not_true_eq_false, not_false_eq_true] at h4
      exact absurd h4 h0
    · try simp (disch := omega) only [cmpI, w32_b2i, b2i_0, b2i_1, w32_id, Classical.not_not, not_true_eq_false, not_false_eq_true] at h4
      refine Ex_step (tk_M_takes rfl) ?_
      refine Ex_step (tk_M_takes rfl) ⟨rfl, by first | exact Or.inl rfl | exact Or.inr rfl | exact b2i_01 _ | assumption, ?_⟩
      exact h
end MTok
