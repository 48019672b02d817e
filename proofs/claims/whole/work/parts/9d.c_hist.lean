/-! ===== the class: what can be taken back ===== -/
/-- the history at hh: its row of eight books -/
def HiW (m : Mem) (hh : Nat) (P : Nat → Nat) : Prop := mK m hh = 4 ∧ mFR m 256 hh = hh + 1 ∧ mK m (hh + 1) = 17 ∧ mLen m (hh + 1) = 8 ∧ ∀ i, i < 8 → mAR m (hh + 1) i = P i ∧ mK m (P i) = 2
def shP (P : Nat → Nat) : Nat → Nat := fun i => if i < 7 then P (i + 1) else P 0
section CHist
variable {d hh : Nat} {P : Nat → Nat} {m : Mem} {F A L : Nat → Nat → Int} {Q : Nat → Option AV → Mem → Prop}
set_option maxRecDepth 100000 in
theorem c_forgetOld {n : Nat} (hH : HiW m hh P) (hn : F 257 hh = (n : Int)) (hn1 : 1 ≤ n ∧ n ≤ 8) (hq : ∀ R : Nat → Nat, (∀ i, i < 8 → R i = shP P i) → Q 0 none (CM (sAR m (hh + 1) R) (upF F 257 hh ((n - 1 : Nat) : Int)) A L)) : Ex d Hist_forgetOldest 0 [some (vR hh), none, none] [] (CM m F A L) Q := by
  have hk4 := hH.1
  have hr256 := hH.2.1
  have e17 : ∀ R, 16 ≤ mK (sAR m (hh + 1) R) (hh + 1) ∧ mK (sAR m (hh + 1) R) (hh + 1) ≤ 18 := fun R => by
    show 16 ≤ mK m (hh + 1) ∧ mK m (hh + 1) ≤ 18
    rw [hH.2.2.1]; decide
  have ekd : ∀ i, i < 8 → mK m (P i) = mK m (hh + 1) - 15 := fun i hi => by rw [hH.2.2.1]; exact (hH.2.2.2.2 i hi).2
  have hm1 : (n : Int) - 1 = ((n - 1 : Nat) : Int) := by omega
  have hloop : ∀ (r c : Nat) (R : Nat → Nat), c + r = 8 → 1 ≤ c → (∀ i, i < 8 → R i = if i < c - 1 then P (i + 1) else P i) → Ex d Hist_forgetOldest 9 [some (vR hh), some (vR (P 0)), some (vI (c : Int))] [] (CM (sAR m (hh + 1) R) F A L) Q := by
    intro r
    induction r with
    | zero =>
      intro c R hc hc1 hR
      have : c = 8 := by omega
      subst this
      have hx := hq (up1 R 7 (P 0)) (fun i hi => by
        unfold shP
        by_cases e : i = 7
        · rw [e, up1_at, if_neg (by decide)]
        · rw [up1_ne _ _ e, hR i hi, if_pos (by omega), if_pos (by omega)])
      refine Ex_step (tk_Hist_forgetOldest rfl) ?_
      refine Ex_step (tk_Hist_forgetOldest rfl) ?_
      refine Ex_step (tk_Hist_forgetOldest rfl) ⟨fun h12 => ?_, fun h12 => ?_⟩
      · replace h12 : _ := h12
        refine Ex_step (tk_Hist_forgetOldest rfl) ?_
        refine gCR (tk_Hist_forgetOldest rfl) (hk4) (hr256) ?_
        refine Ex_step (tk_Hist_forgetOldest rfl) ?_
        refine Ex_step (tk_Hist_forgetOldest rfl) ?_
        refine tCR (n := 7) (tk_Hist_forgetOldest rfl) ⟨e17 R, hH.2.2.2.1, ekd 0 (by decide)⟩ rfl (by decide) ?_
        rw [mAR_at, sAR_sAR]
        refine Ex_step (tk_Hist_forgetOldest rfl) ?_
        refine Ex_step (tk_Hist_forgetOldest rfl) ?_
        refine gCI (tk_Hist_forgetOldest rfl) (hk4) ?_
        rw [hn]
        refine Ex_step (tk_Hist_forgetOldest rfl) ?_
        refine Ex_step (tk_Hist_forgetOldest rfl) ?_
        show Ex d Hist_forgetOldest 50 _ [vI ((n : Int) - 1), vR hh] _ Q
        rw [hm1]
        refine pCI (tk_Hist_forgetOldest rfl) (hk4) ?_
        refine Ex_step (tk_Hist_forgetOldest rfl) ⟨rfl, ?_⟩
        exact hx
      · replace h12 : _ := h12
        exact absurd (show w32 8 ≤ w32 8 from Int.le_refl _) h12
    | succ r ih =>
      intro c R hc hc1 hR
      have hRc : R c = P c := by rw [hR c (by omega)]; exact if_neg (by omega)
      have hm2 : (c : Int) - 1 = ((c - 1 : Nat) : Int) := by omega
      have hnx := ih (c + 1) (up1 R (c - 1) (P c)) (by omega) (by omega) (fun i hi => by
        by_cases e : i = c - 1
        · rw [e, up1_at, if_pos (by omega), show c - 1 + 1 = c by omega]
        · rw [up1_ne _ _ e, hR i hi]
          by_cases e2 : i < c - 1
          · rw [if_pos e2, if_pos (by omega)]
          · rw [if_neg e2, if_neg (by omega)])
      refine Ex_step (tk_Hist_forgetOldest rfl) ?_
      refine Ex_step (tk_Hist_forgetOldest rfl) ?_
      refine Ex_step (tk_Hist_forgetOldest rfl) ⟨fun h12 => ?_, fun h12 => ?_⟩
      · try simp (disch := omega) only [cmpI, w32_b2i, b2i_0, b2i_1, w32_id, Classical.not_not, not_true_eq_false, not_false_eq_true] at h12
        omega
      · try simp (disch := omega) only [cmpI, w32_b2i, b2i_0, b2i_1, w32_id, Classical.not_not, not_true_eq_false, not_false_eq_true] at h12
        refine Ex_step (tk_Hist_forgetOldest rfl) ?_
        refine gCR (tk_Hist_forgetOldest rfl) (hk4) (hr256) ?_
        refine Ex_step (tk_Hist_forgetOldest rfl) ?_
        refine Ex_step (tk_Hist_forgetOldest rfl) ?_
        refine Ex_step (tk_Hist_forgetOldest rfl) ?_
        show Ex d Hist_forgetOldest 22 _ [vI ((c : Int) - 1), vR (hh + 1)] _ Q
        rw [hm2]
        refine Ex_step (tk_Hist_forgetOldest rfl) ?_
        refine gCR (tk_Hist_forgetOldest rfl) (hk4) (hr256) ?_
        refine Ex_step (tk_Hist_forgetOldest rfl) ?_
        refine lCR (n := c) (tk_Hist_forgetOldest rfl) (⟨⟨(e17 R).1, by have := (e17 R).2; omega⟩, hH.2.2.2.1, show mAR (sAR m (hh + 1) R) (hh + 1) c = P c by rw [mAR_at]; exact hRc⟩) (w32_id (by omega) (by omega)) (by omega) ?_
        refine tCR (n := c - 1) (tk_Hist_forgetOldest rfl) ⟨e17 R, hH.2.2.2.1, ekd c (by omega)⟩ (w32_id (by omega) (by omega)) (by omega) ?_
        rw [mAR_at, sAR_sAR]
        refine Ex_step (tk_Hist_forgetOldest rfl) ?_
        refine Ex_step (tk_Hist_forgetOldest rfl) ?_
        exact hnx
  have h9 := hloop 7 1 (mAR m (hh + 1)) (by omega) (by omega) (fun i hi => by rw [(hH.2.2.2.2 i hi).1]; exact (if_neg (by omega)).symm)
  rw [sAR_self] at h9
  refine Ex_step (tk_Hist_forgetOldest rfl) ?_
  refine gCR (tk_Hist_forgetOldest rfl) (hk4) (hr256) ?_
  refine Ex_step (tk_Hist_forgetOldest rfl) ?_
  refine lCR (n := 0) (tk_Hist_forgetOldest rfl) (⟨⟨by rw [hH.2.2.1]; decide, by rw [hH.2.2.1]; decide⟩, hH.2.2.2.1, (hH.2.2.2.2 0 (by decide)).1⟩) (rfl) (by decide) ?_
  refine Ex_step (tk_Hist_forgetOldest rfl) ?_
  refine Ex_step (tk_Hist_forgetOldest rfl) ?_
  refine Ex_step (tk_Hist_forgetOldest rfl) ?_
  exact h9
set_option maxRecDepth 100000 in
theorem c_takeBack {n b : Nat} (hH : HiW m hh P) (hn : F 257 hh = (n : Int)) (hn1 : 1 ≤ n ∧ n ≤ 8) (hb : mK m b = 2) (hq : Q 0 (some (vR (P (n - 1)))) (CM (sAR m (hh + 1) (up1 (mAR m (hh + 1)) (n - 1) b)) (upF F 257 hh ((n - 1 : Nat) : Int)) A L)) : Ex d Hist_takeBack 0 [some (vR hh), some (vR b), none] [] (CM m F A L) Q := by
  have hk4 := hH.1
  have hr256 := hH.2.1
  have hm1 : (n : Int) - 1 = ((n - 1 : Nat) : Int) := by omega
  refine Ex_step (tk_Hist_takeBack rfl) ?_
  refine gCI (tk_Hist_takeBack rfl) (hk4) ?_
  rw [hn]
  refine Ex_step (tk_Hist_takeBack rfl) ⟨fun h4 => ?_, fun h4 => ?_⟩
  · try simp (disch := omega) only [cmpI, w32_b2i, b2i_0, b2i_1, w32_id, Classical.not_not, not_true_eq_false, not_false_eq_true] at h4
    refine Ex_step (tk_Hist_takeBack rfl) ?_
    refine Ex_step (tk_Hist_takeBack rfl) ?_
    refine gCI (tk_Hist_takeBack rfl) (hk4) ?_
    rw [hn]
    refine Ex_step (tk_Hist_takeBack rfl) ?_
    refine Ex_step (tk_Hist_takeBack rfl) ?_
    show Ex d Hist_takeBack 16 _ [vI ((n : Int) - 1), vR hh] _ Q
    rw [hm1]
    refine pCI (tk_Hist_takeBack rfl) (hk4) ?_
    refine Ex_step (tk_Hist_takeBack rfl) ?_
    refine gCR (tk_Hist_takeBack rfl) (hk4) (hr256) ?_
    refine Ex_step (tk_Hist_takeBack rfl) ?_
    refine gCI (tk_Hist_takeBack rfl) (hk4) ?_
    rw [upF_at]
    refine lCR (n := n - 1) (tk_Hist_takeBack rfl) (⟨⟨by rw [hH.2.2.1]; decide, by rw [hH.2.2.1]; decide⟩, hH.2.2.2.1, (hH.2.2.2.2 (n - 1) (by omega)).1⟩) (w32_id (by omega) (by omega)) (by omega) ?_
    refine Ex_step (tk_Hist_takeBack rfl) ?_
    refine Ex_step (tk_Hist_takeBack rfl) ?_
    refine gCR (tk_Hist_takeBack rfl) (hk4) (hr256) ?_
    refine Ex_step (tk_Hist_takeBack rfl) ?_
    refine gCI (tk_Hist_takeBack rfl) (hk4) ?_
    rw [upF_at]
    refine Ex_step (tk_Hist_takeBack rfl) ?_
    refine tCR (n := n - 1) (tk_Hist_takeBack rfl) ⟨⟨by rw [hH.2.2.1]; decide, by rw [hH.2.2.1]; decide⟩, hH.2.2.2.1, by rw [hH.2.2.1]; exact hb⟩ (w32_id (by omega) (by omega)) (by omega) ?_
    refine Ex_step (tk_Hist_takeBack rfl) ?_
    refine Ex_step (tk_Hist_takeBack rfl) ⟨rfl, ?_⟩
    exact hq
  · try simp (disch := omega) only [cmpI, w32_b2i, b2i_0, b2i_1, w32_id, Classical.not_not, not_true_eq_false, not_false_eq_true] at h4
    omega
end CHist
