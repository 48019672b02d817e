/-! ===== the reference: drop ===== -/
def drK (b c : Nat) (T : Nat → Int) : Nat → Int := fun k => if b ≤ k ∧ k < c then T (k + 103) else T k
set_option maxRecDepth 100000 in
theorem drK_0 (b : Nat) (T : Nat → Int) : drK b b T = T := by
  funext k
  exact if_neg (by omega)
set_option maxRecDepth 100000 in
theorem drK_s {b c : Nat} (h : b ≤ c) (T : Nat → Int) : up1 (drK b c T) c (T (c + 103)) = drK b (c + 1) T := by
  funext k
  unfold up1 drK
  by_cases q : k = c
  · subst q
    rw [if_pos rfl, if_pos (by omega)]
  · rw [if_neg q]
    by_cases q2 : b ≤ k ∧ k < c
    · rw [if_pos q2, if_pos (by omega)]
    · rw [if_neg q2, if_neg (by omega)]
def drT (dd nn : Nat) (T : Nat → Int) : Nat → Int := drK (bD dd) (bD (nn - 1)) (up1 T 0 (T 0 - 1))
section MDrop
variable {d nn b : Nat} {i : Int} {m : Mem} {I : Nat → Int} {A L : Nat → Nat → Int} {Q : Nat → Option AV → Mem → Prop}
set_option maxRecDepth 100000 in
theorem f_drop (hM : MW m) (hN : NowW (A 3) nn) (hi : okI i) (hb : b ≤ 8) (h12 : I 12 = (b : Int)) (hbad : ¬ (0 ≤ i ∧ i < (nn : Int)) → Q 0 (some (vI 0)) (MS m (up1 (up1 I 0 0) 0 1) (refA 0 A) L)) (hok : 0 ≤ i ∧ i < (nn : Int) → Q 0 (some (vI ((nn - 1 : Nat) : Int))) (MS m (up1 (up1 I 0 0) 12 (remB b : Nat)) (up1 (remA b A) 3 (drT i.toNat nn (A 3))) L)) : Ex (d + 2) M_drop 0 [some (vR aM), some (vI i), none] [] (MS m I A L) Q := by
  have hn6 := hN.1
  have hn0 := hN.2.1
  have e3 : remA b A 3 = A 3 := remA_lo (by decide) A
  have hA : ¬ (0 ≤ i ∧ i < (nn : Int)) → Ex (d + 2) M_drop 19 [some (vR aM), some (vI i), none] [vI 1, vR aM] (MS m (up1 I 0 0) A L) Q := by
    intro hq
    refine Ex_step (tk_M_drop rfl) ?_
    refine Ex_step (tk_M_drop rfl) ?_
    refine Ex_cV0 (av := [vI 1, vI 1, vI 0]) (tk_M_drop rfl) mk_M_bad ⟨rfl, rfl, by decide, rfl, Nat.le_of_ble_eq_true rfl, Nat.le_of_ble_eq_true rfl⟩ (hM.k) (fun _ h => f_bad1 (r := 0) hM (by decide) (by decide) (up1_at _ _ _) h) ?_
    refine Ex_step (tk_M_drop rfl) ⟨fun h24 => ?_, fun h24 => ?_⟩
    · replace h24 : _ := h24
      exact absurd (show w32 1 = w32 0 from h24) (by decide)
    · replace h24 : _ := h24
      refine Ex_step (tk_M_drop rfl) ?_
      refine Ex_step (tk_M_drop rfl) ⟨rfl, ?_⟩
      exact hbad hq
  have hB : 0 ≤ i ∧ i < (nn : Int) → Ex (d + 2) M_drop 19 [some (vR aM), some (vI i), none] [vI 0, vR aM] (MS m (up1 I 0 0) A L) Q := by
    intro hq
    have h := hok hq
    obtain ⟨dd, rfl⟩ : ∃ dd : Nat, i = (dd : Int) := ⟨i.toNat, by omega⟩
    rw [show ((dd : Int)).toNat = dd from rfl] at h
    have hT0 : up1 (A 3) 0 (A 3 0 - 1) 0 = ((nn - 1 : Nat) : Int) := by rw [up1_at]; omega
    have hloop : ∀ (r c : Nat), bD dd ≤ c → c + r = bD (nn - 1) → Ex (d + 2) M_drop 50 [some (vR aM), some (vI (dd : Int)), some (vI (c : Int))] [] (MS m (up1 (up1 I 0 0) 12 (remB b : Nat)) (up1 (remA b A) 3 (drK (bD dd) c (up1 (A 3) 0 (A 3 0 - 1)))) L) Q := by
      intro r
      induction r with
      | zero =>
        intro c hc1 hc2
        have hcb : c = bD (nn - 1) := by omega
        have hz : drK (bD dd) c (up1 (A 3) 0 (A 3 0 - 1)) 0 = ((nn - 1 : Nat) : Int) := by
          rw [← hT0]
          exact if_neg (by unfold bD; omega)
        have hc3 : (c : Int) = 2 + 103 * ((nn - 1 : Nat) : Int) := by unfold bD at hcb; omega
        subst hcb
        refine Ex_step (tk_M_drop rfl) ?_
        refine Ex_step (tk_M_drop rfl) ?_
        refine Ex_step (tk_M_drop rfl) ?_
        refine Ex_step (tk_M_drop rfl) ?_
        refine gMR (tk_M_drop rfl) hM hM.r9 ?_
        refine Ex_step (tk_M_drop rfl) ?_
        refine lMI (j := 3) (n := 0) (tk_M_drop rfl) (by decide) hM.k3 hM.n3 (rfl) (by decide) ?_
        rw [up1_at, hz]
        refine Ex_step (tk_M_drop rfl) ?_
        refine Ex_step (tk_M_drop rfl) ?_
        refine Ex_step (tk_M_drop rfl) ⟨fun h62 => ?_, fun h62 => ?_⟩
        · try simp (disch := omega) only [cmpI, w32_b2i, b2i_0, b2i_1, w32_id, Classical.not_not, not_true_eq_false, not_false_eq_true] at h62
          refine Ex_step (tk_M_drop rfl) ?_
          refine gMR (tk_M_drop rfl) hM hM.r9 ?_
          refine Ex_step (tk_M_drop rfl) ?_
          refine lMI (j := 3) (n := 0) (tk_M_drop rfl) (by decide) hM.k3 hM.n3 (rfl) (by decide) ?_
          rw [up1_at, hz]
          refine Ex_step (tk_M_drop rfl) ⟨rfl, ?_⟩
          exact h
        · try simp (disch := omega) only [cmpI, w32_b2i, b2i_0, b2i_1, w32_id, Classical.not_not, not_true_eq_false, not_false_eq_true] at h62
          omega
      | succ r ih =>
        intro c hc1 hc2
        have hz : drK (bD dd) c (up1 (A 3) 0 (A 3 0 - 1)) 0 = ((nn - 1 : Nat) : Int) := by
          rw [← hT0]
          exact if_neg (by unfold bD; omega)
        have hc3 : (c : Int) < 2 + 103 * ((nn - 1 : Nat) : Int) := by unfold bD at hc2; omega
        have hv : drK (bD dd) c (up1 (A 3) 0 (A 3 0 - 1)) (c + 103) = up1 (A 3) 0 (A 3 0 - 1) (c + 103) := if_neg (by omega)
        refine Ex_step (tk_M_drop rfl) ?_
        refine Ex_step (tk_M_drop rfl) ?_
        refine Ex_step (tk_M_drop rfl) ?_
        refine Ex_step (tk_M_drop rfl) ?_
        refine gMR (tk_M_drop rfl) hM hM.r9 ?_
        refine Ex_step (tk_M_drop rfl) ?_
        refine lMI (j := 3) (n := 0) (tk_M_drop rfl) (by decide) hM.k3 hM.n3 (rfl) (by decide) ?_
        rw [up1_at, hz]
        refine Ex_step (tk_M_drop rfl) ?_
        refine Ex_step (tk_M_drop rfl) ?_
        refine Ex_step (tk_M_drop rfl) ⟨fun h62 => ?_, fun h62 => ?_⟩
        · try simp (disch := omega) only [cmpI, w32_b2i, b2i_0, b2i_1, w32_id, Classical.not_not, not_true_eq_false, not_false_eq_true] at h62
          omega
        · try simp (disch := omega) only [cmpI, w32_b2i, b2i_0, b2i_1, w32_id, Classical.not_not, not_true_eq_false, not_false_eq_true] at h62
          refine Ex_step (tk_M_drop rfl) ?_
          refine gMR (tk_M_drop rfl) hM hM.r9 ?_
          refine Ex_step (tk_M_drop rfl) ?_
          refine Ex_step (tk_M_drop rfl) ?_
          refine gMR (tk_M_drop rfl) hM hM.r9 ?_
          refine Ex_step (tk_M_drop rfl) ?_
          refine Ex_step (tk_M_drop rfl) ?_
          refine Ex_step (tk_M_drop rfl) ?_
          refine lMI (j := 3) (n := c + 103) (tk_M_drop rfl) (by decide) hM.k3 hM.n3 (by rw [w32_id (by omega) (by omega)]; omega) (by omega) ?_
          rw [up1_at, hv]
          refine tMI (j := 3) (n := c) (tk_M_drop rfl) (by decide) hM.k3 hM.n3 (w32_id (by omega) (by omega)) (by omega) ?_
          rw [up1_at, up1_same, drK_s hc1]
          refine Ex_step (tk_M_drop rfl) ?_
          refine Ex_step (tk_M_drop rfl) ?_
          exact ih (c + 1) (by omega) (by omega)
    have h50 := hloop (bD (nn - 1) - bD dd) (bD dd) (Nat.le_refl _) (by unfold bD; omega)
    rw [drK_0] at h50
    have hD : (2 + 103 * (dd : Int)) = ((bD dd : Nat) : Int) := by unfold bD; omega
    refine Ex_step (tk_M_drop rfl) ?_
    refine Ex_step (tk_M_drop rfl) ?_
    refine Ex_cV0 (av := [vI 0, vI 1, vI 0]) (tk_M_drop rfl) mk_M_bad ⟨rfl, rfl, by decide, rfl, Nat.le_of_ble_eq_true rfl, Nat.le_of_ble_eq_true rfl⟩ (hM.k) (fun _ h => f_bad0 (r := 0) hM (by decide) (by decide) (up1_at _ _ _) h) ?_
    refine Ex_step (tk_M_drop rfl) ⟨fun h24 => ?_, fun h24 => ?_⟩
    · replace h24 : _ := h24
      refine Ex_step (tk_M_drop rfl) ?_
      refine Ex_cV0 (av := []) (tk_M_drop rfl) mk_M_remembers ⟨rfl, rfl, by decide, rfl, Nat.le_of_ble_eq_true rfl, Nat.le_of_ble_eq_true rfl⟩ (hM.k) (fun _ h => f_remembers (b := b) hM hb h12 h) ?_
      refine Ex_step (tk_M_drop rfl) ?_
      refine gMR (tk_M_drop rfl) hM hM.r9 ?_
      refine Ex_step (tk_M_drop rfl) ?_
      refine Ex_step (tk_M_drop rfl) ?_
      refine lMI (j := 3) (n := 0) (tk_M_drop rfl) (by decide) hM.k3 hM.n3 (rfl) (by decide) ?_
      refine Ex_step (tk_M_drop rfl) ?_
      refine Ex_step (tk_M_drop rfl) ?_
      refine tMI (j := 3) (n := 0) (tk_M_drop rfl) (by decide) hM.k3 hM.n3 (rfl) (by decide) ?_
      rw [e3]
      refine Ex_step (tk_M_drop rfl) ?_
      refine Ex_step (tk_M_drop rfl) ?_
      refine Ex_step (tk_M_drop rfl) ?_
      refine Ex_step (tk_M_drop rfl) ?_
      refine Ex_step (tk_M_drop rfl) ?_
      show Ex (d + 2) M_drop 49 _ [vI (2 + 103 * (dd : Int))] _ Q
      rw [hD]
      refine Ex_step (tk_M_drop rfl) ?_
      exact h50
    · replace h24 : _ := h24
      exact absurd rfl h24
  refine Ex_step (tk_M_drop rfl) ?_
  refine Ex_step (tk_M_drop rfl) ?_
  refine pMI (tk_M_drop rfl) hM ?_
  refine Ex_step (tk_M_drop rfl) ?_
  refine Ex_step (tk_M_drop rfl) ?_
  refine Ex_step (tk_M_drop rfl) ?_
  refine Ex_cV0 (av := [vI i]) (tk_M_drop rfl) mk_M_isDesign ⟨rfl, rfl, by decide, rfl, Nat.le_of_ble_eq_true rfl, Nat.le_of_ble_eq_true rfl⟩ (hM.k) (fun _ h => f_isDesign hM hN hi h) ?_
  refine Ex_step (tk_M_drop rfl) ⟨fun h11 => ?_, fun h11 => ?_⟩
  · try simp (disch := omega) only [cmpI, w32_b2i, b2i_0, b2i_1, w32_id, Classical.not_not, not_true_eq_false, not_false_eq_true] at h11
    refine Ex_step (tk_M_drop rfl) ?_
    first | exact hA h11 | exact hB h11
  · try simp (disch := omega) only [cmpI, w32_b2i, b2i_0, b2i_1, w32_id, Classical.not_not, not_true_eq_false, not_false_eq_true] at h11
    refine Ex_step (tk_M_drop rfl) ?_
    refine Ex_step (tk_M_drop rfl) ?_
    first | exact hA h11 | exact hB h11
end MDrop
