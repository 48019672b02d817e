/-! ===== the reference counts cells ===== -/
/-- cells of a sort in a row's first k -/
def cntR (T : Nat → Int) (dd : Nat) (so : Int) (y : Nat) : Nat → Int
  | 0 => 0
  | k + 1 => cntR T dd so y k + (if srt T dd (k : Nat) (y : Nat) = so then 1 else 0)
def cntA (T : Nat → Int) (dd : Nat) (so : Int) (w : Nat) : Nat → Int
  | 0 => 0
  | y + 1 => cntA T dd so w y + cntR T dd so y w
def cntS (T : Nat → Int) (dd : Nat) (so : Int) : Int := cntA T dd so (T (bD dd + 1)).toNat (T (bD dd + 2)).toNat
set_option maxRecDepth 100000 in
theorem cntR_b (T : Nat → Int) (dd : Nat) (so : Int) (y : Nat) : ∀ k : Nat, 0 ≤ cntR T dd so y k ∧ cntR T dd so y k ≤ (k : Int)
  | 0 => ⟨Int.le_refl 0, Int.le_refl 0⟩
  | k + 1 => by
    have := cntR_b T dd so y k
    unfold cntR
    split
    · omega
    · omega
set_option maxRecDepth 100000 in
theorem cntA_b (T : Nat → Int) (dd : Nat) (so : Int) {w : Nat} (hw : w ≤ 10) : ∀ y : Nat, 0 ≤ cntA T dd so w y ∧ cntA T dd so w y ≤ 10 * (y : Int)
  | 0 => ⟨Int.le_refl 0, Int.le_refl 0⟩
  | y + 1 => by
    have := cntA_b T dd so hw y
    have := cntR_b T dd so y w
    unfold cntA
    omega
section MCount
variable {d dd : Nat} {i so : Int} {m : Mem} {I : Nat → Int} {A L : Nat → Nat → Int} {Q : Nat → Option AV → Mem → Prop}
set_option maxRecDepth 100000 in
theorem f_countOf (hM : MW m) (hd : dd ≤ 5) (hi : i = (dd : Int)) (hW : DsW (A 3) dd) (hs : -100 ≤ so ∧ so ≤ 100) (h : Q 0 (some (vI (cntS (A 3) dd so))) (MS m I A L)) : Ex (d + 2) M_countOf 0 [some (vR aM), some (vI i), some (vI so), none, none, none] [] (MS m I A L) Q := by
  have hw := hW.2.1
  have hh := hW.2.2.1
  obtain ⟨w, hwe⟩ : ∃ w : Nat, A 3 (bD dd + 1) = (w : Int) := ⟨(A 3 (bD dd + 1)).toNat, by omega⟩
  obtain ⟨g, hge⟩ : ∃ g : Nat, A 3 (bD dd + 2) = (g : Int) := ⟨(A 3 (bD dd + 2)).toNat, by omega⟩
  rw [show cntS (A 3) dd so = cntA (A 3) dd so w g by unfold cntS; rw [hwe, hge]; rfl] at h
  rw [hwe] at hw
  rw [hge] at hh
  have hrow : ∀ (y : Nat) (Q2 : Nat → Option AV → Mem → Prop) (c0 : Int), y < g → (Ex (d + 2) M_countOf 55 [some (vR aM), some (vI i), some (vI so), some (vI (c0 + cntR (A 3) dd so y w)), some (vI (y : Int)), some (vI (w : Int))] [] (MS m I A L) Q2) → ∀ (r k : Nat), k + r = w → Ex (d + 2) M_countOf 18 [some (vR aM), some (vI i), some (vI so), some (vI (c0 + cntR (A 3) dd so y k)), some (vI (y : Int)), some (vI (k : Int))] [] (MS m I A L) Q2 := by
    intro y Q2 c0 hy h2 r
    induction r with
    | zero =>
      intro k hk
      have : k = w := by omega
      subst this
      refine Ex_step (tk_M_countOf rfl) ?_
      refine Ex_step (tk_M_countOf rfl) ?_
      refine Ex_step (tk_M_countOf rfl) ?_
      refine Ex_cV0 (av := [vI i]) (tk_M_countOf rfl) mk_M_wideOf ⟨rfl, rfl, by decide, rfl, Nat.le_of_ble_eq_true rfl, Nat.le_of_ble_eq_true rfl⟩ (hM.k) (fun _ h => f_wideOf hM hd hi h) ?_
      rw [hwe]
      refine Ex_step (tk_M_countOf rfl) ⟨fun h25 => ?_, fun h25 => ?_⟩
      · try simp (disch := omega) only [cmpI, w32_b2i, b2i_0, b2i_1, w32_id, Classical.not_not, not_true_eq_false, not_false_eq_true] at h25
        exact h2
      · try simp (disch := omega) only [cmpI, w32_b2i, b2i_0, b2i_1, w32_id, Classical.not_not, not_true_eq_false, not_false_eq_true] at h25
        omega
    | succ r ih =>
      intro k hk
      have hsr := srt_r hW (k : Int) (y : Int)
      have hnx := ih (k + 1) (by omega)
      unfold cntR at hnx
      refine Ex_step (tk_M_countOf rfl) ?_
      refine Ex_step (tk_M_countOf rfl) ?_
      refine Ex_step (tk_M_countOf rfl) ?_
      refine Ex_cV0 (av := [vI i]) (tk_M_countOf rfl) mk_M_wideOf ⟨rfl, rfl, by decide, rfl, Nat.le_of_ble_eq_true rfl, Nat.le_of_ble_eq_true rfl⟩ (hM.k) (fun _ h => f_wideOf hM hd hi h) ?_
      rw [hwe]
      refine Ex_step (tk_M_countOf rfl) ⟨fun h25 => ?_, fun h25 => ?_⟩
      · try simp (disch := omega) only [cmpI, w32_b2i, b2i_0, b2i_1, w32_id, Classical.not_not, not_true_eq_false, not_false_eq_true] at h25
        omega
      · try simp (disch := omega) only [cmpI, w32_b2i, b2i_0, b2i_1, w32_id, Classical.not_not, not_true_eq_false, not_false_eq_true] at h25
        refine Ex_step (tk_M_countOf rfl) ?_
        refine Ex_step (tk_M_countOf rfl) ?_
        refine Ex_step (tk_M_countOf rfl) ?_
        refine Ex_step (tk_M_countOf rfl) ?_
        refine Ex_step (tk_M_countOf rfl) ?_
        refine Ex_cV0 (av := [vI i, vI (k : Int), vI (y : Int)]) (tk_M_countOf rfl) mk_M_sortOf ⟨rfl, rfl, by decide, rfl, Nat.le_of_ble_eq_true rfl, Nat.le_of_ble_eq_true rfl⟩ (hM.k) (fun _ h => f_sortOf hM hd hi hW (by unfold okI; omega) (by unfold okI; omega) h) ?_
        refine Ex_step (tk_M_countOf rfl) ?_
        refine Ex_step (tk_M_countOf rfl) ⟨fun h39 => ?_, fun h39 => ?_⟩
        · try simp (disch := omega) only [cmpI, w32_b2i, b2i_0, b2i_1, w32_id, Classical.not_not, not_true_eq_false, not_false_eq_true] at h39
          rw [if_neg h39, ← Int.add_assoc] at hnx
          refine Ex_step (tk_M_countOf rfl) ?_
          refine Ex_step (tk_M_countOf rfl) ?_
          refine Ex_step (tk_M_countOf rfl) ?_
          refine Ex_step (tk_M_countOf rfl) ?_
          refine Ex_step (tk_M_countOf rfl) ?_
          exact hnx
        · try simp (disch := omega) only [cmpI, w32_b2i, b2i_0, b2i_1, w32_id, Classical.not_not, not_true_eq_false, not_false_eq_true] at h39
          rw [if_pos h39, ← Int.add_assoc] at hnx
          refine Ex_step (tk_M_countOf rfl) ?_
          refine Ex_step (tk_M_countOf rfl) ?_
          refine Ex_step (tk_M_countOf rfl) ?_
          refine Ex_step (tk_M_countOf rfl) ?_
          refine Ex_step (tk_M_countOf rfl) ?_
          refine Ex_step (tk_M_countOf rfl) ?_
          exact hnx
  have hall : ∀ (r y : Nat) (l5 : Option AV), y + r = g → Ex (d + 2) M_countOf 5 [some (vR aM), some (vI i), some (vI so), some (vI (cntA (A 3) dd so w y)), some (vI (y : Int)), l5] [] (MS m I A L) Q := by
    intro r
    induction r with
    | zero =>
      intro y l5 hy
      have : y = g := by omega
      subst this
      refine Ex_step (tk_M_countOf rfl) ?_
      refine Ex_step (tk_M_countOf rfl) ?_
      refine Ex_step (tk_M_countOf rfl) ?_
      refine Ex_cV0 (av := [vI i]) (tk_M_countOf rfl) mk_M_highOf ⟨rfl, rfl, by decide, rfl, Nat.le_of_ble_eq_true rfl, Nat.le_of_ble_eq_true rfl⟩ (hM.k) (fun _ h => f_highOf hM hd hi h) ?_
      rw [hge]
      refine Ex_step (tk_M_countOf rfl) ⟨fun h12 => ?_, fun h12 => ?_⟩
      · try simp (disch := omega) only [cmpI, w32_b2i, b2i_0, b2i_1, w32_id, Classical.not_not, not_true_eq_false, not_false_eq_true] at h12
        refine Ex_step (tk_M_countOf rfl) ?_
        refine Ex_step (tk_M_countOf rfl) ⟨rfl, ?_⟩
        exact h
      · try simp (disch := omega) only [cmpI, w32_b2i, b2i_0, b2i_1, w32_id, Classical.not_not, not_true_eq_false, not_false_eq_true] at h12
        omega
    | succ r ih =>
      intro y l5 hy
      have hnx := ih (y + 1) (some (vI (w : Int))) (by omega)
      unfold cntA at hnx
      have h55 : Ex (d + 2) M_countOf 55 [some (vR aM), some (vI i), some (vI so), some (vI (cntA (A 3) dd so w y + cntR (A 3) dd so y w)), some (vI (y : Int)), some (vI (w : Int))] [] (MS m I A L) Q := by
        refine Ex_step (tk_M_countOf rfl) ?_
        refine Ex_step (tk_M_countOf rfl) ?_
        exact hnx
      have h18 := hrow y Q (cntA (A 3) dd so w y) (by omega) h55 w 0 (by omega)
      rw [show cntR (A 3) dd so y 0 = 0 from rfl, Int.add_zero] at h18
      refine Ex_step (tk_M_countOf rfl) ?_
      refine Ex_step (tk_M_countOf rfl) ?_
      refine Ex_step (tk_M_countOf rfl) ?_
      refine Ex_cV0 (av := [vI i]) (tk_M_countOf rfl) mk_M_highOf ⟨rfl, rfl, by decide, rfl, Nat.le_of_ble_eq_true rfl, Nat.le_of_ble_eq_true rfl⟩ (hM.k) (fun _ h => f_highOf hM hd hi h) ?_
      rw [hge]
      refine Ex_step (tk_M_countOf rfl) ⟨fun h12 => ?_, fun h12 => ?_⟩
      · try simp (disch := omega) only [cmpI, w32_b2i, b2i_0, b2i_1, w32_id, Classical.not_not, not_true_eq_false, not_false_eq_true] at h12
        omega
      · try simp (disch := omega) only [cmpI, w32_b2i, b2i_0, b2i_1, w32_id, Classical.not_not, not_true_eq_false, not_false_eq_true] at h12
        refine Ex_step (tk_M_countOf rfl) ?_
        refine Ex_step (tk_M_countOf rfl) ?_
        exact h18
  refine Ex_step (tk_M_countOf rfl) ?_
  refine Ex_step (tk_M_countOf rfl) ?_
  refine Ex_step (tk_M_countOf rfl) ?_
  refine Ex_step (tk_M_countOf rfl) ?_
  exact hall g 0 none (by omega)
end MCount
