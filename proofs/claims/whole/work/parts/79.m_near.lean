/-! ===== the reference: nearest ===== -/
def nstep (T : Nat → Int) (a b : Nat) (s : Int × Int × Int) : Int × Int × Int := if b ≠ a ∧ (s.1 = -1 ∨ s.2.1 * (bestS T a b).2.1 < (bestS T a b).1 * s.2.2) then ((b : Int), (bestS T a b).1, (bestS T a b).2.1) else s
def neS (T : Nat → Int) (a : Nat) : Nat → Int × Int × Int
  | 0 => (-1, 0, 1)
  | b + 1 => nstep T a b (neS T a b)
def NB (s : Int × Int × Int) : Prop := (-1 ≤ s.1 ∧ s.1 ≤ 5) ∧ (0 ≤ s.2.1 ∧ s.2.1 ≤ 100) ∧ (1 ≤ s.2.2 ∧ s.2.2 ≤ 300)
set_option maxRecDepth 100000 in
theorem neS_B {T : Nat → Int} {a nn : Nat} (hN : NowW T nn) (ha : a < nn) : ∀ b, b ≤ nn → NB (neS T a b)
  | 0, _ => ⟨⟨show (-1 : Int) ≤ -1 by decide, show (-1 : Int) ≤ 5 by decide⟩, ⟨show (0 : Int) ≤ 0 by decide, show (0 : Int) ≤ 100 by decide⟩, ⟨show (1 : Int) ≤ 1 by decide, show (1 : Int) ≤ 300 by decide⟩⟩
  | b + 1, hb => by
    show NB (nstep T a b (neS T a b))
    unfold nstep
    have hB := bestS_B (T := T) (a := a) (b := b)
    have h0 := bestS_nn (hN.2.2.2 a ha) (hN.2.2.2 b (by omega))
    have := hN.1
    split
    · exact ⟨⟨by show -1 ≤ (b : Int); omega, by show (b : Int) ≤ 5; omega⟩, ⟨h0, hB.1.2⟩, ⟨hB.2.1, hB.2.2.1⟩⟩
    · exact neS_B hN ha b (by omega)
section MNear
variable {d nn : Nat} {i : Int} {m : Mem} {I : Nat → Int} {A L : Nat → Nat → Int} {Q : Nat → Option AV → Mem → Prop}
set_option maxRecDepth 100000 in
theorem f_nearest (hM : MW m) (hN : NowW (A 3) nn) (hi : okI i) (hb1 : ¬ (0 ≤ i ∧ i < (nn : Int)) → Q 0 (some (vI 0)) (MS m (up1 (up1 I 0 0) 0 1) (refA 0 A) L)) (hok : 0 ≤ i ∧ i < (nn : Int) → ∀ (I' : Nat → Int) (A' L' : Nat → Nat → Int), KpJ (up1 I 0 0) I' → KpA A A' → Q 0 (some (vI (neS (A 3) i.toNat nn).1)) (MS m I' A' L')) : Ex (d + 5) M_nearest 0 [some (vR aM), some (vI i), none, none, none, none] [] (MS m I A L) Q := by
  have hn6 := hN.1
  have hn0 := hN.2.1
  have hA : ¬ (0 ≤ i ∧ i < (nn : Int)) → Ex (d + 5) M_nearest 19 [some (vR aM), some (vI i), none, none, none, none] [vI 1, vR aM] (MS m (up1 I 0 0) A L) Q := by
    intro hq
    refine Ex_step (tk_M_nearest rfl) ?_
    refine Ex_step (tk_M_nearest rfl) ?_
    refine Ex_cV0 (av := [vI 1, vI 1, vI 0]) (tk_M_nearest rfl) mk_M_bad ⟨rfl, rfl, by decide, rfl, Nat.le_of_ble_eq_true rfl, Nat.le_of_ble_eq_true rfl⟩ (hM.k) (fun _ h => f_bad1 (r := 0) hM (by decide) (by decide) (up1_at _ _ _) h) ?_
    refine Ex_step (tk_M_nearest rfl) ⟨fun h24 => ?_, fun h24 => ?_⟩
    · replace h24 : _ := h24
      exact absurd (show w32 1 = w32 0 from h24) (by decide)
    · replace h24 : _ := h24
      refine Ex_step (tk_M_nearest rfl) ?_
      refine Ex_step (tk_M_nearest rfl) ⟨rfl, ?_⟩
      exact hb1 hq
  have hB : 0 ≤ i ∧ i < (nn : Int) → Ex (d + 5) M_nearest 19 [some (vR aM), some (vI i), none, none, none, none] [vI 0, vR aM] (MS m (up1 I 0 0) A L) Q := by
    intro hq
    have h := hok hq
    obtain ⟨a, rfl⟩ : ∃ a : Nat, i = (a : Int) := ⟨i.toNat, by omega⟩
    have h : ∀ (I' : Nat → Int) (A' L' : Nat → Nat → Int), KpJ (up1 I 0 0) I' → KpA A A' → Q 0 (some (vI (neS (A 3) a nn).1)) (MS m I' A' L') := h
    have hWa := hN.2.2.2 a (by omega)
    have hloop : ∀ (r b : Nat) (I1 rr : Nat → Int) (L1 : Nat → Nat → Int), b + r = nn → KpJ (up1 I 0 0) I1 → Ex (d + 5) M_nearest 39 [some (vR aM), some (vI (a : Int)), some (vI (neS (A 3) a b).1), some (vI (neS (A 3) a b).2.1), some (vI (neS (A 3) a b).2.2), some (vI (b : Int))] [] (MS m I1 (up1 A 14 rr) L1) Q := by
      intro r
      induction r with
      | zero =>
        intro b I1 rr L1 hb k1
        have : b = nn := by omega
        subst this
        refine Ex_step (tk_M_nearest rfl) ?_
        refine Ex_step (tk_M_nearest rfl) ?_
        refine gMR (tk_M_nearest rfl) hM hM.r9 ?_
        refine Ex_step (tk_M_nearest rfl) ?_
        refine lMI (j := 3) (n := 0) (tk_M_nearest rfl) (by decide) hM.k3 hM.n3 (rfl) (by decide) ?_
        rw [show up1 A 14 rr 3 0 = (b : Int) from hn0]
        refine Ex_step (tk_M_nearest rfl) ⟨fun h47 => ?_, fun h47 => ?_⟩
        · try simp (disch := omega) only [cmpI, w32_b2i, b2i_0, b2i_1, w32_id, Classical.not_not, not_true_eq_false, not_false_eq_true] at h47
          refine Ex_step (tk_M_nearest rfl) ?_
          refine Ex_step (tk_M_nearest rfl) ⟨rfl, ?_⟩
          exact h _ _ _ k1 (KpA.up A (by decide) _)
        · try simp (disch := omega) only [cmpI, w32_b2i, b2i_0, b2i_1, w32_id, Classical.not_not, not_true_eq_false, not_false_eq_true] at h47
          omega
      | succ r ih =>
        intro b I1 rr L1 hb k1
        have hWb := hN.2.2.2 b (by omega)
        have hBB := bestS_B (T := A 3) (a := a) (b := b)
        have hB0 := bestS_nn hWa hWb
        have hP := neS_B hN (a := a) (by omega) b (by omega)
        have hnx : ∀ (I2 rr : Nat → Int) (L2 : Nat → Nat → Int), KpJ (up1 I 0 0) I2 → Ex (d + 5) M_nearest 104 [some (vR aM), some (vI (a : Int)), some (vI (nstep (A 3) a b (neS (A 3) a b)).1), some (vI (nstep (A 3) a b (neS (A 3) a b)).2.1), some (vI (nstep (A 3) a b (neS (A 3) a b)).2.2), some (vI (b : Int))] [] (MS m I2 (up1 A 14 rr) L2) Q := by
          intro I2 rr L2 q1
          have := ih (b + 1) I2 rr L2 (by omega) q1
          refine Ex_step (tk_M_nearest rfl) ?_
          refine Ex_step (tk_M_nearest rfl) ?_
          exact this
        unfold nstep at hnx
        by_cases hba : b = a
        · rw [if_neg (fun z => z.1 hba)] at hnx
          have h104 := hnx I1 rr L1 k1
          refine Ex_step (tk_M_nearest rfl) ?_
          refine Ex_step (tk_M_nearest rfl) ?_
          refine gMR (tk_M_nearest rfl) hM hM.r9 ?_
          refine Ex_step (tk_M_nearest rfl) ?_
          refine lMI (j := 3) (n := 0) (tk_M_nearest rfl) (by decide) hM.k3 hM.n3 (rfl) (by decide) ?_
          rw [show up1 A 14 rr 3 0 = (nn : Int) from hn0]
          refine Ex_step (tk_M_nearest rfl) ⟨fun h47 => ?_, fun h47 => ?_⟩
          · try simp (disch := omega) only [cmpI, w32_b2i, b2i_0, b2i_1, w32_id, Classical.not_not, not_true_eq_false, not_false_eq_true] at h47
            omega
          · try simp (disch := omega) only [cmpI, w32_b2i, b2i_0, b2i_1, w32_id, Classical.not_not, not_true_eq_false, not_false_eq_true] at h47
            refine Ex_step (tk_M_nearest rfl) ?_
            refine Ex_step (tk_M_nearest rfl) ?_
            refine Ex_step (tk_M_nearest rfl) ⟨fun h53 => ?_, fun h53 => ?_⟩
            · try simp (disch := omega) only [cmpI, w32_b2i, b2i_0, b2i_1, w32_id, Classical.not_not, not_true_eq_false, not_false_eq_true] at h53
              omega
            · try simp (disch := omega) only [cmpI, w32_b2i, b2i_0, b2i_1, w32_id, Classical.not_not, not_true_eq_false, not_false_eq_true] at h53
              refine Ex_step (tk_M_nearest rfl) ?_
              exact h104
        · have key : ∀ (I2 rr : Nat → Int) (L2 : Nat → Nat → Int), KpI I1 I2 → BSI I2 (bestS (A 3) a b) → Ex (d + 5) M_nearest 66 [some (vR aM), some (vI (a : Int)), some (vI (neS (A 3) a b).1), some (vI (neS (A 3) a b).2.1), some (vI (neS (A 3) a b).2.2), some (vI (b : Int))] [] (MS m I2 (up1 A 14 rr) L2) Q := by
            intro I2 rr L2 q1 q2
            obtain ⟨⟨v1, v2⟩, ⟨v3, v4⟩, ⟨v5, v6⟩⟩ := hP
            obtain ⟨⟨w1, w2⟩, w3, w4, w5⟩ := hBB
            obtain ⟨o1, o2, o3, o4, o5⟩ := q2
            have hk := k1.tr q1.j
            generalize bestS (A 3) a b = B at *
            generalize neS (A 3) a b = P at *
            have m1 := mul_b (x := B.1) (y := P.2.2) (by omega) (by omega)
            have m2 := mul_b (x := P.2.1) (y := B.2.1) (by omega) (by omega)
            have h90 : (P.1 = -1 ∨ P.2.1 * B.2.1 < B.1 * P.2.2) → Ex (d + 5) M_nearest 90 [some (vR aM), some (vI (a : Int)), some (vI P.1), some (vI P.2.1), some (vI P.2.2), some (vI (b : Int))] [] (MS m I2 (up1 A 14 rr) L2) Q := by
              intro hz
              rw [if_pos ⟨hba, hz⟩] at hnx
              have h104 := hnx I2 rr L2 hk
              refine Ex_step (tk_M_nearest rfl) ?_
              refine Ex_step (tk_M_nearest rfl) ?_
              refine Ex_step (tk_M_nearest rfl) ?_
              refine gMI (tk_M_nearest rfl) hM ?_
              rw [o1]
              refine Ex_step (tk_M_nearest rfl) ?_
              refine Ex_step (tk_M_nearest rfl) ?_
              refine gMI (tk_M_nearest rfl) hM ?_
              rw [o2]
              refine Ex_step (tk_M_nearest rfl) ?_
              exact h104
            have h104 : ¬ (P.1 = -1 ∨ P.2.1 * B.2.1 < B.1 * P.2.2) → Ex (d + 5) M_nearest 104 [some (vR aM), some (vI (a : Int)), some (vI P.1), some (vI P.2.1), some (vI P.2.2), some (vI (b : Int))] [] (MS m I2 (up1 A 14 rr) L2) Q := by
              intro hz
              rw [if_neg (fun z => hz z.2)] at hnx
              exact hnx I2 rr L2 hk
            refine Ex_step (tk_M_nearest rfl) ?_
            refine Ex_step (tk_M_nearest rfl) ?_
            refine Ex_step (tk_M_nearest rfl) ⟨fun h68 => ?_, fun h68 => ?_⟩
            · try simp (disch := omega) only [cmpI, w32_b2i, b2i_0, b2i_1, w32_id, Classical.not_not, not_true_eq_false, not_false_eq_true] at h68
              exact h90 (by omega)
            · try simp (disch := omega) only [cmpI, w32_b2i, b2i_0, b2i_1, w32_id, Classical.not_not, not_true_eq_false, not_false_eq_true] at h68
              refine Ex_step (tk_M_nearest rfl) ?_
              refine gMI (tk_M_nearest rfl) hM ?_
              rw [o1]
              refine Ex_step (tk_M_nearest rfl) ?_
              refine Ex_step (tk_M_nearest rfl) ?_
              refine Ex_step (tk_M_nearest rfl) ?_
              refine Ex_step (tk_M_nearest rfl) ?_
              refine gMI (tk_M_nearest rfl) hM ?_
              rw [o2]
              refine Ex_step (tk_M_nearest rfl) ?_
              refine Ex_step (tk_M_nearest rfl) ⟨fun h84 => ?_, fun h84 => ?_⟩
              · try simp (disch := omega) only [cmpI, w32_b2i, b2i_0, b2i_1, w32_id, Classical.not_not, not_true_eq_false, not_false_eq_true] at h84
                exact h90 (by omega)
              · try simp (disch := omega) only [cmpI, w32_b2i, b2i_0, b2i_1, w32_id, Classical.not_not, not_true_eq_false, not_false_eq_true] at h84
                refine Ex_step (tk_M_nearest rfl) ?_
                exact h104 (by omega)
          refine Ex_step (tk_M_nearest rfl) ?_
          refine Ex_step (tk_M_nearest rfl) ?_
          refine gMR (tk_M_nearest rfl) hM hM.r9 ?_
          refine Ex_step (tk_M_nearest rfl) ?_
          refine lMI (j := 3) (n := 0) (tk_M_nearest rfl) (by decide) hM.k3 hM.n3 (rfl) (by decide) ?_
          rw [show up1 A 14 rr 3 0 = (nn : Int) from hn0]
          refine Ex_step (tk_M_nearest rfl) ⟨fun h47 => ?_, fun h47 => ?_⟩
          · try simp (disch := omega) only [cmpI, w32_b2i, b2i_0, b2i_1, w32_id, Classical.not_not, not_true_eq_false, not_false_eq_true] at h47
            omega
          · try simp (disch := omega) only [cmpI, w32_b2i, b2i_0, b2i_1, w32_id, Classical.not_not, not_true_eq_false, not_false_eq_true] at h47
            refine Ex_step (tk_M_nearest rfl) ?_
            refine Ex_step (tk_M_nearest rfl) ?_
            refine Ex_step (tk_M_nearest rfl) ⟨fun h53 => ?_, fun h53 => ?_⟩
            · try simp (disch := omega) only [cmpI, w32_b2i, b2i_0, b2i_1, w32_id, Classical.not_not, not_true_eq_false, not_false_eq_true] at h53
              refine Ex_step (tk_M_nearest rfl) ?_
              refine Ex_step (tk_M_nearest rfl) ?_
              refine Ex_step (tk_M_nearest rfl) ?_
              refine Ex_cVK (av := [vI (a : Int), vI (b : Int)]) (tk_M_nearest rfl) mk_M_overlays ⟨rfl, rfl, by decide, rfl, Nat.le_of_ble_eq_true rfl, Nat.le_of_ble_eq_true rfl⟩ (hM.k) (f_overlays (A := up1 A 14 rr) (a := a) (b := b) hM (by omega) (by omega) rfl rfl hWa hWb (fun I2 r2 L2 q1 q2 q3 => ⟨rfl, ?_⟩))
              rw [up1_same]
              exact key I2 r2 L2 q1 q2
            · try simp (disch := omega) only [cmpI, w32_b2i, b2i_0, b2i_1, w32_id, Classical.not_not, not_true_eq_false, not_false_eq_true] at h53
              refine Ex_step (tk_M_nearest rfl) ?_
              omega
    have h39 := hloop nn 0 (up1 I 0 0) (A 14) L (by omega) (KpJ.rf _)
    rw [up1_self (f := A) rfl] at h39
    refine Ex_step (tk_M_nearest rfl) ?_
    refine Ex_step (tk_M_nearest rfl) ?_
    refine Ex_cV0 (av := [vI 0, vI 1, vI 0]) (tk_M_nearest rfl) mk_M_bad ⟨rfl, rfl, by decide, rfl, Nat.le_of_ble_eq_true rfl, Nat.le_of_ble_eq_true rfl⟩ (hM.k) (fun _ h => f_bad0 (r := 0) hM (by decide) (by decide) (up1_at _ _ _) h) ?_
    refine Ex_step (tk_M_nearest rfl) ⟨fun h24 => ?_, fun h24 => ?_⟩
    · replace h24 : _ := h24
      refine Ex_step (tk_M_nearest rfl) ?_
      refine Ex_step (tk_M_nearest rfl) ?_
      refine Ex_step (tk_M_nearest rfl) ?_
      refine Ex_step (tk_M_nearest rfl) ?_
      refine Ex_step (tk_M_nearest rfl) ?_
      refine Ex_step (tk_M_nearest rfl) ?_
      refine Ex_step (tk_M_nearest rfl) ?_
      refine Ex_step (tk_M_nearest rfl) ?_
      exact h39
    · replace h24 : _ := h24
      exact absurd rfl h24
  refine Ex_step (tk_M_nearest rfl) ?_
  refine Ex_step (tk_M_nearest rfl) ?_
  refine pMI (tk_M_nearest rfl) hM ?_
  refine Ex_step (tk_M_nearest rfl) ?_
  refine Ex_step (tk_M_nearest rfl) ?_
  refine Ex_step (tk_M_nearest rfl) ?_
  refine Ex_cV0 (av := [vI i]) (tk_M_nearest rfl) mk_M_isDesign ⟨rfl, rfl, by decide, rfl, Nat.le_of_ble_eq_true rfl, Nat.le_of_ble_eq_true rfl⟩ (hM.k) (fun _ h => f_isDesign hM hN hi h) ?_
  refine Ex_step (tk_M_nearest rfl) ⟨fun h11 => ?_, fun h11 => ?_⟩
  · try simp (disch := omega) only [cmpI, w32_b2i, b2i_0, b2i_1, w32_id, Classical.not_not, not_true_eq_false, not_false_eq_true] at h11
    refine Ex_step (tk_M_nearest rfl) ?_
    first | exact hA h11 | exact hB h11
  · try simp (disch := omega) only [cmpI, w32_b2i, b2i_0, b2i_1, w32_id, Classical.not_not, not_true_eq_false, not_false_eq_true] at h11
    refine Ex_step (tk_M_nearest rfl) ?_
    refine Ex_step (tk_M_nearest rfl) ?_
    first | exact hA h11 | exact hB h11
end MNear
