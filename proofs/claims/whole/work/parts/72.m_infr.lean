/-! ===== the reference: whether one infringes another ===== -/
def askS (T : Nat → Int) (nn a b : Nat) (k : Nat) : Int := if k = 0 then 1000 * (bestS T a b).1 / (bestS T a b).2.1 else if k = 1 then 1000 * (cntS T a 0 + cntS T a 1) / (T (bD a + 1) * T (bD a + 2)) else if k = 2 then 1000 * (prS T a nn).1 / (prS T a nn).2.1 else if k = 3 then cntS T b 1 + cntS T b 3 else T (bD b) - T (bD a)
def infB (T : Nat → Int) (ru : Option (List Tok)) (nn a b : Nat) : Bool := match ru with
  | none => decide (700 < askS T nn a b 0)
  | some ts => decide (evT (fun k => askS T nn a b k.toNat) ts [] = [1])
def RulT (T : Nat → Int) (ru : Option (List Tok)) : Prop := match ru with
  | none => T 1 = 0
  | some ts => T 1 = 1 ∧ encT T 620 ts ∧ wft ts []
section MInfr
variable {d a b nn : Nat} {i j : Int} {m : Mem} {I : Nat → Int} {A L : Nat → Nat → Int} {ru : Option (List Tok)} {Q : Nat → Option AV → Mem → Prop}
set_option maxRecDepth 100000 in
theorem div_b {x y : Int} (hx : 0 ≤ x ∧ x ≤ 200000) (hy : 1 ≤ y) : 0 ≤ x / y ∧ x / y ≤ 200000 := by
  have h1 : 0 ≤ x / y := Int.ediv_nonneg hx.1 (by omega)
  have h2 : x / y ≤ x := Int.ediv_le_self y hx.1
  omega
set_option maxRecDepth 100000 in
theorem f_infr (hM : MW m) (hN : NowW (A 3) nn) (hR : RulT (A 3) ru) (ha : a < nn) (hb : b < nn) (hi : i = (a : Int)) (hj : j = (b : Int)) (hP : PSI I (prS (A 3) a nn)) (h : ∀ (I' r : Nat → Int) (L' : Nat → Nat → Int), KpI I I' → Q 0 (some (vI (b2i (infB (A 3) ru nn a b = true)))) (MS m I' (up1 A 14 r) L')) : Ex (d + 5) M_doesInfringe 0 [some (vR aM), some (vI i), some (vI j)] [] (MS m I A L) Q := by
  have hn6 := hN.1
  have hWa := hN.2.2.2 a ha
  have hWb := hN.2.2.2 b hb
  have hB := bestS_B (T := A 3) (a := a) (b := b)
  have hB0 := bestS_nn hWa hWb
  have hPB := prS_B hN ha nn (Nat.le_refl _)
  have hw := hWa.2.1
  have hh := hWa.2.2.1
  have p1 : 1 ≤ A 3 (bD a + 1) * A 3 (bD a + 2) := Int.mul_pos (by omega) (by omega)
  have n0 := cntS_b hWa 0
  have n1 := cntS_b hWa 1
  have n2 := cntS_b hWb 1
  have n3 := cntS_b hWb 3
  have da := hWa.1
  have db := hWb.1
  obtain ⟨⟨w1, w2⟩, w3, w4, w5⟩ := hB
  obtain ⟨⟨v1, v2⟩, ⟨v3, v4⟩, ⟨v5, v6⟩, v7⟩ := hPB
  have d0 := div_b (x := 1000 * (bestS (A 3) a b).1) (y := (bestS (A 3) a b).2.1) (by omega) w3
  have d1 := div_b (x := 1000 * (cntS (A 3) a 0 + cntS (A 3) a 1)) (y := A 3 (bD a + 1) * A 3 (bD a + 2)) (by omega) p1
  have d2 := div_b (x := 1000 * (prS (A 3) a nn).1) (y := (prS (A 3) a nn).2.1) (by omega) v3
  have l0 : lDiv (1000 * (bestS (A 3) a b).1) (bestS (A 3) a b).2.1 = 1000 * (bestS (A 3) a b).1 / (bestS (A 3) a b).2.1 := lDiv_nn (by omega) (by omega) w3 (by omega)
  have l2 : lDiv (1000 * (prS (A 3) a nn).1) (prS (A 3) a nn).2.1 = 1000 * (prS (A 3) a nn).1 / (prS (A 3) a nn).2.1 := lDiv_nn (by omega) (by omega) v3 (by omega)
  have key : ∀ (I2 rr : Nat → Int) (L2 : Nat → Nat → Int), KpI I I2 → (∀ k, k < 5 → L2 20 k = askS (A 3) nn a b k) → Ex (d + 5) M_doesInfringe 98 [some (vR aM), some (vI i), some (vI j)] [] (MS m I2 (up1 A 14 rr) L2) Q := by
    intro I2 rr L2 q1 q2
    have h0 : L2 20 0 = askS (A 3) nn a b 0 := q2 0 (by decide)
    have b0 : 0 ≤ askS (A 3) nn a b 0 ∧ askS (A 3) nn a b 0 ≤ 200000 := d0
    have hask : ∀ k, k < 5 → -1000000 ≤ L2 20 k ∧ L2 20 k ≤ 1000000 := by
      intro k hk
      rw [q2 k hk]
      rcases (show k = 0 ∨ k = 1 ∨ k = 2 ∨ k = 3 ∨ k = 4 by omega) with rfl | rfl | rfl | rfl | rfl
      · show -1000000 ≤ 1000 * (bestS (A 3) a b).1 / (bestS (A 3) a b).2.1 ∧ 1000 * (bestS (A 3) a b).1 / (bestS (A 3) a b).2.1 ≤ 1000000
        omega
      · show -1000000 ≤ 1000 * (cntS (A 3) a 0 + cntS (A 3) a 1) / (A 3 (bD a + 1) * A 3 (bD a + 2)) ∧ 1000 * (cntS (A 3) a 0 + cntS (A 3) a 1) / (A 3 (bD a + 1) * A 3 (bD a + 2)) ≤ 1000000
        omega
      · show -1000000 ≤ 1000 * (prS (A 3) a nn).1 / (prS (A 3) a nn).2.1 ∧ 1000 * (prS (A 3) a nn).1 / (prS (A 3) a nn).2.1 ≤ 1000000
        omega
      · show -1000000 ≤ cntS (A 3) b 1 + cntS (A 3) b 3 ∧ cntS (A 3) b 1 + cntS (A 3) b 3 ≤ 1000000
        omega
      · show -1000000 ≤ A 3 (bD b) - A 3 (bD a) ∧ A 3 (bD b) - A 3 (bD a) ≤ 1000000
        omega
    have c1 : lCmp (askS (A 3) nn a b 0) 700 = sgC (askS (A 3) nn a b 0) 700 := lCmp_sg (by omega) (by omega)
    match ru, hR, h with
    | none, hR, h =>
      have hR : A 3 1 = 0 := hR
      have hh := h I2 rr L2 q1
      have e : b2i (infB (A 3) none nn a b = true) = b2i (700 < askS (A 3) nn a b 0) := b2i_congr decide_eq_true_iff
      rw [e] at hh
      refine Ex_step (tk_M_doesInfringe rfl) ?_
      refine gMR (tk_M_doesInfringe rfl) hM hM.r9 ?_
      refine Ex_step (tk_M_doesInfringe rfl) ?_
      refine lMI (j := 3) (n := 1) (tk_M_doesInfringe rfl) (by decide) hM.k3 hM.n3 (rfl) (by decide) ?_
      rw [show up1 A 14 rr 3 1 = 0 from hR]
      refine Ex_step (tk_M_doesInfringe rfl) ?_
      refine Ex_step (tk_M_doesInfringe rfl) ⟨fun h105 => ?_, fun h105 => ?_⟩
      · try simp (disch := omega) only [cmpI, w32_sg, sg_le, sg_ge, sg_lt, sg_gt, sg_eq, w32_id] at h105
        refine Ex_step (tk_M_doesInfringe rfl) ?_
        refine gMR (tk_M_doesInfringe rfl) hM hM.r33 ?_
        refine Ex_step (tk_M_doesInfringe rfl) ?_
        refine lML (j := 20) (n := 0) (tk_M_doesInfringe rfl) (by decide) hM.k20 hM.n20 (rfl) (by decide) ?_
        rw [h0]
        refine Ex_step (tk_M_doesInfringe rfl) ?_
        refine Ex_step (tk_M_doesInfringe rfl) ?_
        show Ex (d + 5) M_doesInfringe 125 _ [vI (lCmp (askS (A 3) nn a b 0) 700)] _ Q
        rw [c1]
        refine Ex_step (tk_M_doesInfringe rfl) ⟨fun h125 => ?_, fun h125 => ?_⟩
        · try simp (disch := omega) only [cmpI, w32_sg, sg_le, sg_ge, sg_lt, sg_gt, sg_eq, w32_id] at h125
          rw [b2i_f (by omega)] at hh
          refine Ex_step (tk_M_doesInfringe rfl) ?_
          refine Ex_step (tk_M_doesInfringe rfl) ⟨rfl, by first | exact Or.inl rfl | exact Or.inr rfl | exact b2i_01 _ | assumption, ?_⟩
          exact hh
        · try simp (disch := omega) only [cmpI, w32_sg, sg_le, sg_ge, sg_lt, sg_gt, sg_eq, w32_id] at h125
          rw [b2i_t (by omega)] at hh
          refine Ex_step (tk_M_doesInfringe rfl) ?_
          refine Ex_step (tk_M_doesInfringe rfl) ?_
          refine Ex_step (tk_M_doesInfringe rfl) ⟨rfl, by first | exact Or.inl rfl | exact Or.inr rfl | exact b2i_01 _ | assumption, ?_⟩
          exact hh
      · try simp (disch := omega) only [cmpI, w32_sg, sg_le, sg_ge, sg_lt, sg_gt, sg_eq, w32_id] at h105
        omega
    | some ts, hR, h =>
      obtain ⟨hR1, hR2, hR3⟩ := hR
      have e : ∀ k : Int, 0 ≤ k → k ≤ 4 → L2 20 k.toNat = askS (A 3) nn a b k.toNat := fun k z1 z2 => q2 k.toNat (by omega)
      have e2 : b2i (infB (A 3) (some ts) nn a b = true) = b2i (evT (fun k => L2 20 k.toNat) ts [] = [1]) := by
        refine b2i_congr ?_
        rw [evT_c e ts [] [] hR3]
        exact decide_eq_true_iff
      refine Ex_step (tk_M_doesInfringe rfl) ?_
      refine gMR (tk_M_doesInfringe rfl) hM hM.r9 ?_
      refine Ex_step (tk_M_doesInfringe rfl) ?_
      refine lMI (j := 3) (n := 1) (tk_M_doesInfringe rfl) (by decide) hM.k3 hM.n3 (rfl) (by decide) ?_
      rw [show up1 A 14 rr 3 1 = 1 from hR1]
      refine Ex_step (tk_M_doesInfringe rfl) ?_
      refine Ex_step (tk_M_doesInfringe rfl) ⟨fun h105 => ?_, fun h105 => ?_⟩
      · replace h105 : _ := h105
        exact absurd rfl h105
      · replace h105 : _ := h105
        refine Ex_step (tk_M_doesInfringe rfl) ?_
        refine Ex_cVK (av := []) (tk_M_doesInfringe rfl) mk_M_holds ⟨rfl, rfl, by decide, rfl, Nat.le_of_ble_eq_true rfl, Nat.le_of_ble_eq_true rfl⟩ (hM.k) (f_holds0 (A := up1 A 14 rr) hM hask hR2 hR3 (fun S' => ⟨rfl, ?_⟩))
        refine Ex_step (tk_M_doesInfringe rfl) ?_
        refine Ex_step (tk_M_doesInfringe rfl) ⟨rfl, by first | exact Or.inl rfl | exact Or.inr rfl | exact b2i_01 _ | assumption, ?_⟩
        have hh := h I2 rr (up1 L2 19 S') q1
        rw [e2] at hh
        exact hh
  refine Ex_step (tk_M_doesInfringe rfl) ?_
  refine Ex_step (tk_M_doesInfringe rfl) ?_
  refine Ex_step (tk_M_doesInfringe rfl) ?_
  refine Ex_cVK (av := [vI i, vI j]) (tk_M_doesInfringe rfl) mk_M_overlays ⟨rfl, rfl, by decide, rfl, Nat.le_of_ble_eq_true rfl, Nat.le_of_ble_eq_true rfl⟩ (hM.k) (f_overlays hM (show a ≤ 5 by omega) (show b ≤ 5 by omega) hi hj hWa hWb (fun I2 rr L2 q1 q2 q3 => ⟨rfl, ?_⟩))
  obtain ⟨o1, o2, o3, o4, o5⟩ := q2
  obtain ⟨z1, z2, z3⟩ := q1.p hP
  refine Ex_step (tk_M_doesInfringe rfl) ?_
  refine gMR (tk_M_doesInfringe rfl) hM hM.r33 ?_
  refine Ex_step (tk_M_doesInfringe rfl) ?_
  refine Ex_step (tk_M_doesInfringe rfl) ?_
  refine Ex_step (tk_M_doesInfringe rfl) ?_
  refine gMI (tk_M_doesInfringe rfl) hM ?_
  rw [o1]
  refine Ex_step (tk_M_doesInfringe rfl) ?_
  show Ex (d + 5) M_doesInfringe 19 _ (vL (w32 (bestS (A 3) a b).1) :: _) _ Q
  rw [w32_id (by omega) (by omega)]
  refine Ex_step (tk_M_doesInfringe rfl) ?_
  refine Ex_step (tk_M_doesInfringe rfl) ?_
  refine gMI (tk_M_doesInfringe rfl) hM ?_
  rw [o2]
  refine Ex_step (tk_M_doesInfringe rfl) ?_
  show Ex (d + 5) M_doesInfringe 25 _ (vL (w32 (bestS (A 3) a b).2.1) :: vL (1000 * (bestS (A 3) a b).1) :: _) _ Q
  rw [w32_id (by omega) (by omega)]
  refine Ex_step (tk_M_doesInfringe rfl) ⟨by rw [w64_id (by omega) (by omega)]; omega, ?_⟩
  rw [l0]
  refine tML (j := 20) (n := 0) (tk_M_doesInfringe rfl) (by decide) hM.k20 hM.n20 (rfl) (by decide) ?_
  refine Ex_step (tk_M_doesInfringe rfl) ?_
  refine gMR (tk_M_doesInfringe rfl) hM hM.r33 ?_
  refine Ex_step (tk_M_doesInfringe rfl) ?_
  refine Ex_step (tk_M_doesInfringe rfl) ?_
  refine Ex_step (tk_M_doesInfringe rfl) ?_
  refine Ex_cV0 (av := [vI i]) (tk_M_doesInfringe rfl) mk_M_freedomOf ⟨rfl, rfl, by decide, rfl, Nat.le_of_ble_eq_true rfl, Nat.le_of_ble_eq_true rfl⟩ (hM.k) (fun _ h => f_freedomOf (A := up1 A 14 rr) hM (show a ≤ 5 by omega) hi hWa h) ?_
  refine Ex_step (tk_M_doesInfringe rfl) ?_
  show Ex (d + 5) M_doesInfringe 38 _ (vL (w32 (1000 * (cntS (A 3) a 0 + cntS (A 3) a 1) / (A 3 (bD a + 1) * A 3 (bD a + 2)))) :: _) _ Q
  rw [w32_id (by omega) (by omega)]
  refine tML (j := 20) (n := 1) (tk_M_doesInfringe rfl) (by decide) hM.k20 hM.n20 (rfl) (by decide) ?_
  rw [up1_at, up1_same]
  refine Ex_step (tk_M_doesInfringe rfl) ?_
  refine gMR (tk_M_doesInfringe rfl) hM hM.r33 ?_
  refine Ex_step (tk_M_doesInfringe rfl) ?_
  refine Ex_step (tk_M_doesInfringe rfl) ?_
  refine Ex_step (tk_M_doesInfringe rfl) ?_
  refine gMI (tk_M_doesInfringe rfl) hM ?_
  rw [z1]
  refine Ex_step (tk_M_doesInfringe rfl) ?_
  show Ex (d + 5) M_doesInfringe 52 _ (vL (w32 (prS (A 3) a nn).1) :: _) _ Q
  rw [w32_id (by omega) (by omega)]
  refine Ex_step (tk_M_doesInfringe rfl) ?_
  refine Ex_step (tk_M_doesInfringe rfl) ?_
  refine gMI (tk_M_doesInfringe rfl) hM ?_
  rw [z2]
  refine Ex_step (tk_M_doesInfringe rfl) ?_
  show Ex (d + 5) M_doesInfringe 58 _ (vL (w32 (prS (A 3) a nn).2.1) :: vL (1000 * (prS (A 3) a nn).1) :: _) _ Q
  rw [w32_id (by omega) (by omega)]
  refine Ex_step (tk_M_doesInfringe rfl) ⟨by rw [w64_id (by omega) (by omega)]; omega, ?_⟩
  rw [l2]
  refine tML (j := 20) (n := 2) (tk_M_doesInfringe rfl) (by decide) hM.k20 hM.n20 (rfl) (by decide) ?_
  rw [up1_at, up1_same]
  refine Ex_step (tk_M_doesInfringe rfl) ?_
  refine gMR (tk_M_doesInfringe rfl) hM hM.r33 ?_
  refine Ex_step (tk_M_doesInfringe rfl) ?_
  refine Ex_step (tk_M_doesInfringe rfl) ?_
  refine Ex_step (tk_M_doesInfringe rfl) ?_
  refine Ex_step (tk_M_doesInfringe rfl) ?_
  refine Ex_cV0 (av := [vI j, vI 1]) (tk_M_doesInfringe rfl) mk_M_countOf ⟨rfl, rfl, by decide, rfl, Nat.le_of_ble_eq_true rfl, Nat.le_of_ble_eq_true rfl⟩ (hM.k) (fun _ h => f_countOf (A := up1 A 14 rr) hM (show b ≤ 5 by omega) hj hWb (by decide) h) ?_
  refine Ex_step (tk_M_doesInfringe rfl) ?_
  refine Ex_step (tk_M_doesInfringe rfl) ?_
  refine Ex_step (tk_M_doesInfringe rfl) ?_
  refine Ex_cV0 (av := [vI j, vI 3]) (tk_M_doesInfringe rfl) mk_M_countOf ⟨rfl, rfl, by decide, rfl, Nat.le_of_ble_eq_true rfl, Nat.le_of_ble_eq_true rfl⟩ (hM.k) (fun _ h => f_countOf (A := up1 A 14 rr) hM (show b ≤ 5 by omega) hj hWb (by decide) h) ?_
  refine Ex_step (tk_M_doesInfringe rfl) ?_
  refine Ex_step (tk_M_doesInfringe rfl) ?_
  show Ex (d + 5) M_doesInfringe 79 _ (vL (w32 (cntS (A 3) b 1 + cntS (A 3) b 3)) :: _) _ Q
  rw [w32_id (by omega) (by omega)]
  refine tML (j := 20) (n := 3) (tk_M_doesInfringe rfl) (by decide) hM.k20 hM.n20 (rfl) (by decide) ?_
  rw [up1_at, up1_same]
  refine Ex_step (tk_M_doesInfringe rfl) ?_
  refine gMR (tk_M_doesInfringe rfl) hM hM.r33 ?_
  refine Ex_step (tk_M_doesInfringe rfl) ?_
  refine Ex_step (tk_M_doesInfringe rfl) ?_
  refine Ex_step (tk_M_doesInfringe rfl) ?_
  refine Ex_cV0 (av := [vI j]) (tk_M_doesInfringe rfl) mk_M_dayOf ⟨rfl, rfl, by decide, rfl, Nat.le_of_ble_eq_true rfl, Nat.le_of_ble_eq_true rfl⟩ (hM.k) (fun _ h => f_dayOf (A := up1 A 14 rr) hM (show b ≤ 5 by omega) hj h) ?_
  refine Ex_step (tk_M_doesInfringe rfl) ?_
  refine Ex_step (tk_M_doesInfringe rfl) ?_
  refine Ex_cV0 (av := [vI i]) (tk_M_doesInfringe rfl) mk_M_dayOf ⟨rfl, rfl, by decide, rfl, Nat.le_of_ble_eq_true rfl, Nat.le_of_ble_eq_true rfl⟩ (hM.k) (fun _ h => f_dayOf (A := up1 A 14 rr) hM (show a ≤ 5 by omega) hi h) ?_
  refine Ex_step (tk_M_doesInfringe rfl) ?_
  refine Ex_step (tk_M_doesInfringe rfl) ?_
  show Ex (d + 5) M_doesInfringe 97 _ (vL (w32 (A 3 (bD b) - A 3 (bD a))) :: _) _ Q
  rw [w32_id (by omega) (by omega)]
  refine tML (j := 20) (n := 4) (tk_M_doesInfringe rfl) (by decide) hM.k20 hM.n20 (rfl) (by decide) ?_
  rw [up1_at, up1_same]
  refine key _ _ _ q1 ?_
  intro k hk
  rw [up1_at]
  rcases (show k = 0 ∨ k = 1 ∨ k = 2 ∨ k = 3 ∨ k = 4 by omega) with rfl | rfl | rfl | rfl | rfl <;> rfl
end MInfr
