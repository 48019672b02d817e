/-! ===== the reference: what was there before ===== -/
set_option maxRecDepth 100000 in
theorem bestS_B {T : Nat → Int} {a b : Nat} : BB (bestS T a b) := BB.t ⟨⟨show (-1 : Int) ≤ -1 by decide, show (-1 : Int) ≤ 100 by decide⟩, show (1 : Int) ≤ 1 by decide, show (1 : Int) ≤ 300 by decide, show (-1 : Int) ≤ 1 by decide⟩ 8
set_option maxRecDepth 100000 in
theorem bstep_nn {T : Nat → Int} {a b t : Nat} {dx dy : Int} {s : BSt} (h : BB s) : 0 ≤ (bstep T a b t dx dy s).1 := by
  unfold bstep
  have h1 := smS_b (T := T) (a := a) (b := b) (t := t) (dx := dx) (dy := dy)
  have h2 := h.1.1
  split
  · exact h1.1
  · next q => omega
set_option maxRecDepth 100000 in
theorem bX_nn {T : Nat → Int} {a b t : Nat} {dy lo : Int} {n : Nat} (hn : 1 ≤ n) {s : BSt} (h : BB s) : 0 ≤ (bX T a b t dy lo n s).1 := by
  obtain ⟨k, rfl⟩ : ∃ k, n = k + 1 := ⟨n - 1, by omega⟩
  exact bstep_nn (BB.x k h)
set_option maxRecDepth 100000 in
theorem bY_nn {T : Nat → Int} {a b t : Nat} {lox loy : Int} {nx n : Nat} (hx : 1 ≤ nx) (hn : 1 ≤ n) {s : BSt} (h : BB s) : 0 ≤ (bY T a b t lox loy nx n s).1 := by
  obtain ⟨k, rfl⟩ : ∃ k, n = k + 1 := ⟨n - 1, by omega⟩
  exact bX_nn hx (BB.y k h)
set_option maxRecDepth 100000 in
theorem bestS_nn {T : Nat → Int} {a b : Nat} (hWa : DsW T a) (hWb : DsW T b) : 0 ≤ (bestS T a b).1 := by
  have := hWa.2.1
  have := hWa.2.2.1
  have := tWH 7 hWb.2.1 hWb.2.2.1
  show 0 ≤ (bTn T a b 7 (bT T a b (-1, 1, 0, 0, 0) 7)).1
  unfold bTn
  exact bY_nn (by omega) (by omega) (BB.t ⟨⟨show (-1 : Int) ≤ -1 by decide, show (-1 : Int) ≤ 100 by decide⟩, show (1 : Int) ≤ 1 by decide, show (1 : Int) ≤ 300 by decide, show (-1 : Int) ≤ 1 by decide⟩ 7)
abbrev PSt3 : Type := Int × Int × Int
def pstep (T : Nat → Int) (a b : Nat) (s : PSt3) : PSt3 := if T (bD b) < T (bD a) ∧ (s.2.2 = -1 ∨ s.1 * (bestS T a b).2.1 < (bestS T a b).1 * s.2.1) then ((bestS T a b).1, (bestS T a b).2.1, (b : Int)) else s
def prS (T : Nat → Int) (a : Nat) : Nat → PSt3
  | 0 => (0, 1, -1)
  | b + 1 => pstep T a b (prS T a b)
def PB (s : PSt3) : Prop := (0 ≤ s.1 ∧ s.1 ≤ 100) ∧ (1 ≤ s.2.1 ∧ s.2.1 ≤ 300) ∧ (-1 ≤ s.2.2 ∧ s.2.2 ≤ 5) ∧ s.1 ≤ s.2.1
set_option maxRecDepth 100000 in
theorem prS_B {T : Nat → Int} {a nn : Nat} (hN : NowW T nn) (ha : a < nn) : ∀ b, b ≤ nn → PB (prS T a b)
  | 0, _ => ⟨⟨show (0 : Int) ≤ 0 by decide, show (0 : Int) ≤ 100 by decide⟩, ⟨show (1 : Int) ≤ 1 by decide, show (1 : Int) ≤ 300 by decide⟩, ⟨show (-1 : Int) ≤ -1 by decide, show (-1 : Int) ≤ 5 by decide⟩, show (0 : Int) ≤ 1 by decide⟩
  | b + 1, hb => by
    show PB (pstep T a b (prS T a b))
    unfold pstep
    have hB := bestS_B (T := T) (a := a) (b := b)
    have h0 := bestS_nn (hN.2.2.2 a ha) (hN.2.2.2 b (by omega))
    have := hN.1
    split
    · exact ⟨⟨h0, hB.1.2⟩, ⟨hB.2.1, hB.2.2.1⟩, ⟨by show -1 ≤ (b : Int); omega, by show (b : Int) ≤ 5; omega⟩, hB.2.2.2⟩
    · exact prS_B hN ha b (by omega)
def PSI (I : Nat → Int) (s : PSt3) : Prop := I 29 = s.1 ∧ I 30 = s.2.1 ∧ I 31 = s.2.2
def KpJ (I I' : Nat → Int) : Prop := ∀ k, k < 15 ∨ 31 < k → I' k = I k
set_option maxRecDepth 100000 in
theorem KpJ.rf (I : Nat → Int) : KpJ I I := fun _ _ => rfl
set_option maxRecDepth 100000 in
theorem KpJ.up {I I' : Nat → Int} (h : KpJ I I') {j : Nat} (hj : 15 ≤ j ∧ j ≤ 31) (v : Int) : KpJ I (up1 I' j v) := fun k hk => by rw [up1_ne _ _ (by omega)]; exact h k hk
set_option maxRecDepth 100000 in
theorem KpJ.tr {I I' I2 : Nat → Int} (h : KpJ I I') (g : KpJ I' I2) : KpJ I I2 := fun k hk => (g k hk).trans (h k hk)
set_option maxRecDepth 100000 in
theorem KpI.j {I I' : Nat → Int} (h : KpI I I') : KpJ I I' := fun k hk => h k (by omega)
set_option maxRecDepth 100000 in
theorem KpI.p {I I' : Nat → Int} (h : KpI I I') {s : PSt3} (g : PSI I s) : PSI I' s := ⟨(h 29 (by decide)).trans g.1, (h 30 (by decide)).trans g.2.1, (h 31 (by decide)).trans g.2.2⟩
section MPriors
variable {d a nn : Nat} {i : Int} {m : Mem} {I : Nat → Int} {A L : Nat → Nat → Int} {Q : Nat → Option AV → Mem → Prop}
set_option maxRecDepth 100000 in
theorem f_priors (hM : MW m) (hN : NowW (A 3) nn) (ha : a < nn) (hi : i = (a : Int)) (h : ∀ (I' r : Nat → Int) (L' : Nat → Nat → Int), KpJ I I' → PSI I' (prS (A 3) a nn) → (∀ k, k < 15 ∨ 18 < k → L' k = L k) → Q 0 none (MS m I' (up1 A 14 r) L')) : Ex (d + 5) M_priors 0 [some (vR aM), some (vI i), none] [] (MS m I A L) Q := by
  have hn6 := hN.1
  have hn0 := hN.2.1
  have hWa := hN.2.2.2 a ha
  have hda := hWa.1
  have hloop : ∀ (r b : Nat) (I1 rr : Nat → Int) (L1 : Nat → Nat → Int), b + r = nn → KpJ I I1 → PSI I1 (prS (A 3) a b) → (∀ k, k < 15 ∨ 18 < k → L1 k = L k) → Ex (d + 5) M_priors 17 [some (vR aM), some (vI i), some (vI (b : Int))] [] (MS m I1 (up1 A 14 rr) L1) Q := by
    intro r
    induction r with
    | zero =>
      intro b I1 rr L1 hb k1 hI kL
      have : b = nn := by omega
      subst this
      refine Ex_step (tk_M_priors rfl) ?_
      refine Ex_step (tk_M_priors rfl) ?_
      refine gMR (tk_M_priors rfl) hM hM.r9 ?_
      refine Ex_step (tk_M_priors rfl) ?_
      refine lMI (j := 3) (n := 0) (tk_M_priors rfl) (by decide) hM.k3 hM.n3 (rfl) (by decide) ?_
      rw [show up1 A 14 rr 3 0 = (b : Int) from hn0]
      refine Ex_step (tk_M_priors rfl) ⟨fun h24 => ?_, fun h24 => ?_⟩
      · try simp (disch := omega) only [cmpI, w32_b2i, b2i_0, b2i_1, w32_id, Classical.not_not, not_true_eq_false, not_false_eq_true] at h24
        refine Ex_step (tk_M_priors rfl) ⟨rfl, ?_⟩
        exact h _ _ _ k1 hI kL
      · try simp (disch := omega) only [cmpI, w32_b2i, b2i_0, b2i_1, w32_id, Classical.not_not, not_true_eq_false, not_false_eq_true] at h24
        omega
    | succ r ih =>
      intro b I1 rr L1 hb k1 hI kL
      have hWb := hN.2.2.2 b (by omega)
      have hdb := hWb.1
      have hB := bestS_B (T := A 3) (a := a) (b := b)
      have hB0 := bestS_nn hWa hWb
      have hP := prS_B hN ha b (by omega)
      have hnx : ∀ (I2 rr : Nat → Int) (L2 : Nat → Nat → Int), KpJ I I2 → PSI I2 (pstep (A 3) a b (prS (A 3) a b)) → (∀ k, k < 15 ∨ 18 < k → L2 k = L k) → Ex (d + 5) M_priors 102 [some (vR aM), some (vI i), some (vI (b : Int))] [] (MS m I2 (up1 A 14 rr) L2) Q := by
        intro I2 rr L2 q1 q2 q3
        have := ih (b + 1) I2 rr L2 (by omega) q1 q2 q3
        refine Ex_step (tk_M_priors rfl) ?_
        refine Ex_step (tk_M_priors rfl) ?_
        exact this
      unfold pstep at hnx
      by_cases hday : A 3 (bD b) < A 3 (bD a)
      · have key : ∀ (I2 rr : Nat → Int) (L2 : Nat → Nat → Int), KpI I1 I2 → BSI I2 (bestS (A 3) a b) → (∀ k, k < 15 ∨ 18 < k → L2 k = L k) → Ex (d + 5) M_priors 49 [some (vR aM), some (vI i), some (vI (b : Int))] [] (MS m I2 (up1 A 14 rr) L2) Q := by
          intro I2 rr L2 q1 q2 q3
          obtain ⟨p1, p2, p3⟩ := q1.p hI
          obtain ⟨⟨v1, v2⟩, ⟨v3, v4⟩, ⟨v5, v6⟩, v7⟩ := hP
          obtain ⟨⟨w1, w2⟩, w3, w4, w5⟩ := hB
          obtain ⟨o1, o2, o3, o4, o5⟩ := q2
          have hk := k1.tr q1.j
          generalize bestS (A 3) a b = B at *
          generalize prS (A 3) a b = P at *
          have m1 := mul_b (x := B.1) (y := P.2.1) (by omega) (by omega)
          have m2 := mul_b (x := P.1) (y := B.2.1) (by omega) (by omega)
          have h81 : (P.2.2 = -1 ∨ P.1 * B.2.1 < B.1 * P.2.1) → Ex (d + 5) M_priors 81 [some (vR aM), some (vI i), some (vI (b : Int))] [] (MS m I2 (up1 A 14 rr) L2) Q := by
            intro hq
            rw [if_pos ⟨hday, hq⟩] at hnx
            refine Ex_step (tk_M_priors rfl) ?_
            refine Ex_step (tk_M_priors rfl) ?_
            refine gMI (tk_M_priors rfl) hM ?_
            refine pMI (tk_M_priors rfl) hM ?_
            refine Ex_step (tk_M_priors rfl) ?_
            refine Ex_step (tk_M_priors rfl) ?_
            refine gMI (tk_M_priors rfl) hM ?_
            refine pMI (tk_M_priors rfl) hM ?_
            refine Ex_step (tk_M_priors rfl) ?_
            refine Ex_step (tk_M_priors rfl) ?_
            refine pMI (tk_M_priors rfl) hM ?_
            exact hnx _ _ _ (((hk.up (by decide) _).up (by decide) _).up (by decide) _) ⟨o1, o2, rfl⟩ q3
          have h102 : ¬ (P.2.2 = -1 ∨ P.1 * B.2.1 < B.1 * P.2.1) → Ex (d + 5) M_priors 102 [some (vR aM), some (vI i), some (vI (b : Int))] [] (MS m I2 (up1 A 14 rr) L2) Q := by
            intro hq
            rw [if_neg (fun z => hq z.2)] at hnx
            exact hnx _ _ _ hk ⟨p1, p2, p3⟩ q3
          refine Ex_step (tk_M_priors rfl) ?_
          refine gMI (tk_M_priors rfl) hM ?_
          rw [p3]
          refine Ex_step (tk_M_priors rfl) ?_
          refine Ex_step (tk_M_priors rfl) ⟨fun h54 => ?_, fun h54 => ?_⟩
          · try simp (disch := omega) only [cmpI, w32_b2i, b2i_0, b2i_1, w32_id, Classical.not_not, not_true_eq_false, not_false_eq_true] at h54
            exact h81 (by omega)
          · try simp (disch := omega) only [cmpI, w32_b2i, b2i_0, b2i_1, w32_id, Classical.not_not, not_true_eq_false, not_false_eq_true] at h54
            refine Ex_step (tk_M_priors rfl) ?_
            refine gMI (tk_M_priors rfl) hM ?_
            rw [o1]
            refine Ex_step (tk_M_priors rfl) ?_
            refine gMI (tk_M_priors rfl) hM ?_
            rw [p2]
            refine Ex_step (tk_M_priors rfl) ?_
            refine Ex_step (tk_M_priors rfl) ?_
            refine gMI (tk_M_priors rfl) hM ?_
            rw [p1]
            refine Ex_step (tk_M_priors rfl) ?_
            refine gMI (tk_M_priors rfl) hM ?_
            rw [o2]
            refine Ex_step (tk_M_priors rfl) ?_
            refine Ex_step (tk_M_priors rfl) ⟨fun h75 => ?_, fun h75 => ?_⟩
            · try simp (disch := omega) only [cmpI, w32_b2i, b2i_0, b2i_1, w32_id, Classical.not_not, not_true_eq_false, not_false_eq_true] at h75
              exact h81 (by omega)
            · try simp (disch := omega) only [cmpI, w32_b2i, b2i_0, b2i_1, w32_id, Classical.not_not, not_true_eq_false, not_false_eq_true] at h75
              refine Ex_step (tk_M_priors rfl) ?_
              exact h102 (by omega)
        refine Ex_step (tk_M_priors rfl) ?_
        refine Ex_step (tk_M_priors rfl) ?_
        refine gMR (tk_M_priors rfl) hM hM.r9 ?_
        refine Ex_step (tk_M_priors rfl) ?_
        refine lMI (j := 3) (n := 0) (tk_M_priors rfl) (by decide) hM.k3 hM.n3 (rfl) (by decide) ?_
        rw [show up1 A 14 rr 3 0 = (nn : Int) from hn0]
        refine Ex_step (tk_M_priors rfl) ⟨fun h24 => ?_, fun h24 => ?_⟩
        · try simp (disch := omega) only [cmpI, w32_b2i, b2i_0, b2i_1, w32_id, Classical.not_not, not_true_eq_false, not_false_eq_true] at h24
          omega
        · try simp (disch := omega) only [cmpI, w32_b2i, b2i_0, b2i_1, w32_id, Classical.not_not, not_true_eq_false, not_false_eq_true] at h24
          refine Ex_step (tk_M_priors rfl) ?_
          refine Ex_step (tk_M_priors rfl) ?_
          refine Ex_cV0 (av := [vI (b : Int)]) (tk_M_priors rfl) mk_M_dayOf ⟨rfl, rfl, by decide, rfl, Nat.le_of_ble_eq_true rfl, Nat.le_of_ble_eq_true rfl⟩ (hM.k) (fun _ h => f_dayOf (A := up1 A 14 rr) hM (show b ≤ 5 by omega) rfl h) ?_
          refine Ex_step (tk_M_priors rfl) ?_
          refine Ex_step (tk_M_priors rfl) ?_
          refine Ex_cV0 (av := [vI i]) (tk_M_priors rfl) mk_M_dayOf ⟨rfl, rfl, by decide, rfl, Nat.le_of_ble_eq_true rfl, Nat.le_of_ble_eq_true rfl⟩ (hM.k) (fun _ h => f_dayOf (A := up1 A 14 rr) hM (show a ≤ 5 by omega) hi h) ?_
          show Ex (d + 5) M_priors 37 _ [vI (A 3 (bD a)), vI (A 3 (bD b))] _ Q
          refine Ex_step (tk_M_priors rfl) ⟨fun h37 => ?_, fun h37 => ?_⟩
          · try simp (disch := omega) only [cmpI, w32_b2i, b2i_0, b2i_1, w32_id, Classical.not_not, not_true_eq_false, not_false_eq_true] at h37
            refine Ex_step (tk_M_priors rfl) ?_
            refine Ex_step (tk_M_priors rfl) ?_
            refine Ex_step (tk_M_priors rfl) ?_
            refine Ex_cVK (av := [vI i, vI (b : Int)]) (tk_M_priors rfl) mk_M_overlays ⟨rfl, rfl, by decide, rfl, Nat.le_of_ble_eq_true rfl, Nat.le_of_ble_eq_true rfl⟩ (hM.k) (f_overlays (A := up1 A 14 rr) hM (show a ≤ 5 by omega) (show b ≤ 5 by omega) hi rfl hWa hWb (fun I2 r2 L2 q1 q2 q3 => ⟨rfl, ?_⟩))
            rw [up1_same]
            exact key I2 r2 L2 q1 q2 (fun k hk => (q3 k hk).trans (kL k hk))
          · try simp (disch := omega) only [cmpI, w32_b2i, b2i_0, b2i_1, w32_id, Classical.not_not, not_true_eq_false, not_false_eq_true] at h37
            refine Ex_step (tk_M_priors rfl) ?_
            omega
      · rw [if_neg (fun z => hday z.1)] at hnx
        have h102 := hnx I1 rr L1 k1 hI kL
        refine Ex_step (tk_M_priors rfl) ?_
        refine Ex_step (tk_M_priors rfl) ?_
        refine gMR (tk_M_priors rfl) hM hM.r9 ?_
        refine Ex_step (tk_M_priors rfl) ?_
        refine lMI (j := 3) (n := 0) (tk_M_priors rfl) (by decide) hM.k3 hM.n3 (rfl) (by decide) ?_
        rw [show up1 A 14 rr 3 0 = (nn : Int) from hn0]
        refine Ex_step (tk_M_priors rfl) ⟨fun h24 => ?_, fun h24 => ?_⟩
        · try simp (disch := omega) only [cmpI, w32_b2i, b2i_0, b2i_1, w32_id, Classical.not_not, not_true_eq_false, not_false_eq_true] at h24
          omega
        · try simp (disch := omega) only [cmpI, w32_b2i, b2i_0, b2i_1, w32_id, Classical.not_not, not_true_eq_false, not_false_eq_true] at h24
          refine Ex_step (tk_M_priors rfl) ?_
          refine Ex_step (tk_M_priors rfl) ?_
          refine Ex_cV0 (av := [vI (b : Int)]) (tk_M_priors rfl) mk_M_dayOf ⟨rfl, rfl, by decide, rfl, Nat.le_of_ble_eq_true rfl, Nat.le_of_ble_eq_true rfl⟩ (hM.k) (fun _ h => f_dayOf (A := up1 A 14 rr) hM (show b ≤ 5 by omega) rfl h) ?_
          refine Ex_step (tk_M_priors rfl) ?_
          refine Ex_step (tk_M_priors rfl) ?_
          refine Ex_cV0 (av := [vI i]) (tk_M_priors rfl) mk_M_dayOf ⟨rfl, rfl, by decide, rfl, Nat.le_of_ble_eq_true rfl, Nat.le_of_ble_eq_true rfl⟩ (hM.k) (fun _ h => f_dayOf (A := up1 A 14 rr) hM (show a ≤ 5 by omega) hi h) ?_
          show Ex (d + 5) M_priors 37 _ [vI (A 3 (bD a)), vI (A 3 (bD b))] _ Q
          refine Ex_step (tk_M_priors rfl) ⟨fun h37 => ?_, fun h37 => ?_⟩
          · try simp (disch := omega) only [cmpI, w32_b2i, b2i_0, b2i_1, w32_id, Classical.not_not, not_true_eq_false, not_false_eq_true] at h37
            omega
          · try simp (disch := omega) only [cmpI, w32_b2i, b2i_0, b2i_1, w32_id, Classical.not_not, not_true_eq_false, not_false_eq_true] at h37
            refine Ex_step (tk_M_priors rfl) ?_
            exact h102
  have h17 := hloop nn 0 (up1 (up1 (up1 I 29 0) 30 1) 31 (-1)) (A 14) L (by omega) ((((KpJ.rf I).up (by decide) _).up (by decide) _).up (by decide) _) ⟨rfl, rfl, rfl⟩ (fun _ _ => rfl)
  rw [up1_self rfl] at h17
  refine Ex_step (tk_M_priors rfl) ?_
  refine Ex_step (tk_M_priors rfl) ?_
  refine pMI (tk_M_priors rfl) hM ?_
  refine Ex_step (tk_M_priors rfl) ?_
  refine Ex_step (tk_M_priors rfl) ?_
  refine pMI (tk_M_priors rfl) hM ?_
  refine Ex_step (tk_M_priors rfl) ?_
  refine Ex_step (tk_M_priors rfl) ?_
  refine pMI (tk_M_priors rfl) hM ?_
  refine Ex_step (tk_M_priors rfl) ?_
  refine Ex_step (tk_M_priors rfl) ?_
  exact h17
end MPriors
/-! ===== longs: compared, divided, held ===== -/
set_option maxRecDepth 100000 in
theorem lDiv_nn {x y : Int} (hx : 0 ≤ x) (hx2 : x ≤ 2147483647) (hy : 1 ≤ y) (hy2 : y ≤ 2147483647) : lDiv x y = x / y := by
  have h1 : 0 ≤ x / y := Int.ediv_nonneg hx (by omega)
  have h2 : x / y ≤ x := Int.ediv_le_self y hx
  have ex : (Int64.ofInt x).toInt = x := w64_id (by omega) (by omega)
  have ey : (Int64.ofInt y).toInt = y := w64_id (by omega) (by omega)
  unfold lDiv
  rw [Int64.toInt_div, ex, ey, Int.tdiv_eq_ediv_of_nonneg hx, Int.bmod_eq_of_le (by omega) (by omega)]
def sgC (x y : Int) : Int := if y < x then 1 else if x = y then 0 else -1
set_option maxRecDepth 100000 in
theorem lCmp_sg {x y : Int} (hx : -9000000000000000000 ≤ x ∧ x ≤ 9000000000000000000) (hy : -9000000000000000000 ≤ y ∧ y ≤ 9000000000000000000) : lCmp x y = sgC x y := by
  have ex : (Int64.ofInt x).toInt = x := w64_id (by omega) (by omega)
  have ey : (Int64.ofInt y).toInt = y := w64_id (by omega) (by omega)
  unfold lCmp sgC lg_cmp
  simp only [gt_iff_lt, Int64.lt_iff_toInt_lt, ← Int64.toInt_inj, ex, ey]
  split
  · rfl
  · split <;> rfl
set_option maxRecDepth 100000 in
theorem w32_sg (x y : Int) : w32 (sgC x y) = sgC x y := by
  unfold sgC
  split
  · rfl
  · split <;> rfl
set_option maxRecDepth 100000 in
theorem sg_le (x y : Int) : (sgC x y ≤ 0) = (x ≤ y) := by
  unfold sgC
  refine propext ?_
  split
  · omega
  · split <;> omega
set_option maxRecDepth 100000 in
theorem sg_ge (x y : Int) : (0 ≤ sgC x y) = (y ≤ x) := by
  unfold sgC
  refine propext ?_
  split
  · omega
  · split <;> omega
set_option maxRecDepth 100000 in
theorem sg_lt (x y : Int) : (sgC x y < 0) = (x < y) := by
  unfold sgC
  refine propext ?_
  split
  · omega
  · split <;> omega
set_option maxRecDepth 100000 in
theorem sg_gt (x y : Int) : (0 < sgC x y) = (y < x) := by
  unfold sgC
  refine propext ?_
  split
  · omega
  · split <;> omega
set_option maxRecDepth 100000 in
theorem sg_eq (x y : Int) : (sgC x y = 0) = (x = y) := by
  unfold sgC
  refine propext ?_
  split
  · omega
  · split <;> omega
def hldV (x : Int) : Int := if 1000000 < x then 1000000 else if x < -1000000 then -1000000 else x
set_option maxRecDepth 100000 in
theorem hldV_b (x : Int) : -1000000 ≤ hldV x ∧ hldV x ≤ 1000000 := by
  unfold hldV
  split
  · decide
  · split
    · decide
    · omega
section MHeld
variable {d : Nat} {m : Mem} {Q : Nat → Option AV → Mem → Prop}
set_option maxRecDepth 100000 in
theorem e_held {x : Int} (hx : -9000000000000000 ≤ x ∧ x ≤ 9000000000000000) (h : Q 0 (some (vL (hldV x))) m) : Ex d M_held 0 [some (vL x), none] [] m Q := by
  have e1 : lCmp x 1000000 = sgC x 1000000 := lCmp_sg (by omega) (by decide)
  have e2 : lCmp x (-1000000) = sgC x (-1000000) := lCmp_sg (by omega) (by decide)
  unfold hldV at h
  refine Ex_step (tk_M_held rfl) ?_
  refine Ex_step (tk_M_held rfl) ?_
  refine Ex_step (tk_M_held rfl) ?_
  show Ex d M_held 5 _ [vI (lCmp x 1000000)] _ Q
  rw [e1]
  refine Ex_step (tk_M_held rfl) ⟨fun h5 => ?_, fun h5 => ?_⟩
  · simp (disch := omega) only [cmpI, w32_sg, sg_le, sg_ge, sg_lt, sg_gt, sg_eq, w32_id] at h5
    refine Ex_step (tk_M_held rfl) ?_
    refine Ex_step (tk_M_held rfl) ?_
    refine Ex_step (tk_M_held rfl) ?_
    show Ex d M_held 19 _ [vI (lCmp x (-1000000))] _ Q
    rw [e2]
    refine Ex_step (tk_M_held rfl) ⟨fun h19 => ?_, fun h19 => ?_⟩
    · simp (disch := omega) only [cmpI, w32_sg, sg_le, sg_ge, sg_lt, sg_gt, sg_eq, w32_id] at h19
      rw [if_neg (by omega), if_neg (by omega)] at h
      refine Ex_step (tk_M_held rfl) ?_
      refine Ex_step (tk_M_held rfl) ⟨rfl, ?_⟩
      exact h
    · simp (disch := omega) only [cmpI, w32_sg, sg_le, sg_ge, sg_lt, sg_gt, sg_eq, w32_id] at h19
      rw [if_neg (by omega), if_pos (by omega)] at h
      refine Ex_step (tk_M_held rfl) ?_
      refine Ex_step (tk_M_held rfl) ?_
      refine Ex_step (tk_M_held rfl) ⟨rfl, ?_⟩
      exact h
  · simp (disch := omega) only [cmpI, w32_sg, sg_le, sg_ge, sg_lt, sg_gt, sg_eq, w32_id] at h5
    rw [if_pos (by omega)] at h
    refine Ex_step (tk_M_held rfl) ?_
    refine Ex_step (tk_M_held rfl) ?_
    refine Ex_step (tk_M_held rfl) ⟨rfl, ?_⟩
    exact h
set_option maxRecDepth 100000 in
theorem e_one {p : Prop} [Decidable p] (h : Q 0 (some (vL (oI p))) m) : Ex d M_one 0 [some (vI (b2i p))] [] m Q := by
  refine Ex_step (tk_M_one rfl) ?_
  refine Ex_step (tk_M_one rfl) ⟨fun h1 => ?_, fun h1 => ?_⟩
  · try simp (disch := omega) only [cmpI, w32_b2i, b2i_0, b2i_1, w32_id, Classical.not_not, not_true_eq_false, not_false_eq_true] at h1
    rw [oI_f (by assumption)] at h
    refine Ex_step (tk_M_one rfl) ?_
    refine Ex_step (tk_M_one rfl) ⟨rfl, ?_⟩
    exact h
  · try simp (disch := omega) only [cmpI, w32_b2i, b2i_0, b2i_1, w32_id, Classical.not_not, not_true_eq_false, not_false_eq_true] at h1
    rw [oI_t (by assumption)] at h
    refine Ex_step (tk_M_one rfl) ?_
    refine Ex_step (tk_M_one rfl) ?_
    refine Ex_step (tk_M_one rfl) ⟨rfl, ?_⟩
    exact h
end MHeld
