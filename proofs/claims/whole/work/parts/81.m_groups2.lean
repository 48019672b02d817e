/-! ===== the reference: groups, counted ===== -/
section MGroups2
variable {d nn : Nat} {ru : Option (List Tok)} {m : Mem} {I : Nat → Int} {A L : Nat → Nat → Int} {Q : Nat → Option AV → Mem → Prop}
set_option maxRecDepth 100000 in
theorem f_grC (hM : MW m) (hN : NowW (A 3) nn) (hJ : JB nn (A 23)) (h : Q 0 (some (vI (jCnt (A 23) nn nn))) (MS m I A L)) {l1 l2 l3 l4 l5 : Option AV} : Ex (d + 6) M_groups 153 [some (vR aM), l1, l2, l3, l4, l5] [] (MS m I A L) Q := by
  have hn6 := hN.1
  have hn0 := hN.2.1
  have hin : ∀ (g : Nat) (n : Int), (∀ l4 l5 : Option AV, Ex (d + 6) M_groups 210 [some (vR aM), some (vI n), some (vI (g : Int)), some (vI (b2i (jAny (A 23) (g : Nat) nn = true))), l4, l5] [] (MS m I A L) Q) → g < nn → ∀ (r k : Nat) (l5 : Option AV), k + r = nn → Ex (d + 6) M_groups 172 [some (vR aM), some (vI n), some (vI (g : Int)), some (vI (b2i (jAny (A 23) (g : Nat) k = true))), some (vI (k : Int)), l5] [] (MS m I A L) Q := by
    intro g n h2 hg r
    induction r with
    | zero =>
      intro k l5 hk
      have : k = nn := by omega
      subst this
      refine Ex_step (tk_M_groups rfl) ?_
      refine Ex_step (tk_M_groups rfl) ?_
      refine gMR (tk_M_groups rfl) hM hM.r9 ?_
      refine Ex_step (tk_M_groups rfl) ?_
      refine lMI (j := 3) (n := 0) (tk_M_groups rfl) (by decide) hM.k3 hM.n3 (rfl) (by decide) ?_
      rw [hn0]
      refine Ex_step (tk_M_groups rfl) ⟨fun h180 => ?_, fun h180 => ?_⟩
      · try simp (disch := omega) only [cmpI, w32_b2i, b2i_0, b2i_1, w32_id, Classical.not_not, not_true_eq_false, not_false_eq_true] at h180
        exact h2 _ _
      · try simp (disch := omega) only [cmpI, w32_b2i, b2i_0, b2i_1, w32_id, Classical.not_not, not_true_eq_false, not_false_eq_true] at h180
        omega
    | succ r ih =>
      intro k l5 hk
      have hjk := hJ k (by omega)
      have h203 : ∀ v : Int, v = b2i (jAny (A 23) (g : Nat) (k + 1) = true) → Ex (d + 6) M_groups 203 [some (vR aM), some (vI n), some (vI (g : Int)), some (vI (b2i (jAny (A 23) (g : Nat) k = true))), some (vI (k : Int)), l5] [vI v] (MS m I A L) Q := by
        intro v hv
        subst hv
        have hnx := ih (k + 1) l5 (by omega)
        refine Ex_step (tk_M_groups rfl) ?_
        refine Ex_step (tk_M_groups rfl) ?_
        refine Ex_step (tk_M_groups rfl) ?_
        exact hnx
      have e : (jAny (A 23) (g : Nat) (k + 1) = true) ↔ (jAny (A 23) (g : Nat) k = true ∨ A 23 k = (g : Int)) := by
        show (jAny (A 23) (g : Nat) k || decide (A 23 k = ((g : Nat) : Int))) = true ↔ _
        rw [Bool.or_eq_true, decide_eq_true_iff]
      refine Ex_step (tk_M_groups rfl) ?_
      refine Ex_step (tk_M_groups rfl) ?_
      refine gMR (tk_M_groups rfl) hM hM.r9 ?_
      refine Ex_step (tk_M_groups rfl) ?_
      refine lMI (j := 3) (n := 0) (tk_M_groups rfl) (by decide) hM.k3 hM.n3 (rfl) (by decide) ?_
      rw [hn0]
      refine Ex_step (tk_M_groups rfl) ⟨fun h180 => ?_, fun h180 => ?_⟩
      · try simp (disch := omega) only [cmpI, w32_b2i, b2i_0, b2i_1, w32_id, Classical.not_not, not_true_eq_false, not_false_eq_true] at h180
        omega
      · try simp (disch := omega) only [cmpI, w32_b2i, b2i_0, b2i_1, w32_id, Classical.not_not, not_true_eq_false, not_false_eq_true] at h180
        refine Ex_step (tk_M_groups rfl) ?_
        refine Ex_step (tk_M_groups rfl) ⟨fun h184 => ?_, fun h184 => ?_⟩
        · try simp (disch := omega) only [cmpI, w32_b2i, b2i_0, b2i_1, w32_id, Classical.not_not, not_true_eq_false, not_false_eq_true] at h184
          have hx := h203 1 (b2i_t (e.mpr (by first | exact Or.inl h184 | exact Or.inr h195))).symm
          refine Ex_step (tk_M_groups rfl) ?_
          refine Ex_step (tk_M_groups rfl) ?_
          exact hx
        · try simp (disch := omega) only [cmpI, w32_b2i, b2i_0, b2i_1, w32_id, Classical.not_not, not_true_eq_false, not_false_eq_true] at h184
          refine Ex_step (tk_M_groups rfl) ?_
          refine gMR (tk_M_groups rfl) hM hM.r36 ?_
          refine Ex_step (tk_M_groups rfl) ?_
          refine lMI (j := 23) (n := k) (tk_M_groups rfl) (by decide) hM.k23 hM.n23 (w32_id (by omega) (by omega)) (by omega) ?_
          refine Ex_step (tk_M_groups rfl) ?_
          refine Ex_step (tk_M_groups rfl) ⟨fun h195 => ?_, fun h195 => ?_⟩
          · try simp (disch := omega) only [cmpI, w32_b2i, b2i_0, b2i_1, w32_id, Classical.not_not, not_true_eq_false, not_false_eq_true] at h195
            have hx := h203 0 (b2i_f (fun z => (e.mp z).elim h184 h195)).symm
            refine Ex_step (tk_M_groups rfl) ?_
            exact hx
          · try simp (disch := omega) only [cmpI, w32_b2i, b2i_0, b2i_1, w32_id, Classical.not_not, not_true_eq_false, not_false_eq_true] at h195
            have hx := h203 1 (b2i_t (e.mpr (by first | exact Or.inl h184 | exact Or.inr h195))).symm
            refine Ex_step (tk_M_groups rfl) ?_
            refine Ex_step (tk_M_groups rfl) ?_
            exact hx
  have hall : ∀ (r g : Nat) (l3 l4 l5 : Option AV), g + r = nn → Ex (d + 6) M_groups 157 [some (vR aM), some (vI (jCnt (A 23) nn g)), some (vI (g : Int)), l3, l4, l5] [] (MS m I A L) Q := by
    intro r
    induction r with
    | zero =>
      intro g l3 l4 l5 hg
      have : g = nn := by omega
      subst this
      refine Ex_step (tk_M_groups rfl) ?_
      refine Ex_step (tk_M_groups rfl) ?_
      refine gMR (tk_M_groups rfl) hM hM.r9 ?_
      refine Ex_step (tk_M_groups rfl) ?_
      refine lMI (j := 3) (n := 0) (tk_M_groups rfl) (by decide) hM.k3 hM.n3 (rfl) (by decide) ?_
      rw [hn0]
      refine Ex_step (tk_M_groups rfl) ⟨fun h164 => ?_, fun h164 => ?_⟩
      · try simp (disch := omega) only [cmpI, w32_b2i, b2i_0, b2i_1, w32_id, Classical.not_not, not_true_eq_false, not_false_eq_true] at h164
        refine Ex_step (tk_M_groups rfl) ?_
        refine Ex_step (tk_M_groups rfl) ⟨rfl, ?_⟩
        exact h
      · try simp (disch := omega) only [cmpI, w32_b2i, b2i_0, b2i_1, w32_id, Classical.not_not, not_true_eq_false, not_false_eq_true] at h164
        omega
    | succ r ih =>
      intro g l3 l4 l5 hg
      have h210 : ∀ l4 l5 : Option AV, Ex (d + 6) M_groups 210 [some (vR aM), some (vI (jCnt (A 23) nn g)), some (vI (g : Int)), some (vI (b2i (jAny (A 23) (g : Nat) nn = true))), l4, l5] [] (MS m I A L) Q := by
        intro l4 l5
        have hnx := ih (g + 1) (some (vI (b2i (jAny (A 23) (g : Nat) nn = true)))) l4 l5 (by omega)
        have ht : jAny (A 23) (g : Nat) nn = true → jCnt (A 23) nn (g + 1) = jCnt (A 23) nn g + 1 := fun z => by
          show jCnt (A 23) nn g + oI (jAny (A 23) (g : Nat) nn = true) = _
          rw [oI_t z]
        have hf : ¬ jAny (A 23) (g : Nat) nn = true → jCnt (A 23) nn (g + 1) = jCnt (A 23) nn g + 0 := fun z => by
          show jCnt (A 23) nn g + oI (jAny (A 23) (g : Nat) nn = true) = _
          rw [oI_f z]
        refine Ex_step (tk_M_groups rfl) ?_
        refine Ex_step (tk_M_groups rfl) ?_
        refine Ex_step (tk_M_groups rfl) ⟨fun h212 => ?_, fun h212 => ?_⟩
        · try simp (disch := omega) only [cmpI, w32_b2i, b2i_0, b2i_1, w32_id, Classical.not_not, not_true_eq_false, not_false_eq_true] at h212
          rw [hf h212] at hnx
          refine Ex_step (tk_M_groups rfl) ?_
          refine Ex_step (tk_M_groups rfl) ?_
          refine Ex_step (tk_M_groups rfl) ?_
          refine Ex_step (tk_M_groups rfl) ?_
          refine Ex_step (tk_M_groups rfl) ?_
          exact hnx
        · try simp (disch := omega) only [cmpI, w32_b2i, b2i_0, b2i_1, w32_id, Classical.not_not, not_true_eq_false, not_false_eq_true] at h212
          rw [ht h212] at hnx
          refine Ex_step (tk_M_groups rfl) ?_
          refine Ex_step (tk_M_groups rfl) ?_
          refine Ex_step (tk_M_groups rfl) ?_
          refine Ex_step (tk_M_groups rfl) ?_
          refine Ex_step (tk_M_groups rfl) ?_
          refine Ex_step (tk_M_groups rfl) ?_
          exact hnx
      have h172 := hin g _ h210 (by omega) nn 0 l5 (by omega)
      refine Ex_step (tk_M_groups rfl) ?_
      refine Ex_step (tk_M_groups rfl) ?_
      refine gMR (tk_M_groups rfl) hM hM.r9 ?_
      refine Ex_step (tk_M_groups rfl) ?_
      refine lMI (j := 3) (n := 0) (tk_M_groups rfl) (by decide) hM.k3 hM.n3 (rfl) (by decide) ?_
      rw [hn0]
      refine Ex_step (tk_M_groups rfl) ⟨fun h164 => ?_, fun h164 => ?_⟩
      · try simp (disch := omega) only [cmpI, w32_b2i, b2i_0, b2i_1, w32_id, Classical.not_not, not_true_eq_false, not_false_eq_true] at h164
        omega
      · try simp (disch := omega) only [cmpI, w32_b2i, b2i_0, b2i_1, w32_id, Classical.not_not, not_true_eq_false, not_false_eq_true] at h164
        refine Ex_step (tk_M_groups rfl) ?_
        refine Ex_step (tk_M_groups rfl) ?_
        refine Ex_step (tk_M_groups rfl) ?_
        refine Ex_step (tk_M_groups rfl) ?_
        exact h172
  have h157 := hall nn 0 l3 l4 l5 (by omega)
  match l1, l2 with
  | l1, l2 =>
    refine Ex_step (tk_M_groups rfl) ?_
    refine Ex_step (tk_M_groups rfl) ?_
    refine Ex_step (tk_M_groups rfl) ?_
    refine Ex_step (tk_M_groups rfl) ?_
    exact h157
set_option maxRecDepth 100000 in
theorem f_groups (hM : MW m) (hN : NowW (A 3) nn) (hR : RulT (A 3) ru) (h : ∀ (I' : Nat → Int) (A' L' : Nat → Nat → Int), KpJ (up1 I 0 0) I' → KpA A A' → Q 0 (some (vI (grS (A 3) ru nn (A 23)))) (MS m I' A' L')) : Ex (d + 6) M_groups 0 [some (vR aM), none, none, none, none, none] [] (MS m I A L) Q := by
  have hn6 := hN.1
  have hn0 := hN.2.1
  have hJ0 : JB nn (j0 nn (A 23)) := fun k hk => by
    have e : j0 nn (A 23) k = (k : Int) := if_pos hk
    rw [e]
    omega
  unfold grS at h
  generalize hj : j0 nn (A 23) = J0 at *
  have hall : ∀ (r a : Nat) (I1 rr : Nat → Int) (L1 : Nat → Nat → Int) (l2 l3 l4 l5 : Option AV), a + r = nn → KpJ (up1 I 0 0) I1 → Ex (d + 6) M_groups 32 [some (vR aM), some (vI (a : Int)), l2, l3, l4, l5] [] (MS m I1 (F2 14 23 A rr (jA (A 3) ru nn a J0)) L1) Q := by
    intro r
    induction r with
    | zero =>
      intro a I1 rr L1 l2 l3 l4 l5 ha k1
      have : a = nn := by omega
      subst this
      have h153 := f_grC (d := d) (A := F2 14 23 A rr (jA (A 3) ru a a J0)) (I := I1) (L := L1) (l1 := some (vI (a : Int))) (l2 := l2) (l3 := l3) (l4 := l4) (l5 := l5) hM hN (JB.a hJ0 a (Nat.le_refl _)) (h _ _ _ k1 (KpA.f2 A (by decide) (by decide) _ _))
      refine Ex_step (tk_M_groups rfl) ?_
      refine Ex_step (tk_M_groups rfl) ?_
      refine gMR (tk_M_groups rfl) hM hM.r9 ?_
      refine Ex_step (tk_M_groups rfl) ?_
      refine lMI (j := 3) (n := 0) (tk_M_groups rfl) (by decide) hM.k3 hM.n3 (rfl) (by decide) ?_
      rw [show F2 14 23 A rr (jA (A 3) ru a a J0) 3 0 = (a : Int) from hn0]
      refine Ex_step (tk_M_groups rfl) ⟨fun h39 => ?_, fun h39 => ?_⟩
      · try simp (disch := omega) only [cmpI, w32_b2i, b2i_0, b2i_1, w32_id, Classical.not_not, not_true_eq_false, not_false_eq_true] at h39
        exact h153
      · try simp (disch := omega) only [cmpI, w32_b2i, b2i_0, b2i_1, w32_id, Classical.not_not, not_true_eq_false, not_false_eq_true] at h39
        omega
    | succ r ih =>
      intro a I1 rr L1 l2 l3 l4 l5 ha k1
      have key : ∀ (I2 rr : Nat → Int) (L2 : Nat → Nat → Int), KpJ (up1 I 0 0) I2 → PSI I2 (prS (A 3) a nn) → Ex (d + 6) M_groups 47 [some (vR aM), some (vI (a : Int)), l2, l3, l4, l5] [] (MS m I2 (F2 14 23 A rr (jA (A 3) ru nn a J0)) L2) Q := by
        intro I2 rr L2 q1 q2
        have h147 : ∀ (I3 rr : Nat → Int) (L3 : Nat → Nat → Int) (l2 l3 l4 l5 : Option AV), KpI I2 I3 → Ex (d + 6) M_groups 147 [some (vR aM), some (vI (a : Int)), l2, l3, l4, l5] [] (MS m I3 (F2 14 23 A rr (jR (A 3) ru nn a nn (jA (A 3) ru nn a J0))) L3) Q := by
          intro I3 rr L3 l2 l3 l4 l5 q3
          have hnx := ih (a + 1) I3 rr L3 l2 l3 l4 l5 (by omega) (q1.tr q3.j)
          refine Ex_step (tk_M_groups rfl) ?_
          refine Ex_step (tk_M_groups rfl) ?_
          exact hnx
        have h49 := f_grR (d := d) (L1 := L2) hM hN hR (a := a) (by omega) (JB.a hJ0 a (by omega)) h147 q2 nn 0 I2 rr l3 l4 l5 (by omega) (KpI.rf I2)
        refine Ex_step (tk_M_groups rfl) ?_
        refine Ex_step (tk_M_groups rfl) ?_
        exact h49
      refine Ex_step (tk_M_groups rfl) ?_
      refine Ex_step (tk_M_groups rfl) ?_
      refine gMR (tk_M_groups rfl) hM hM.r9 ?_
      refine Ex_step (tk_M_groups rfl) ?_
      refine lMI (j := 3) (n := 0) (tk_M_groups rfl) (by decide) hM.k3 hM.n3 (rfl) (by decide) ?_
      rw [show F2 14 23 A rr (jA (A 3) ru nn a J0) 3 0 = (nn : Int) from hn0]
      refine Ex_step (tk_M_groups rfl) ⟨fun h39 => ?_, fun h39 => ?_⟩
      · try simp (disch := omega) only [cmpI, w32_b2i, b2i_0, b2i_1, w32_id, Classical.not_not, not_true_eq_false, not_false_eq_true] at h39
        omega
      · try simp (disch := omega) only [cmpI, w32_b2i, b2i_0, b2i_1, w32_id, Classical.not_not, not_true_eq_false, not_false_eq_true] at h39
        refine Ex_step (tk_M_groups rfl) ?_
        refine Ex_step (tk_M_groups rfl) ?_
        refine Ex_cVK (av := [vI (a : Int)]) (tk_M_groups rfl) mk_M_priors ⟨rfl, rfl, by decide, rfl, Nat.le_of_ble_eq_true rfl, Nat.le_of_ble_eq_true rfl⟩ (hM.k) (f_priors (A := F2 14 23 A rr (jA (A 3) ru nn a J0)) hM hN (a := a) (by omega) rfl (fun I2 r2 L2 q1 q2 q3 => ⟨rfl, ?_⟩))
        rw [F2_wa]
        exact key I2 r2 L2 (k1.tr q1) q2
  have hini : ∀ (r c : Nat), c + r = nn → Ex (d + 6) M_groups 7 [some (vR aM), some (vI (c : Int)), none, none, none, none] [] (MS m (up1 I 0 0) (up1 A 23 (cpK c (fun k => (k : Int)) (A 23))) L) Q := by
    intro r
    induction r with
    | zero =>
      intro c hc
      have : c = nn := by omega
      subst this
      have h32 : Ex (d + 6) M_groups 32 [some (vR aM), some (vI ((0 : Nat) : Int)), none, none, none, none] [] (MS m (up1 I 0 0) (F2 14 23 A (A 14) (cpK c (fun k => (k : Int)) (A 23))) L) Q := by
        have h9 := hall c 0 (up1 I 0 0) (A 14) L none none none none (by omega) (KpJ.rf _)
        rw [← hj] at h9
        exact h9
      rw [← F2_up (by decide), up1_self (f := A) (k := 14) rfl] at h32
      refine Ex_step (tk_M_groups rfl) ?_
      refine Ex_step (tk_M_groups rfl) ?_
      refine gMR (tk_M_groups rfl) hM hM.r9 ?_
      refine Ex_step (tk_M_groups rfl) ?_
      refine lMI (j := 3) (n := 0) (tk_M_groups rfl) (by decide) hM.k3 hM.n3 (rfl) (by decide) ?_
      rw [show up1 A 23 (cpK c (fun k => (k : Int)) (A 23)) 3 0 = (c : Int) from hn0]
      refine Ex_step (tk_M_groups rfl) ⟨fun h14 => ?_, fun h14 => ?_⟩
      · try simp (disch := omega) only [cmpI, w32_b2i, b2i_0, b2i_1, w32_id, Classical.not_not, not_true_eq_false, not_false_eq_true] at h14
        refine Ex_step (tk_M_groups rfl) ?_
        refine Ex_step (tk_M_groups rfl) ?_
        exact h32
      · try simp (disch := omega) only [cmpI, w32_b2i, b2i_0, b2i_1, w32_id, Classical.not_not, not_true_eq_false, not_false_eq_true] at h14
        omega
    | succ r ih =>
      intro c hc
      have hnx := ih (c + 1) (by omega)
      rw [← cpK_s] at hnx
      refine Ex_step (tk_M_groups rfl) ?_
      refine Ex_step (tk_M_groups rfl) ?_
      refine gMR (tk_M_groups rfl) hM hM.r9 ?_
      refine Ex_step (tk_M_groups rfl) ?_
      refine lMI (j := 3) (n := 0) (tk_M_groups rfl) (by decide) hM.k3 hM.n3 (rfl) (by decide) ?_
      rw [show up1 A 23 (cpK c (fun k => (k : Int)) (A 23)) 3 0 = (nn : Int) from hn0]
      refine Ex_step (tk_M_groups rfl) ⟨fun h14 => ?_, fun h14 => ?_⟩
      · try simp (disch := omega) only [cmpI, w32_b2i, b2i_0, b2i_1, w32_id, Classical.not_not, not_true_eq_false, not_false_eq_true] at h14
        omega
      · try simp (disch := omega) only [cmpI, w32_b2i, b2i_0, b2i_1, w32_id, Classical.not_not, not_true_eq_false, not_false_eq_true] at h14
        refine Ex_step (tk_M_groups rfl) ?_
        refine gMR (tk_M_groups rfl) hM hM.r36 ?_
        refine Ex_step (tk_M_groups rfl) ?_
        refine Ex_step (tk_M_groups rfl) ?_
        refine tMI (j := 23) (n := c) (tk_M_groups rfl) (by decide) hM.k23 hM.n23 (w32_id (by omega) (by omega)) (by omega) ?_
        rw [up1_at, up1_same]
        refine Ex_step (tk_M_groups rfl) ?_
        refine Ex_step (tk_M_groups rfl) ?_
        exact hnx
  have h7 := hini nn 0 (by omega)
  rw [cpK_0, up1_self (f := A) rfl] at h7
  refine Ex_step (tk_M_groups rfl) ?_
  refine Ex_step (tk_M_groups rfl) ?_
  refine pMI (tk_M_groups rfl) hM ?_
  refine Ex_step (tk_M_groups rfl) ?_
  refine Ex_step (tk_M_groups rfl) ?_
  exact h7
end MGroups2
/-! ===== the reference: print ===== -/
def pnR (T : Nat → Int) (dd y : Nat) : Nat → Int → Int
  | 0, v => v
  | x + 1, v => 31 * pnR T dd y x v + srt T dd (x : Nat) (y : Nat)
def pnA (T : Nat → Int) (dd w : Nat) : Nat → Int → Int
  | 0, v => v
  | y + 1, v => pnR T dd y w (pnA T dd w y v)
def pnS (T : Nat → Int) : Nat → Int
  | 0 => 0
  | dd + 1 => pnA T dd (T (bD dd + 1)).toNat (T (bD dd + 2)).toNat (31 * pnS T dd + T (bD dd))
section MPrint
variable {d nn : Nat} {m : Mem} {I : Nat → Int} {A L : Nat → Nat → Int} {Q : Nat → Option AV → Mem → Prop}
set_option maxRecDepth 100000 in
theorem f_print (hM : MW m) (hN : NowW (A 3) nn) (h : Q 0 (some (vL (pnS (A 3) nn))) (MS m (up1 I 0 0) A L)) : Ex (d + 2) M_print 0 [some (vR aM), none, none, none, none, none] [] (MS m I A L) Q := by
  have hn6 := hN.1
  have hn0 := hN.2.1
  have hdes : ∀ (dd : Nat) (v : Int), dd < nn → (∀ l4 l5 : Option AV, Ex (d + 2) M_print 87 [some (vR aM), some (vL (pnA (A 3) dd (A 3 (bD dd + 1)).toNat (A 3 (bD dd + 2)).toNat v)), none, some (vI (dd : Int)), l4, l5] [] (MS m (up1 I 0 0) A L) Q) → ∀ (r y : Nat) (l5 : Option AV), (y : Int) + (r : Int) = A 3 (bD dd + 2) → Ex (d + 2) M_print 35 [some (vR aM), some (vL (pnA (A 3) dd (A 3 (bD dd + 1)).toNat y v)), none, some (vI (dd : Int)), some (vI (y : Int)), l5] [] (MS m (up1 I 0 0) A L) Q := by
    intro dd v hd h2 r
    have hW := hN.2.2.2 dd hd
    have hw := hW.2.1
    have hh := hW.2.2.1
    induction r with
    | zero =>
      intro y l5 hy
      rw [show (A 3 (bD dd + 2)).toNat = y by omega] at h2
      refine Ex_step (tk_M_print rfl) ?_
      refine Ex_step (tk_M_print rfl) ?_
      refine Ex_step (tk_M_print rfl) ?_
      refine Ex_cV0 (av := [vI (dd : Int)]) (tk_M_print rfl) mk_M_highOf ⟨rfl, rfl, by decide, rfl, Nat.le_of_ble_eq_true rfl, Nat.le_of_ble_eq_true rfl⟩ (hM.k) (fun _ h => f_highOf hM (show dd ≤ 5 by omega) rfl h) ?_
      refine Ex_step (tk_M_print rfl) ⟨fun h42 => ?_, fun h42 => ?_⟩
      · try simp (disch := omega) only [cmpI, w32_b2i, b2i_0, b2i_1, w32_id, Classical.not_not, not_true_eq_false, not_false_eq_true] at h42
        exact h2 _ _
      · try simp (disch := omega) only [cmpI, w32_b2i, b2i_0, b2i_1, w32_id, Classical.not_not, not_true_eq_false, not_false_eq_true] at h42
        omega
    | succ r ih =>
      intro y l5 hy
      have h81 : ∀ l5 : Option AV, Ex (d + 2) M_print 81 [some (vR aM), some (vL (pnA (A 3) dd (A 3 (bD dd + 1)).toNat (y + 1) v)), none, some (vI (dd : Int)), some (vI (y : Int)), l5] [] (MS m (up1 I 0 0) A L) Q := by
        intro l5
        have hnx := ih (y + 1) l5 (by omega)
        refine Ex_step (tk_M_print rfl) ?_
        refine Ex_step (tk_M_print rfl) ?_
        exact hnx
      have hrow : ∀ (r x : Nat), (x : Int) + (r : Int) = A 3 (bD dd + 1) → Ex (d + 2) M_print 48 [some (vR aM), some (vL (pnR (A 3) dd y x (pnA (A 3) dd (A 3 (bD dd + 1)).toNat y v))), none, some (vI (dd : Int)), some (vI (y : Int)), some (vI (x : Int))] [] (MS m (up1 I 0 0) A L) Q := by
        intro r
        induction r with
        | zero =>
          intro x hx
          have h81 : ∀ l5 : Option AV, Ex (d + 2) M_print 81 [some (vR aM), some (vL (pnR (A 3) dd y (A 3 (bD dd + 1)).toNat (pnA (A 3) dd (A 3 (bD dd + 1)).toNat y v))), none, some (vI (dd : Int)), some (vI (y : Int)), l5] [] (MS m (up1 I 0 0) A L) Q := h81
          rw [show pnR (A 3) dd y (A 3 (bD dd + 1)).toNat = pnR (A 3) dd y x by rw [show (A 3 (bD dd + 1)).toNat = x by omega]] at h81
          refine Ex_step (tk_M_print rfl) ?_
          refine Ex_step (tk_M_print rfl) ?_
          refine Ex_step (tk_M_print rfl) ?_
          refine Ex_cV0 (av := [vI (dd : Int)]) (tk_M_print rfl) mk_M_wideOf ⟨rfl, rfl, by decide, rfl, Nat.le_of_ble_eq_true rfl, Nat.le_of_ble_eq_true rfl⟩ (hM.k) (fun _ h => f_wideOf hM (show dd ≤ 5 by omega) rfl h) ?_
          refine Ex_step (tk_M_print rfl) ⟨fun h55 => ?_, fun h55 => ?_⟩
          · try simp (disch := omega) only [cmpI, w32_b2i, b2i_0, b2i_1, w32_id, Classical.not_not, not_true_eq_false, not_false_eq_true] at h55
            exact h81 _
          · try simp (disch := omega) only [cmpI, w32_b2i, b2i_0, b2i_1, w32_id, Classical.not_not, not_true_eq_false, not_false_eq_true] at h55
            omega
        | succ r ihx =>
          intro x hx
          have hnx := ihx (x + 1) (by omega)
          have hsr := srt_r hW (x : Int) (y : Int)
          have e : w32 (srt (A 3) dd (x : Int) (y : Int)) = srt (A 3) dd (x : Int) (y : Int) := w32_id (by omega) (by omega)
          refine Ex_step (tk_M_print rfl) ?_
          refine Ex_step (tk_M_print rfl) ?_
          refine Ex_step (tk_M_print rfl) ?_
          refine Ex_cV0 (av := [vI (dd : Int)]) (tk_M_print rfl) mk_M_wideOf ⟨rfl, rfl, by decide, rfl, Nat.le_of_ble_eq_true rfl, Nat.le_of_ble_eq_true rfl⟩ (hM.k) (fun _ h => f_wideOf hM (show dd ≤ 5 by omega) rfl h) ?_
          refine Ex_step (tk_M_print rfl) ⟨fun h55 => ?_, fun h55 => ?_⟩
          · try simp (disch := omega) only [cmpI, w32_b2i, b2i_0, b2i_1, w32_id, Classical.not_not, not_true_eq_false, not_false_eq_true] at h55
            omega
          · try simp (disch := omega) only [cmpI, w32_b2i, b2i_0, b2i_1, w32_id, Classical.not_not, not_true_eq_false, not_false_eq_true] at h55
            refine Ex_step (tk_M_print rfl) ?_
            refine Ex_step (tk_M_print rfl) ?_
            refine Ex_step (tk_M_print rfl) ?_
            refine Ex_step (tk_M_print rfl) ?_
            refine Ex_step (tk_M_print rfl) ?_
            refine Ex_step (tk_M_print rfl) ?_
            refine Ex_step (tk_M_print rfl) ?_
            refine Ex_cV0 (av := [vI (dd : Int), vI (x : Int), vI (y : Int)]) (tk_M_print rfl) mk_M_sortOf ⟨rfl, rfl, by decide, rfl, Nat.le_of_ble_eq_true rfl, Nat.le_of_ble_eq_true rfl⟩ (hM.k) (fun _ h => f_sortOf (dd := dd) hM (by omega) rfl hW (by unfold okI; omega) (by unfold okI; omega) h) ?_
            refine Ex_step (tk_M_print rfl) ?_
            show Ex (d + 2) M_print 73 _ (vL (w32 (srt (A 3) dd (x : Int) (y : Int))) :: _) _ Q
            rw [e]
            refine Ex_step (tk_M_print rfl) ?_
            refine Ex_step (tk_M_print rfl) ?_
            refine Ex_step (tk_M_print rfl) ?_
            refine Ex_step (tk_M_print rfl) ?_
            exact hnx
      obtain ⟨w, hwe⟩ : ∃ w : Nat, (w : Int) = A 3 (bD dd + 1) := ⟨(A 3 (bD dd + 1)).toNat, by omega⟩
      have h48 := hrow w 0 (by omega)
      refine Ex_step (tk_M_print rfl) ?_
      refine Ex_step (tk_M_print rfl) ?_
      refine Ex_step (tk_M_print rfl) ?_
      refine Ex_cV0 (av := [vI (dd : Int)]) (tk_M_print rfl) mk_M_highOf ⟨rfl, rfl, by decide, rfl, Nat.le_of_ble_eq_true rfl, Nat.le_of_ble_eq_true rfl⟩ (hM.k) (fun _ h => f_highOf hM (show dd ≤ 5 by omega) rfl h) ?_
      refine Ex_step (tk_M_print rfl) ⟨fun h42 => ?_, fun h42 => ?_⟩
      · try simp (disch := omega) only [cmpI, w32_b2i, b2i_0, b2i_1, w32_id, Classical.not_not, not_true_eq_false, not_false_eq_true] at h42
        omega
      · try simp (disch := omega) only [cmpI, w32_b2i, b2i_0, b2i_1, w32_id, Classical.not_not, not_true_eq_false, not_false_eq_true] at h42
        refine Ex_step (tk_M_print rfl) ?_
        refine Ex_step (tk_M_print rfl) ?_
        exact h48
  have hall : ∀ (r dd : Nat) (l4 l5 : Option AV), dd + r = nn → Ex (d + 2) M_print 9 [some (vR aM), some (vL (pnS (A 3) dd)), none, some (vI (dd : Int)), l4, l5] [] (MS m (up1 I 0 0) A L) Q := by
    intro r
    induction r with
    | zero =>
      intro dd l4 l5 hd
      have : dd = nn := by omega
      subst this
      refine Ex_step (tk_M_print rfl) ?_
      refine Ex_step (tk_M_print rfl) ?_
      refine gMR (tk_M_print rfl) hM hM.r9 ?_
      refine Ex_step (tk_M_print rfl) ?_
      refine lMI (j := 3) (n := 0) (tk_M_print rfl) (by decide) hM.k3 hM.n3 (rfl) (by decide) ?_
      rw [hn0]
      refine Ex_step (tk_M_print rfl) ⟨fun h16 => ?_, fun h16 => ?_⟩
      · try simp (disch := omega) only [cmpI, w32_b2i, b2i_0, b2i_1, w32_id, Classical.not_not, not_true_eq_false, not_false_eq_true] at h16
        refine Ex_step (tk_M_print rfl) ?_
        refine Ex_step (tk_M_print rfl) ⟨rfl, ?_⟩
        exact h
      · try simp (disch := omega) only [cmpI, w32_b2i, b2i_0, b2i_1, w32_id, Classical.not_not, not_true_eq_false, not_false_eq_true] at h16
        omega
    | succ r ih =>
      intro dd l4 l5 hd
      have hW := hN.2.2.2 dd (by omega)
      have hh := hW.2.2.1
      have hda := hW.1
      have e : w32 (A 3 (bD dd)) = A 3 (bD dd) := w32_id (by omega) (by omega)
      have h87 : ∀ l4 l5 : Option AV, Ex (d + 2) M_print 87 [some (vR aM), some (vL (pnA (A 3) dd (A 3 (bD dd + 1)).toNat (A 3 (bD dd + 2)).toNat (31 * pnS (A 3) dd + A 3 (bD dd)))), none, some (vI (dd : Int)), l4, l5] [] (MS m (up1 I 0 0) A L) Q := by
        intro l4 l5
        have hnx := ih (dd + 1) l4 l5 (by omega)
        refine Ex_step (tk_M_print rfl) ?_
        refine Ex_step (tk_M_print rfl) ?_
        exact hnx
      obtain ⟨g, hge⟩ : ∃ g : Nat, (g : Int) = A 3 (bD dd + 2) := ⟨(A 3 (bD dd + 2)).toNat, by omega⟩
      have h35 := hdes dd _ (by omega) h87 g 0 l5 (by omega)
      refine Ex_step (tk_M_print rfl) ?_
      refine Ex_step (tk_M_print rfl) ?_
      refine gMR (tk_M_print rfl) hM hM.r9 ?_
      refine Ex_step (tk_M_print rfl) ?_
      refine lMI (j := 3) (n := 0) (tk_M_print rfl) (by decide) hM.k3 hM.n3 (rfl) (by decide) ?_
      rw [hn0]
      refine Ex_step (tk_M_print rfl) ⟨fun h16 => ?_, fun h16 => ?_⟩
      · try simp (disch := omega) only [cmpI, w32_b2i, b2i_0, b2i_1, w32_id, Classical.not_not, not_true_eq_false, not_false_eq_true] at h16
        omega
      · try simp (disch := omega) only [cmpI, w32_b2i, b2i_0, b2i_1, w32_id, Classical.not_not, not_true_eq_false, not_false_eq_true] at h16
        refine Ex_step (tk_M_print rfl) ?_
        refine Ex_step (tk_M_print rfl) ?_
        refine Ex_step (tk_M_print rfl) ?_
        refine Ex_step (tk_M_print rfl) ?_
        refine Ex_step (tk_M_print rfl) ?_
        refine Ex_cV0 (av := [vI (dd : Int)]) (tk_M_print rfl) mk_M_dayOf ⟨rfl, rfl, by decide, rfl, Nat.le_of_ble_eq_true rfl, Nat.le_of_ble_eq_true rfl⟩ (hM.k) (fun _ h => f_dayOf hM (show dd ≤ 5 by omega) rfl h) ?_
        refine Ex_step (tk_M_print rfl) ?_
        show Ex (d + 2) M_print 30 _ (vL (w32 (A 3 (bD dd))) :: _) _ Q
        rw [e]
        refine Ex_step (tk_M_print rfl) ?_
        refine Ex_step (tk_M_print rfl) ?_
        refine Ex_step (tk_M_print rfl) ?_
        refine Ex_step (tk_M_print rfl) ?_
        exact h35
  have h9 := hall nn 0 none none (by omega)
  refine Ex_step (tk_M_print rfl) ?_
  refine Ex_step (tk_M_print rfl) ?_
  refine pMI (tk_M_print rfl) hM ?_
  refine Ex_step (tk_M_print rfl) ?_
  refine Ex_step (tk_M_print rfl) ?_
  refine Ex_step (tk_M_print rfl) ?_
  refine Ex_step (tk_M_print rfl) ?_
  exact h9
end MPrint
