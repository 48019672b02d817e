/-! ===== the reference: groups ===== -/
def jC (T : Nat → Int) (ru : Option (List Tok)) (nn a b : Nat) (J : Nat → Int) : Nat → Int := if a ≠ b ∧ infB T ru nn a b = true then (fun k => if k < nn ∧ J k = J b then J a else J k) else J
def jR (T : Nat → Int) (ru : Option (List Tok)) (nn a : Nat) : Nat → (Nat → Int) → Nat → Int
  | 0, J => J
  | b + 1, J => jC T ru nn a b (jR T ru nn a b J)
def jA (T : Nat → Int) (ru : Option (List Tok)) (nn : Nat) : Nat → (Nat → Int) → Nat → Int
  | 0, J => J
  | a + 1, J => jR T ru nn a nn (jA T ru nn a J)
/-- some of the first k is g -/
def jAny (J : Nat → Int) (g : Int) : Nat → Bool
  | 0 => false
  | k + 1 => jAny J g k || decide (J k = g)
def jCnt (J : Nat → Int) (nn : Nat) : Nat → Int
  | 0 => 0
  | g + 1 => jCnt J nn g + oI (jAny J (g : Nat) nn = true)
def j0 (nn : Nat) (J : Nat → Int) : Nat → Int := cpK nn (fun k => (k : Int)) J
def grS (T : Nat → Int) (ru : Option (List Tok)) (nn : Nat) (J : Nat → Int) : Int := jCnt (jA T ru nn nn (j0 nn J)) nn nn
def JB (nn : Nat) (J : Nat → Int) : Prop := ∀ k, k < nn → 0 ≤ J k ∧ J k < 6
set_option maxRecDepth 100000 in
theorem JB.c {T : Nat → Int} {ru : Option (List Tok)} {nn a b : Nat} {J : Nat → Int} (ha : a < nn) (h : JB nn J) : JB nn (jC T ru nn a b J) := by
  unfold jC
  split
  · intro k hk
    show 0 ≤ (if k < nn ∧ J k = J b then J a else J k) ∧ (if k < nn ∧ J k = J b then J a else J k) < 6
    split
    · exact h a ha
    · exact h k hk
  · exact h
set_option maxRecDepth 100000 in
theorem JB.r {T : Nat → Int} {ru : Option (List Tok)} {nn a : Nat} (ha : a < nn) {J : Nat → Int} (h : JB nn J) : ∀ b, JB nn (jR T ru nn a b J)
  | 0 => h
  | b + 1 => JB.c ha (JB.r ha h b)
set_option maxRecDepth 100000 in
theorem JB.a {T : Nat → Int} {ru : Option (List Tok)} {nn : Nat} {J : Nat → Int} (h : JB nn J) : ∀ a, a ≤ nn → JB nn (jA T ru nn a J)
  | 0, _ => h
  | a + 1, ha => JB.r (by omega) (JB.a h a (by omega)) nn
/-- joined as far as the first c -/
def jK (c nn : Nat) (u v : Int) (J : Nat → Int) : Nat → Int := fun k => if k < c ∧ k < nn ∧ J k = u then v else J k
set_option maxRecDepth 100000 in
theorem jK_s (c nn : Nat) (hc : c < nn) (u v : Int) (J : Nat → Int) : up1 (jK c nn u v J) c (if J c = u then v else J c) = jK (c + 1) nn u v J := by
  funext k
  unfold up1 jK
  by_cases q : k = c
  · subst q
    rw [if_pos rfl]
    by_cases q2 : J k = u
    · rw [if_pos q2, if_pos ⟨by omega, hc, q2⟩]
    · rw [if_neg q2, if_neg (fun z => q2 z.2.2)]
  · rw [if_neg q]
    by_cases q2 : k < c ∧ k < nn ∧ J k = u
    · rw [if_pos q2, if_pos ⟨by omega, q2.2⟩]
    · rw [if_neg q2, if_neg (fun z => q2 ⟨by omega, z.2⟩)]
section MGroups
variable {d nn : Nat} {ru : Option (List Tok)} {m : Mem} {I : Nat → Int} {A L : Nat → Nat → Int} {Q : Nat → Option AV → Mem → Prop}
set_option maxRecDepth 100000 in
theorem f_joins (hM : MW m) (hN : NowW (A 3) nn) {a b : Nat} (ha : a < nn) (hb : b < nn) {rr J : Nat → Int} (hJ : JB nn J) {l3 l4 l5 : Option AV} (h : ∀ l3 l4 l5 : Option AV, Ex (d + 6) M_groups 141 [some (vR aM), some (vI (a : Int)), some (vI (b : Int)), l3, l4, l5] [] (MS m I (F2 14 23 A rr (fun k => if k < nn ∧ J k = J b then J a else J k)) L) Q) : Ex (d + 6) M_groups 76 [some (vR aM), some (vI (a : Int)), some (vI (b : Int)), l3, l4, l5] [] (MS m I (F2 14 23 A rr J) L) Q := by
  have hn6 := hN.1
  have hn0 := hN.2.1
  have hja := hJ a ha
  have hjb := hJ b hb
  generalize hu : J b = u at *
  generalize hv : J a = v at *
  have hloop : ∀ (r c : Nat), c + r = nn → Ex (d + 6) M_groups 94 [some (vR aM), some (vI (a : Int)), some (vI (b : Int)), some (vI u), some (vI v), some (vI (c : Int))] [] (MS m I (F2 14 23 A rr (jK c nn u v J)) L) Q := by
    intro r
    induction r with
    | zero =>
      intro c hc
      have : c = nn := by omega
      subst this
      have e : jK c c u v J = (fun k => if k < c ∧ J k = u then v else J k) := by
        funext k
        unfold jK
        by_cases q : k < c ∧ J k = u
        · rw [if_pos q, if_pos ⟨q.1, q.1, q.2⟩]
        · rw [if_neg q, if_neg (fun z => q z.2)]
      rw [e]
      refine Ex_step (tk_M_groups rfl) ?_
      refine Ex_step (tk_M_groups rfl) ?_
      refine gMR (tk_M_groups rfl) hM hM.r9 ?_
      refine Ex_step (tk_M_groups rfl) ?_
      refine lMI (j := 3) (n := 0) (tk_M_groups rfl) (by decide) hM.k3 hM.n3 (rfl) (by decide) ?_
      rw [show F2 14 23 A rr (fun k => if k < c ∧ J k = u then v else J k) 3 0 = (c : Int) from hn0]
      refine Ex_step (tk_M_groups rfl) ⟨fun h102 => ?_, fun h102 => ?_⟩
      · try simp (disch := omega) only [cmpI, w32_b2i, b2i_0, b2i_1, w32_id, Classical.not_not, not_true_eq_false, not_false_eq_true] at h102
        exact h _ _ _
      · try simp (disch := omega) only [cmpI, w32_b2i, b2i_0, b2i_1, w32_id, Classical.not_not, not_true_eq_false, not_false_eq_true] at h102
        omega
    | succ r ih =>
      intro c hc
      have hnx := ih (c + 1) (by omega)
      rw [← jK_s c nn (by omega)] at hnx
      have hjc := hJ c (by omega)
      have e : jK c nn u v J c = J c := if_neg (by omega)
      have h134 : ∀ x : Int, x = (if J c = u then v else J c) → Ex (d + 6) M_groups 134 [some (vR aM), some (vI (a : Int)), some (vI (b : Int)), some (vI u), some (vI v), some (vI (c : Int))] [vI x, vI (c : Int), vR 385] (MS m I (F2 14 23 A rr (jK c nn u v J)) L) Q := by
        intro x hx
        subst hx
        refine tMI (j := 23) (n := c) (tk_M_groups rfl) (by decide) hM.k23 hM.n23 (w32_id (by omega) (by omega)) (by omega) ?_
        rw [F2_b (by decide), F2_wb (by decide)]
        refine Ex_step (tk_M_groups rfl) ?_
        refine Ex_step (tk_M_groups rfl) ?_
        exact hnx
      refine Ex_step (tk_M_groups rfl) ?_
      refine Ex_step (tk_M_groups rfl) ?_
      refine gMR (tk_M_groups rfl) hM hM.r9 ?_
      refine Ex_step (tk_M_groups rfl) ?_
      refine lMI (j := 3) (n := 0) (tk_M_groups rfl) (by decide) hM.k3 hM.n3 (rfl) (by decide) ?_
      rw [show F2 14 23 A rr (jK c nn u v J) 3 0 = (nn : Int) from hn0]
      refine Ex_step (tk_M_groups rfl) ⟨fun h102 => ?_, fun h102 => ?_⟩
      · try simp (disch := omega) only [cmpI, w32_b2i, b2i_0, b2i_1, w32_id, Classical.not_not, not_true_eq_false, not_false_eq_true] at h102
        omega
      · try simp (disch := omega) only [cmpI, w32_b2i, b2i_0, b2i_1, w32_id, Classical.not_not, not_true_eq_false, not_false_eq_true] at h102
        refine Ex_step (tk_M_groups rfl) ?_
        refine gMR (tk_M_groups rfl) hM hM.r36 ?_
        refine Ex_step (tk_M_groups rfl) ?_
        refine Ex_step (tk_M_groups rfl) ?_
        refine gMR (tk_M_groups rfl) hM hM.r36 ?_
        refine Ex_step (tk_M_groups rfl) ?_
        refine lMI (j := 23) (n := c) (tk_M_groups rfl) (by decide) hM.k23 hM.n23 (w32_id (by omega) (by omega)) (by omega) ?_
        rw [F2_b (by decide), e]
        refine Ex_step (tk_M_groups rfl) ?_
        refine Ex_step (tk_M_groups rfl) ⟨fun h119 => ?_, fun h119 => ?_⟩
        · try simp (disch := omega) only [cmpI, w32_b2i, b2i_0, b2i_1, w32_id, Classical.not_not, not_true_eq_false, not_false_eq_true] at h119
          refine Ex_step (tk_M_groups rfl) ?_
          refine gMR (tk_M_groups rfl) hM hM.r36 ?_
          refine Ex_step (tk_M_groups rfl) ?_
          refine lMI (j := 23) (n := c) (tk_M_groups rfl) (by decide) hM.k23 hM.n23 (w32_id (by omega) (by omega)) (by omega) ?_
          first | exact hx | (rw [F2_b (by decide), e]; exact h134 (J c) (by rw [if_neg h119]))
        · try simp (disch := omega) only [cmpI, w32_b2i, b2i_0, b2i_1, w32_id, Classical.not_not, not_true_eq_false, not_false_eq_true] at h119
          have hx := h134 v (by rw [if_pos h119])
          refine Ex_step (tk_M_groups rfl) ?_
          refine Ex_step (tk_M_groups rfl) ?_
          first | exact hx | (rw [F2_b (by decide), e]; exact h134 (J c) (by rw [if_neg h119]))
  have h94 := hloop nn 0 (by omega)
  rw [show jK 0 nn u v J = J from by funext k; exact if_neg (fun z => absurd z.1 (Nat.not_lt_zero k))] at h94
  refine Ex_step (tk_M_groups rfl) ?_
  refine gMR (tk_M_groups rfl) hM hM.r36 ?_
  refine Ex_step (tk_M_groups rfl) ?_
  refine lMI (j := 23) (n := b) (tk_M_groups rfl) (by decide) hM.k23 hM.n23 (w32_id (by omega) (by omega)) (by omega) ?_
  rw [F2_b (by decide), hu]
  refine Ex_step (tk_M_groups rfl) ?_
  refine Ex_step (tk_M_groups rfl) ?_
  refine gMR (tk_M_groups rfl) hM hM.r36 ?_
  refine Ex_step (tk_M_groups rfl) ?_
  refine lMI (j := 23) (n := a) (tk_M_groups rfl) (by decide) hM.k23 hM.n23 (w32_id (by omega) (by omega)) (by omega) ?_
  rw [F2_b (by decide), hv]
  refine Ex_step (tk_M_groups rfl) ?_
  refine Ex_step (tk_M_groups rfl) ?_
  refine Ex_step (tk_M_groups rfl) ?_
  exact h94
set_option maxRecDepth 100000 in
theorem f_grR (hM : MW m) (hN : NowW (A 3) nn) (hR : RulT (A 3) ru) {a : Nat} (ha : a < nn) {J : Nat → Int} (hJ : JB nn J) (h : ∀ (I2 rr : Nat → Int) (L2 : Nat → Nat → Int) (l2 l3 l4 l5 : Option AV), KpI I I2 → Ex (d + 6) M_groups 147 [some (vR aM), some (vI (a : Int)), l2, l3, l4, l5] [] (MS m I2 (F2 14 23 A rr (jR (A 3) ru nn a nn J)) L2) Q) (hP : PSI I (prS (A 3) a nn)) : ∀ (r b : Nat) (I1 rr : Nat → Int) (L1 : Nat → Nat → Int) (l3 l4 l5 : Option AV), b + r = nn → KpI I I1 → Ex (d + 6) M_groups 49 [some (vR aM), some (vI (a : Int)), some (vI (b : Int)), l3, l4, l5] [] (MS m I1 (F2 14 23 A rr (jR (A 3) ru nn a b J)) L1) Q := by
  have hn6 := hN.1
  have hn0 := hN.2.1
  intro r
  induction r with
  | zero =>
    intro b I1 rr L1 l3 l4 l5 hb k1
    have : b = nn := by omega
    subst this
    refine Ex_step (tk_M_groups rfl) ?_
    refine Ex_step (tk_M_groups rfl) ?_
    refine gMR (tk_M_groups rfl) hM hM.r9 ?_
    refine Ex_step (tk_M_groups rfl) ?_
    refine lMI (j := 3) (n := 0) (tk_M_groups rfl) (by decide) hM.k3 hM.n3 (rfl) (by decide) ?_
    rw [show F2 14 23 A rr (jR (A 3) ru b a b J) 3 0 = (b : Int) from hn0]
    refine Ex_step (tk_M_groups rfl) ⟨fun h56 => ?_, fun h56 => ?_⟩
    · try simp (disch := omega) only [cmpI, w32_b2i, b2i_0, b2i_1, w32_id, Classical.not_not, not_true_eq_false, not_false_eq_true] at h56
      exact h _ _ _ _ _ _ _ k1
    · try simp (disch := omega) only [cmpI, w32_b2i, b2i_0, b2i_1, w32_id, Classical.not_not, not_true_eq_false, not_false_eq_true] at h56
      omega
  | succ r ih =>
    intro b I1 rr L1 l3 l4 l5 hb k1
    have hJb := JB.r (T := A 3) (ru := ru) ha hJ b
    have hnx : ∀ (I2 rr : Nat → Int) (L2 : Nat → Nat → Int) (l3 l4 l5 : Option AV), KpI I I2 → Ex (d + 6) M_groups 141 [some (vR aM), some (vI (a : Int)), some (vI (b : Int)), l3, l4, l5] [] (MS m I2 (F2 14 23 A rr (jC (A 3) ru nn a b (jR (A 3) ru nn a b J))) L2) Q := by
      intro I2 rr L2 l3 l4 l5 q1
      have := ih (b + 1) I2 rr L2 l3 l4 l5 (by omega) q1
      refine Ex_step (tk_M_groups rfl) ?_
      refine Ex_step (tk_M_groups rfl) ?_
      exact this
    unfold jC at hnx
    by_cases hab : a = b
    · rw [if_neg (fun z => z.1 hab)] at hnx
      have h141 := hnx I1 rr L1 l3 l4 l5 k1
      refine Ex_step (tk_M_groups rfl) ?_
      refine Ex_step (tk_M_groups rfl) ?_
      refine gMR (tk_M_groups rfl) hM hM.r9 ?_
      refine Ex_step (tk_M_groups rfl) ?_
      refine lMI (j := 3) (n := 0) (tk_M_groups rfl) (by decide) hM.k3 hM.n3 (rfl) (by decide) ?_
      rw [show F2 14 23 A rr (jR (A 3) ru nn a b J) 3 0 = (nn : Int) from hn0]
      refine Ex_step (tk_M_groups rfl) ⟨fun h56 => ?_, fun h56 => ?_⟩
      · try simp (disch := omega) only [cmpI, w32_b2i, b2i_0, b2i_1, w32_id, Classical.not_not, not_true_eq_false, not_false_eq_true] at h56
        omega
      · try simp (disch := omega) only [cmpI, w32_b2i, b2i_0, b2i_1, w32_id, Classical.not_not, not_true_eq_false, not_false_eq_true] at h56
        refine Ex_step (tk_M_groups rfl) ?_
        refine Ex_step (tk_M_groups rfl) ?_
        refine Ex_step (tk_M_groups rfl) ⟨fun h61 => ?_, fun h61 => ?_⟩
        · try simp (disch := omega) only [cmpI, w32_b2i, b2i_0, b2i_1, w32_id, Classical.not_not, not_true_eq_false, not_false_eq_true] at h61
          exact h141
        · try simp (disch := omega) only [cmpI, w32_b2i, b2i_0, b2i_1, w32_id, Classical.not_not, not_true_eq_false, not_false_eq_true] at h61
          omega
    · have key : ∀ (I2 rr : Nat → Int) (L2 : Nat → Nat → Int), KpI I I2 → Ex (d + 6) M_groups 70 [some (vR aM), some (vI (a : Int)), some (vI (b : Int)), l3, l4, l5] [vI (b2i (infB (A 3) ru nn a b = true))] (MS m I2 (F2 14 23 A rr (jR (A 3) ru nn a b J)) L2) Q := by
        intro I2 rr L2 q1
        by_cases hq : infB (A 3) ru nn a b = true
        · rw [if_pos ⟨hab, hq⟩] at hnx
          have h76 := f_joins (d := d) (l3 := l3) (l4 := l4) (l5 := l5) hM hN ha (b := b) (by omega) hJb (fun l3 l4 l5 => hnx I2 rr L2 l3 l4 l5 q1)
          refine Ex_step (tk_M_groups rfl) ⟨fun h70 => ?_, fun h70 => ?_⟩
          · try simp (disch := omega) only [cmpI, w32_b2i, b2i_0, b2i_1, w32_id, Classical.not_not, not_true_eq_false, not_false_eq_true] at h70
            exact h76
          · try simp (disch := omega) only [cmpI, w32_b2i, b2i_0, b2i_1, w32_id, Classical.not_not, not_true_eq_false, not_false_eq_true] at h70
            exact absurd hq h70
        · rw [if_neg (fun z => hq z.2)] at hnx
          have h141 := hnx I2 rr L2 l3 l4 l5 q1
          refine Ex_step (tk_M_groups rfl) ⟨fun h70 => ?_, fun h70 => ?_⟩
          · try simp (disch := omega) only [cmpI, w32_b2i, b2i_0, b2i_1, w32_id, Classical.not_not, not_true_eq_false, not_false_eq_true] at h70
            exact absurd h70 hq
          · try simp (disch := omega) only [cmpI, w32_b2i, b2i_0, b2i_1, w32_id, Classical.not_not, not_true_eq_false, not_false_eq_true] at h70
            refine Ex_step (tk_M_groups rfl) ?_
            exact h141
      refine Ex_step (tk_M_groups rfl) ?_
      refine Ex_step (tk_M_groups rfl) ?_
      refine gMR (tk_M_groups rfl) hM hM.r9 ?_
      refine Ex_step (tk_M_groups rfl) ?_
      refine lMI (j := 3) (n := 0) (tk_M_groups rfl) (by decide) hM.k3 hM.n3 (rfl) (by decide) ?_
      rw [show F2 14 23 A rr (jR (A 3) ru nn a b J) 3 0 = (nn : Int) from hn0]
      refine Ex_step (tk_M_groups rfl) ⟨fun h56 => ?_, fun h56 => ?_⟩
      · try simp (disch := omega) only [cmpI, w32_b2i, b2i_0, b2i_1, w32_id, Classical.not_not, not_true_eq_false, not_false_eq_true] at h56
        omega
      · try simp (disch := omega) only [cmpI, w32_b2i, b2i_0, b2i_1, w32_id, Classical.not_not, not_true_eq_false, not_false_eq_true] at h56
        refine Ex_step (tk_M_groups rfl) ?_
        refine Ex_step (tk_M_groups rfl) ?_
        refine Ex_step (tk_M_groups rfl) ⟨fun h61 => ?_, fun h61 => ?_⟩
        · try simp (disch := omega) only [cmpI, w32_b2i, b2i_0, b2i_1, w32_id, Classical.not_not, not_true_eq_false, not_false_eq_true] at h61
          omega
        · try simp (disch := omega) only [cmpI, w32_b2i, b2i_0, b2i_1, w32_id, Classical.not_not, not_true_eq_false, not_false_eq_true] at h61
          refine Ex_step (tk_M_groups rfl) ?_
          refine Ex_step (tk_M_groups rfl) ?_
          refine Ex_step (tk_M_groups rfl) ?_
          refine Ex_cVK (av := [vI (a : Int), vI (b : Int)]) (tk_M_groups rfl) mk_M_doesInfringe ⟨rfl, rfl, by decide, rfl, Nat.le_of_ble_eq_true rfl, Nat.le_of_ble_eq_true rfl⟩ (hM.k) (f_infr (A := F2 14 23 A rr (jR (A 3) ru nn a b J)) (ru := ru) (a := a) (b := b) hM hN hR ha (by omega) rfl rfl (k1.p hP) (fun I3 r2 L3 k4 => ⟨rfl, ?_⟩))
          rw [F2_wa]
          exact key I3 r2 L3 (k1.tr k4)
end MGroups
