/-! ===== the reference lays the first design out in bits ===== -/
/-- rows of bits as a property of places says -/
def BitR (r : Nat → Int) (p : Int → Int → Prop) [∀ x y, Decidable (p x y)] : Prop := ∀ y : Nat, y < 10 → ∀ i : Nat, i < 64 → lb (r y) i = decide (p (-24 + (i : Int)) (y : Int))
/-- as far as column k of row y -/
def BitK (r : Nat → Int) (p : Int → Int → Prop) [∀ x y, Decidable (p x y)] (y k : Nat) : Prop := (∀ y2 : Nat, y2 < y → ∀ i : Nat, i < 64 → lb (r y2) i = decide (p (-24 + (i : Int)) (y2 : Int))) ∧ ∀ i : Nat, i < 64 → lb (r y) i = decide (-24 + (i : Int) < (k : Int) ∧ p (-24 + (i : Int)) (y : Int))
set_option maxRecDepth 100000 in
theorem lb_one {k i : Nat} (hk : k < 40) (hi : i < 64) : lb (lShl 1 (24 + (k : Int))) i = decide (i = 24 + k) := by
  rw [show (24 : Int) + (k : Int) = ((24 + k : Nat) : Int) by omega, lb_shl 1 (by omega), lb_1, decide_eq_true hi, Bool.true_and]
  by_cases q : i = 24 + k
  · subst q
    simp
  · by_cases q2 : i < 24 + k
    · simp [q, q2]
    · rw [decide_eq_false q, decide_eq_false q2, decide_eq_false (show ¬ i - (24 + k) = 0 by omega)]
      rfl
set_option maxRecDepth 100000 in
theorem BitK_t {r : Nat → Int} {p : Int → Int → Prop} [∀ x y, Decidable (p x y)] {y k : Nat} (hk : k < 40) (h : BitK r p y k) (hp : p (k : Int) (y : Int)) : BitK (up1 r y (lOr (r y) (lShl 1 (24 + (k : Int))))) p y (k + 1) := by
  refine ⟨fun y2 h2 i hi => by rw [up1_ne _ _ (by omega)]; exact h.1 y2 h2 i hi, fun i hi => ?_⟩
  rw [up1_at, lb_or, h.2 i hi, lb_one hk hi]
  by_cases q : i = 24 + k
  · have e : -24 + (i : Int) = (k : Int) := by omega
    rw [decide_eq_true q, Bool.or_true, e, decide_eq_true ⟨by omega, hp⟩]
  · rw [decide_eq_false q, Bool.or_false]
    exact decide_eq_decide.mpr ⟨fun z => ⟨by omega, z.2⟩, fun z => ⟨by omega, z.2⟩⟩
set_option maxRecDepth 100000 in
theorem BitK_f {r : Nat → Int} {p : Int → Int → Prop} [∀ x y, Decidable (p x y)] {y k : Nat} (h : BitK r p y k) (hp : ¬ p (k : Int) (y : Int)) : BitK (up1 r y (lOr (r y) 0)) p y (k + 1) := by
  refine ⟨fun y2 h2 i hi => by rw [up1_ne _ _ (by omega)]; exact h.1 y2 h2 i hi, fun i hi => ?_⟩
  rw [up1_at, lb_or, h.2 i hi, lb_0, Bool.or_false]
  refine decide_eq_decide.mpr ⟨fun z => ⟨by omega, z.2⟩, fun z => ⟨?_, z.2⟩⟩
  by_cases q : -24 + (i : Int) = (k : Int)
  · rw [q] at z
    exact absurd z.2 hp
  · omega
set_option maxRecDepth 100000 in
theorem BitK_0 {r : Nat → Int} {p : Int → Int → Prop} [∀ x y, Decidable (p x y)] {y : Nat} (h : ∀ y2 : Nat, y2 < y → ∀ i : Nat, i < 64 → lb (r y2) i = decide (p (-24 + (i : Int)) (y2 : Int))) (hp : ∀ x z : Int, p x z → 0 ≤ x) : BitK (up1 r y 0) p y 0 := by
  refine ⟨fun y2 h2 i hi => by rw [up1_ne _ _ (by omega)]; exact h y2 h2 i hi, fun i hi => ?_⟩
  rw [up1_at, lb_0]
  refine (decide_eq_false ?_).symm
  intro z
  have := hp _ _ z.2
  omega
set_option maxRecDepth 100000 in
theorem BitK_e {r : Nat → Int} {p : Int → Int → Prop} [∀ x y, Decidable (p x y)] {y k : Nat} (h : BitK r p y k) (hp : ∀ x : Int, p x (y : Int) → x < (k : Int)) : ∀ y2 : Nat, y2 < y + 1 → ∀ i : Nat, i < 64 → lb (r y2) i = decide (p (-24 + (i : Int)) (y2 : Int)) := by
  intro y2 h2 i hi
  by_cases q : y2 < y
  · exact h.1 y2 q i hi
  · have e : y2 = y := by omega
    subst e
    rw [h.2 i hi]
    exact decide_eq_decide.mpr ⟨fun z => z.2, fun z => ⟨hp _ z, z⟩⟩
abbrev pSo (T : Nat → Int) (a : Nat) (x y : Int) : Prop := srt T a x y = 1
abbrev pAs (T : Nat → Int) (a : Nat) (x y : Int) : Prop := srt T a x y = 2 ∨ srt T a x y = 3
abbrev pDk (T : Nat → Int) (b t : Nat) (x y : Int) : Prop := tsr T b t x y = 1 ∨ tsr T b t x y = 3
abbrev pDo (T : Nat → Int) (b t : Nat) (x y : Int) : Prop := tsr T b t x y = 2
section MLaysA
variable {d b t : Nat} {i : Int} {m : Mem} {I : Nat → Int} {A L : Nat → Nat → Int} {Q : Nat → Option AV → Mem → Prop}
set_option maxRecDepth 100000 in
theorem f_layAc (hM : MW m) (hd : b ≤ 5) (hi : i = (b : Int)) (hW : DsW (A 3) b) {y k : Nat} (hy : y < 10) (hk : k < 10) {D E : Nat → Int} {l4 : Option AV} (hD : BitK D (pSo (A 3) b) y k) (hE : BitK E (pAs (A 3) b) y k) (h : ∀ (D E : Nat → Int) (l4 : Option AV), BitK D (pSo (A 3) b) y (k + 1) → BitK E (pAs (A 3) b) y (k + 1) → Ex (d + 2) M_laysA 107 [some (vR aM), some (vI i), some (vI (y : Int)), some (vI (k : Int)), l4] [] (MS m I A (F2 15 16 L D E)) Q) : Ex (d + 2) M_laysA 42 [some (vR aM), some (vI i), some (vI (y : Int)), some (vI (k : Int)), l4] [] (MS m I A (F2 15 16 L D E)) Q := by
  have ok : okI (k : Int) := by unfold okI; omega
  have oy : okI (y : Int) := by unfold okI; omega
  have hsr := srt_r hW (k : Int) (y : Int)
  have h105 : ∀ (v : Int) (D' : Nat → Int), BitK D' (pSo (A 3) b) y (k + 1) → BitK (up1 E y (lOr (E y) v)) (pAs (A 3) b) y (k + 1) → Ex (d + 2) M_laysA 105 [some (vR aM), some (vI i), some (vI (y : Int)), some (vI (k : Int)), some (vI (srt (A 3) b (k : Int) (y : Int)))] [vL v, vL (E y), vI (y : Int), vR 378] (MS m I A (F2 15 16 L D' E)) Q := by
    intro v D' q1 q2
    refine Ex_step (tk_M_laysA rfl) ?_
    refine tML (j := 16) (n := y) (tk_M_laysA rfl) (by decide) hM.k16 hM.n16 (w32_id (by omega) (by omega)) (by omega) ?_
    rw [F2_b (by decide), F2_wb (by decide)]
    exact h _ _ _ q1 q2
  have h74 : ∀ (v : Int), BitK (up1 D y (lOr (D y) v)) (pSo (A 3) b) y (k + 1) → Ex (d + 2) M_laysA 74 [some (vR aM), some (vI i), some (vI (y : Int)), some (vI (k : Int)), some (vI (srt (A 3) b (k : Int) (y : Int)))] [vL v, vL (D y), vI (y : Int), vR 377] (MS m I A (F2 15 16 L D E)) Q := by
    intro v q1
    have q3 : pAs (A 3) b (k : Int) (y : Int) → BitK (up1 E y (lOr (E y) (lShl 1 (24 + (k : Int))))) (pAs (A 3) b) y (k + 1) := fun q => BitK_t (by omega) hE q
    have q4 : ¬ pAs (A 3) b (k : Int) (y : Int) → BitK (up1 E y (lOr (E y) 0)) (pAs (A 3) b) y (k + 1) := fun q => BitK_f hE q
    refine Ex_step (tk_M_laysA rfl) ?_
    refine tML (j := 15) (n := y) (tk_M_laysA rfl) (by decide) hM.k15 hM.n15 (w32_id (by omega) (by omega)) (by omega) ?_
    rw [F2_a, F2_wa]
    refine Ex_step (tk_M_laysA rfl) ?_
    refine gMR (tk_M_laysA rfl) hM hM.r19 ?_
    refine Ex_step (tk_M_laysA rfl) ?_
    refine Ex_step (tk_M_laysA rfl) ?_
    refine lML (j := 16) (n := y) (tk_M_laysA rfl) (by decide) hM.k16 hM.n16 (w32_id (by omega) (by omega)) (by omega) ?_
    rw [F2_b (by decide)]
    refine Ex_step (tk_M_laysA rfl) ?_
    refine Ex_step (tk_M_laysA rfl) ?_
    refine Ex_step (tk_M_laysA rfl) ⟨fun h86 => ?_, fun h86 => ?_⟩
    · try simp (disch := omega) only [cmpI, w32_b2i, b2i_0, b2i_1, w32_id, Classical.not_not, not_true_eq_false, not_false_eq_true] at h86
      have hx := h105 (lShl 1 (24 + (k : Int))) _ q1 (q3 (by omega))
      refine Ex_step (tk_M_laysA rfl) ?_
      refine Ex_step (tk_M_laysA rfl) ?_
      refine Ex_step (tk_M_laysA rfl) ?_
      refine Ex_step (tk_M_laysA rfl) ?_
      refine Ex_step (tk_M_laysA rfl) ?_
      refine Ex_step (tk_M_laysA rfl) ?_
      exact hx
    · try simp (disch := omega) only [cmpI, w32_b2i, b2i_0, b2i_1, w32_id, Classical.not_not, not_true_eq_false, not_false_eq_true] at h86
      refine Ex_step (tk_M_laysA rfl) ?_
      refine Ex_step (tk_M_laysA rfl) ?_
      refine Ex_step (tk_M_laysA rfl) ⟨fun h92 => ?_, fun h92 => ?_⟩
      · try simp (disch := omega) only [cmpI, w32_b2i, b2i_0, b2i_1, w32_id, Classical.not_not, not_true_eq_false, not_false_eq_true] at h92
        have hx := h105 0 _ q1 (q4 (by omega))
        refine Ex_step (tk_M_laysA rfl) ?_
        exact hx
      · try simp (disch := omega) only [cmpI, w32_b2i, b2i_0, b2i_1, w32_id, Classical.not_not, not_true_eq_false, not_false_eq_true] at h92
        have hx := h105 (lShl 1 (24 + (k : Int))) _ q1 (q3 (by omega))
        refine Ex_step (tk_M_laysA rfl) ?_
        refine Ex_step (tk_M_laysA rfl) ?_
        refine Ex_step (tk_M_laysA rfl) ?_
        refine Ex_step (tk_M_laysA rfl) ?_
        refine Ex_step (tk_M_laysA rfl) ?_
        refine Ex_step (tk_M_laysA rfl) ?_
        exact hx
  refine Ex_step (tk_M_laysA rfl) ?_
  refine Ex_step (tk_M_laysA rfl) ?_
  refine Ex_step (tk_M_laysA rfl) ?_
  refine Ex_step (tk_M_laysA rfl) ?_
  refine Ex_cV0 (av := [vI i, vI (k : Int), vI (y : Int)]) (tk_M_laysA rfl) mk_M_sortOf ⟨rfl, rfl, by decide, rfl, Nat.le_of_ble_eq_true rfl, Nat.le_of_ble_eq_true rfl⟩ (hM.k) (fun _ h => f_sortOf hM hd hi hW ok oy h) ?_
  refine Ex_step (tk_M_laysA rfl) ?_
  refine Ex_step (tk_M_laysA rfl) ?_
  refine gMR (tk_M_laysA rfl) hM hM.r18 ?_
  refine Ex_step (tk_M_laysA rfl) ?_
  refine Ex_step (tk_M_laysA rfl) ?_
  refine lML (j := 15) (n := y) (tk_M_laysA rfl) (by decide) hM.k15 hM.n15 (w32_id (by omega) (by omega)) (by omega) ?_
  rw [F2_a]
  refine Ex_step (tk_M_laysA rfl) ?_
  refine Ex_step (tk_M_laysA rfl) ?_
  refine Ex_step (tk_M_laysA rfl) ⟨fun h61 => ?_, fun h61 => ?_⟩
  · try simp (disch := omega) only [cmpI, w32_b2i, b2i_0, b2i_1, w32_id, Classical.not_not, not_true_eq_false, not_false_eq_true] at h61
    have hx := h74 0 (BitK_f hD (by omega))
    refine Ex_step (tk_M_laysA rfl) ?_
    exact hx
  · try simp (disch := omega) only [cmpI, w32_b2i, b2i_0, b2i_1, w32_id, Classical.not_not, not_true_eq_false, not_false_eq_true] at h61
    have hx := h74 (lShl 1 (24 + (k : Int))) (BitK_t (by omega) hD (by omega))
    refine Ex_step (tk_M_laysA rfl) ?_
    refine Ex_step (tk_M_laysA rfl) ?_
    refine Ex_step (tk_M_laysA rfl) ?_
    refine Ex_step (tk_M_laysA rfl) ?_
    refine Ex_step (tk_M_laysA rfl) ?_
    refine Ex_step (tk_M_laysA rfl) ?_
    exact hx
set_option maxRecDepth 100000 in
theorem f_laysA (hM : MW m) (hd : b ≤ 5) (hi : i = (b : Int)) (hW : DsW (A 3) b) (h : ∀ D E : Nat → Int, BitR D (pSo (A 3) b) → BitR E (pAs (A 3) b) → Q 0 none (MS m I A (F2 15 16 L D E))) : Ex (d + 2) M_laysA 0 [some (vR aM), some (vI i), none, none, none] [] (MS m I A L) Q := by
  have hw := hW.2.1
  have hh := hW.2.2.1
  have s1 : ∀ x z : Int, pSo (A 3) b x z → 0 ≤ x := fun x z q => (srt_in10 hW (show srt (A 3) b x z ≠ 0 by omega)).1.1
  have s2 : ∀ x z : Int, pAs (A 3) b x z → 0 ≤ x := fun x z q => (srt_in10 hW (show srt (A 3) b x z ≠ 0 by omega)).1.1
  have g1 : ∀ x z : Int, srt (A 3) b x z ≠ 0 → x < A 3 (bD b + 1) ∧ z < A 3 (bD b + 2) := fun x z q => by have := srt_in q; obtain ⟨⟨q1, q2⟩, q3, q4⟩ := this; omega
  have hrow : ∀ (y : Nat), y < 10 → (∀ (D E : Nat → Int) (l3 l4 : Option AV), (∀ y2 : Nat, y2 < y + 1 → ∀ i : Nat, i < 64 → lb (D y2) i = decide (pSo (A 3) b (-24 + (i : Int)) (y2 : Int))) → (∀ y2 : Nat, y2 < y + 1 → ∀ i : Nat, i < 64 → lb (E y2) i = decide (pAs (A 3) b (-24 + (i : Int)) (y2 : Int))) → Ex (d + 2) M_laysA 113 [some (vR aM), some (vI i), some (vI (y : Int)), l3, l4] [] (MS m I A (F2 15 16 L D E)) Q) → ∀ (r k : Nat) (D E : Nat → Int) (l4 : Option AV), (k : Int) + (r : Int) = A 3 (bD b + 1) → BitK D (pSo (A 3) b) y k → BitK E (pAs (A 3) b) y k → Ex (d + 2) M_laysA 24 [some (vR aM), some (vI i), some (vI (y : Int)), some (vI (k : Int)), l4] [] (MS m I A (F2 15 16 L D E)) Q := by
    intro y hy h2 r
    induction r with
    | zero =>
      intro k D E l4 hk hD hE
      have e1 := BitK_e hD (fun x q => by have := g1 x (y : Int) (show srt (A 3) b x (y : Int) ≠ 0 by omega); omega)
      have e2 := BitK_e hE (fun x q => by have := g1 x (y : Int) (show srt (A 3) b x (y : Int) ≠ 0 by omega); omega)
      refine Ex_step (tk_M_laysA rfl) ?_
      refine Ex_step (tk_M_laysA rfl) ?_
      refine Ex_step (tk_M_laysA rfl) ?_
      refine Ex_cV0 (av := [vI i]) (tk_M_laysA rfl) mk_M_wideOf ⟨rfl, rfl, by decide, rfl, Nat.le_of_ble_eq_true rfl, Nat.le_of_ble_eq_true rfl⟩ (hM.k) (fun _ h => f_wideOf hM hd hi h) ?_
      refine Ex_step (tk_M_laysA rfl) ⟨fun h30 => ?_, fun h30 => ?_⟩
      · try simp (disch := omega) only [cmpI, w32_b2i, b2i_0, b2i_1, w32_id, Classical.not_not, not_true_eq_false, not_false_eq_true] at h30
        exact h2 D E _ _ e1 e2
      · try simp (disch := omega) only [cmpI, w32_b2i, b2i_0, b2i_1, w32_id, Classical.not_not, not_true_eq_false, not_false_eq_true] at h30
        omega
    | succ r ih =>
      intro k D E l4 hk hD hE
      by_cases hyh : (y : Int) < A 3 (bD b + 2)
      · have h107 : ∀ (D E : Nat → Int) (l4 : Option AV), BitK D (pSo (A 3) b) y (k + 1) → BitK E (pAs (A 3) b) y (k + 1) → Ex (d + 2) M_laysA 107 [some (vR aM), some (vI i), some (vI (y : Int)), some (vI (k : Int)), l4] [] (MS m I A (F2 15 16 L D E)) Q := by
          intro D E l4 q1 q2
          refine Ex_step (tk_M_laysA rfl) ?_
          refine Ex_step (tk_M_laysA rfl) ?_
          exact ih (k + 1) D E _ (by omega) q1 q2
        refine Ex_step (tk_M_laysA rfl) ?_
        refine Ex_step (tk_M_laysA rfl) ?_
        refine Ex_step (tk_M_laysA rfl) ?_
        refine Ex_cV0 (av := [vI i]) (tk_M_laysA rfl) mk_M_wideOf ⟨rfl, rfl, by decide, rfl, Nat.le_of_ble_eq_true rfl, Nat.le_of_ble_eq_true rfl⟩ (hM.k) (fun _ h => f_wideOf hM hd hi h) ?_
        refine Ex_step (tk_M_laysA rfl) ⟨fun h30 => ?_, fun h30 => ?_⟩
        · try simp (disch := omega) only [cmpI, w32_b2i, b2i_0, b2i_1, w32_id, Classical.not_not, not_true_eq_false, not_false_eq_true] at h30
          omega
        · try simp (disch := omega) only [cmpI, w32_b2i, b2i_0, b2i_1, w32_id, Classical.not_not, not_true_eq_false, not_false_eq_true] at h30
          refine Ex_step (tk_M_laysA rfl) ?_
          refine Ex_step (tk_M_laysA rfl) ?_
          refine Ex_step (tk_M_laysA rfl) ?_
          refine Ex_cV0 (av := [vI i]) (tk_M_laysA rfl) mk_M_highOf ⟨rfl, rfl, by decide, rfl, Nat.le_of_ble_eq_true rfl, Nat.le_of_ble_eq_true rfl⟩ (hM.k) (fun _ h => f_highOf hM hd hi h) ?_
          refine Ex_step (tk_M_laysA rfl) ⟨fun h39 => ?_, fun h39 => ?_⟩
          · try simp (disch := omega) only [cmpI, w32_b2i, b2i_0, b2i_1, w32_id, Classical.not_not, not_true_eq_false, not_false_eq_true] at h39
            omega
          · try simp (disch := omega) only [cmpI, w32_b2i, b2i_0, b2i_1, w32_id, Classical.not_not, not_true_eq_false, not_false_eq_true] at h39
            exact f_layAc hM hd hi hW hy (by omega) hD hE h107
      · have e1 := BitK_e hD (fun x q => by have := g1 x (y : Int) (show srt (A 3) b x (y : Int) ≠ 0 by omega); omega)
        have e2 := BitK_e hE (fun x q => by have := g1 x (y : Int) (show srt (A 3) b x (y : Int) ≠ 0 by omega); omega)
        refine Ex_step (tk_M_laysA rfl) ?_
        refine Ex_step (tk_M_laysA rfl) ?_
        refine Ex_step (tk_M_laysA rfl) ?_
        refine Ex_cV0 (av := [vI i]) (tk_M_laysA rfl) mk_M_wideOf ⟨rfl, rfl, by decide, rfl, Nat.le_of_ble_eq_true rfl, Nat.le_of_ble_eq_true rfl⟩ (hM.k) (fun _ h => f_wideOf hM hd hi h) ?_
        refine Ex_step (tk_M_laysA rfl) ⟨fun h30 => ?_, fun h30 => ?_⟩
        · try simp (disch := omega) only [cmpI, w32_b2i, b2i_0, b2i_1, w32_id, Classical.not_not, not_true_eq_false, not_false_eq_true] at h30
          exact h2 D E _ _ e1 e2
        · try simp (disch := omega) only [cmpI, w32_b2i, b2i_0, b2i_1, w32_id, Classical.not_not, not_true_eq_false, not_false_eq_true] at h30
          refine Ex_step (tk_M_laysA rfl) ?_
          refine Ex_step (tk_M_laysA rfl) ?_
          refine Ex_step (tk_M_laysA rfl) ?_
          refine Ex_cV0 (av := [vI i]) (tk_M_laysA rfl) mk_M_highOf ⟨rfl, rfl, by decide, rfl, Nat.le_of_ble_eq_true rfl, Nat.le_of_ble_eq_true rfl⟩ (hM.k) (fun _ h => f_highOf hM hd hi h) ?_
          refine Ex_step (tk_M_laysA rfl) ⟨fun h39 => ?_, fun h39 => ?_⟩
          · try simp (disch := omega) only [cmpI, w32_b2i, b2i_0, b2i_1, w32_id, Classical.not_not, not_true_eq_false, not_false_eq_true] at h39
            exact h2 D E _ _ e1 e2
          · try simp (disch := omega) only [cmpI, w32_b2i, b2i_0, b2i_1, w32_id, Classical.not_not, not_true_eq_false, not_false_eq_true] at h39
            omega
  have hall : ∀ (r y : Nat) (D E : Nat → Int) (l3 l4 : Option AV), y + r = 10 → (∀ y2 : Nat, y2 < y → ∀ i : Nat, i < 64 → lb (D y2) i = decide (pSo (A 3) b (-24 + (i : Int)) (y2 : Int))) → (∀ y2 : Nat, y2 < y → ∀ i : Nat, i < 64 → lb (E y2) i = decide (pAs (A 3) b (-24 + (i : Int)) (y2 : Int))) → Ex (d + 2) M_laysA 2 [some (vR aM), some (vI i), some (vI (y : Int)), l3, l4] [] (MS m I A (F2 15 16 L D E)) Q := by
    intro r
    induction r with
    | zero =>
      intro y D E l3 l4 hy hD hE
      have : y = 10 := by omega
      subst this
      refine Ex_step (tk_M_laysA rfl) ?_
      refine Ex_step (tk_M_laysA rfl) ?_
      refine Ex_step (tk_M_laysA rfl) ⟨fun h5 => ?_, fun h5 => ?_⟩
      · try simp (disch := omega) only [cmpI, w32_b2i, b2i_0, b2i_1, w32_id, Classical.not_not, not_true_eq_false, not_false_eq_true] at h5
        refine Ex_step (tk_M_laysA rfl) ⟨rfl, ?_⟩
        exact h D E hD hE
      · try simp (disch := omega) only [cmpI, w32_b2i, b2i_0, b2i_1, w32_id, Classical.not_not, not_true_eq_false, not_false_eq_true] at h5
        omega
    | succ r ih =>
      intro y D E l3 l4 hy hD hE
      have h113 : ∀ (D E : Nat → Int) (l3 l4 : Option AV), (∀ y2 : Nat, y2 < y + 1 → ∀ i : Nat, i < 64 → lb (D y2) i = decide (pSo (A 3) b (-24 + (i : Int)) (y2 : Int))) → (∀ y2 : Nat, y2 < y + 1 → ∀ i : Nat, i < 64 → lb (E y2) i = decide (pAs (A 3) b (-24 + (i : Int)) (y2 : Int))) → Ex (d + 2) M_laysA 113 [some (vR aM), some (vI i), some (vI (y : Int)), l3, l4] [] (MS m I A (F2 15 16 L D E)) Q := by
        intro D E l3 l4 q1 q2
        refine Ex_step (tk_M_laysA rfl) ?_
        refine Ex_step (tk_M_laysA rfl) ?_
        exact ih (y + 1) D E _ _ (by omega) q1 q2
      obtain ⟨w, hwe⟩ : ∃ w : Nat, (w : Int) = A 3 (bD b + 1) := ⟨(A 3 (bD b + 1)).toNat, by omega⟩
      have h24 := hrow y (by omega) h113 w 0 (up1 D y 0) (up1 E y 0) l4 (by omega) (BitK_0 hD s1) (BitK_0 hE s2)
      refine Ex_step (tk_M_laysA rfl) ?_
      refine Ex_step (tk_M_laysA rfl) ?_
      refine Ex_step (tk_M_laysA rfl) ⟨fun h5 => ?_, fun h5 => ?_⟩
      · try simp (disch := omega) only [cmpI, w32_b2i, b2i_0, b2i_1, w32_id, Classical.not_not, not_true_eq_false, not_false_eq_true] at h5
        omega
      · try simp (disch := omega) only [cmpI, w32_b2i, b2i_0, b2i_1, w32_id, Classical.not_not, not_true_eq_false, not_false_eq_true] at h5
        refine Ex_step (tk_M_laysA rfl) ?_
        refine gMR (tk_M_laysA rfl) hM hM.r18 ?_
        refine Ex_step (tk_M_laysA rfl) ?_
        refine Ex_step (tk_M_laysA rfl) ?_
        refine tML (j := 15) (n := y) (tk_M_laysA rfl) (by decide) hM.k15 hM.n15 (w32_id (by omega) (by omega)) (by omega) ?_
        rw [F2_a, F2_wa]
        refine Ex_step (tk_M_laysA rfl) ?_
        refine gMR (tk_M_laysA rfl) hM hM.r19 ?_
        refine Ex_step (tk_M_laysA rfl) ?_
        refine Ex_step (tk_M_laysA rfl) ?_
        refine tML (j := 16) (n := y) (tk_M_laysA rfl) (by decide) hM.k16 hM.n16 (w32_id (by omega) (by omega)) (by omega) ?_
        rw [F2_b (by decide), F2_wb (by decide)]
        refine Ex_step (tk_M_laysA rfl) ?_
        refine Ex_step (tk_M_laysA rfl) ?_
        exact h24
  have h2 := hall 10 0 (L 15) (L 16) none none (by omega) (fun y2 q => absurd q (Nat.not_lt_zero y2)) (fun y2 q => absurd q (Nat.not_lt_zero y2))
  rw [F2_start (by decide)] at h2
  refine Ex_step (tk_M_laysA rfl) ?_
  refine Ex_step (tk_M_laysA rfl) ?_
  exact h2
end MLaysA
