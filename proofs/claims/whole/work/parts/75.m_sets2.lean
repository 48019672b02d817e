/-! ===== the reference: parts, holes; looks ===== -/
abbrev SSt : Type := Int × (Nat → Int)
def stC (T : Nat → Int) (dd : Nat) (dk : Prop) [Decidable dk] (y x : Nat) (s : SSt) : SSt := if s.2 (10 * y + x) = 0 ∧ (dkP T dd (x : Nat) (y : Nat) ↔ dk) then (s.1 + oI (dk ∨ (flG T dd dk ((10 * y + x : Nat) : Int) s.2).1 = true), (flG T dd dk ((10 * y + x : Nat) : Int) s.2).2.1) else s
def stR (T : Nat → Int) (dd : Nat) (dk : Prop) [Decidable dk] (y : Nat) : Nat → SSt → SSt
  | 0, s => s
  | x + 1, s => stC T dd dk y x (stR T dd dk y x s)
def stA (T : Nat → Int) (dd : Nat) (dk : Prop) [Decidable dk] (w : Nat) : Nat → SSt → SSt
  | 0, s => s
  | y + 1, s => stR T dd dk y w (stA T dd dk w y s)
def setS (T : Nat → Int) (dd : Nat) (dk : Prop) [Decidable dk] (be : Nat → Int) : SSt := stA T dd dk (T (bD dd + 1)).toNat (T (bD dd + 2)).toNat (0, cpK 100 (fun _ => 0) be)
def BE (f : Nat → Int) : Prop := ∀ k, k < 100 → f k = 0 ∨ f k = 1
set_option maxRecDepth 100000 in
theorem flG_BE {T : Nat → Int} {dd : Nat} {dk : Prop} [Decidable dk] (hW : DsW T dd) {fr : Int} (hfr : 0 ≤ fr ∧ fr ≤ 99) (hin : inG T dd (fr % 10) (fr / 10)) {be : Nat → Int} (hbe : BE be) (hb0 : be fr.toNat = 0) : BE (flG T dd dk fr be).2.1 := by
  have hF : FI T dd (up1 be fr.toNat 1, fun _ => fr, 1) := by
    refine ⟨fun k hk => ?_, ?_, fun k hk => ⟨hin, hfr.1, hfr.2⟩⟩
    · show up1 be fr.toNat 1 k = 0 ∨ up1 be fr.toNat 1 k = 1
      by_cases e : k = fr.toNat
      · rw [e, up1_at]; exact Or.inr rfl
      · rw [up1_ne _ _ e]; exact hbe k hk
    · show 1 ≤ cB (up1 be fr.toNat 1) 100
      rw [cB_up hb0 (by omega)]
      omega
  exact (flQ_I hW 101 0 true hF).1
set_option maxRecDepth 100000 in
theorem fr_in {T : Nat → Int} {dd y x : Nat} (hW : DsW T dd) (hx : (x : Int) < T (bD dd + 1)) (hy : (y : Int) < T (bD dd + 2)) : (((10 * y + x : Nat) : Int) % 10 = (x : Int) ∧ ((10 * y + x : Nat) : Int) / 10 = (y : Int)) ∧ (0 ≤ ((10 * y + x : Nat) : Int) ∧ ((10 * y + x : Nat) : Int) ≤ 99) ∧ inG T dd (((10 * y + x : Nat) : Int) % 10) (((10 * y + x : Nat) : Int) / 10) := by
  have := hW.2.1
  have := hW.2.2.1
  have e1 : ((10 * y + x : Nat) : Int) % 10 = (x : Int) := by omega
  have e2 : ((10 * y + x : Nat) : Int) / 10 = (y : Int) := by omega
  refine ⟨⟨e1, e2⟩, by omega, ?_⟩
  rw [e1, e2]
  exact ⟨⟨by omega, by omega⟩, by omega, by omega⟩
set_option maxRecDepth 100000 in
theorem stC_BE {T : Nat → Int} {dd : Nat} {dk : Prop} [Decidable dk] (hW : DsW T dd) {y x : Nat} (hx : (x : Int) < T (bD dd + 1)) (hy : (y : Int) < T (bD dd + 2)) {s : SSt} (h : BE s.2) : BE (stC T dd dk y x s).2 := by
  unfold stC
  split
  · next q =>
    have f := fr_in hW hx hy
    exact flG_BE hW f.2.1 f.2.2 h (by rw [show ((10 * y + x : Nat) : Int).toNat = 10 * y + x from rfl]; exact q.1)
  · exact h
set_option maxRecDepth 100000 in
theorem stR_BE {T : Nat → Int} {dd : Nat} {dk : Prop} [Decidable dk] (hW : DsW T dd) {y : Nat} (hy : (y : Int) < T (bD dd + 2)) {s : SSt} (h : BE s.2) : ∀ x : Nat, (x : Int) ≤ T (bD dd + 1) → BE (stR T dd dk y x s).2
  | 0, _ => h
  | x + 1, hx => stC_BE hW (by omega) hy (stR_BE hW hy h x (by omega))
set_option maxRecDepth 100000 in
theorem stA_BE {T : Nat → Int} {dd : Nat} {dk : Prop} [Decidable dk] (hW : DsW T dd) {w : Nat} (hw : (w : Int) = T (bD dd + 1)) {s : SSt} (h : BE s.2) : ∀ y : Nat, (y : Int) ≤ T (bD dd + 2) → BE (stA T dd dk w y s).2
  | 0, _ => h
  | y + 1, hy => stR_BE hW (by omega) (stA_BE hW hw h y (by omega)) w (by omega)
section MSets
variable {d dd nn : Nat} {i : Int} {m : Mem} {I : Nat → Int} {A L : Nat → Nat → Int} {Q : Nat → Option AV → Mem → Prop}
set_option maxRecDepth 100000 in
theorem f_setC {dk : Prop} [Decidable dk] (hM : MW m) (hN : NowW (A 3) nn) (hd : dd < nn) (hi : i = (dd : Int)) {y x : Nat} (hx : (x : Int) < A 3 (bD dd + 1)) (hy : (y : Int) < A 3 (bD dd + 2)) {s : SSt} (hs : BE s.2) {qu : Nat → Int} {l6 : Option AV} (h : ∀ (q : Nat → Int) (l6 : Option AV), Ex (d + 4) M_setsOf 116 [some (vR aM), some (vI i), some (vI (b2i dk)), some (vI (stC (A 3) dd dk y x s).1), some (vI (y : Int)), some (vI (x : Int)), l6] [] (MS m I (F2 21 22 A (stC (A 3) dd dk y x s).2 q) L) Q) : Ex (d + 4) M_setsOf 52 [some (vR aM), some (vI i), some (vI (b2i dk)), some (vI s.1), some (vI (y : Int)), some (vI (x : Int)), l6] [] (MS m I (F2 21 22 A s.2 qu) L) Q := by
  have hn6 := hN.1
  have hW := hN.2.2.2 dd hd
  have hw := hW.2.1
  have hh := hW.2.2.1
  have f := fr_in hW hx hy
  have hb := hs (10 * y + x) (by omega)
  unfold stC at h
  have hne : ¬ (s.2 (10 * y + x) = 0 ∧ (dkP (A 3) dd (x : Nat) (y : Nat) ↔ dk)) → Ex (d + 4) M_setsOf 116 [some (vR aM), some (vI i), some (vI (b2i dk)), some (vI s.1), some (vI (y : Int)), some (vI (x : Int)), l6] [] (MS m I (F2 21 22 A s.2 qu) L) Q := by
    intro hz
    rw [if_neg hz] at h
    exact h _ _
  have h84 : (s.2 (10 * y + x) = 0 ∧ (dkP (A 3) dd (x : Nat) (y : Nat) ↔ dk)) → Ex (d + 4) M_setsOf 84 [some (vR aM), some (vI i), some (vI (b2i dk)), some (vI s.1), some (vI (y : Int)), some (vI (x : Int)), l6] [] (MS m I (F2 21 22 A s.2 qu) L) Q := by
    intro hz
    rw [if_pos hz] at h
    have key : ∀ (g : Bool × FSt) (q : Nat → Int), (∀ (q : Nat → Int) (l6 : Option AV), Ex (d + 4) M_setsOf 116 [some (vR aM), some (vI i), some (vI (b2i dk)), some (vI (s.1 + oI (dk ∨ g.1 = true))), some (vI (y : Int)), some (vI (x : Int)), l6] [] (MS m I (F2 21 22 A g.2.1 q) L) Q) → Ex (d + 4) M_setsOf 97 [some (vR aM), some (vI i), some (vI (b2i dk)), some (vI s.1), some (vI (y : Int)), some (vI (x : Int)), l6] [vI (b2i (g.1 = true))] (MS m I (F2 21 22 A g.2.1 q) L) Q := by
      intro g q h
      have ht : dk ∨ g.1 = true → oI (dk ∨ g.1 = true) = 1 := fun z => oI_t z
      have hf : ¬ (dk ∨ g.1 = true) → oI (dk ∨ g.1 = true) = 0 := fun z => oI_f z
      have hx := h q (some (vI (b2i (g.1 = true))))
      refine Ex_step (tk_M_setsOf rfl) ?_
      refine Ex_step (tk_M_setsOf rfl) ?_
      refine Ex_step (tk_M_setsOf rfl) ?_
      refine Ex_step (tk_M_setsOf rfl) ⟨fun h101 => ?_, fun h101 => ?_⟩
      · try simp (disch := omega) only [cmpI, w32_b2i, b2i_0, b2i_1, w32_id, Classical.not_not, not_true_eq_false, not_false_eq_true] at h101
        rw [ht (by first | exact Or.inl h101 | exact Or.inr h106)] at hx
        refine Ex_step (tk_M_setsOf rfl) ?_
        refine Ex_step (tk_M_setsOf rfl) ?_
        refine Ex_step (tk_M_setsOf rfl) ?_
        refine Ex_step (tk_M_setsOf rfl) ?_
        exact hx
      · try simp (disch := omega) only [cmpI, w32_b2i, b2i_0, b2i_1, w32_id, Classical.not_not, not_true_eq_false, not_false_eq_true] at h101
        refine Ex_step (tk_M_setsOf rfl) ?_
        refine Ex_step (tk_M_setsOf rfl) ⟨fun h106 => ?_, fun h106 => ?_⟩
        · try simp (disch := omega) only [cmpI, w32_b2i, b2i_0, b2i_1, w32_id, Classical.not_not, not_true_eq_false, not_false_eq_true] at h106
          rw [hf (fun z => z.elim h101 h106)] at hx
          refine Ex_step (tk_M_setsOf rfl) ?_
          refine Ex_step (tk_M_setsOf rfl) ?_
          refine Ex_step (tk_M_setsOf rfl) ?_
          exact hx
        · try simp (disch := omega) only [cmpI, w32_b2i, b2i_0, b2i_1, w32_id, Classical.not_not, not_true_eq_false, not_false_eq_true] at h106
          rw [ht (by first | exact Or.inl h101 | exact Or.inr h106)] at hx
          refine Ex_step (tk_M_setsOf rfl) ?_
          refine Ex_step (tk_M_setsOf rfl) ?_
          refine Ex_step (tk_M_setsOf rfl) ?_
          refine Ex_step (tk_M_setsOf rfl) ?_
          exact hx
    refine Ex_step (tk_M_setsOf rfl) ?_
    refine Ex_step (tk_M_setsOf rfl) ?_
    refine Ex_step (tk_M_setsOf rfl) ?_
    refine Ex_step (tk_M_setsOf rfl) ?_
    refine Ex_step (tk_M_setsOf rfl) ?_
    refine Ex_step (tk_M_setsOf rfl) ?_
    refine Ex_step (tk_M_setsOf rfl) ?_
    refine Ex_cVK (av := [vI i, vI (10 * (y : Int) + (x : Int))]) (tk_M_setsOf rfl) mk_M_floods ⟨rfl, rfl, by decide, rfl, Nat.le_of_ble_eq_true rfl, Nat.le_of_ble_eq_true rfl⟩ (hM.k) (f_floods (dk := dk) (fr := ((10 * y + x : Nat) : Int)) hM hN hd hi f.2.1 f.2.2 (by rw [f.1.1, f.1.2]; exact hz.2) hs hz.1 (fun q => ⟨rfl, ?_⟩))
    exact key _ q h
  refine Ex_step (tk_M_setsOf rfl) ?_
  refine gMR (tk_M_setsOf rfl) hM hM.r34 ?_
  refine Ex_step (tk_M_setsOf rfl) ?_
  refine Ex_step (tk_M_setsOf rfl) ?_
  refine Ex_step (tk_M_setsOf rfl) ?_
  refine Ex_step (tk_M_setsOf rfl) ?_
  refine Ex_step (tk_M_setsOf rfl) ?_
  refine lMZ (j := 21) (n := 10 * y + x) (tk_M_setsOf rfl) (by decide) hM.k21 hM.n21 (by rw [w32_id (by omega) (by omega)]; omega) (by omega) ?_
  rw [F2_a]
  refine Ex_step (tk_M_setsOf rfl) ⟨fun h65 => ?_, fun h65 => ?_⟩
  · try simp (disch := omega) only [cmpI, w32_b2i, b2i_0, b2i_1, b2i_eq, w32_id, Classical.not_not, not_true_eq_false, not_false_eq_true] at h65
    exact hne (fun z => by first | exact h78 z.2 | (have := z.1; omega))
  · try simp (disch := omega) only [cmpI, w32_b2i, b2i_0, b2i_1, b2i_eq, w32_id, Classical.not_not, not_true_eq_false, not_false_eq_true] at h65
    refine Ex_step (tk_M_setsOf rfl) ?_
    refine Ex_step (tk_M_setsOf rfl) ?_
    refine Ex_step (tk_M_setsOf rfl) ?_
    refine Ex_step (tk_M_setsOf rfl) ?_
    refine Ex_cV0 (av := [vI i, vI (x : Int), vI (y : Int)]) (tk_M_setsOf rfl) mk_M_isDark ⟨rfl, rfl, by decide, rfl, Nat.le_of_ble_eq_true rfl, Nat.le_of_ble_eq_true rfl⟩ (hM.k) (fun _ h => f_isDark (A := F2 21 22 A s.2 qu) hM (show dd ≤ 5 by omega) hi hW (by unfold okI; omega) (by unfold okI; omega) h) ?_
    refine Ex_step (tk_M_setsOf rfl) ?_
    refine Ex_step (tk_M_setsOf rfl) ⟨fun h78 => ?_, fun h78 => ?_⟩
    · try simp (disch := omega) only [cmpI, w32_b2i, b2i_0, b2i_1, b2i_eq, w32_id, Classical.not_not, not_true_eq_false, not_false_eq_true] at h78
      exact h84 ⟨by omega, h78⟩
    · try simp (disch := omega) only [cmpI, w32_b2i, b2i_0, b2i_1, b2i_eq, w32_id, Classical.not_not, not_true_eq_false, not_false_eq_true] at h78
      refine Ex_step (tk_M_setsOf rfl) ?_
      exact hne (fun z => by first | exact h78 z.2 | (have := z.1; omega))
set_option maxRecDepth 100000 in
theorem f_setsOf {dk : Prop} [Decidable dk] (hM : MW m) (hN : NowW (A 3) nn) (hd : dd < nn) (hi : i = (dd : Int)) (h : ∀ q : Nat → Int, Q 0 (some (vI (setS (A 3) dd dk (A 21)).1)) (MS m I (F2 21 22 A (setS (A 3) dd dk (A 21)).2 q) L)) : Ex (d + 4) M_setsOf 0 [some (vR aM), some (vI i), some (vI (b2i dk)), none, none, none, none] [] (MS m I A L) Q := by
  have hn6 := hN.1
  have hW := hN.2.2.2 dd hd
  have hw := hW.2.1
  have hh := hW.2.2.1
  obtain ⟨w, hwe⟩ : ∃ w : Nat, (w : Int) = A 3 (bD dd + 1) := ⟨(A 3 (bD dd + 1)).toNat, by omega⟩
  obtain ⟨g, hge⟩ : ∃ g : Nat, (g : Int) = A 3 (bD dd + 2) := ⟨(A 3 (bD dd + 2)).toNat, by omega⟩
  unfold setS at h
  rw [show (A 3 (bD dd + 1)).toNat = w by omega, show (A 3 (bD dd + 2)).toNat = g by omega] at h
  have hB0 : BE (cpK 100 (fun _ => 0) (A 21)) := fun k hk => Or.inl (if_pos hk)
  generalize hs0 : ((0, cpK 100 (fun _ => 0) (A 21)) : SSt) = s0 at *
  have hB0 : BE s0.2 := by rw [← hs0]; exact hB0
  have hrow : ∀ (y : Nat) (s : SSt), (y : Int) < A 3 (bD dd + 2) → BE s.2 → (∀ (q : Nat → Int) (l5 l6 : Option AV), Ex (d + 4) M_setsOf 122 [some (vR aM), some (vI i), some (vI (b2i dk)), some (vI (stR (A 3) dd dk y w s).1), some (vI (y : Int)), l5, l6] [] (MS m I (F2 21 22 A (stR (A 3) dd dk y w s).2 q) L) Q) → ∀ (r x : Nat) (q : Nat → Int) (l6 : Option AV), x + r = w → Ex (d + 4) M_setsOf 42 [some (vR aM), some (vI i), some (vI (b2i dk)), some (vI (stR (A 3) dd dk y x s).1), some (vI (y : Int)), some (vI (x : Int)), l6] [] (MS m I (F2 21 22 A (stR (A 3) dd dk y x s).2 q) L) Q := by
    intro y s hy hs h2 r
    induction r with
    | zero =>
      intro x q l6 hx
      have : x = w := by omega
      subst this
      refine Ex_step (tk_M_setsOf rfl) ?_
      refine Ex_step (tk_M_setsOf rfl) ?_
      refine Ex_step (tk_M_setsOf rfl) ?_
      refine Ex_cV0 (av := [vI i]) (tk_M_setsOf rfl) mk_M_wideOf ⟨rfl, rfl, by decide, rfl, Nat.le_of_ble_eq_true rfl, Nat.le_of_ble_eq_true rfl⟩ (hM.k) (fun _ h => f_wideOf (A := F2 21 22 A (stR (A 3) dd dk y x s).2 q) hM (show dd ≤ 5 by omega) hi h) ?_
      show Ex (d + 4) M_setsOf 49 _ [vI (A 3 (bD dd + 1)), vI (x : Int)] _ Q
      refine Ex_step (tk_M_setsOf rfl) ⟨fun h49 => ?_, fun h49 => ?_⟩
      · try simp (disch := omega) only [cmpI, w32_b2i, b2i_0, b2i_1, w32_id, Classical.not_not, not_true_eq_false, not_false_eq_true] at h49
        exact h2 _ _ _
      · try simp (disch := omega) only [cmpI, w32_b2i, b2i_0, b2i_1, w32_id, Classical.not_not, not_true_eq_false, not_false_eq_true] at h49
        omega
    | succ r ih =>
      intro x q l6 hx
      have h116 : ∀ (q : Nat → Int) (l6 : Option AV), Ex (d + 4) M_setsOf 116 [some (vR aM), some (vI i), some (vI (b2i dk)), some (vI (stC (A 3) dd dk y x (stR (A 3) dd dk y x s)).1), some (vI (y : Int)), some (vI (x : Int)), l6] [] (MS m I (F2 21 22 A (stC (A 3) dd dk y x (stR (A 3) dd dk y x s)).2 q) L) Q := by
        intro q l6
        have hnx := ih (x + 1) q l6 (by omega)
        refine Ex_step (tk_M_setsOf rfl) ?_
        refine Ex_step (tk_M_setsOf rfl) ?_
        exact hnx
      refine Ex_step (tk_M_setsOf rfl) ?_
      refine Ex_step (tk_M_setsOf rfl) ?_
      refine Ex_step (tk_M_setsOf rfl) ?_
      refine Ex_cV0 (av := [vI i]) (tk_M_setsOf rfl) mk_M_wideOf ⟨rfl, rfl, by decide, rfl, Nat.le_of_ble_eq_true rfl, Nat.le_of_ble_eq_true rfl⟩ (hM.k) (fun _ h => f_wideOf (A := F2 21 22 A (stR (A 3) dd dk y x s).2 q) hM (show dd ≤ 5 by omega) hi h) ?_
      show Ex (d + 4) M_setsOf 49 _ [vI (A 3 (bD dd + 1)), vI (x : Int)] _ Q
      refine Ex_step (tk_M_setsOf rfl) ⟨fun h49 => ?_, fun h49 => ?_⟩
      · try simp (disch := omega) only [cmpI, w32_b2i, b2i_0, b2i_1, w32_id, Classical.not_not, not_true_eq_false, not_false_eq_true] at h49
        omega
      · try simp (disch := omega) only [cmpI, w32_b2i, b2i_0, b2i_1, w32_id, Classical.not_not, not_true_eq_false, not_false_eq_true] at h49
        exact f_setC hM hN hd hi (by omega) hy (stR_BE hW hy hs x (by omega)) h116
  have hall : ∀ (r y : Nat) (q : Nat → Int) (l5 l6 : Option AV), y + r = g → Ex (d + 4) M_setsOf 29 [some (vR aM), some (vI i), some (vI (b2i dk)), some (vI (stA (A 3) dd dk w y s0).1), some (vI (y : Int)), l5, l6] [] (MS m I (F2 21 22 A (stA (A 3) dd dk w y s0).2 q) L) Q := by
    intro r
    induction r with
    | zero =>
      intro y q l5 l6 hy
      have : y = g := by omega
      subst this
      refine Ex_step (tk_M_setsOf rfl) ?_
      refine Ex_step (tk_M_setsOf rfl) ?_
      refine Ex_step (tk_M_setsOf rfl) ?_
      refine Ex_cV0 (av := [vI i]) (tk_M_setsOf rfl) mk_M_highOf ⟨rfl, rfl, by decide, rfl, Nat.le_of_ble_eq_true rfl, Nat.le_of_ble_eq_true rfl⟩ (hM.k) (fun _ h => f_highOf (A := F2 21 22 A (stA (A 3) dd dk w y s0).2 q) hM (show dd ≤ 5 by omega) hi h) ?_
      show Ex (d + 4) M_setsOf 36 _ [vI (A 3 (bD dd + 2)), vI (y : Int)] _ Q
      refine Ex_step (tk_M_setsOf rfl) ⟨fun h36 => ?_, fun h36 => ?_⟩
      · try simp (disch := omega) only [cmpI, w32_b2i, b2i_0, b2i_1, w32_id, Classical.not_not, not_true_eq_false, not_false_eq_true] at h36
        refine Ex_step (tk_M_setsOf rfl) ?_
        refine Ex_step (tk_M_setsOf rfl) ⟨rfl, ?_⟩
        exact h q
      · try simp (disch := omega) only [cmpI, w32_b2i, b2i_0, b2i_1, w32_id, Classical.not_not, not_true_eq_false, not_false_eq_true] at h36
        omega
    | succ r ih =>
      intro y q l5 l6 hy
      have h122 : ∀ (q : Nat → Int) (l5 l6 : Option AV), Ex (d + 4) M_setsOf 122 [some (vR aM), some (vI i), some (vI (b2i dk)), some (vI (stR (A 3) dd dk y w (stA (A 3) dd dk w y s0)).1), some (vI (y : Int)), l5, l6] [] (MS m I (F2 21 22 A (stR (A 3) dd dk y w (stA (A 3) dd dk w y s0)).2 q) L) Q := by
        intro q l5 l6
        have hnx := ih (y + 1) q l5 l6 (by omega)
        refine Ex_step (tk_M_setsOf rfl) ?_
        refine Ex_step (tk_M_setsOf rfl) ?_
        exact hnx
      have h42 := hrow y (stA (A 3) dd dk w y s0) (by omega) (stA_BE hW hwe hB0 y (by omega)) h122 w 0 q l6 (by omega)
      refine Ex_step (tk_M_setsOf rfl) ?_
      refine Ex_step (tk_M_setsOf rfl) ?_
      refine Ex_step (tk_M_setsOf rfl) ?_
      refine Ex_cV0 (av := [vI i]) (tk_M_setsOf rfl) mk_M_highOf ⟨rfl, rfl, by decide, rfl, Nat.le_of_ble_eq_true rfl, Nat.le_of_ble_eq_true rfl⟩ (hM.k) (fun _ h => f_highOf (A := F2 21 22 A (stA (A 3) dd dk w y s0).2 q) hM (show dd ≤ 5 by omega) hi h) ?_
      show Ex (d + 4) M_setsOf 36 _ [vI (A 3 (bD dd + 2)), vI (y : Int)] _ Q
      refine Ex_step (tk_M_setsOf rfl) ⟨fun h36 => ?_, fun h36 => ?_⟩
      · try simp (disch := omega) only [cmpI, w32_b2i, b2i_0, b2i_1, w32_id, Classical.not_not, not_true_eq_false, not_false_eq_true] at h36
        omega
      · try simp (disch := omega) only [cmpI, w32_b2i, b2i_0, b2i_1, w32_id, Classical.not_not, not_true_eq_false, not_false_eq_true] at h36
        refine Ex_step (tk_M_setsOf rfl) ?_
        refine Ex_step (tk_M_setsOf rfl) ?_
        exact h42
  have hz : ∀ (r k : Nat), k + r = 100 → Ex (d + 4) M_setsOf 5 [some (vR aM), some (vI i), some (vI (b2i dk)), some (vI 0), some (vI (k : Int)), none, none] [] (MS m I (up1 A 21 (cpK k (fun _ => 0) (A 21))) L) Q := by
    intro r
    induction r with
    | zero =>
      intro k hk
      have : k = 100 := by omega
      subst this
      have e22 : F2 21 22 A (cpK 100 (fun _ => 0) (A 21)) (A 22) = up1 A 21 (cpK 100 (fun _ => 0) (A 21)) := by
        rw [← F2_up (by decide)]
        exact up1_self rfl
      have h29 : Ex (d + 4) M_setsOf 29 [some (vR aM), some (vI i), some (vI (b2i dk)), some (vI 0), some (vI ((0 : Nat) : Int)), none, none] [] (MS m I (F2 21 22 A (cpK 100 (fun _ => 0) (A 21)) (A 22)) L) Q := by
        have h9 := hall g 0 (A 22) none none (by omega)
        rw [← hs0] at h9
        exact h9
      rw [e22] at h29
      refine Ex_step (tk_M_setsOf rfl) ?_
      refine Ex_step (tk_M_setsOf rfl) ?_
      refine Ex_step (tk_M_setsOf rfl) ⟨fun h9 => ?_, fun h9 => ?_⟩
      · replace h9 : _ := h9
        refine Ex_step (tk_M_setsOf rfl) ?_
        refine Ex_step (tk_M_setsOf rfl) ?_
        exact h29
      · replace h9 : _ := h9
        exact absurd (show w32 100 ≤ w32 100 from Int.le_refl _) h9
    | succ r ih =>
      intro k hk
      have hnx := ih (k + 1) (by omega)
      rw [← cpK_s] at hnx
      refine Ex_step (tk_M_setsOf rfl) ?_
      refine Ex_step (tk_M_setsOf rfl) ?_
      refine Ex_step (tk_M_setsOf rfl) ⟨fun h9 => ?_, fun h9 => ?_⟩
      · try simp (disch := omega) only [cmpI, w32_b2i, b2i_0, b2i_1, w32_id, Classical.not_not, not_true_eq_false, not_false_eq_true] at h9
        omega
      · try simp (disch := omega) only [cmpI, w32_b2i, b2i_0, b2i_1, w32_id, Classical.not_not, not_true_eq_false, not_false_eq_true] at h9
        refine Ex_step (tk_M_setsOf rfl) ?_
        refine gMR (tk_M_setsOf rfl) hM hM.r34 ?_
        refine Ex_step (tk_M_setsOf rfl) ?_
        refine Ex_step (tk_M_setsOf rfl) ?_
        refine tMZ (j := 21) (n := k) (tk_M_setsOf rfl) (by decide) hM.k21 hM.n21 (w32_id (by omega) (by omega)) (by omega) (Or.inl rfl) ?_
        rw [up1_at, up1_same]
        refine Ex_step (tk_M_setsOf rfl) ?_
        refine Ex_step (tk_M_setsOf rfl) ?_
        exact hnx
  have h5 := hz 100 0 (by omega)
  rw [cpK_0, up1_self (f := A) rfl] at h5
  refine Ex_step (tk_M_setsOf rfl) ?_
  refine Ex_step (tk_M_setsOf rfl) ?_
  refine Ex_step (tk_M_setsOf rfl) ?_
  refine Ex_step (tk_M_setsOf rfl) ?_
  exact h5
end MSets
