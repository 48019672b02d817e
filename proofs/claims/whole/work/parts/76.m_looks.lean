/-! ===== the reference: looks that come again ===== -/
def lkQ (T : Nat → Int) (dd t : Nat) (y x : Int) : Prop := tW (T (bD dd + 1)) (T (bD dd + 2)) t = T (bD dd + 1) ∧ ∀ X Y : Int, 0 ≤ X → X < T (bD dd + 1) → 0 ≤ Y → (Y < y ∨ Y = y ∧ X < x) → tsr T dd t X Y = srt T dd X Y
/-- a turn by which the grid is as it was -/
def lkP (T : Nat → Int) (dd t : Nat) : Prop := tW (T (bD dd + 1)) (T (bD dd + 2)) t = T (bD dd + 1) ∧ ∀ X Y : Int, 0 ≤ X → X < T (bD dd + 1) → 0 ≤ Y → Y < T (bD dd + 2) → tsr T dd t X Y = srt T dd X Y
noncomputable def lkB (T : Nat → Int) (dd t : Nat) : Int := haveI := Classical.propDecidable (lkP T dd t); if lkP T dd t then iShl 1 (t : Int) else 0
set_option maxRecDepth 100000 in
theorem lkB_t {T : Nat → Int} {dd t : Nat} (h : lkP T dd t) : lkB T dd t = iShl 1 (t : Int) := if_pos h
set_option maxRecDepth 100000 in
theorem lkB_f {T : Nat → Int} {dd t : Nat} (h : ¬ lkP T dd t) : lkB T dd t = 0 := if_neg h
noncomputable def lkS (T : Nat → Int) (dd : Nat) : Nat → Int
  | 0 => 0
  | t + 1 => iOr (lkS T dd t) (lkB T dd (t + 1))
section MLooks
variable {d dd nn t : Nat} {i : Int} {m : Mem} {I : Nat → Int} {A L : Nat → Nat → Int} {Q : Nat → Option AV → Mem → Prop}
set_option maxRecDepth 100000 in
theorem f_lookT (hM : MW m) (hd : dd ≤ 5) (hi : i = (dd : Int)) (hW : DsW (A 3) dd) (ht : t ≤ 7) (h15 : I 15 = tW (A 3 (bD dd + 1)) (A 3 (bD dd + 2)) t) (hT : ∀ X Y : Int, 0 ≤ X → X < tW (A 3 (bD dd + 1)) (A 3 (bD dd + 2)) t → 0 ≤ Y → Y < tH (A 3 (bD dd + 1)) (A 3 (bD dd + 2)) t → A 14 (10 * Y + X).toNat = tsr (A 3) dd t X Y) {s : Int} {l4 l5 l6 : Option AV} (h : ∀ l4 l5 l6 : Option AV, Ex (d + 3) M_looksOf 130 [some (vR aM), some (vI i), some (vI (iOr s (lkB (A 3) dd t))), some (vI (t : Int)), l4, l5, l6] [] (MS m I A L) Q) : Ex (d + 3) M_looksOf 16 [some (vR aM), some (vI i), some (vI s), some (vI (t : Int)), l4, l5, l6] [] (MS m I A L) Q := by
  have hw := hW.2.1
  have hh := hW.2.2.1
  have cw := tW_c (A 3 (bD dd + 1)) (A 3 (bD dd + 2)) t
  have hwh := tWH t hw hh
  have h115 : ∀ (v : Int) (l5 l6 : Option AV), (v = 1 ∧ lkP (A 3) dd t ∨ v = 0 ∧ ¬ lkP (A 3) dd t) → Ex (d + 3) M_looksOf 115 [some (vR aM), some (vI i), some (vI s), some (vI (t : Int)), some (vI v), l5, l6] [] (MS m I A L) Q := by
    intro v l5 l6 hv
    have ht1 : v = 1 → lkB (A 3) dd t = iShl 1 (t : Int) := fun q => lkB_t (by rcases hv with ⟨_, z⟩ | ⟨z, _⟩; exact z; omega)
    have ht0 : v = 0 → lkB (A 3) dd t = 0 := fun q => lkB_f (by rcases hv with ⟨z, _⟩ | ⟨_, z⟩; omega; exact z)
    have hv2 : v = 1 ∨ v = 0 := by rcases hv with ⟨z, _⟩ | ⟨z, _⟩; exact Or.inl z; exact Or.inr z
    have hx := h (some (vI v)) l5 l6
    clear hv
    refine Ex_step (tk_M_looksOf rfl) ?_
    refine Ex_step (tk_M_looksOf rfl) ?_
    refine Ex_step (tk_M_looksOf rfl) ⟨fun h118 => ?_, fun h118 => ?_⟩
    · try simp (disch := omega) only [cmpI, w32_b2i, b2i_0, b2i_1, w32_id, Classical.not_not, not_true_eq_false, not_false_eq_true] at h118
      rw [ht0 (by omega)] at hx
      refine Ex_step (tk_M_looksOf rfl) ?_
      refine Ex_step (tk_M_looksOf rfl) ?_
      refine Ex_step (tk_M_looksOf rfl) ?_
      exact hx
    · try simp (disch := omega) only [cmpI, w32_b2i, b2i_0, b2i_1, w32_id, Classical.not_not, not_true_eq_false, not_false_eq_true] at h118
      rw [ht1 (by omega)] at hx
      refine Ex_step (tk_M_looksOf rfl) ?_
      refine Ex_step (tk_M_looksOf rfl) ?_
      refine Ex_step (tk_M_looksOf rfl) ?_
      refine Ex_step (tk_M_looksOf rfl) ?_
      refine Ex_step (tk_M_looksOf rfl) ?_
      refine Ex_step (tk_M_looksOf rfl) ?_
      exact hx
  have hrow : ∀ (y : Nat), (y : Int) < A 3 (bD dd + 2) → tW (A 3 (bD dd + 1)) (A 3 (bD dd + 2)) t = A 3 (bD dd + 1) → (∀ (v : Int) (l6 : Option AV), (v = 1 ∧ lkQ (A 3) dd t ((y : Int) + 1) 0 ∨ v = 0 ∧ ¬ lkP (A 3) dd t) → Ex (d + 3) M_looksOf 109 [some (vR aM), some (vI i), some (vI s), some (vI (t : Int)), some (vI v), some (vI (y : Int)), l6] [] (MS m I A L) Q) → ∀ (r x : Nat) (v : Int), (x : Int) + (r : Int) = A 3 (bD dd + 1) → (v = 1 ∧ lkQ (A 3) dd t (y : Int) (x : Int) ∨ v = 0 ∧ ¬ lkP (A 3) dd t) → Ex (d + 3) M_looksOf 56 [some (vR aM), some (vI i), some (vI s), some (vI (t : Int)), some (vI v), some (vI (y : Int)), some (vI (x : Int))] [] (MS m I A L) Q := by
    intro y hy hWW h2 r
    induction r with
    | zero =>
      intro x v hx hv
      have h109 := h2 v (some (vI (x : Int))) (hv.imp (fun z => ⟨z.1, z.2.1, fun X Y a1 a2 a3 a4 => z.2.2 X Y a1 a2 a3 (by omega)⟩) id)
      refine Ex_step (tk_M_looksOf rfl) ?_
      refine Ex_step (tk_M_looksOf rfl) ?_
      refine Ex_step (tk_M_looksOf rfl) ?_
      refine Ex_cV0 (av := [vI i]) (tk_M_looksOf rfl) mk_M_wideOf ⟨rfl, rfl, by decide, rfl, Nat.le_of_ble_eq_true rfl, Nat.le_of_ble_eq_true rfl⟩ (hM.k) (fun _ h => f_wideOf hM hd hi h) ?_
      refine Ex_step (tk_M_looksOf rfl) ⟨fun h63 => ?_, fun h63 => ?_⟩
      · try simp (disch := omega) only [cmpI, w32_b2i, b2i_0, b2i_1, w32_id, Classical.not_not, not_true_eq_false, not_false_eq_true] at h63
        exact h109
      · try simp (disch := omega) only [cmpI, w32_b2i, b2i_0, b2i_1, w32_id, Classical.not_not, not_true_eq_false, not_false_eq_true] at h63
        omega
    | succ r ih =>
      intro x v hx hv
      have hc : A 14 (10 * y + x) = tsr (A 3) dd t (x : Int) (y : Int) := by
        have := hT (x : Int) (y : Int) (by omega) (by omega) (by omega) (by omega)
        rwa [show (10 * (y : Int) + (x : Int)).toNat = 10 * y + x by omega] at this
      have r1 := tsr_r t hW (x : Int) (y : Int)
      have r2 := srt_r hW (x : Int) (y : Int)
      have hv2 : v = 1 ∨ v = 0 := by rcases hv with ⟨z, _⟩ | ⟨z, _⟩; exact Or.inl z; exact Or.inr z
      have h101 : ∀ u : Int, (u = 1 ∧ v = 1 ∧ tsr (A 3) dd t (x : Int) (y : Int) = srt (A 3) dd (x : Int) (y : Int) ∨ u = 0 ∧ ¬ (v = 1 ∧ tsr (A 3) dd t (x : Int) (y : Int) = srt (A 3) dd (x : Int) (y : Int))) → Ex (d + 3) M_looksOf 101 [some (vR aM), some (vI i), some (vI s), some (vI (t : Int)), some (vI v), some (vI (y : Int)), some (vI (x : Int))] [vI u] (MS m I A L) Q := by
        intro u hu
        have hnx := ih (x + 1) u (by omega) (by
          rcases hu with ⟨u1, u2, u3⟩ | ⟨u1, u2⟩
          · refine Or.inl ⟨u1, ?_⟩
            rcases hv with ⟨z1, z2⟩ | ⟨z1, z2⟩
            · refine ⟨z2.1, fun X Y a1 a2 a3 a4 => ?_⟩
              by_cases q : X = (x : Int) ∧ Y = (y : Int)
              · rw [q.1, q.2]; exact u3
              · exact z2.2 X Y a1 a2 a3 (by omega)
            · omega
          · refine Or.inr ⟨u1, fun z => ?_⟩
            rcases hv with ⟨z1, z2⟩ | ⟨z1, z2⟩
            · exact u2 ⟨z1, z.2 _ _ (by omega) (by omega) (by omega) (by omega)⟩
            · exact z2 z)
        refine Ex_step (tk_M_looksOf rfl) ?_
        refine Ex_step (tk_M_looksOf rfl) ?_
        refine Ex_step (tk_M_looksOf rfl) ?_
        exact hnx
      clear hv
      refine Ex_step (tk_M_looksOf rfl) ?_
      refine Ex_step (tk_M_looksOf rfl) ?_
      refine Ex_step (tk_M_looksOf rfl) ?_
      refine Ex_cV0 (av := [vI i]) (tk_M_looksOf rfl) mk_M_wideOf ⟨rfl, rfl, by decide, rfl, Nat.le_of_ble_eq_true rfl, Nat.le_of_ble_eq_true rfl⟩ (hM.k) (fun _ h => f_wideOf hM hd hi h) ?_
      refine Ex_step (tk_M_looksOf rfl) ⟨fun h63 => ?_, fun h63 => ?_⟩
      · try simp (disch := omega) only [cmpI, w32_b2i, b2i_0, b2i_1, w32_id, Classical.not_not, not_true_eq_false, not_false_eq_true] at h63
        omega
      · try simp (disch := omega) only [cmpI, w32_b2i, b2i_0, b2i_1, w32_id, Classical.not_not, not_true_eq_false, not_false_eq_true] at h63
        refine Ex_step (tk_M_looksOf rfl) ?_
        refine Ex_step (tk_M_looksOf rfl) ⟨fun h68 => ?_, fun h68 => ?_⟩
        · try simp (disch := omega) only [cmpI, w32_b2i, b2i_0, b2i_1, w32_id, Classical.not_not, not_true_eq_false, not_false_eq_true] at h68
          have hx := h101 0 (by omega)
          refine Ex_step (tk_M_looksOf rfl) ?_
          exact hx
        · try simp (disch := omega) only [cmpI, w32_b2i, b2i_0, b2i_1, w32_id, Classical.not_not, not_true_eq_false, not_false_eq_true] at h68
          refine Ex_step (tk_M_looksOf rfl) ?_
          refine gMR (tk_M_looksOf rfl) hM hM.r17 ?_
          refine Ex_step (tk_M_looksOf rfl) ?_
          refine Ex_step (tk_M_looksOf rfl) ?_
          refine Ex_step (tk_M_looksOf rfl) ?_
          refine Ex_step (tk_M_looksOf rfl) ?_
          refine Ex_step (tk_M_looksOf rfl) ?_
          refine lMI (j := 14) (n := 10 * y + x) (tk_M_looksOf rfl) (by decide) hM.k14 hM.n14 (by rw [w32_id (by omega) (by omega)]; omega) (by omega) ?_
          rw [hc]
          refine Ex_step (tk_M_looksOf rfl) ?_
          refine Ex_step (tk_M_looksOf rfl) ?_
          refine Ex_step (tk_M_looksOf rfl) ?_
          refine Ex_step (tk_M_looksOf rfl) ?_
          refine Ex_cV0 (av := [vI i, vI (x : Int), vI (y : Int)]) (tk_M_looksOf rfl) mk_M_sortOf ⟨rfl, rfl, by decide, rfl, Nat.le_of_ble_eq_true rfl, Nat.le_of_ble_eq_true rfl⟩ (hM.k) (fun _ h => f_sortOf hM hd hi hW (by unfold okI; omega) (by unfold okI; omega) h) ?_
          refine Ex_step (tk_M_looksOf rfl) ⟨fun h93 => ?_, fun h93 => ?_⟩
          · try simp (disch := omega) only [cmpI, w32_b2i, b2i_0, b2i_1, w32_id, Classical.not_not, not_true_eq_false, not_false_eq_true] at h93
            have hx := h101 0 (by omega)
            refine Ex_step (tk_M_looksOf rfl) ?_
            exact hx
          · try simp (disch := omega) only [cmpI, w32_b2i, b2i_0, b2i_1, w32_id, Classical.not_not, not_true_eq_false, not_false_eq_true] at h93
            have hx := h101 1 (by omega)
            refine Ex_step (tk_M_looksOf rfl) ?_
            refine Ex_step (tk_M_looksOf rfl) ?_
            exact hx
  have hall : ∀ (r y : Nat) (v : Int) (l6 : Option AV), (y : Int) + (r : Int) = A 3 (bD dd + 2) → (v = 1 ∧ lkQ (A 3) dd t (y : Int) 0 ∨ v = 0 ∧ ¬ lkP (A 3) dd t) → Ex (d + 3) M_looksOf 38 [some (vR aM), some (vI i), some (vI s), some (vI (t : Int)), some (vI v), some (vI (y : Int)), l6] [] (MS m I A L) Q := by
    intro r
    induction r with
    | zero =>
      intro y v l6 hy hv
      have hx := h115 v (some (vI (y : Int))) l6 (hv.imp (fun z => ⟨z.1, z.2.1, fun X Y a1 a2 a3 a4 => z.2.2 X Y a1 a2 a3 (by omega)⟩) id)
      refine Ex_step (tk_M_looksOf rfl) ?_
      refine Ex_step (tk_M_looksOf rfl) ?_
      refine Ex_step (tk_M_looksOf rfl) ?_
      refine Ex_cV0 (av := [vI i]) (tk_M_looksOf rfl) mk_M_highOf ⟨rfl, rfl, by decide, rfl, Nat.le_of_ble_eq_true rfl, Nat.le_of_ble_eq_true rfl⟩ (hM.k) (fun _ h => f_highOf hM hd hi h) ?_
      refine Ex_step (tk_M_looksOf rfl) ⟨fun h45 => ?_, fun h45 => ?_⟩
      · try simp (disch := omega) only [cmpI, w32_b2i, b2i_0, b2i_1, w32_id, Classical.not_not, not_true_eq_false, not_false_eq_true] at h45
        exact hx
      · try simp (disch := omega) only [cmpI, w32_b2i, b2i_0, b2i_1, w32_id, Classical.not_not, not_true_eq_false, not_false_eq_true] at h45
        omega
    | succ r ih =>
      intro y v l6 hy hv
      have h109 : ∀ (v : Int) (l6 : Option AV), (v = 1 ∧ lkQ (A 3) dd t ((y : Int) + 1) 0 ∨ v = 0 ∧ ¬ lkP (A 3) dd t) → Ex (d + 3) M_looksOf 109 [some (vR aM), some (vI i), some (vI s), some (vI (t : Int)), some (vI v), some (vI (y : Int)), l6] [] (MS m I A L) Q := by
        intro v l6 hv
        have hnx := ih (y + 1) v l6 (by omega) hv
        refine Ex_step (tk_M_looksOf rfl) ?_
        refine Ex_step (tk_M_looksOf rfl) ?_
        exact hnx
      have hx : v = 0 → Ex (d + 3) M_looksOf 115 [some (vR aM), some (vI i), some (vI s), some (vI (t : Int)), some (vI v), some (vI (y : Int)), l6] [] (MS m I A L) Q := fun z => h115 v (some (vI (y : Int))) l6 (Or.inr (by rcases hv with ⟨z1, z2⟩ | z1; omega; exact z1))
      have hv2 : v = 1 ∨ v = 0 := by rcases hv with ⟨z, _⟩ | ⟨z, _⟩; exact Or.inl z; exact Or.inr z
      obtain ⟨w, hwe⟩ : ∃ w : Nat, (w : Int) = A 3 (bD dd + 1) := ⟨(A 3 (bD dd + 1)).toNat, by omega⟩
      have h56 : v = 1 → Ex (d + 3) M_looksOf 56 [some (vR aM), some (vI i), some (vI s), some (vI (t : Int)), some (vI v), some (vI (y : Int)), some (vI ((0 : Nat) : Int))] [] (MS m I A L) Q := by
        intro z
        rcases hv with ⟨z1, z2⟩ | ⟨z1, z2⟩
        · exact hrow y (by omega) z2.1 h109 w 0 v (by omega) (Or.inl ⟨z1, z2⟩)
        · omega
      clear hv
      refine Ex_step (tk_M_looksOf rfl) ?_
      refine Ex_step (tk_M_looksOf rfl) ?_
      refine Ex_step (tk_M_looksOf rfl) ?_
      refine Ex_cV0 (av := [vI i]) (tk_M_looksOf rfl) mk_M_highOf ⟨rfl, rfl, by decide, rfl, Nat.le_of_ble_eq_true rfl, Nat.le_of_ble_eq_true rfl⟩ (hM.k) (fun _ h => f_highOf hM hd hi h) ?_
      refine Ex_step (tk_M_looksOf rfl) ⟨fun h45 => ?_, fun h45 => ?_⟩
      · try simp (disch := omega) only [cmpI, w32_b2i, b2i_0, b2i_1, w32_id, Classical.not_not, not_true_eq_false, not_false_eq_true] at h45
        first | exact hx (by omega) | omega
      · try simp (disch := omega) only [cmpI, w32_b2i, b2i_0, b2i_1, w32_id, Classical.not_not, not_true_eq_false, not_false_eq_true] at h45
        refine Ex_step (tk_M_looksOf rfl) ?_
        refine Ex_step (tk_M_looksOf rfl) ⟨fun h50 => ?_, fun h50 => ?_⟩
        · try simp (disch := omega) only [cmpI, w32_b2i, b2i_0, b2i_1, w32_id, Classical.not_not, not_true_eq_false, not_false_eq_true] at h50
          first | exact hx (by omega) | omega
        · try simp (disch := omega) only [cmpI, w32_b2i, b2i_0, b2i_1, w32_id, Classical.not_not, not_true_eq_false, not_false_eq_true] at h50
          refine Ex_step (tk_M_looksOf rfl) ?_
          refine Ex_step (tk_M_looksOf rfl) ?_
          exact h56 (by omega)
  have h33 : ∀ v : Int, (v = 1 ∧ tW (A 3 (bD dd + 1)) (A 3 (bD dd + 2)) t = A 3 (bD dd + 1) ∨ v = 0 ∧ ¬ tW (A 3 (bD dd + 1)) (A 3 (bD dd + 2)) t = A 3 (bD dd + 1)) → Ex (d + 3) M_looksOf 33 [some (vR aM), some (vI i), some (vI s), some (vI (t : Int)), l4, l5, l6] [vI v] (MS m I A L) Q := by
    intro v hv
    obtain ⟨g, hge⟩ : ∃ g : Nat, (g : Int) = A 3 (bD dd + 2) := ⟨(A 3 (bD dd + 2)).toNat, by omega⟩
    have h38 := hall g 0 v l6 (by omega) (by
      rcases hv with ⟨z1, z2⟩ | ⟨z1, z2⟩
      · exact Or.inl ⟨z1, z2, fun X Y a1 a2 a3 a4 => by omega⟩
      · exact Or.inr ⟨z1, fun z => z2 z.1⟩)
    refine Ex_step (tk_M_looksOf rfl) ?_
    refine Ex_step (tk_M_looksOf rfl) ?_
    refine Ex_step (tk_M_looksOf rfl) ?_
    exact h38
  refine Ex_step (tk_M_looksOf rfl) ?_
  refine gMI (tk_M_looksOf rfl) hM ?_
  rw [h15]
  refine Ex_step (tk_M_looksOf rfl) ?_
  refine Ex_step (tk_M_looksOf rfl) ?_
  refine Ex_cV0 (av := [vI i]) (tk_M_looksOf rfl) mk_M_wideOf ⟨rfl, rfl, by decide, rfl, Nat.le_of_ble_eq_true rfl, Nat.le_of_ble_eq_true rfl⟩ (hM.k) (fun _ h => f_wideOf hM hd hi h) ?_
  refine Ex_step (tk_M_looksOf rfl) ⟨fun h25 => ?_, fun h25 => ?_⟩
  · try simp (disch := omega) only [cmpI, w32_b2i, b2i_0, b2i_1, w32_id, Classical.not_not, not_true_eq_false, not_false_eq_true] at h25
    have hx := h33 0 (by omega)
    refine Ex_step (tk_M_looksOf rfl) ?_
    exact hx
  · try simp (disch := omega) only [cmpI, w32_b2i, b2i_0, b2i_1, w32_id, Classical.not_not, not_true_eq_false, not_false_eq_true] at h25
    have hx := h33 1 (by omega)
    refine Ex_step (tk_M_looksOf rfl) ?_
    refine Ex_step (tk_M_looksOf rfl) ?_
    exact hx
set_option maxRecDepth 100000 in
theorem f_looksOf (hM : MW m) (hd : dd ≤ 5) (hi : i = (dd : Int)) (hW : DsW (A 3) dd) (h : ∀ (I' r : Nat → Int), KpI I I' → Q 0 (some (vI (lkS (A 3) dd 7))) (MS m I' (up1 A 14 r) L)) : Ex (d + 3) M_looksOf 0 [some (vR aM), some (vI i), none, none, none, none, none] [] (MS m I A L) Q := by
  have hloop : ∀ (r t : Nat) (I1 rr : Nat → Int) (l4 l5 l6 : Option AV), t + r = 7 → KpI I I1 → Ex (d + 3) M_looksOf 4 [some (vR aM), some (vI i), some (vI (lkS (A 3) dd t)), some (vI ((t : Int) + 1)), l4, l5, l6] [] (MS m I1 (up1 A 14 rr) L) Q := by
    intro r
    induction r with
    | zero =>
      intro t I1 rr l4 l5 l6 ht k1
      have : t = 7 := by omega
      subst this
      refine Ex_step (tk_M_looksOf rfl) ?_
      refine Ex_step (tk_M_looksOf rfl) ?_
      refine Ex_step (tk_M_looksOf rfl) ⟨fun h7 => ?_, fun h7 => ?_⟩
      · replace h7 : _ := h7
        refine Ex_step (tk_M_looksOf rfl) ?_
        refine Ex_step (tk_M_looksOf rfl) ⟨rfl, ?_⟩
        exact h _ _ k1
      · replace h7 : _ := h7
        exact absurd (show w32 8 ≤ w32 8 from Int.le_refl _) h7
    | succ r ih =>
      intro t I1 rr l4 l5 l6 ht k1
      have h130 : ∀ (I2 rr : Nat → Int) (l4 l5 l6 : Option AV), KpI I I2 → Ex (d + 3) M_looksOf 130 [some (vR aM), some (vI i), some (vI (iOr (lkS (A 3) dd t) (lkB (A 3) dd (t + 1)))), some (vI ((t : Int) + 1)), l4, l5, l6] [] (MS m I2 (up1 A 14 rr) L) Q := by
        intro I2 rr l4 l5 l6 k2
        have hnx := ih (t + 1) I2 rr l4 l5 l6 (by omega) k2
        refine Ex_step (tk_M_looksOf rfl) ?_
        refine Ex_step (tk_M_looksOf rfl) ?_
        exact hnx
      refine Ex_step (tk_M_looksOf rfl) ?_
      refine Ex_step (tk_M_looksOf rfl) ?_
      refine Ex_step (tk_M_looksOf rfl) ⟨fun h7 => ?_, fun h7 => ?_⟩
      · try simp (disch := omega) only [cmpI, w32_b2i, b2i_0, b2i_1, w32_id, Classical.not_not, not_true_eq_false, not_false_eq_true] at h7
        omega
      · try simp (disch := omega) only [cmpI, w32_b2i, b2i_0, b2i_1, w32_id, Classical.not_not, not_true_eq_false, not_false_eq_true] at h7
        refine Ex_step (tk_M_looksOf rfl) ?_
        refine Ex_step (tk_M_looksOf rfl) ?_
        refine Ex_step (tk_M_looksOf rfl) ?_
        refine Ex_cVK (av := [vI i, vI ((t : Int) + 1)]) (tk_M_looksOf rfl) mk_M_turns ⟨rfl, rfl, by decide, rfl, Nat.le_of_ble_eq_true rfl, Nat.le_of_ble_eq_true rfl⟩ (hM.k) (f_turns (t := t + 1) (A := up1 A 14 rr) hM hd hi hW (by omega) (fun r2 hr => ⟨rfl, ?_⟩))
        rw [up1_same]
        exact f_lookT (t := t + 1) (A := up1 A 14 r2) hM hd hi hW (by omega) (F2_a _ _ _ _ _) (fun X Y a1 a2 a3 a4 => by rw [up1_at]; exact hr X Y a1 a2 a3 a4) (fun l4 l5 l6 => h130 _ _ _ _ _ (k1.f2 (by decide) (by decide) _ _))
  have h4 := hloop 7 0 I (A 14) none none none (by omega) (KpI.rf I)
  rw [up1_self (f := A) rfl] at h4
  refine Ex_step (tk_M_looksOf rfl) ?_
  refine Ex_step (tk_M_looksOf rfl) ?_
  refine Ex_step (tk_M_looksOf rfl) ?_
  refine Ex_step (tk_M_looksOf rfl) ?_
  exact h4
end MLooks
