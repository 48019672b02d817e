/-! ===== the reference: edges, all of them ===== -/
section MEdge2
variable {d dd : Nat} {i : Int} {m : Mem} {I : Nat → Int} {A L : Nat → Nat → Int} {Q : Nat → Option AV → Mem → Prop}
set_option maxRecDepth 100000 in
theorem f_edgeOf (hM : MW m) (hd : dd ≤ 5) (hi : i = (dd : Int)) (hW : DsW (A 3) dd) (h : Q 0 (some (vI (edS (A 3) dd))) (MS m I A L)) : Ex (d + 3) M_edgeOf 0 [some (vR aM), some (vI i), none, none, none] [] (MS m I A L) Q := by
  have hw := hW.2.1
  have hh := hW.2.2.1
  obtain ⟨w, hwe⟩ : ∃ w : Nat, A 3 (bD dd + 1) = (w : Int) := ⟨(A 3 (bD dd + 1)).toNat, by omega⟩
  obtain ⟨g, hge⟩ : ∃ g : Nat, A 3 (bD dd + 2) = (g : Int) := ⟨(A 3 (bD dd + 2)).toNat, by omega⟩
  rw [show edS (A 3) dd = edA (A 3) dd w g by unfold edS; rw [hwe, hge]; rfl] at h
  rw [hwe] at hw
  rw [hge] at hh
  have hrow : ∀ (y : Nat) (c0 : Int), y < g → (Ex (d + 3) M_edgeOf 124 [some (vR aM), some (vI i), some (vI (c0 + edR (A 3) dd y w)), some (vI (y : Int)), some (vI (w : Int))] [] (MS m I A L) Q) → ∀ (r k : Nat), k + r = w → Ex (d + 3) M_edgeOf 16 [some (vR aM), some (vI i), some (vI (c0 + edR (A 3) dd y k)), some (vI (y : Int)), some (vI (k : Int))] [] (MS m I A L) Q := by
    intro y c0 hy h2 r
    induction r with
    | zero =>
      intro k hk
      have : k = w := by omega
      subst this
      refine Ex_step (tk_M_edgeOf rfl) ?_
      refine Ex_step (tk_M_edgeOf rfl) ?_
      refine Ex_step (tk_M_edgeOf rfl) ?_
      refine Ex_cV0 (av := [vI i]) (tk_M_edgeOf rfl) mk_M_wideOf ⟨rfl, rfl, by decide, rfl, Nat.le_of_ble_eq_true rfl, Nat.le_of_ble_eq_true rfl⟩ (hM.k) (fun _ h => f_wideOf hM hd hi h) ?_
      rw [hwe]
      refine Ex_step (tk_M_edgeOf rfl) ⟨fun h23 => ?_, fun h23 => ?_⟩
      · try simp (disch := omega) only [cmpI, w32_b2i, b2i_0, b2i_1, w32_id, Classical.not_not, not_true_eq_false, not_false_eq_true] at h23
        exact h2
      · try simp (disch := omega) only [cmpI, w32_b2i, b2i_0, b2i_1, w32_id, Classical.not_not, not_true_eq_false, not_false_eq_true] at h23
        omega
    | succ r ih =>
      intro k hk
      have hnx := ih (k + 1) (by omega)
      unfold edR at hnx
      rw [← Int.add_assoc] at hnx
      have h118 : Ex (d + 3) M_edgeOf 118 [some (vR aM), some (vI i), some (vI (c0 + edR (A 3) dd y k + edC (A 3) dd (k : Nat) (y : Nat))), some (vI (y : Int)), some (vI (k : Int))] [] (MS m I A L) Q := by
        refine Ex_step (tk_M_edgeOf rfl) ?_
        refine Ex_step (tk_M_edgeOf rfl) ?_
        exact hnx
      refine Ex_step (tk_M_edgeOf rfl) ?_
      refine Ex_step (tk_M_edgeOf rfl) ?_
      refine Ex_step (tk_M_edgeOf rfl) ?_
      refine Ex_cV0 (av := [vI i]) (tk_M_edgeOf rfl) mk_M_wideOf ⟨rfl, rfl, by decide, rfl, Nat.le_of_ble_eq_true rfl, Nat.le_of_ble_eq_true rfl⟩ (hM.k) (fun _ h => f_wideOf hM hd hi h) ?_
      rw [hwe]
      refine Ex_step (tk_M_edgeOf rfl) ⟨fun h23 => ?_, fun h23 => ?_⟩
      · try simp (disch := omega) only [cmpI, w32_b2i, b2i_0, b2i_1, w32_id, Classical.not_not, not_true_eq_false, not_false_eq_true] at h23
        omega
      · try simp (disch := omega) only [cmpI, w32_b2i, b2i_0, b2i_1, w32_id, Classical.not_not, not_true_eq_false, not_false_eq_true] at h23
        exact f_edgeC hM hd hi hW (by omega) (by omega) h118
  have hall : ∀ (r y : Nat) (l5 : Option AV), y + r = g → Ex (d + 3) M_edgeOf 4 [some (vR aM), some (vI i), some (vI (edA (A 3) dd w y)), some (vI (y : Int)), l5] [] (MS m I A L) Q := by
    intro r
    induction r with
    | zero =>
      intro y l5 hy
      have : y = g := by omega
      subst this
      refine Ex_step (tk_M_edgeOf rfl) ?_
      refine Ex_step (tk_M_edgeOf rfl) ?_
      refine Ex_step (tk_M_edgeOf rfl) ?_
      refine Ex_cV0 (av := [vI i]) (tk_M_edgeOf rfl) mk_M_highOf ⟨rfl, rfl, by decide, rfl, Nat.le_of_ble_eq_true rfl, Nat.le_of_ble_eq_true rfl⟩ (hM.k) (fun _ h => f_highOf hM hd hi h) ?_
      rw [hge]
      refine Ex_step (tk_M_edgeOf rfl) ⟨fun h10 => ?_, fun h10 => ?_⟩
      · try simp (disch := omega) only [cmpI, w32_b2i, b2i_0, b2i_1, w32_id, Classical.not_not, not_true_eq_false, not_false_eq_true] at h10
        refine Ex_step (tk_M_edgeOf rfl) ?_
        refine Ex_step (tk_M_edgeOf rfl) ⟨rfl, ?_⟩
        exact h
      · try simp (disch := omega) only [cmpI, w32_b2i, b2i_0, b2i_1, w32_id, Classical.not_not, not_true_eq_false, not_false_eq_true] at h10
        omega
    | succ r ih =>
      intro y l5 hy
      have hnx := ih (y + 1) (some (vI (w : Int))) (by omega)
      unfold edA at hnx
      have h124 : Ex (d + 3) M_edgeOf 124 [some (vR aM), some (vI i), some (vI (edA (A 3) dd w y + edR (A 3) dd y w)), some (vI (y : Int)), some (vI (w : Int))] [] (MS m I A L) Q := by
        refine Ex_step (tk_M_edgeOf rfl) ?_
        refine Ex_step (tk_M_edgeOf rfl) ?_
        exact hnx
      have h16 := hrow y (edA (A 3) dd w y) (by omega) h124 w 0 (by omega)
      rw [show edR (A 3) dd y 0 = 0 from rfl, Int.add_zero] at h16
      refine Ex_step (tk_M_edgeOf rfl) ?_
      refine Ex_step (tk_M_edgeOf rfl) ?_
      refine Ex_step (tk_M_edgeOf rfl) ?_
      refine Ex_cV0 (av := [vI i]) (tk_M_edgeOf rfl) mk_M_highOf ⟨rfl, rfl, by decide, rfl, Nat.le_of_ble_eq_true rfl, Nat.le_of_ble_eq_true rfl⟩ (hM.k) (fun _ h => f_highOf hM hd hi h) ?_
      rw [hge]
      refine Ex_step (tk_M_edgeOf rfl) ⟨fun h10 => ?_, fun h10 => ?_⟩
      · try simp (disch := omega) only [cmpI, w32_b2i, b2i_0, b2i_1, w32_id, Classical.not_not, not_true_eq_false, not_false_eq_true] at h10
        omega
      · try simp (disch := omega) only [cmpI, w32_b2i, b2i_0, b2i_1, w32_id, Classical.not_not, not_true_eq_false, not_false_eq_true] at h10
        refine Ex_step (tk_M_edgeOf rfl) ?_
        refine Ex_step (tk_M_edgeOf rfl) ?_
        exact h16
  refine Ex_step (tk_M_edgeOf rfl) ?_
  refine Ex_step (tk_M_edgeOf rfl) ?_
  refine Ex_step (tk_M_edgeOf rfl) ?_
  refine Ex_step (tk_M_edgeOf rfl) ?_
  exact hall g 0 none (by omega)
end MEdge2
