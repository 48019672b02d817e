/-! ===== the class: parts, holes ===== -/
section CSets3
variable {d b s dd : Nat} {T : Nat → Int} {m : Mem} {F A L : Nat → Nat → Int} {Q : Nat → Option AV → Mem → Prop}
set_option maxRecDepth 100000 in
theorem c_countSets {dk : Prop} [Decidable dk] (hS : SW m s) (hE : DW m b) (hsb : s + 6 ≤ b ∨ b + 3 ≤ s + 4) (hG : DG F A b (T (bD dd + 1)) (T (bD dd + 2)) (srt T dd)) (hW : DsW T dd) (be : Nat → Int) (hq : ∀ F' A' : Nat → Nat → Int, SF s F F' A A' → Q 0 (some (vI (setS T dd dk be).1)) (CM m F' A' L)) : Ex (d + 4) Shp_countSets 0 [some (vR s), some (vR b), some (vI (b2i dk)), none, none, none, none] [] (CM m F A L) Q := by
  have hw := hW.2.1
  have hh := hW.2.2.1
  have hk9 := hS.1
  have hk3 := hE.1
  have hr577 := hS.2.2.2.1
  obtain ⟨w, hwe⟩ : ∃ w : Nat, (w : Int) = T (bD dd + 1) := ⟨(T (bD dd + 1)).toNat, by omega⟩
  obtain ⟨g, hge⟩ : ∃ g : Nat, (g : Int) = T (bD dd + 2) := ⟨(T (bD dd + 2)).toNat, by omega⟩
  unfold setS at hq
  rw [show (T (bD dd + 1)).toNat = w by omega, show (T (bD dd + 2)).toNat = g by omega] at hq
  have hB0 : BE ((0, cpK 100 (fun _ => 0) be) : SSt).2 := fun k hk => Or.inl (if_pos hk)
  have hR0 : RB (up1 A (s + 4) (cpK 10 (fun _ => 0) (A (s + 4)))) s ((0, cpK 100 (fun _ => 0) be) : SSt).2 := by
    intro y hy i hi
    rw [up1_at]
    have e : cpK 10 (fun _ => 0) (A (s + 4)) y = 0 := if_pos hy
    rw [e, ib_0]
    refine (decide_eq_false (fun u => u.2 ?_)).symm
    exact if_pos (by omega)
  generalize ht : ((0, cpK 100 (fun _ => 0) be) : SSt) = t0 at *
  have h00 : t0.1 = 0 := by rw [← ht]
  have hrow : ∀ (y : Nat) (t : SSt), (y : Int) < T (bD dd + 2) → BE t.2 → (∀ (F' A' : Nat → Nat → Int) (l5 l6 : Option AV), SF s F F' A A' → RB A' s (stR T dd dk y w t).2 → Ex (d + 4) Shp_countSets 82 [some (vR s), some (vR b), some (vI (b2i dk)), some (vI (stR T dd dk y w t).1), some (vI (y : Int)), l5, l6] [] (CM m F' A' L) Q) → ∀ (r x : Nat) (F' A' : Nat → Nat → Int) (l6 : Option AV), x + r = w → SF s F F' A A' → RB A' s (stR T dd dk y x t).2 → Ex (d + 4) Shp_countSets 25 [some (vR s), some (vR b), some (vI (b2i dk)), some (vI (stR T dd dk y x t).1), some (vI (y : Int)), some (vI (x : Int)), l6] [] (CM m F' A' L) Q := by
    intro y t hy ht h2 r
    induction r with
    | zero =>
      intro x F' A' l6 hx k1 k2
      have : x = w := by omega
      subst this
      have hG2 := k1.dg hsb hG
      refine Ex_step (tk_Shp_countSets rfl) ?_
      refine Ex_step (tk_Shp_countSets rfl) ?_
      refine gCI (tk_Shp_countSets rfl) (hk3) ?_
      rw [hG2.1]
      refine Ex_step (tk_Shp_countSets rfl) ⟨fun h31 => ?_, fun h31 => ?_⟩
      · try simp (disch := omega) only [cmpI, w32_b2i, b2i_0, b2i_1, w32_id, Classical.not_not, not_true_eq_false, not_false_eq_true] at h31
        exact h2 F' A' _ _ k1 k2
      · try simp (disch := omega) only [cmpI, w32_b2i, b2i_0, b2i_1, w32_id, Classical.not_not, not_true_eq_false, not_false_eq_true] at h31
        omega
    | succ r ih =>
      intro x F' A' l6 hx k1 k2
      have hG2 := k1.dg hsb hG
      have h76 : ∀ (F2 A2 : Nat → Nat → Int) (l6 : Option AV), SF s F' F2 A' A2 → RB A2 s (stC T dd dk y x (stR T dd dk y x t)).2 → Ex (d + 4) Shp_countSets 76 [some (vR s), some (vR b), some (vI (b2i dk)), some (vI (stC T dd dk y x (stR T dd dk y x t)).1), some (vI (y : Int)), some (vI (x : Int)), l6] [] (CM m F2 A2 L) Q := by
        intro F2 A2 l6 q1 q2
        have hnx := ih (x + 1) F2 A2 l6 (by omega) (k1.tr q1) q2
        refine Ex_step (tk_Shp_countSets rfl) ?_
        refine Ex_step (tk_Shp_countSets rfl) ?_
        exact hnx
      refine Ex_step (tk_Shp_countSets rfl) ?_
      refine Ex_step (tk_Shp_countSets rfl) ?_
      refine gCI (tk_Shp_countSets rfl) (hk3) ?_
      rw [hG2.1]
      refine Ex_step (tk_Shp_countSets rfl) ⟨fun h31 => ?_, fun h31 => ?_⟩
      · try simp (disch := omega) only [cmpI, w32_b2i, b2i_0, b2i_1, w32_id, Classical.not_not, not_true_eq_false, not_false_eq_true] at h31
        omega
      · try simp (disch := omega) only [cmpI, w32_b2i, b2i_0, b2i_1, w32_id, Classical.not_not, not_true_eq_false, not_false_eq_true] at h31
        exact c_setC hS hE hsb hG2 hW (by omega) hy (stR_BE hW hy ht x (by omega)) k2 h76
  have hall : ∀ (r y : Nat) (F' A' : Nat → Nat → Int) (l5 l6 : Option AV), y + r = g → SF s F F' A A' → RB A' s (stA T dd dk w y t0).2 → Ex (d + 4) Shp_countSets 13 [some (vR s), some (vR b), some (vI (b2i dk)), some (vI (stA T dd dk w y t0).1), some (vI (y : Int)), l5, l6] [] (CM m F' A' L) Q := by
    intro r
    induction r with
    | zero =>
      intro y F' A' l5 l6 hy k1 k2
      have : y = g := by omega
      subst this
      have hG2 := k1.dg hsb hG
      refine Ex_step (tk_Shp_countSets rfl) ?_
      refine Ex_step (tk_Shp_countSets rfl) ?_
      refine gCI (tk_Shp_countSets rfl) (hk3) ?_
      rw [hG2.2.1]
      refine Ex_step (tk_Shp_countSets rfl) ⟨fun h19 => ?_, fun h19 => ?_⟩
      · try simp (disch := omega) only [cmpI, w32_b2i, b2i_0, b2i_1, w32_id, Classical.not_not, not_true_eq_false, not_false_eq_true] at h19
        refine Ex_step (tk_Shp_countSets rfl) ?_
        refine Ex_step (tk_Shp_countSets rfl) ⟨rfl, ?_⟩
        exact hq F' A' k1
      · try simp (disch := omega) only [cmpI, w32_b2i, b2i_0, b2i_1, w32_id, Classical.not_not, not_true_eq_false, not_false_eq_true] at h19
        omega
    | succ r ih =>
      intro y F' A' l5 l6 hy k1 k2
      have hG2 := k1.dg hsb hG
      have h82 : ∀ (F2 A2 : Nat → Nat → Int) (l5 l6 : Option AV), SF s F F2 A A2 → RB A2 s (stR T dd dk y w (stA T dd dk w y t0)).2 → Ex (d + 4) Shp_countSets 82 [some (vR s), some (vR b), some (vI (b2i dk)), some (vI (stR T dd dk y w (stA T dd dk w y t0)).1), some (vI (y : Int)), l5, l6] [] (CM m F2 A2 L) Q := by
        intro F2 A2 l5 l6 q1 q2
        have hnx := ih (y + 1) F2 A2 l5 l6 (by omega) q1 q2
        refine Ex_step (tk_Shp_countSets rfl) ?_
        refine Ex_step (tk_Shp_countSets rfl) ?_
        exact hnx
      have h25 := hrow y (stA T dd dk w y t0) (by omega) (stA_BE hW hwe hB0 y (by omega)) h82 w 0 F' A' l6 (by omega) k1 k2
      refine Ex_step (tk_Shp_countSets rfl) ?_
      refine Ex_step (tk_Shp_countSets rfl) ?_
      refine gCI (tk_Shp_countSets rfl) (hk3) ?_
      rw [hG2.2.1]
      refine Ex_step (tk_Shp_countSets rfl) ⟨fun h19 => ?_, fun h19 => ?_⟩
      · try simp (disch := omega) only [cmpI, w32_b2i, b2i_0, b2i_1, w32_id, Classical.not_not, not_true_eq_false, not_false_eq_true] at h19
        omega
      · try simp (disch := omega) only [cmpI, w32_b2i, b2i_0, b2i_1, w32_id, Classical.not_not, not_true_eq_false, not_false_eq_true] at h19
        refine Ex_step (tk_Shp_countSets rfl) ?_
        refine Ex_step (tk_Shp_countSets rfl) ?_
        exact h25
  refine Ex_step (tk_Shp_countSets rfl) ?_
  refine gCR (tk_Shp_countSets rfl) (hk9) (hr577) ?_
  refine Ex_step (tk_Shp_countSets rfl) ?_
  refine Ex_cS0 (av := [vR (s + 4), vI 0]) (tk_Shp_countSets rfl) mk_Arr_fill ⟨rfl, by decide, rfl, rfl, rfl, Nat.le_of_ble_eq_true rfl, Nat.le_of_ble_eq_true rfl⟩ (fun _ h => c_fill hS.2.2.2.2.1 (by decide) h) ?_
  refine Ex_step (tk_Shp_countSets rfl) ?_
  refine Ex_step (tk_Shp_countSets rfl) ?_
  refine Ex_step (tk_Shp_countSets rfl) ?_
  refine Ex_step (tk_Shp_countSets rfl) ?_
  have h13 := hall g 0 F (up1 A (s + 4) (cpK 10 (fun _ => 0) (A (s + 4)))) none none (by omega) ⟨fun _ _ _ => rfl, fun j q1 _ => up1_ne _ _ q1⟩ hR0
  rw [show stA T dd dk w 0 t0 = t0 from rfl, h00] at h13
  exact h13
set_option maxRecDepth 100000 in
theorem c_partsOf (hS : SW m s) (hE : DW m b) (hsb : s + 6 ≤ b ∨ b + 3 ≤ s + 4) (hG : DG F A b (T (bD dd + 1)) (T (bD dd + 2)) (srt T dd)) (hW : DsW T dd) (be : Nat → Int) (hq : ∀ F' A' : Nat → Nat → Int, SF s F F' A A' → Q 0 (some (vI (setS T dd True be).1)) (CM m F' A' L)) : Ex (d + 5) Shp_partsOf 0 [some (vR s), some (vR b)] [] (CM m F A L) Q := by
  refine Ex_step (tk_Shp_partsOf rfl) ?_
  refine Ex_step (tk_Shp_partsOf rfl) ?_
  refine Ex_step (tk_Shp_partsOf rfl) ?_
  refine Ex_cVK (av := [vR b, vI 1]) (tk_Shp_partsOf rfl) mk_Shp_countSets ⟨rfl, rfl, by decide, rfl, Nat.le_of_ble_eq_true rfl, Nat.le_of_ble_eq_true rfl⟩ (hS.1) (c_countSets (dk := True) hS hE hsb hG hW be (fun F' A' k1 => ⟨rfl, ?_⟩))
  refine Ex_step (tk_Shp_partsOf rfl) ⟨rfl, ?_⟩
  exact hq F' A' k1
set_option maxRecDepth 100000 in
theorem c_holesOf (hS : SW m s) (hE : DW m b) (hsb : s + 6 ≤ b ∨ b + 3 ≤ s + 4) (hG : DG F A b (T (bD dd + 1)) (T (bD dd + 2)) (srt T dd)) (hW : DsW T dd) (be : Nat → Int) (hq : ∀ F' A' : Nat → Nat → Int, SF s F F' A A' → Q 0 (some (vI (setS T dd False be).1)) (CM m F' A' L)) : Ex (d + 5) Shp_holesOf 0 [some (vR s), some (vR b)] [] (CM m F A L) Q := by
  refine Ex_step (tk_Shp_holesOf rfl) ?_
  refine Ex_step (tk_Shp_holesOf rfl) ?_
  refine Ex_step (tk_Shp_holesOf rfl) ?_
  refine Ex_cVK (av := [vR b, vI 0]) (tk_Shp_holesOf rfl) mk_Shp_countSets ⟨rfl, rfl, by decide, rfl, Nat.le_of_ble_eq_true rfl, Nat.le_of_ble_eq_true rfl⟩ (hS.1) (c_countSets (dk := False) hS hE hsb hG hW be (fun F' A' k1 => ⟨rfl, ?_⟩))
  refine Ex_step (tk_Shp_holesOf rfl) ⟨rfl, ?_⟩
  exact hq F' A' k1
end CSets3
