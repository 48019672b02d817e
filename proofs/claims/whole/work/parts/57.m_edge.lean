/-! ===== the reference: edges ===== -/
abbrev dkP (T : Nat → Int) (dd : Nat) (x y : Int) : Prop := srt T dd x y = 1 ∨ srt T dd x y = 3
def lit (T : Nat → Int) (dd : Nat) (x y : Int) : Int := if dkP T dd x y then 0 else 1
def edC (T : Nat → Int) (dd : Nat) (x y : Int) : Int := if dkP T dd x y then lit T dd (x - 1) y + lit T dd (x + 1) y + lit T dd x (y - 1) + lit T dd x (y + 1) else 0
def edR (T : Nat → Int) (dd y : Nat) : Nat → Int
  | 0 => 0
  | k + 1 => edR T dd y k + edC T dd (k : Nat) (y : Nat)
def edA (T : Nat → Int) (dd w : Nat) : Nat → Int
  | 0 => 0
  | y + 1 => edA T dd w y + edR T dd y w
def edS (T : Nat → Int) (dd : Nat) : Int := edA T dd (T (bD dd + 1)).toNat (T (bD dd + 2)).toNat
section MEdge
variable {d dd : Nat} {i : Int} {m : Mem} {I : Nat → Int} {A L : Nat → Nat → Int} {Q : Nat → Option AV → Mem → Prop}
set_option maxRecDepth 100000 in
theorem f_edgeC (hM : MW m) (hd : dd ≤ 5) (hi : i = (dd : Int)) (hW : DsW (A 3) dd) {c0 x z : Int} (hx : 0 ≤ x ∧ x ≤ 9) (hz : 0 ≤ z ∧ z ≤ 9) (h : Ex (d + 3) M_edgeOf 118 [some (vR aM), some (vI i), some (vI (c0 + edC (A 3) dd x z)), some (vI z), some (vI x)] [] (MS m I A L) Q) : Ex (d + 3) M_edgeOf 26 [some (vR aM), some (vI i), some (vI c0), some (vI z), some (vI x)] [] (MS m I A L) Q := by
  have o1 : okI x := by unfold okI; omega
  have o2 : okI z := by unfold okI; omega
  have o3 : okI (x - 1) := by unfold okI; omega
  have o4 : okI (x + 1) := by unfold okI; omega
  have o5 : okI (z - 1) := by unfold okI; omega
  have o6 : okI (z + 1) := by unfold okI; omega
  unfold edC at h
  by_cases hq : dkP (A 3) dd x z
  · rw [if_pos hq] at h
    have h115 : ∀ v, v = lit (A 3) dd x (z + 1) → Ex (d + 3) M_edgeOf 115 [some (vR aM), some (vI i), some (vI c0), some (vI z), some (vI x)] [vI v, vI (lit (A 3) dd (x - 1) z + lit (A 3) dd (x + 1) z + lit (A 3) dd x (z - 1)), vI c0] (MS m I A L) Q := by
      intro v hv
      subst hv
      refine Ex_step (tk_M_edgeOf rfl) ?_
      refine Ex_step (tk_M_edgeOf rfl) ?_
      refine Ex_step (tk_M_edgeOf rfl) ?_
      exact h
    have h96 : ∀ v, v = lit (A 3) dd x (z - 1) → Ex (d + 3) M_edgeOf 96 [some (vR aM), some (vI i), some (vI c0), some (vI z), some (vI x)] [vI v, vI (lit (A 3) dd (x - 1) z + lit (A 3) dd (x + 1) z), vI c0] (MS m I A L) Q := by
      intro v hv
      subst hv
      refine Ex_step (tk_M_edgeOf rfl) ?_
      refine Ex_step (tk_M_edgeOf rfl) ?_
      refine Ex_step (tk_M_edgeOf rfl) ?_
      refine Ex_step (tk_M_edgeOf rfl) ?_
      refine Ex_step (tk_M_edgeOf rfl) ?_
      refine Ex_step (tk_M_edgeOf rfl) ?_
      refine Ex_step (tk_M_edgeOf rfl) ?_
      refine Ex_cV0 (av := [vI i, vI x, vI (z + 1)]) (tk_M_edgeOf rfl) mk_M_isDark ⟨rfl, rfl, by decide, rfl, Nat.le_of_ble_eq_true rfl, Nat.le_of_ble_eq_true rfl⟩ (hM.k) (fun _ h => f_isDark hM hd hi hW o1 o6 h) ?_
      refine Ex_step (tk_M_edgeOf rfl) ⟨fun h107 => ?_, fun h107 => ?_⟩
      · try simp (disch := omega) only [cmpI, w32_b2i, b2i_0, b2i_1, w32_id, Classical.not_not, not_true_eq_false, not_false_eq_true] at h107
        refine Ex_step (tk_M_edgeOf rfl) ?_
        first | exact h115 _ (show (0 : Int) = _ from (if_pos h107).symm) | exact h115 _ (show (1 : Int) = _ from (if_neg h107).symm)
      · try simp (disch := omega) only [cmpI, w32_b2i, b2i_0, b2i_1, w32_id, Classical.not_not, not_true_eq_false, not_false_eq_true] at h107
        refine Ex_step (tk_M_edgeOf rfl) ?_
        refine Ex_step (tk_M_edgeOf rfl) ?_
        first | exact h115 _ (show (0 : Int) = _ from (if_pos h107).symm) | exact h115 _ (show (1 : Int) = _ from (if_neg h107).symm)
    have h77 : ∀ v, v = lit (A 3) dd (x + 1) z → Ex (d + 3) M_edgeOf 77 [some (vR aM), some (vI i), some (vI c0), some (vI z), some (vI x)] [vI v, vI (lit (A 3) dd (x - 1) z), vI c0] (MS m I A L) Q := by
      intro v hv
      subst hv
      refine Ex_step (tk_M_edgeOf rfl) ?_
      refine Ex_step (tk_M_edgeOf rfl) ?_
      refine Ex_step (tk_M_edgeOf rfl) ?_
      refine Ex_step (tk_M_edgeOf rfl) ?_
      refine Ex_step (tk_M_edgeOf rfl) ?_
      refine Ex_step (tk_M_edgeOf rfl) ?_
      refine Ex_step (tk_M_edgeOf rfl) ?_
      refine Ex_cV0 (av := [vI i, vI x, vI (z - 1)]) (tk_M_edgeOf rfl) mk_M_isDark ⟨rfl, rfl, by decide, rfl, Nat.le_of_ble_eq_true rfl, Nat.le_of_ble_eq_true rfl⟩ (hM.k) (fun _ h => f_isDark hM hd hi hW o1 o5 h) ?_
      refine Ex_step (tk_M_edgeOf rfl) ⟨fun h88 => ?_, fun h88 => ?_⟩
      · try simp (disch := omega) only [cmpI, w32_b2i, b2i_0, b2i_1, w32_id, Classical.not_not, not_true_eq_false, not_false_eq_true] at h88
        refine Ex_step (tk_M_edgeOf rfl) ?_
        first | exact h96 _ (show (0 : Int) = _ from (if_pos h88).symm) | exact h96 _ (show (1 : Int) = _ from (if_neg h88).symm)
      · try simp (disch := omega) only [cmpI, w32_b2i, b2i_0, b2i_1, w32_id, Classical.not_not, not_true_eq_false, not_false_eq_true] at h88
        refine Ex_step (tk_M_edgeOf rfl) ?_
        refine Ex_step (tk_M_edgeOf rfl) ?_
        first | exact h96 _ (show (0 : Int) = _ from (if_pos h88).symm) | exact h96 _ (show (1 : Int) = _ from (if_neg h88).symm)
    have h59 : ∀ v, v = lit (A 3) dd (x - 1) z → Ex (d + 3) M_edgeOf 59 [some (vR aM), some (vI i), some (vI c0), some (vI z), some (vI x)] [vI v, vI c0] (MS m I A L) Q := by
      intro v hv
      subst hv
      refine Ex_step (tk_M_edgeOf rfl) ?_
      refine Ex_step (tk_M_edgeOf rfl) ?_
      refine Ex_step (tk_M_edgeOf rfl) ?_
      refine Ex_step (tk_M_edgeOf rfl) ?_
      refine Ex_step (tk_M_edgeOf rfl) ?_
      refine Ex_step (tk_M_edgeOf rfl) ?_
      refine Ex_cV0 (av := [vI i, vI (x + 1), vI z]) (tk_M_edgeOf rfl) mk_M_isDark ⟨rfl, rfl, by decide, rfl, Nat.le_of_ble_eq_true rfl, Nat.le_of_ble_eq_true rfl⟩ (hM.k) (fun _ h => f_isDark hM hd hi hW o4 o2 h) ?_
      refine Ex_step (tk_M_edgeOf rfl) ⟨fun h69 => ?_, fun h69 => ?_⟩
      · try simp (disch := omega) only [cmpI, w32_b2i, b2i_0, b2i_1, w32_id, Classical.not_not, not_true_eq_false, not_false_eq_true] at h69
        refine Ex_step (tk_M_edgeOf rfl) ?_
        first | exact h77 _ (show (0 : Int) = _ from (if_pos h69).symm) | exact h77 _ (show (1 : Int) = _ from (if_neg h69).symm)
      · try simp (disch := omega) only [cmpI, w32_b2i, b2i_0, b2i_1, w32_id, Classical.not_not, not_true_eq_false, not_false_eq_true] at h69
        refine Ex_step (tk_M_edgeOf rfl) ?_
        refine Ex_step (tk_M_edgeOf rfl) ?_
        first | exact h77 _ (show (0 : Int) = _ from (if_pos h69).symm) | exact h77 _ (show (1 : Int) = _ from (if_neg h69).symm)
    refine Ex_step (tk_M_edgeOf rfl) ?_
    refine Ex_step (tk_M_edgeOf rfl) ?_
    refine Ex_step (tk_M_edgeOf rfl) ?_
    refine Ex_step (tk_M_edgeOf rfl) ?_
    refine Ex_cV0 (av := [vI i, vI x, vI z]) (tk_M_edgeOf rfl) mk_M_isDark ⟨rfl, rfl, by decide, rfl, Nat.le_of_ble_eq_true rfl, Nat.le_of_ble_eq_true rfl⟩ (hM.k) (fun _ h => f_isDark hM hd hi hW o1 o2 h) ?_
    refine Ex_step (tk_M_edgeOf rfl) ⟨fun h34 => ?_, fun h34 => ?_⟩
    · try simp (disch := omega) only [cmpI, w32_b2i, b2i_0, b2i_1, w32_id, Classical.not_not, not_true_eq_false, not_false_eq_true] at h34
      refine Ex_step (tk_M_edgeOf rfl) ?_
      refine Ex_step (tk_M_edgeOf rfl) ?_
      refine Ex_step (tk_M_edgeOf rfl) ?_
      refine Ex_step (tk_M_edgeOf rfl) ?_
      refine Ex_step (tk_M_edgeOf rfl) ?_
      refine Ex_step (tk_M_edgeOf rfl) ?_
      refine Ex_step (tk_M_edgeOf rfl) ?_
      refine Ex_cV0 (av := [vI i, vI (x - 1), vI z]) (tk_M_edgeOf rfl) mk_M_isDark ⟨rfl, rfl, by decide, rfl, Nat.le_of_ble_eq_true rfl, Nat.le_of_ble_eq_true rfl⟩ (hM.k) (fun _ h => f_isDark hM hd hi hW o3 o2 h) ?_
      refine Ex_step (tk_M_edgeOf rfl) ⟨fun h51 => ?_, fun h51 => ?_⟩
      · try simp (disch := omega) only [cmpI, w32_b2i, b2i_0, b2i_1, w32_id, Classical.not_not, not_true_eq_false, not_false_eq_true] at h51
        refine Ex_step (tk_M_edgeOf rfl) ?_
        first | exact h59 _ (show (0 : Int) = _ from (if_pos h51).symm) | exact h59 _ (show (1 : Int) = _ from (if_neg h51).symm)
      · try simp (disch := omega) only [cmpI, w32_b2i, b2i_0, b2i_1, w32_id, Classical.not_not, not_true_eq_false, not_false_eq_true] at h51
        refine Ex_step (tk_M_edgeOf rfl) ?_
        refine Ex_step (tk_M_edgeOf rfl) ?_
        first | exact h59 _ (show (0 : Int) = _ from (if_pos h51).symm) | exact h59 _ (show (1 : Int) = _ from (if_neg h51).symm)
    · try simp (disch := omega) only [cmpI, w32_b2i, b2i_0, b2i_1, w32_id, Classical.not_not, not_true_eq_false, not_false_eq_true] at h34
      exact absurd hq h34
  · rw [if_neg hq, Int.add_zero] at h
    refine Ex_step (tk_M_edgeOf rfl) ?_
    refine Ex_step (tk_M_edgeOf rfl) ?_
    refine Ex_step (tk_M_edgeOf rfl) ?_
    refine Ex_step (tk_M_edgeOf rfl) ?_
    refine Ex_cV0 (av := [vI i, vI x, vI z]) (tk_M_edgeOf rfl) mk_M_isDark ⟨rfl, rfl, by decide, rfl, Nat.le_of_ble_eq_true rfl, Nat.le_of_ble_eq_true rfl⟩ (hM.k) (fun _ h => f_isDark hM hd hi hW o1 o2 h) ?_
    refine Ex_step (tk_M_edgeOf rfl) ⟨fun h34 => ?_, fun h34 => ?_⟩
    · try simp (disch := omega) only [cmpI, w32_b2i, b2i_0, b2i_1, w32_id, Classical.not_not, not_true_eq_false, not_false_eq_true] at h34
      exact absurd h34 hq
    · try simp (disch := omega) only [cmpI, w32_b2i, b2i_0, b2i_1, w32_id, Classical.not_not, not_true_eq_false, not_false_eq_true] at h34
      refine Ex_step (tk_M_edgeOf rfl) ?_
      exact h
end MEdge
