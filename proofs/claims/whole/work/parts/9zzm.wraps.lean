/-! ===== the law: its wrappers ===== -/
/-- what a call behind a wrapper may end with -/
def WQ (c1 c2 : Int) (Q : Nat → Option AV → Mem → Prop) : Nat → Option AV → Mem → Prop := fun o v m' => (o = 0 ∧ ∃ (x : Int) (m2 : Mem) (F2 A2 L2 : Nat → Nat → Int), v = some (vI x) ∧ m' = CM m2 F2 A2 L2 ∧ LA m2 386 1 ∧ Q 0 (some (vI 0)) (CM m2 F2 A2 (up1 L2 386 (up1 (L2 386) 0 (w32 x))))) ∨ (o = 1 ∧ c1 ≠ 0 ∧ Q 0 (some (vI c1)) m') ∨ (o = 2 ∧ c2 ≠ 0 ∧ Q 0 (some (vI c2)) m')
set_option maxRecDepth 100000 in
theorem ca_text2 : catchOk Law_text 4 2 1 := ⟨[], ⟨0, 9, 12, 13⟩, [], 3, 1, rfl, fun z hz => absurd hz (List.not_mem_nil), by decide, by decide, good_mem (ws := [_]) (by decide +kernel) _ List.mem_cons_self, by decide +kernel, by decide +kernel, Or.inr ⟨⟨3, by decide⟩, rfl, by decide +kernel, rfl⟩, by decide +kernel, by decide +kernel, rfl⟩
set_option maxRecDepth 100000 in
theorem ca_paint1 : catchOk Law_paint 9 1 1 := ⟨[], ⟨0, 14, 17, 19⟩, [⟨0, 14, 21, 13⟩], 6, 2, rfl, fun z hz => absurd hz (List.not_mem_nil), by decide, by decide, good_mem (ws := [_]) (by decide +kernel) _ List.mem_cons_self, by decide +kernel, by decide +kernel, Or.inl ⟨by decide +kernel, rfl⟩, by decide +kernel, by decide +kernel, rfl⟩
set_option maxRecDepth 100000 in
theorem ca_paint2 : catchOk Law_paint 9 2 2 := ⟨[⟨0, 14, 17, 19⟩], ⟨0, 14, 21, 13⟩, [], 6, 2, rfl, fun z hz => by
    have e := List.mem_singleton.mp hz
    subst e
    exact Or.inr ⟨by decide, good_mem (ws := [_]) (by decide +kernel) _ List.mem_cons_self, rfl⟩, by decide, by decide, good_mem (ws := [_]) (by decide +kernel) _ List.mem_cons_self, by decide +kernel, by decide +kernel, Or.inl ⟨by decide +kernel, rfl⟩, by decide +kernel, by decide +kernel, rfl⟩
set_option maxRecDepth 100000 in
theorem ca_day1 : catchOk Law_day 5 1 1 := ⟨[], ⟨0, 10, 13, 19⟩, [⟨0, 10, 17, 13⟩], 4, 2, rfl, fun z hz => absurd hz (List.not_mem_nil), by decide, by decide, good_mem (ws := [_]) (by decide +kernel) _ List.mem_cons_self, by decide +kernel, by decide +kernel, Or.inl ⟨by decide +kernel, rfl⟩, by decide +kernel, by decide +kernel, rfl⟩
set_option maxRecDepth 100000 in
theorem ca_day2 : catchOk Law_day 5 2 2 := ⟨[⟨0, 10, 13, 19⟩], ⟨0, 10, 17, 13⟩, [], 4, 2, rfl, fun z hz => by
    have e := List.mem_singleton.mp hz
    subst e
    exact Or.inr ⟨by decide, good_mem (ws := [_]) (by decide +kernel) _ List.mem_cons_self, rfl⟩, by decide, by decide, good_mem (ws := [_]) (by decide +kernel) _ List.mem_cons_self, by decide +kernel, by decide +kernel, Or.inl ⟨by decide +kernel, rfl⟩, by decide +kernel, by decide +kernel, rfl⟩
set_option maxRecDepth 100000 in
theorem ca_drop1 : catchOk Law_drop 4 1 1 := ⟨[], ⟨0, 9, 12, 19⟩, [], 3, 1, rfl, fun z hz => absurd hz (List.not_mem_nil), by decide, by decide, good_mem (ws := [_]) (by decide +kernel) _ List.mem_cons_self, by decide +kernel, by decide +kernel, Or.inr ⟨⟨3, by decide⟩, rfl, by decide +kernel, rfl⟩, by decide +kernel, by decide +kernel, rfl⟩
set_option maxRecDepth 100000 in
theorem ca_told2 : catchOk Law_told 4 2 1 := ⟨[], ⟨0, 9, 12, 13⟩, [], 3, 1, rfl, fun z hz => absurd hz (List.not_mem_nil), by decide, by decide, good_mem (ws := [_]) (by decide +kernel) _ List.mem_cons_self, by decide +kernel, by decide +kernel, Or.inr ⟨⟨3, by decide⟩, rfl, by decide +kernel, rfl⟩, by decide +kernel, by decide +kernel, rfl⟩
set_option maxRecDepth 100000 in
theorem ca_of1 : catchOk Law_of 5 1 1 := ⟨[], ⟨0, 10, 13, 19⟩, [⟨0, 10, 17, 13⟩], 4, 2, rfl, fun z hz => absurd hz (List.not_mem_nil), by decide, by decide, good_mem (ws := [_]) (by decide +kernel) _ List.mem_cons_self, by decide +kernel, by decide +kernel, Or.inl ⟨by decide +kernel, rfl⟩, by decide +kernel, by decide +kernel, rfl⟩
set_option maxRecDepth 100000 in
theorem ca_of2 : catchOk Law_of 5 2 2 := ⟨[⟨0, 10, 13, 19⟩], ⟨0, 10, 17, 13⟩, [], 4, 2, rfl, fun z hz => by
    have e := List.mem_singleton.mp hz
    subst e
    exact Or.inr ⟨by decide, good_mem (ws := [_]) (by decide +kernel) _ List.mem_cons_self, rfl⟩, by decide, by decide, good_mem (ws := [_]) (by decide +kernel) _ List.mem_cons_self, by decide +kernel, by decide +kernel, Or.inl ⟨by decide +kernel, rfl⟩, by decide +kernel, by decide +kernel, rfl⟩
set_option maxRecDepth 100000 in
theorem ca_cell1 : catchOk Law_cell 7 1 1 := ⟨[], ⟨0, 12, 15, 19⟩, [], 5, 2, rfl, fun z hz => absurd hz (List.not_mem_nil), by decide, by decide, good_mem (ws := [_]) (by decide +kernel) _ List.mem_cons_self, by decide +kernel, by decide +kernel, Or.inl ⟨by decide +kernel, rfl⟩, by decide +kernel, by decide +kernel, rfl⟩
set_option maxRecDepth 100000 in
theorem ca_over1 : catchOk Law_over 13 1 1 := ⟨[], ⟨0, 18, 21, 19⟩, [⟨0, 18, 25, 13⟩], 8, 2, rfl, fun z hz => absurd hz (List.not_mem_nil), by decide, by decide, good_mem (ws := [_]) (by decide +kernel) _ List.mem_cons_self, by decide +kernel, by decide +kernel, Or.inl ⟨by decide +kernel, rfl⟩, by decide +kernel, by decide +kernel, rfl⟩
set_option maxRecDepth 100000 in
theorem ca_over2 : catchOk Law_over 13 2 2 := ⟨[⟨0, 18, 21, 19⟩], ⟨0, 18, 25, 13⟩, [], 8, 2, rfl, fun z hz => by
    have e := List.mem_singleton.mp hz
    subst e
    exact Or.inr ⟨by decide, good_mem (ws := [_]) (by decide +kernel) _ List.mem_cons_self, rfl⟩, by decide, by decide, good_mem (ws := [_]) (by decide +kernel) _ List.mem_cons_self, by decide +kernel, by decide +kernel, Or.inl ⟨by decide +kernel, rfl⟩, by decide +kernel, by decide +kernel, rfl⟩
set_option maxRecDepth 100000 in
theorem ca_best1 : catchOk Law_best 7 1 1 := ⟨[], ⟨0, 12, 15, 19⟩, [⟨0, 12, 19, 13⟩], 5, 2, rfl, fun z hz => absurd hz (List.not_mem_nil), by decide, by decide, good_mem (ws := [_]) (by decide +kernel) _ List.mem_cons_self, by decide +kernel, by decide +kernel, Or.inl ⟨by decide +kernel, rfl⟩, by decide +kernel, by decide +kernel, rfl⟩
set_option maxRecDepth 100000 in
theorem ca_best2 : catchOk Law_best 7 2 2 := ⟨[⟨0, 12, 15, 19⟩], ⟨0, 12, 19, 13⟩, [], 5, 2, rfl, fun z hz => by
    have e := List.mem_singleton.mp hz
    subst e
    exact Or.inr ⟨by decide, good_mem (ws := [_]) (by decide +kernel) _ List.mem_cons_self, rfl⟩, by decide, by decide, good_mem (ws := [_]) (by decide +kernel) _ List.mem_cons_self, by decide +kernel, by decide +kernel, Or.inl ⟨by decide +kernel, rfl⟩, by decide +kernel, by decide +kernel, rfl⟩
set_option maxRecDepth 100000 in
theorem ca_prior1 : catchOk Law_prior 5 1 1 := ⟨[], ⟨0, 10, 13, 19⟩, [⟨0, 10, 17, 13⟩], 4, 2, rfl, fun z hz => absurd hz (List.not_mem_nil), by decide, by decide, good_mem (ws := [_]) (by decide +kernel) _ List.mem_cons_self, by decide +kernel, by decide +kernel, Or.inl ⟨by decide +kernel, rfl⟩, by decide +kernel, by decide +kernel, rfl⟩
set_option maxRecDepth 100000 in
theorem ca_prior2 : catchOk Law_prior 5 2 2 := ⟨[⟨0, 10, 13, 19⟩], ⟨0, 10, 17, 13⟩, [], 4, 2, rfl, fun z hz => by
    have e := List.mem_singleton.mp hz
    subst e
    exact Or.inr ⟨by decide, good_mem (ws := [_]) (by decide +kernel) _ List.mem_cons_self, rfl⟩, by decide, by decide, good_mem (ws := [_]) (by decide +kernel) _ List.mem_cons_self, by decide +kernel, by decide +kernel, Or.inl ⟨by decide +kernel, rfl⟩, by decide +kernel, by decide +kernel, rfl⟩
set_option maxRecDepth 100000 in
theorem ca_infringes1 : catchOk Law_infringes 5 1 1 := ⟨[], ⟨0, 10, 13, 19⟩, [⟨0, 10, 17, 13⟩], 4, 2, rfl, fun z hz => absurd hz (List.not_mem_nil), by decide, by decide, good_mem (ws := [_]) (by decide +kernel) _ List.mem_cons_self, by decide +kernel, by decide +kernel, Or.inl ⟨by decide +kernel, rfl⟩, by decide +kernel, by decide +kernel, rfl⟩
set_option maxRecDepth 100000 in
theorem ca_infringes2 : catchOk Law_infringes 5 2 2 := ⟨[⟨0, 10, 13, 19⟩], ⟨0, 10, 17, 13⟩, [], 4, 2, rfl, fun z hz => by
    have e := List.mem_singleton.mp hz
    subst e
    exact Or.inr ⟨by decide, good_mem (ws := [_]) (by decide +kernel) _ List.mem_cons_self, rfl⟩, by decide, by decide, good_mem (ws := [_]) (by decide +kernel) _ List.mem_cons_self, by decide +kernel, by decide +kernel, Or.inl ⟨by decide +kernel, rfl⟩, by decide +kernel, by decide +kernel, rfl⟩
set_option maxRecDepth 100000 in
theorem ca_nearest1 : catchOk Law_nearest 4 1 1 := ⟨[], ⟨0, 9, 12, 19⟩, [], 3, 1, rfl, fun z hz => absurd hz (List.not_mem_nil), by decide, by decide, good_mem (ws := [_]) (by decide +kernel) _ List.mem_cons_self, by decide +kernel, by decide +kernel, Or.inr ⟨⟨3, by decide⟩, rfl, by decide +kernel, rfl⟩, by decide +kernel, by decide +kernel, rfl⟩
section Wraps
variable {d : Nat} {m : Mem} {F A L : Nat → Nat → Int} {Q : Nat → Option AV → Mem → Prop} {p0 p1 p2 p3 p4 p5 : Int}
set_option maxRecDepth 100000 in
theorem l_text (hk11 : mK m 100 = 11) (h : Ex d DD_text 0 [some (vR 100), some (vI p0), none, none] [] (CM m F A L) (WQ 0 1 Q)) : Ex (d + 1) Law_text 0 [some (vR 100), some (vI p0), some (vR 386), none] [] (CM m F A L) Q := by
  have zz : ∀ (x : Int) (m2 : Mem) (F2 A2 L2 : Nat → Nat → Int) (l : Option AV), LA m2 386 1 → Q 0 (some (vI 0)) (CM m2 F2 A2 (up1 L2 386 (up1 (L2 386) 0 (w32 x)))) → Ex (d + 1) Law_text 7 [some (vR 100), some (vI p0), some (vR 386), none] [vI x, vI 0, vR 386] (CM m2 F2 A2 L2) Q := by
    intro x m2 F2 A2 L2 _ hl hq
    refine Ex_step (tk_Law_text rfl) ?_
    refine tCL (n := 0) (tk_Law_text rfl) (hl) (rfl) (by decide) ?_
    refine Ex_step (tk_Law_text rfl) ?_
    refine Ex_step (tk_Law_text rfl) ?_
    refine Ex_step (tk_Law_text rfl) ⟨rfl, ?_⟩
    exact hq
  refine Ex_step (tk_Law_text rfl) ?_
  refine Ex_step (tk_Law_text rfl) ?_
  refine Ex_step (tk_Law_text rfl) ?_
  refine Ex_step (tk_Law_text rfl) ?_
  refine Ex_cVC (av := [vI p0]) (tk_Law_text rfl) mk_DD_text ⟨rfl, rfl, by decide, rfl, Nat.le_of_ble_eq_true rfl, Nat.le_of_ble_eq_true rfl⟩ hk11 h (fun o v m' q => ⟨fun e => ?_, fun e => ?_⟩)
  · rcases q with ⟨_, x, m2, F2, A2, L2, q1, q2, q3, q4⟩ | ⟨q1, _⟩ | ⟨q1, _⟩
    · subst q1
      subst q2
      exact zz x m2 F2 A2 L2 none q3 q4
    · omega
    · omega
  · rcases q with ⟨q1, _⟩ | ⟨q1, q2, q3⟩ | ⟨q1, q2, q3⟩
    · exact absurd q1 e
    · subst q1
      exact absurd rfl q2
    · subst q1
      exact ⟨_, ca_text2, q3⟩
set_option maxRecDepth 100000 in
theorem l_paint (hk11 : mK m 100 = 11) (h : Ex d DD_paint 0 [some (vR 100), some (vI p0), some (vI p1), some (vI p2), some (vI p3), none, none] [] (CM m F A L) (WQ 1 2 Q)) : Ex (d + 1) Law_paint 0 [some (vR 100), some (vI p0), some (vI p1), some (vI p2), some (vI p3), some (vR 386), none] [] (CM m F A L) Q := by
  have zz : ∀ (x : Int) (m2 : Mem) (F2 A2 L2 : Nat → Nat → Int) (l : Option AV), LA m2 386 1 → Q 0 (some (vI 0)) (CM m2 F2 A2 (up1 L2 386 (up1 (L2 386) 0 (w32 x)))) → Ex (d + 1) Law_paint 12 [some (vR 100), some (vI p0), some (vI p1), some (vI p2), some (vI p3), some (vR 386), none] [vI x, vI 0, vR 386] (CM m2 F2 A2 L2) Q := by
    intro x m2 F2 A2 L2 _ hl hq
    refine Ex_step (tk_Law_paint rfl) ?_
    refine tCL (n := 0) (tk_Law_paint rfl) (hl) (rfl) (by decide) ?_
    refine Ex_step (tk_Law_paint rfl) ?_
    refine Ex_step (tk_Law_paint rfl) ?_
    refine Ex_step (tk_Law_paint rfl) ⟨rfl, ?_⟩
    exact hq
  refine Ex_step (tk_Law_paint rfl) ?_
  refine Ex_step (tk_Law_paint rfl) ?_
  refine Ex_step (tk_Law_paint rfl) ?_
  refine Ex_step (tk_Law_paint rfl) ?_
  refine Ex_step (tk_Law_paint rfl) ?_
  refine Ex_step (tk_Law_paint rfl) ?_
  refine Ex_step (tk_Law_paint rfl) ?_
  refine Ex_cVC (av := [vI p0, vI p1, vI p2, vI p3]) (tk_Law_paint rfl) mk_DD_paint ⟨rfl, rfl, by decide, rfl, Nat.le_of_ble_eq_true rfl, Nat.le_of_ble_eq_true rfl⟩ hk11 h (fun o v m' q => ⟨fun e => ?_, fun e => ?_⟩)
  · rcases q with ⟨_, x, m2, F2, A2, L2, q1, q2, q3, q4⟩ | ⟨q1, _⟩ | ⟨q1, _⟩
    · subst q1
      subst q2
      exact zz x m2 F2 A2 L2 none q3 q4
    · omega
    · omega
  · rcases q with ⟨q1, _⟩ | ⟨q1, q2, q3⟩ | ⟨q1, q2, q3⟩
    · exact absurd q1 e
    · subst q1
      exact ⟨_, ca_paint1, q3⟩
    · subst q1
      exact ⟨_, ca_paint2, q3⟩
set_option maxRecDepth 100000 in
theorem l_day (hk11 : mK m 100 = 11) (h : Ex d DD_day 0 [some (vR 100), some (vI p0), some (vI p1), none, none] [] (CM m F A L) (WQ 1 2 Q)) : Ex (d + 1) Law_day 0 [some (vR 100), some (vI p0), some (vI p1), some (vR 386), none] [] (CM m F A L) Q := by
  have zz : ∀ (x : Int) (m2 : Mem) (F2 A2 L2 : Nat → Nat → Int) (l : Option AV), LA m2 386 1 → Q 0 (some (vI 0)) (CM m2 F2 A2 (up1 L2 386 (up1 (L2 386) 0 (w32 x)))) → Ex (d + 1) Law_day 8 [some (vR 100), some (vI p0), some (vI p1), some (vR 386), none] [vI x, vI 0, vR 386] (CM m2 F2 A2 L2) Q := by
    intro x m2 F2 A2 L2 _ hl hq
    refine Ex_step (tk_Law_day rfl) ?_
    refine tCL (n := 0) (tk_Law_day rfl) (hl) (rfl) (by decide) ?_
    refine Ex_step (tk_Law_day rfl) ?_
    refine Ex_step (tk_Law_day rfl) ?_
    refine Ex_step (tk_Law_day rfl) ⟨rfl, ?_⟩
    exact hq
  refine Ex_step (tk_Law_day rfl) ?_
  refine Ex_step (tk_Law_day rfl) ?_
  refine Ex_step (tk_Law_day rfl) ?_
  refine Ex_step (tk_Law_day rfl) ?_
  refine Ex_step (tk_Law_day rfl) ?_
  refine Ex_cVC (av := [vI p0, vI p1]) (tk_Law_day rfl) mk_DD_day ⟨rfl, rfl, by decide, rfl, Nat.le_of_ble_eq_true rfl, Nat.le_of_ble_eq_true rfl⟩ hk11 h (fun o v m' q => ⟨fun e => ?_, fun e => ?_⟩)
  · rcases q with ⟨_, x, m2, F2, A2, L2, q1, q2, q3, q4⟩ | ⟨q1, _⟩ | ⟨q1, _⟩
    · subst q1
      subst q2
      exact zz x m2 F2 A2 L2 none q3 q4
    · omega
    · omega
  · rcases q with ⟨q1, _⟩ | ⟨q1, q2, q3⟩ | ⟨q1, q2, q3⟩
    · exact absurd q1 e
    · subst q1
      exact ⟨_, ca_day1, q3⟩
    · subst q1
      exact ⟨_, ca_day2, q3⟩
set_option maxRecDepth 100000 in
theorem l_drop (hk11 : mK m 100 = 11) (h : Ex d DD_drop 0 [some (vR 100), some (vI p0)] [] (CM m F A L) (WQ 1 0 Q)) : Ex (d + 1) Law_drop 0 [some (vR 100), some (vI p0), some (vR 386), none] [] (CM m F A L) Q := by
  have zz : ∀ (x : Int) (m2 : Mem) (F2 A2 L2 : Nat → Nat → Int) (l : Option AV), LA m2 386 1 → Q 0 (some (vI 0)) (CM m2 F2 A2 (up1 L2 386 (up1 (L2 386) 0 (w32 x)))) → Ex (d + 1) Law_drop 7 [some (vR 100), some (vI p0), some (vR 386), none] [vI x, vI 0, vR 386] (CM m2 F2 A2 L2) Q := by
    intro x m2 F2 A2 L2 _ hl hq
    refine Ex_step (tk_Law_drop rfl) ?_
    refine tCL (n := 0) (tk_Law_drop rfl) (hl) (rfl) (by decide) ?_
    refine Ex_step (tk_Law_drop rfl) ?_
    refine Ex_step (tk_Law_drop rfl) ?_
    refine Ex_step (tk_Law_drop rfl) ⟨rfl, ?_⟩
    exact hq
  refine Ex_step (tk_Law_drop rfl) ?_
  refine Ex_step (tk_Law_drop rfl) ?_
  refine Ex_step (tk_Law_drop rfl) ?_
  refine Ex_step (tk_Law_drop rfl) ?_
  refine Ex_cVC (av := [vI p0]) (tk_Law_drop rfl) mk_DD_drop ⟨rfl, rfl, by decide, rfl, Nat.le_of_ble_eq_true rfl, Nat.le_of_ble_eq_true rfl⟩ hk11 h (fun o v m' q => ⟨fun e => ?_, fun e => ?_⟩)
  · rcases q with ⟨_, x, m2, F2, A2, L2, q1, q2, q3, q4⟩ | ⟨q1, _⟩ | ⟨q1, _⟩
    · subst q1
      subst q2
      exact zz x m2 F2 A2 L2 none q3 q4
    · omega
    · omega
  · rcases q with ⟨q1, _⟩ | ⟨q1, q2, q3⟩ | ⟨q1, q2, q3⟩
    · exact absurd q1 e
    · subst q1
      exact ⟨_, ca_drop1, q3⟩
    · subst q1
      exact absurd rfl q2
set_option maxRecDepth 100000 in
theorem l_told (hk11 : mK m 100 = 11) (h : Ex d DD_told 0 [some (vR 100), some (vI p0)] [] (CM m F A L) (WQ 0 1 Q)) : Ex (d + 1) Law_told 0 [some (vR 100), some (vI p0), some (vR 386), none] [] (CM m F A L) Q := by
  have zz : ∀ (x : Int) (m2 : Mem) (F2 A2 L2 : Nat → Nat → Int) (l : Option AV), LA m2 386 1 → Q 0 (some (vI 0)) (CM m2 F2 A2 (up1 L2 386 (up1 (L2 386) 0 (w32 x)))) → Ex (d + 1) Law_told 7 [some (vR 100), some (vI p0), some (vR 386), none] [vI x, vI 0, vR 386] (CM m2 F2 A2 L2) Q := by
    intro x m2 F2 A2 L2 _ hl hq
    refine Ex_step (tk_Law_told rfl) ?_
    refine tCL (n := 0) (tk_Law_told rfl) (hl) (rfl) (by decide) ?_
    refine Ex_step (tk_Law_told rfl) ?_
    refine Ex_step (tk_Law_told rfl) ?_
    refine Ex_step (tk_Law_told rfl) ⟨rfl, ?_⟩
    exact hq
  refine Ex_step (tk_Law_told rfl) ?_
  refine Ex_step (tk_Law_told rfl) ?_
  refine Ex_step (tk_Law_told rfl) ?_
  refine Ex_step (tk_Law_told rfl) ?_
  refine Ex_cVC (av := [vI p0]) (tk_Law_told rfl) mk_DD_told ⟨rfl, rfl, by decide, rfl, Nat.le_of_ble_eq_true rfl, Nat.le_of_ble_eq_true rfl⟩ hk11 h (fun o v m' q => ⟨fun e => ?_, fun e => ?_⟩)
  · rcases q with ⟨_, x, m2, F2, A2, L2, q1, q2, q3, q4⟩ | ⟨q1, _⟩ | ⟨q1, _⟩
    · subst q1
      subst q2
      exact zz x m2 F2 A2 L2 none q3 q4
    · omega
    · omega
  · rcases q with ⟨q1, _⟩ | ⟨q1, q2, q3⟩ | ⟨q1, q2, q3⟩
    · exact absurd q1 e
    · subst q1
      exact absurd rfl q2
    · subst q1
      exact ⟨_, ca_told2, q3⟩
set_option maxRecDepth 100000 in
theorem l_of (hk11 : mK m 100 = 11) (h : Ex d DD_of 0 [some (vR 100), some (vI p0), some (vI p1), none] [] (CM m F A L) (WQ 1 2 Q)) : Ex (d + 1) Law_of 0 [some (vR 100), some (vI p0), some (vI p1), some (vR 386), none] [] (CM m F A L) Q := by
  have zz : ∀ (x : Int) (m2 : Mem) (F2 A2 L2 : Nat → Nat → Int) (l : Option AV), LA m2 386 1 → Q 0 (some (vI 0)) (CM m2 F2 A2 (up1 L2 386 (up1 (L2 386) 0 (w32 x)))) → Ex (d + 1) Law_of 8 [some (vR 100), some (vI p0), some (vI p1), some (vR 386), none] [vI x, vI 0, vR 386] (CM m2 F2 A2 L2) Q := by
    intro x m2 F2 A2 L2 _ hl hq
    refine Ex_step (tk_Law_of rfl) ?_
    refine tCL (n := 0) (tk_Law_of rfl) (hl) (rfl) (by decide) ?_
    refine Ex_step (tk_Law_of rfl) ?_
    refine Ex_step (tk_Law_of rfl) ?_
    refine Ex_step (tk_Law_of rfl) ⟨rfl, ?_⟩
    exact hq
  refine Ex_step (tk_Law_of rfl) ?_
  refine Ex_step (tk_Law_of rfl) ?_
  refine Ex_step (tk_Law_of rfl) ?_
  refine Ex_step (tk_Law_of rfl) ?_
  refine Ex_step (tk_Law_of rfl) ?_
  refine Ex_cVC (av := [vI p0, vI p1]) (tk_Law_of rfl) mk_DD_of ⟨rfl, rfl, by decide, rfl, Nat.le_of_ble_eq_true rfl, Nat.le_of_ble_eq_true rfl⟩ hk11 h (fun o v m' q => ⟨fun e => ?_, fun e => ?_⟩)
  · rcases q with ⟨_, x, m2, F2, A2, L2, q1, q2, q3, q4⟩ | ⟨q1, _⟩ | ⟨q1, _⟩
    · subst q1
      subst q2
      exact zz x m2 F2 A2 L2 none q3 q4
    · omega
    · omega
  · rcases q with ⟨q1, _⟩ | ⟨q1, q2, q3⟩ | ⟨q1, q2, q3⟩
    · exact absurd q1 e
    · subst q1
      exact ⟨_, ca_of1, q3⟩
    · subst q1
      exact ⟨_, ca_of2, q3⟩
set_option maxRecDepth 100000 in
theorem l_cell (hk11 : mK m 100 = 11) (h : Ex d DD_cell 0 [some (vR 100), some (vI p0), some (vI p1), some (vI p2)] [] (CM m F A L) (WQ 1 0 Q)) : Ex (d + 1) Law_cell 0 [some (vR 100), some (vI p0), some (vI p1), some (vI p2), some (vR 386), none] [] (CM m F A L) Q := by
  have zz : ∀ (x : Int) (m2 : Mem) (F2 A2 L2 : Nat → Nat → Int) (l : Option AV), LA m2 386 1 → Q 0 (some (vI 0)) (CM m2 F2 A2 (up1 L2 386 (up1 (L2 386) 0 (w32 x)))) → Ex (d + 1) Law_cell 10 [some (vR 100), some (vI p0), some (vI p1), some (vI p2), some (vR 386), none] [vI x, vI 0, vR 386] (CM m2 F2 A2 L2) Q := by
    intro x m2 F2 A2 L2 _ hl hq
    refine Ex_step (tk_Law_cell rfl) ?_
    refine tCL (n := 0) (tk_Law_cell rfl) (hl) (rfl) (by decide) ?_
    refine Ex_step (tk_Law_cell rfl) ?_
    refine Ex_step (tk_Law_cell rfl) ?_
    refine Ex_step (tk_Law_cell rfl) ⟨rfl, ?_⟩
    exact hq
  refine Ex_step (tk_Law_cell rfl) ?_
  refine Ex_step (tk_Law_cell rfl) ?_
  refine Ex_step (tk_Law_cell rfl) ?_
  refine Ex_step (tk_Law_cell rfl) ?_
  refine Ex_step (tk_Law_cell rfl) ?_
  refine Ex_step (tk_Law_cell rfl) ?_
  refine Ex_cVC (av := [vI p0, vI p1, vI p2]) (tk_Law_cell rfl) mk_DD_cell ⟨rfl, rfl, by decide, rfl, Nat.le_of_ble_eq_true rfl, Nat.le_of_ble_eq_true rfl⟩ hk11 h (fun o v m' q => ⟨fun e => ?_, fun e => ?_⟩)
  · rcases q with ⟨_, x, m2, F2, A2, L2, q1, q2, q3, q4⟩ | ⟨q1, _⟩ | ⟨q1, _⟩
    · subst q1
      subst q2
      exact zz x m2 F2 A2 L2 none q3 q4
    · omega
    · omega
  · rcases q with ⟨q1, _⟩ | ⟨q1, q2, q3⟩ | ⟨q1, q2, q3⟩
    · exact absurd q1 e
    · subst q1
      exact ⟨_, ca_cell1, q3⟩
    · subst q1
      exact absurd rfl q2
set_option maxRecDepth 100000 in
theorem l_over (hk11 : mK m 100 = 11) (h : Ex d DD_over 0 [some (vR 100), some (vI p0), some (vI p1), some (vI p2), some (vI p3), some (vI p4), some (vI p5)] [] (CM m F A L) (WQ 1 2 Q)) : Ex (d + 1) Law_over 0 [some (vR 100), some (vI p0), some (vI p1), some (vI p2), some (vI p3), some (vI p4), some (vI p5), some (vR 386), none] [] (CM m F A L) Q := by
  have zz : ∀ (x : Int) (m2 : Mem) (F2 A2 L2 : Nat → Nat → Int) (l : Option AV), LA m2 386 1 → Q 0 (some (vI 0)) (CM m2 F2 A2 (up1 L2 386 (up1 (L2 386) 0 (w32 x)))) → Ex (d + 1) Law_over 16 [some (vR 100), some (vI p0), some (vI p1), some (vI p2), some (vI p3), some (vI p4), some (vI p5), some (vR 386), none] [vI x, vI 0, vR 386] (CM m2 F2 A2 L2) Q := by
    intro x m2 F2 A2 L2 _ hl hq
    refine Ex_step (tk_Law_over rfl) ?_
    refine tCL (n := 0) (tk_Law_over rfl) (hl) (rfl) (by decide) ?_
    refine Ex_step (tk_Law_over rfl) ?_
    refine Ex_step (tk_Law_over rfl) ?_
    refine Ex_step (tk_Law_over rfl) ⟨rfl, ?_⟩
    exact hq
  refine Ex_step (tk_Law_over rfl) ?_
  refine Ex_step (tk_Law_over rfl) ?_
  refine Ex_step (tk_Law_over rfl) ?_
  refine Ex_step (tk_Law_over rfl) ?_
  refine Ex_step (tk_Law_over rfl) ?_
  refine Ex_step (tk_Law_over rfl) ?_
  refine Ex_step (tk_Law_over rfl) ?_
  refine Ex_step (tk_Law_over rfl) ?_
  refine Ex_step (tk_Law_over rfl) ?_
  refine Ex_cVC (av := [vI p0, vI p1, vI p2, vI p3, vI p4, vI p5]) (tk_Law_over rfl) mk_DD_over ⟨rfl, rfl, by decide, rfl, Nat.le_of_ble_eq_true rfl, Nat.le_of_ble_eq_true rfl⟩ hk11 h (fun o v m' q => ⟨fun e => ?_, fun e => ?_⟩)
  · rcases q with ⟨_, x, m2, F2, A2, L2, q1, q2, q3, q4⟩ | ⟨q1, _⟩ | ⟨q1, _⟩
    · subst q1
      subst q2
      exact zz x m2 F2 A2 L2 none q3 q4
    · omega
    · omega
  · rcases q with ⟨q1, _⟩ | ⟨q1, q2, q3⟩ | ⟨q1, q2, q3⟩
    · exact absurd q1 e
    · subst q1
      exact ⟨_, ca_over1, q3⟩
    · subst q1
      exact ⟨_, ca_over2, q3⟩
set_option maxRecDepth 100000 in
theorem l_best (hk11 : mK m 100 = 11) (h : Ex d DD_best 0 [some (vR 100), some (vI p0), some (vI p1), some (vI p2), none] [] (CM m F A L) (WQ 1 2 Q)) : Ex (d + 1) Law_best 0 [some (vR 100), some (vI p0), some (vI p1), some (vI p2), some (vR 386), none] [] (CM m F A L) Q := by
  have zz : ∀ (x : Int) (m2 : Mem) (F2 A2 L2 : Nat → Nat → Int) (l : Option AV), LA m2 386 1 → Q 0 (some (vI 0)) (CM m2 F2 A2 (up1 L2 386 (up1 (L2 386) 0 (w32 x)))) → Ex (d + 1) Law_best 10 [some (vR 100), some (vI p0), some (vI p1), some (vI p2), some (vR 386), none] [vI x, vI 0, vR 386] (CM m2 F2 A2 L2) Q := by
    intro x m2 F2 A2 L2 _ hl hq
    refine Ex_step (tk_Law_best rfl) ?_
    refine tCL (n := 0) (tk_Law_best rfl) (hl) (rfl) (by decide) ?_
    refine Ex_step (tk_Law_best rfl) ?_
    refine Ex_step (tk_Law_best rfl) ?_
    refine Ex_step (tk_Law_best rfl) ⟨rfl, ?_⟩
    exact hq
  refine Ex_step (tk_Law_best rfl) ?_
  refine Ex_step (tk_Law_best rfl) ?_
  refine Ex_step (tk_Law_best rfl) ?_
  refine Ex_step (tk_Law_best rfl) ?_
  refine Ex_step (tk_Law_best rfl) ?_
  refine Ex_step (tk_Law_best rfl) ?_
  refine Ex_cVC (av := [vI p0, vI p1, vI p2]) (tk_Law_best rfl) mk_DD_best ⟨rfl, rfl, by decide, rfl, Nat.le_of_ble_eq_true rfl, Nat.le_of_ble_eq_true rfl⟩ hk11 h (fun o v m' q => ⟨fun e => ?_, fun e => ?_⟩)
  · rcases q with ⟨_, x, m2, F2, A2, L2, q1, q2, q3, q4⟩ | ⟨q1, _⟩ | ⟨q1, _⟩
    · subst q1
      subst q2
      exact zz x m2 F2 A2 L2 none q3 q4
    · omega
    · omega
  · rcases q with ⟨q1, _⟩ | ⟨q1, q2, q3⟩ | ⟨q1, q2, q3⟩
    · exact absurd q1 e
    · subst q1
      exact ⟨_, ca_best1, q3⟩
    · subst q1
      exact ⟨_, ca_best2, q3⟩
set_option maxRecDepth 100000 in
theorem l_prior (hk11 : mK m 100 = 11) (h : Ex d DD_prior 0 [some (vR 100), some (vI p0), some (vI p1), none, none] [] (CM m F A L) (WQ 1 2 Q)) : Ex (d + 1) Law_prior 0 [some (vR 100), some (vI p0), some (vI p1), some (vR 386), none] [] (CM m F A L) Q := by
  have zz : ∀ (x : Int) (m2 : Mem) (F2 A2 L2 : Nat → Nat → Int) (l : Option AV), LA m2 386 1 → Q 0 (some (vI 0)) (CM m2 F2 A2 (up1 L2 386 (up1 (L2 386) 0 (w32 x)))) → Ex (d + 1) Law_prior 8 [some (vR 100), some (vI p0), some (vI p1), some (vR 386), none] [vI x, vI 0, vR 386] (CM m2 F2 A2 L2) Q := by
    intro x m2 F2 A2 L2 _ hl hq
    refine Ex_step (tk_Law_prior rfl) ?_
    refine tCL (n := 0) (tk_Law_prior rfl) (hl) (rfl) (by decide) ?_
    refine Ex_step (tk_Law_prior rfl) ?_
    refine Ex_step (tk_Law_prior rfl) ?_
    refine Ex_step (tk_Law_prior rfl) ⟨rfl, ?_⟩
    exact hq
  refine Ex_step (tk_Law_prior rfl) ?_
  refine Ex_step (tk_Law_prior rfl) ?_
  refine Ex_step (tk_Law_prior rfl) ?_
  refine Ex_step (tk_Law_prior rfl) ?_
  refine Ex_step (tk_Law_prior rfl) ?_
  refine Ex_cVC (av := [vI p0, vI p1]) (tk_Law_prior rfl) mk_DD_prior ⟨rfl, rfl, by decide, rfl, Nat.le_of_ble_eq_true rfl, Nat.le_of_ble_eq_true rfl⟩ hk11 h (fun o v m' q => ⟨fun e => ?_, fun e => ?_⟩)
  · rcases q with ⟨_, x, m2, F2, A2, L2, q1, q2, q3, q4⟩ | ⟨q1, _⟩ | ⟨q1, _⟩
    · subst q1
      subst q2
      exact zz x m2 F2 A2 L2 none q3 q4
    · omega
    · omega
  · rcases q with ⟨q1, _⟩ | ⟨q1, q2, q3⟩ | ⟨q1, q2, q3⟩
    · exact absurd q1 e
    · subst q1
      exact ⟨_, ca_prior1, q3⟩
    · subst q1
      exact ⟨_, ca_prior2, q3⟩
set_option maxRecDepth 100000 in
theorem l_infringes (hk11 : mK m 100 = 11) (h : Ex d DD_infringes 0 [some (vR 100), some (vI p0), some (vI p1)] [] (CM m F A L) (WQ 1 2 Q)) : Ex (d + 1) Law_infringes 0 [some (vR 100), some (vI p0), some (vI p1), some (vR 386), none] [] (CM m F A L) Q := by
  have zz : ∀ (x : Int) (m2 : Mem) (F2 A2 L2 : Nat → Nat → Int) (l : Option AV), LA m2 386 1 → Q 0 (some (vI 0)) (CM m2 F2 A2 (up1 L2 386 (up1 (L2 386) 0 (w32 x)))) → Ex (d + 1) Law_infringes 8 [some (vR 100), some (vI p0), some (vI p1), some (vR 386), none] [vI x, vI 0, vR 386] (CM m2 F2 A2 L2) Q := by
    intro x m2 F2 A2 L2 _ hl hq
    refine Ex_step (tk_Law_infringes rfl) ?_
    refine tCL (n := 0) (tk_Law_infringes rfl) (hl) (rfl) (by decide) ?_
    refine Ex_step (tk_Law_infringes rfl) ?_
    refine Ex_step (tk_Law_infringes rfl) ?_
    refine Ex_step (tk_Law_infringes rfl) ⟨rfl, ?_⟩
    exact hq
  refine Ex_step (tk_Law_infringes rfl) ?_
  refine Ex_step (tk_Law_infringes rfl) ?_
  refine Ex_step (tk_Law_infringes rfl) ?_
  refine Ex_step (tk_Law_infringes rfl) ?_
  refine Ex_step (tk_Law_infringes rfl) ?_
  refine Ex_cVC (av := [vI p0, vI p1]) (tk_Law_infringes rfl) mk_DD_infringes ⟨rfl, rfl, by decide, rfl, Nat.le_of_ble_eq_true rfl, Nat.le_of_ble_eq_true rfl⟩ hk11 h (fun o v m' q => ⟨fun e => ?_, fun e => ?_⟩)
  · rcases q with ⟨_, x, m2, F2, A2, L2, q1, q2, q3, q4⟩ | ⟨q1, _⟩ | ⟨q1, _⟩
    · subst q1
      subst q2
      exact zz x m2 F2 A2 L2 none q3 q4
    · omega
    · omega
  · rcases q with ⟨q1, _⟩ | ⟨q1, q2, q3⟩ | ⟨q1, q2, q3⟩
    · exact absurd q1 e
    · subst q1
      exact ⟨_, ca_infringes1, q3⟩
    · subst q1
      exact ⟨_, ca_infringes2, q3⟩
set_option maxRecDepth 100000 in
theorem l_nearest (hk11 : mK m 100 = 11) (h : Ex d DD_nearest 0 [some (vR 100), some (vI p0), none, none] [] (CM m F A L) (WQ 1 0 Q)) : Ex (d + 1) Law_nearest 0 [some (vR 100), some (vI p0), some (vR 386), none] [] (CM m F A L) Q := by
  have zz : ∀ (x : Int) (m2 : Mem) (F2 A2 L2 : Nat → Nat → Int) (l : Option AV), LA m2 386 1 → Q 0 (some (vI 0)) (CM m2 F2 A2 (up1 L2 386 (up1 (L2 386) 0 (w32 x)))) → Ex (d + 1) Law_nearest 7 [some (vR 100), some (vI p0), some (vR 386), none] [vI x, vI 0, vR 386] (CM m2 F2 A2 L2) Q := by
    intro x m2 F2 A2 L2 _ hl hq
    refine Ex_step (tk_Law_nearest rfl) ?_
    refine tCL (n := 0) (tk_Law_nearest rfl) (hl) (rfl) (by decide) ?_
    refine Ex_step (tk_Law_nearest rfl) ?_
    refine Ex_step (tk_Law_nearest rfl) ?_
    refine Ex_step (tk_Law_nearest rfl) ⟨rfl, ?_⟩
    exact hq
  refine Ex_step (tk_Law_nearest rfl) ?_
  refine Ex_step (tk_Law_nearest rfl) ?_
  refine Ex_step (tk_Law_nearest rfl) ?_
  refine Ex_step (tk_Law_nearest rfl) ?_
  refine Ex_cVC (av := [vI p0]) (tk_Law_nearest rfl) mk_DD_nearest ⟨rfl, rfl, by decide, rfl, Nat.le_of_ble_eq_true rfl, Nat.le_of_ble_eq_true rfl⟩ hk11 h (fun o v m' q => ⟨fun e => ?_, fun e => ?_⟩)
  · rcases q with ⟨_, x, m2, F2, A2, L2, q1, q2, q3, q4⟩ | ⟨q1, _⟩ | ⟨q1, _⟩
    · subst q1
      subst q2
      exact zz x m2 F2 A2 L2 none q3 q4
    · omega
    · omega
  · rcases q with ⟨q1, _⟩ | ⟨q1, q2, q3⟩ | ⟨q1, q2, q3⟩
    · exact absurd q1 e
    · subst q1
      exact ⟨_, ca_nearest1, q3⟩
    · subst q1
      exact absurd rfl q2
set_option maxRecDepth 100000 in
theorem f_thrown {I : Nat → Int} {R : Nat → Nat → Int} (hM : MW m) (h : Q 0 (some (vI (I 0))) (MS m I R L)) : Ex d M_thrown 0 [some (vR aM)] [] (MS m I R L) Q := by
  refine Ex_step (tk_M_thrown rfl) ?_
  refine gMI (tk_M_thrown rfl) hM ?_
  refine Ex_step (tk_M_thrown rfl) ⟨rfl, ?_⟩
  exact h
end Wraps
