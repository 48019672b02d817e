/-! ===== the class: values of a rule ===== -/
section CValue
variable {d rr tp sz p no br : Nat} {pc_ : Int} {cs pl : List Int} {at_ cm : Int} {m : Mem} {F A L : Nat → Nat → Int} {Q : Nat → Option AV → Mem → Prop}
set_option maxRecDepth 100000 in
theorem RRF.start {cs pl : List Int} {no br : Nat} {at_ cm : Int} (h : RRF F A rr cs pl no br at_ cm) : RRF (upF F 455 rr 0) A rr cs pl no br 0 cm := by
  obtain ⟨r1, r2, r3, r4, r5, r6, r7, r8⟩ := h
  exact ⟨r1, r2, by rw [upF_f _ _ _ (by decide)]; exact r3, by rw [upF_f _ _ _ (by decide)]; exact r4, by rw [upF_f _ _ _ (by decide)]; exact r5, by rw [upF_f _ _ _ (by decide)]; exact r6, upF_at _ _ _ _, by rw [upF_f _ _ _ (by decide)]; exact r8⟩
set_option maxRecDepth 100000 in
theorem RD.start {fl : Nat} (h : RD F A rr sz p fl pc_ cs pl no br at_ cm) : RD (upF F 455 rr 0) A rr sz p fl pc_ cs pl no br 0 cm := ⟨h.1.k (fun f => upF_a _ _ _ (by omega)), h.2.start⟩
set_option maxRecDepth 100000 in
/-- a "not" that may stand there -/
theorem c_tvN {c : Int} (hW : RRW m rr) (hSW : ScW m (rr + 1) tp) (hD : RD F A rr sz p 0 pc_ cs pl no br 1 cm) (hn20 : no + br ≤ 20) (hl : pl.length < 32) (hsz : sz ≤ 800) (hp : p ≤ sz) (hf : byts (A tp)) (hC : CLow m F A L) (hw : wdP (A tp) sz 2 p) (hq : ∀ F' A' : Nat → Nat → Int, KQ rr F F' A A' → (no + br < 4 ∧ RD F' A' rr sz (p + 3) 0 pc_ cs (-13 :: pl) (no + 1) br 1 cm ∨ ¬ no + br < 4 ∧ RD F' A' rr sz p 4 (p : Int) cs pl no br 1 cm) → Q 0 (some (vI 0)) (CM m F' A' L)) : Ex (d + 7) RR_takesValue 0 [some (vR rr), some (vI c), none] [] (CM m F A L) Q := by
  have hk7 := hW.1
  have hk8 := hSW.1
  have hr448 := hW.2.1
  have r7 := hD.2.2.2.2.2.2.2.1
  have h25 : ∀ F' A' : Nat → Nat → Int, KQ rr F F' A A' → (no + br < 4 ∧ RD F' A' rr sz (p + 3) 0 pc_ cs (-13 :: pl) (no + 1) br 1 cm ∨ ¬ no + br < 4 ∧ RD F' A' rr sz p 4 (p : Int) cs pl no br 1 cm) → Ex (d + 7) RR_takesValue 25 [some (vR rr), some (vI c), none] [] (CM m F' A' L) Q := by
    intro F' A' k1 k2
    have hx := hq F' A' k1 k2
    refine Ex_step (tk_RR_takesValue rfl) ?_
    refine Ex_step (tk_RR_takesValue rfl) ⟨rfl, by first | exact Or.inl rfl | exact Or.inr rfl | exact b2i_01 _ | assumption, ?_⟩
    exact hx
  have h19 : Ex (d + 7) RR_takesValue 19 [some (vR rr), some (vI c), none] [] (CM m F A L) Q := by
    by_cases hn : no + br < 4
    · refine Ex_step (tk_RR_takesValue rfl) ?_
      refine Ex_step (tk_RR_takesValue rfl) ?_
      refine Ex_cVK (av := [vI (-13)]) (tk_RR_takesValue rfl) mk_RR_openOne ⟨rfl, rfl, by decide, rfl, Nat.le_of_ble_eq_true rfl, Nat.le_of_ble_eq_true rfl⟩ (hk7) (c_openN hW hSW hD hn hl hsz hp hf hC hw (fun F' A' k1 k2 => ⟨rfl, ?_⟩))
      exact h25 F' A' k1 (Or.inl ⟨hn, k2⟩)
    · refine Ex_step (tk_RR_takesValue rfl) ?_
      refine Ex_step (tk_RR_takesValue rfl) ?_
      refine Ex_cVK (av := [vI (-13)]) (tk_RR_takesValue rfl) mk_RR_openOne ⟨rfl, rfl, by decide, rfl, Nat.le_of_ble_eq_true rfl, Nat.le_of_ble_eq_true rfl⟩ (hk7) (c_openF hW hD (by omega) hk8 (fun F' k1 k2 => ⟨rfl, ?_⟩))
      exact h25 F' A k1 (Or.inr ⟨hn, k2⟩)
  have h16 : ∀ u : Int, u = 1 → Ex (d + 7) RR_takesValue 16 [some (vR rr), some (vI c), none] [vI u] (CM m F A L) Q := by
    intro u hu
    subst hu
    refine Ex_step (tk_RR_takesValue rfl) ⟨fun h16 => ?_, fun h16 => ?_⟩
    · replace h16 : _ := h16
      exact absurd (show w32 1 = w32 0 from h16) (by decide)
    · replace h16 : _ := h16
      exact h19
  refine Ex_step (tk_RR_takesValue rfl) ?_
  refine gCI (tk_RR_takesValue rfl) (hk7) ?_
  rw [r7]
  refine Ex_step (tk_RR_takesValue rfl) ⟨fun h4 => ?_, fun h4 => ?_⟩
  · replace h4 : _ := h4
    exact absurd (show w32 1 = w32 0 from h4) (by decide)
  · replace h4 : _ := h4
    refine Ex_step (tk_RR_takesValue rfl) ?_
    refine gCR (tk_RR_takesValue rfl) (hk7) (hr448) ?_
    refine Ex_step (tk_RR_takesValue rfl) ?_
    refine Ex_cVK (av := [vR 8]) (tk_RR_takesValue rfl) mk_Scan_seesWord ⟨rfl, rfl, by decide, rfl, Nat.le_of_ble_eq_true rfl, Nat.le_of_ble_eq_true rfl⟩ (hk8) (c_sees hSW hD.1 hsz hp hf (hC 2 (by decide)) (fun u hu => ⟨rfl, ?_⟩))
    exact h16 u (by rcases hu with ⟨z, _⟩ | ⟨_, z⟩; exact z; exact absurd hw z)
set_option maxRecDepth 100000 in
/-- no "not" there: the rest begins -/
theorem c_tv27 {c : Int} (hW : RRW m rr) (hSW : ScW m (rr + 1) tp) (hD : RD F A rr sz p 0 pc_ cs pl no br at_ cm) (hat : at_ = 0 ∨ at_ = 1) (hsz : sz ≤ 800) (hp : p ≤ sz) (hf : byts (A tp)) (hC : CLow m F A L) (hw : ¬ (at_ = 1 ∧ wdP (A tp) sz 2 p)) (hq : Ex (d + 7) RR_takesValue 32 [some (vR rr), some (vI c), none] [] (CM m (upF F 455 rr 0) A L) Q) : Ex (d + 7) RR_takesValue 0 [some (vR rr), some (vI c), none] [] (CM m F A L) Q := by
  have hk7 := hW.1
  have hk8 := hSW.1
  have hr448 := hW.2.1
  have r7 := hD.2.2.2.2.2.2.2.1
  have h27 : Ex (d + 7) RR_takesValue 27 [some (vR rr), some (vI c), none] [] (CM m F A L) Q := by
    refine Ex_step (tk_RR_takesValue rfl) ?_
    refine Ex_step (tk_RR_takesValue rfl) ?_
    refine pCZ (tk_RR_takesValue rfl) (hk7) (Or.inl rfl) ?_
    exact hq
  have h16 : ∀ u : Int, u = 0 → Ex (d + 7) RR_takesValue 16 [some (vR rr), some (vI c), none] [vI u] (CM m F A L) Q := by
    intro u hu
    subst hu
    refine Ex_step (tk_RR_takesValue rfl) ⟨fun h16 => ?_, fun h16 => ?_⟩
    · replace h16 : _ := h16
      exact h27
    · replace h16 : _ := h16
      exact absurd rfl h16
  rcases hat with rfl | rfl
  · refine Ex_step (tk_RR_takesValue rfl) ?_
    refine gCI (tk_RR_takesValue rfl) (hk7) ?_
    rw [r7]
    refine Ex_step (tk_RR_takesValue rfl) ⟨fun h4 => ?_, fun h4 => ?_⟩
    · replace h4 : _ := h4
      exact h27
    · replace h4 : _ := h4
      exact absurd rfl h4
  · refine Ex_step (tk_RR_takesValue rfl) ?_
    refine gCI (tk_RR_takesValue rfl) (hk7) ?_
    rw [r7]
    refine Ex_step (tk_RR_takesValue rfl) ⟨fun h4 => ?_, fun h4 => ?_⟩
    · replace h4 : _ := h4
      exact absurd (show w32 1 = w32 0 from h4) (by decide)
    · replace h4 : _ := h4
      refine Ex_step (tk_RR_takesValue rfl) ?_
      refine gCR (tk_RR_takesValue rfl) (hk7) (hr448) ?_
      refine Ex_step (tk_RR_takesValue rfl) ?_
      refine Ex_cVK (av := [vR 8]) (tk_RR_takesValue rfl) mk_Scan_seesWord ⟨rfl, rfl, by decide, rfl, Nat.le_of_ble_eq_true rfl, Nat.le_of_ble_eq_true rfl⟩ (hk8) (c_sees hSW hD.1 hsz hp hf (hC 2 (by decide)) (fun u hu => ⟨rfl, ?_⟩))
      exact h16 u (by rcases hu with ⟨_, z⟩ | ⟨z, _⟩; exact absurd ⟨rfl, z⟩ hw; exact z)
set_option maxRecDepth 100000 in
/-- a bracket -/
theorem c_tvB (hW : RRW m rr) (hk8 : mK m (rr + 1) = 8) (hD : RD F A rr sz p 0 pc_ cs pl no br 0 cm) (hn20 : no + br ≤ 20) (hl : pl.length < 32) (hsz : sz ≤ 800) (hp : p < sz) (hq : ∀ F' A' : Nat → Nat → Int, KQ rr F F' A A' → (no + br < 4 ∧ RD F' A' rr sz (p + 1) 0 pc_ cs (-10 :: pl) no (br + 1) 0 cm ∨ ¬ no + br < 4 ∧ RD F' A' rr sz p 4 (p : Int) cs pl no br 0 cm) → Q 0 (some (vI 0)) (CM m F' A' L)) : Ex (d + 7) RR_takesValue 32 [some (vR rr), some (vI 40), none] [] (CM m F A L) Q := by
  have hk7 := hW.1
  have h44 : ∀ F' A' : Nat → Nat → Int, KQ rr F F' A A' → (no + br < 4 ∧ RD F' A' rr sz (p + 1) 0 pc_ cs (-10 :: pl) no (br + 1) 0 cm ∨ ¬ no + br < 4 ∧ RD F' A' rr sz p 4 (p : Int) cs pl no br 0 cm) → Ex (d + 7) RR_takesValue 44 [some (vR rr), some (vI 40), none] [] (CM m F' A' L) Q := by
    intro F' A' k1 k2
    have hx := hq F' A' k1 k2
    refine Ex_step (tk_RR_takesValue rfl) ?_
    refine Ex_step (tk_RR_takesValue rfl) ⟨rfl, by first | exact Or.inl rfl | exact Or.inr rfl | exact b2i_01 _ | assumption, ?_⟩
    exact hx
  have h38 : Ex (d + 7) RR_takesValue 38 [some (vR rr), some (vI 40), none] [] (CM m F A L) Q := by
    by_cases hn : no + br < 4
    · refine Ex_step (tk_RR_takesValue rfl) ?_
      refine Ex_step (tk_RR_takesValue rfl) ?_
      refine Ex_cVK (av := [vI (-10)]) (tk_RR_takesValue rfl) mk_RR_openOne ⟨rfl, rfl, by decide, rfl, Nat.le_of_ble_eq_true rfl, Nat.le_of_ble_eq_true rfl⟩ (hk7) (c_openB hW hk8 hD hn hl hsz hp (fun F' A' k1 k2 => ⟨rfl, ?_⟩))
      exact h44 F' A' k1 (Or.inl ⟨hn, k2⟩)
    · refine Ex_step (tk_RR_takesValue rfl) ?_
      refine Ex_step (tk_RR_takesValue rfl) ?_
      refine Ex_cVK (av := [vI (-10)]) (tk_RR_takesValue rfl) mk_RR_openOne ⟨rfl, rfl, by decide, rfl, Nat.le_of_ble_eq_true rfl, Nat.le_of_ble_eq_true rfl⟩ (hk7) (c_openF hW hD (by omega) hk8 (fun F' k1 k2 => ⟨rfl, ?_⟩))
      exact h44 F' A k1 (Or.inr ⟨hn, k2⟩)
  refine Ex_step (tk_RR_takesValue rfl) ?_
  refine Ex_step (tk_RR_takesValue rfl) ?_
  refine Ex_step (tk_RR_takesValue rfl) ⟨fun h35 => ?_, fun h35 => ?_⟩
  · replace h35 : _ := h35
    exact absurd rfl h35
  · replace h35 : _ := h35
    exact h38
set_option maxRecDepth 100000 in
/-- a number -/
theorem c_tvD {c : Int} (hW : RRW m rr) (hSW : ScW m (rr + 1) tp) (hD : RD F A rr sz p 0 pc_ cs pl no br 0 cm) (hcl : cs.length < 800) (hsz : sz ≤ 800) (hp : p ≤ sz) (hf : byts (A tp)) (hc : dgt c) (hq : ∀ F' A' : Nat → Nat → Int, KQ rr F F' A A' → (¬ 9999 < nmV (A tp) sz p 0 ∧ RD F' A' rr sz (nmE (A tp) sz p) 0 pc_ (nmV (A tp) sz p 0 :: cs) pl no br 0 cm ∨ 9999 < nmV (A tp) sz p 0 ∧ RD F' A' rr sz p 2 (p : Int) (0 :: cs) pl no br 0 cm) → Q 0 (some (vI 1)) (CM m F' A' L)) : Ex (d + 7) RR_takesValue 32 [some (vR rr), some (vI c), none] [] (CM m F A L) Q := by
  have hk7 := hW.1
  have hk8 := hSW.1
  have hr448 := hW.2.1
  have hcb : 48 ≤ c ∧ c ≤ 57 := hc
  have h61 : ∀ (v : Int) (F1 : Nat → Nat → Int) (q fl2 : Nat) (pl2 : Int), KQ rr F F1 A A → RD F1 A rr sz q fl2 pl2 cs pl no br 0 cm → (∀ F' A' : Nat → Nat → Int, KQ rr F F' A A' → RD F' A' rr sz q fl2 pl2 (v :: cs) pl no br 0 cm → Q 0 (some (vI 1)) (CM m F' A' L)) → Ex (d + 7) RR_takesValue 61 [some (vR rr), some (vI c), none] [vI v, vR rr] (CM m F1 A L) Q := by
    intro v F1 q fl2 pl2 k1 hD1 hx
    refine Ex_cVK (av := [vI v]) (tk_RR_takesValue rfl) mk_RR_emit ⟨rfl, rfl, by decide, rfl, Nat.le_of_ble_eq_true rfl, Nat.le_of_ble_eq_true rfl⟩ (hk7) (c_emit hW hD1.2 hcl (fun F' A' k2 k3 => ⟨rfl, ?_⟩))
    refine Ex_step (tk_RR_takesValue rfl) ?_
    refine Ex_step (tk_RR_takesValue rfl) ⟨rfl, by first | exact Or.inl rfl | exact Or.inr rfl | exact b2i_01 _ | assumption, ?_⟩
    exact hx F' A' (k1.tr k2.q) (hD1.kr k2 k3)
  have hno : 9999 < nmV (A tp) sz p 0 → Ex (d + 7) RR_takesValue 61 [some (vR rr), some (vI c), none] [vI 0, vR rr] (CM m (upF (upF F 515 (rr + 1) 2) 516 (rr + 1) (p : Int)) A L) Q := fun z => h61 0 _ p 2 (p : Int) ((KQ.s rr F A 515 2).tr (KQ.s rr _ A 516 (p : Int))) (hD.fail 2) (fun F' A' k1 k2 => hq F' A' k1 (Or.inr ⟨z, k2⟩))
  have hyes : ¬ 9999 < nmV (A tp) sz p 0 → Ex (d + 7) RR_takesValue 61 [some (vR rr), some (vI c), none] [vI (nmV (A tp) sz p 0), vR rr] (CM m (upF F 514 (rr + 1) ((nmE (A tp) sz p : Nat) : Int)) A L) Q := fun z => h61 _ _ (nmE (A tp) sz p) 0 pc_ (KQ.s rr F A 514 _) (hD.mv _) (fun F' A' k1 k2 => hq F' A' k1 (Or.inl ⟨z, k2⟩))
  refine Ex_step (tk_RR_takesValue rfl) ?_
  refine Ex_step (tk_RR_takesValue rfl) ?_
  refine Ex_step (tk_RR_takesValue rfl) ⟨fun h35 => ?_, fun h35 => ?_⟩
  · try simp (disch := omega) only [cmpI, w32_b2i, b2i_0, b2i_1, w32_id, Classical.not_not, not_true_eq_false, not_false_eq_true] at h35
    refine Ex_step (tk_RR_takesValue rfl) ?_
    refine Ex_cS0 (av := [vI c]) (tk_RR_takesValue rfl) mk_Scan_isDigit ⟨rfl, by decide, rfl, rfl, rfl, Nat.le_of_ble_eq_true rfl, Nat.le_of_ble_eq_true rfl⟩ (fun _ h => c_isDigit (by omega) h) ?_
    refine Ex_step (tk_RR_takesValue rfl) ⟨fun h50 => ?_, fun h50 => ?_⟩
    · try simp (disch := omega) only [cmpI, w32_b2i, b2i_0, b2i_1, w32_id, Classical.not_not, not_true_eq_false, not_false_eq_true] at h50
      exact absurd hc h50
    · try simp (disch := omega) only [cmpI, w32_b2i, b2i_0, b2i_1, w32_id, Classical.not_not, not_true_eq_false, not_false_eq_true] at h50
      refine Ex_step (tk_RR_takesValue rfl) ?_
      refine Ex_step (tk_RR_takesValue rfl) ?_
      refine gCR (tk_RR_takesValue rfl) (hk7) (hr448) ?_
      refine Ex_cVK (av := []) (tk_RR_takesValue rfl) mk_Scan_takeNumber ⟨rfl, rfl, by decide, rfl, Nat.le_of_ble_eq_true rfl, Nat.le_of_ble_eq_true rfl⟩ hk8 (c_takeNum hSW hD.1 hsz hf (by omega) rfl (fun z => ⟨rfl, ?_⟩) (fun z => ⟨rfl, ?_⟩))
      · exact hno z
      · exact hyes z
  · try simp (disch := omega) only [cmpI, w32_b2i, b2i_0, b2i_1, w32_id, Classical.not_not, not_true_eq_false, not_false_eq_true] at h35
    omega
end CValue
