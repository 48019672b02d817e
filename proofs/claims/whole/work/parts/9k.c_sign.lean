/-! ===== the class: facts and signs of a rule ===== -/
section CSign
variable {d rr tp sz p no br : Nat} {pc_ : Int} {cs pl : List Int} {at_ cm : Int} {m : Mem} {F A L : Nat → Nat → Int} {Q : Nat → Option AV → Mem → Prop}
set_option maxRecDepth 100000 in
/-- a fact, or what can't stand there -/
theorem c_tvF {c : Int} (hW : RRW m rr) (hSW : ScW m (rr + 1) tp) (hD : RD F A rr sz p 0 pc_ cs pl no br 0 cm) (hcl : cs.length < 800) (hsz : sz ≤ 800) (hp : p ≤ sz) (hf : byts (A tp)) (hC : CLow m F A L) (hc : ¬ dgt c) (hc2 : -1 ≤ c ∧ c ≤ 255) (hc4 : c ≠ 40) (hq1 : ∀ k, k < 5 → wdP (A tp) sz (3 + k) p → (∀ j, j < k → ¬ wdP (A tp) sz (3 + j) p) → ∀ F' A' : Nat → Nat → Int, KQ rr F F' A A' → RD F' A' rr sz (p + wn (3 + k)) 0 pc_ ((-1 - (k : Int)) :: cs) pl no br 0 cm → Q 0 (some (vI 1)) (CM m F' A' L)) (hq0 : (∀ j, j < 5 → ¬ wdP (A tp) sz (3 + j) p) → ∀ F' A' : Nat → Nat → Int, KQ rr F F' A A' → RD F' A' rr sz p 1 (p : Int) cs pl no br 0 cm → Q 0 (some (vI 0)) (CM m F' A' L)) : Ex (d + 7) RR_takesValue 32 [some (vR rr), some (vI c), none] [] (CM m F A L) Q := by
  have hk7 := hW.1
  have hk8 := hSW.1
  have hr448 := hW.2.1
  have hyes : ∀ (k : Nat) (v : Int), k < 5 → v = -1 - (k : Int) → wdP (A tp) sz (3 + k) p → (∀ j, j < k → ¬ wdP (A tp) sz (3 + j) p) → Ex (d + 7) RR_takesValue 70 [some (vR rr), some (vI c), none] [vI v] (CM m (upF F 514 (rr + 1) ((p + wn (3 + k) : Nat) : Int)) A L) Q := by
    intro k v hk hv z1 z2
    have hD1 := hD.mv (p + wn (3 + k))
    have hx := hq1 k hk z1 z2
    rw [← hv] at hx
    have hvb : v ≤ -1 ∧ -5 ≤ v := by omega
    clear hv
    refine Ex_step (tk_RR_takesValue rfl) ?_
    refine Ex_step (tk_RR_takesValue rfl) ?_
    refine Ex_step (tk_RR_takesValue rfl) ⟨fun h72 => ?_, fun h72 => ?_⟩
    · try simp (disch := omega) only [cmpI, w32_b2i, b2i_0, b2i_1, w32_id, Classical.not_not, not_true_eq_false, not_false_eq_true] at h72
      refine Ex_step (tk_RR_takesValue rfl) ?_
      refine Ex_step (tk_RR_takesValue rfl) ?_
      refine Ex_cVK (av := [vI v]) (tk_RR_takesValue rfl) mk_RR_emit ⟨rfl, rfl, by decide, rfl, Nat.le_of_ble_eq_true rfl, Nat.le_of_ble_eq_true rfl⟩ (hk7) (c_emit hW hD1.2 hcl (fun F' A' k2 k3 => ⟨rfl, ?_⟩))
      refine Ex_step (tk_RR_takesValue rfl) ?_
      refine Ex_step (tk_RR_takesValue rfl) ⟨rfl, by first | exact Or.inl rfl | exact Or.inr rfl | exact b2i_01 _ | assumption, ?_⟩
      exact hx F' A' ((KQ.s rr F A 514 _).tr k2.q) (hD1.kr k2 k3)
    · try simp (disch := omega) only [cmpI, w32_b2i, b2i_0, b2i_1, w32_id, Classical.not_not, not_true_eq_false, not_false_eq_true] at h72
      omega
  have hno : (∀ j, j < 5 → ¬ wdP (A tp) sz (3 + j) p) → Ex (d + 7) RR_takesValue 70 [some (vR rr), some (vI c), none] [vI 0] (CM m F A L) Q := by
    intro z
    have hx := hq0 z _ _ ((KQ.s rr F A 515 1).tr (KQ.s rr _ A 516 (p : Int))) (hD.fail 1)
    refine Ex_step (tk_RR_takesValue rfl) ?_
    refine Ex_step (tk_RR_takesValue rfl) ?_
    refine Ex_step (tk_RR_takesValue rfl) ⟨fun h72 => ?_, fun h72 => ?_⟩
    · replace h72 : _ := h72
      exact absurd rfl h72
    · replace h72 : _ := h72
      refine Ex_step (tk_RR_takesValue rfl) ?_
      refine gCR (tk_RR_takesValue rfl) (hk7) (hr448) ?_
      refine Ex_step (tk_RR_takesValue rfl) ?_
      refine Ex_cV0 (av := [vI ((1 : Nat) : Int)]) (tk_RR_takesValue rfl) mk_Scan_fail ⟨rfl, rfl, by decide, rfl, Nat.le_of_ble_eq_true rfl, Nat.le_of_ble_eq_true rfl⟩ (hk8) (fun _ h => c_fail hk8 hD.1 (by decide) h) ?_
      refine Ex_step (tk_RR_takesValue rfl) ?_
      refine Ex_step (tk_RR_takesValue rfl) ⟨rfl, by first | exact Or.inl rfl | exact Or.inr rfl | exact b2i_01 _ | assumption, ?_⟩
      exact hx
  refine Ex_step (tk_RR_takesValue rfl) ?_
  refine Ex_step (tk_RR_takesValue rfl) ?_
  refine Ex_step (tk_RR_takesValue rfl) ⟨fun h35 => ?_, fun h35 => ?_⟩
  · try simp (disch := omega) only [cmpI, w32_b2i, b2i_0, b2i_1, w32_id, Classical.not_not, not_true_eq_false, not_false_eq_true] at h35
    refine Ex_step (tk_RR_takesValue rfl) ?_
    refine Ex_cS0 (av := [vI c]) (tk_RR_takesValue rfl) mk_Scan_isDigit ⟨rfl, by decide, rfl, rfl, rfl, Nat.le_of_ble_eq_true rfl, Nat.le_of_ble_eq_true rfl⟩ (fun _ h => c_isDigit hc2 h) ?_
    refine Ex_step (tk_RR_takesValue rfl) ⟨fun h50 => ?_, fun h50 => ?_⟩
    · try simp (disch := omega) only [cmpI, w32_b2i, b2i_0, b2i_1, w32_id, Classical.not_not, not_true_eq_false, not_false_eq_true] at h50
      refine Ex_step (tk_RR_takesValue rfl) ?_
      refine Ex_cVK (av := []) (tk_RR_takesValue rfl) mk_RR_takeFact ⟨rfl, rfl, by decide, rfl, Nat.le_of_ble_eq_true rfl, Nat.le_of_ble_eq_true rfl⟩ hk7 (c_takeFact hk7 hr448 hSW hD.1 hsz hp hf hC (fun hw => ⟨rfl, ?_⟩) (fun n3 hw => ⟨rfl, ?_⟩) (fun n3 n4 hw => ⟨rfl, ?_⟩) (fun n3 n4 n5 hw => ⟨rfl, ?_⟩) (fun n3 n4 n5 n6 hw => ⟨rfl, ?_⟩) (fun n3 n4 n5 n6 n7 => ⟨rfl, ?_⟩))
      · exact hyes 0 (-1) (by decide) (by decide) hw (fun j hj => absurd hj (Nat.not_lt_zero j))
      · exact hyes 1 (-2) (by decide) (by decide) hw (fun j hj => by rcases (show j = 0 by omega) with rfl; exact n3)
      · exact hyes 2 (-3) (by decide) (by decide) hw (fun j hj => by rcases (show j = 0 ∨ j = 1 by omega) with rfl | rfl; exact n3; exact n4)
      · exact hyes 3 (-4) (by decide) (by decide) hw (fun j hj => by rcases (show j = 0 ∨ j = 1 ∨ j = 2 by omega) with rfl | rfl | rfl; exact n3; exact n4; exact n5)
      · exact hyes 4 (-5) (by decide) (by decide) hw (fun j hj => by rcases (show j = 0 ∨ j = 1 ∨ j = 2 ∨ j = 3 by omega) with rfl | rfl | rfl | rfl; exact n3; exact n4; exact n5; exact n6)
      · exact hno (fun j hj => by rcases (show j = 0 ∨ j = 1 ∨ j = 2 ∨ j = 3 ∨ j = 4 by omega) with rfl | rfl | rfl | rfl | rfl; exact n3; exact n4; exact n5; exact n6; exact n7)
    · try simp (disch := omega) only [cmpI, w32_b2i, b2i_0, b2i_1, w32_id, Classical.not_not, not_true_eq_false, not_false_eq_true] at h50
      exact absurd h50 hc
  · try simp (disch := omega) only [cmpI, w32_b2i, b2i_0, b2i_1, w32_id, Classical.not_not, not_true_eq_false, not_false_eq_true] at h35
    omega
set_option maxRecDepth 100000 in
/-- a bracket is closed -/
theorem c_sgB (hW : RRW m rr) (hk8 : mK m (rr + 1) = 8) (hD : RD F A rr sz p 0 pc_ cs pl no br at_ cm) (ho : okL pl) (hl : pl.length ≤ 32) (hcl : cs.length + pl.length ≤ 800) (hsz : sz ≤ 800) (hp : p < sz) {x : Int} {r : List Int} (hx : relP 1 pl = x :: r) (hbr : 1 ≤ br ∧ br ≤ 9) (hq : ∀ F' A' : Nat → Nat → Int, KQ rr F F' A A' → RD F' A' rr sz (p + 1) 0 pc_ (relC 1 pl cs) r no (br - 1) at_ cm → Q 0 (some (vI 0)) (CM m F' A' L)) : Ex (d + 7) RR_takesSign 0 [some (vR rr), some (vI 41), none] [] (CM m F A L) Q := by
  have hk7 := hW.1
  have hr448 := hW.2.1
  have r6 := hD.2.2.2.2.2.2.1
  have hD1 := hD.mv (p + 1)
  have h13 : Ex (d + 7) RR_takesSign 13 [some (vR rr), some (vI 41), none] [] (CM m F A L) Q := by
    refine Ex_step (tk_RR_takesSign rfl) ?_
    refine gCR (tk_RR_takesSign rfl) (hk7) (hr448) ?_
    refine Ex_cV0 (av := []) (tk_RR_takesSign rfl) mk_Scan_step ⟨rfl, rfl, by decide, rfl, Nat.le_of_ble_eq_true rfl, Nat.le_of_ble_eq_true rfl⟩ (hk8) (fun _ h => c_step hk8 hD.1 hsz hp h) ?_
    refine Ex_step (tk_RR_takesSign rfl) ?_
    refine Ex_cVK (av := []) (tk_RR_takesSign rfl) mk_RR_closeBracket ⟨rfl, rfl, by decide, rfl, Nat.le_of_ble_eq_true rfl, Nat.le_of_ble_eq_true rfl⟩ (hk7) (c_close hW hD1.2 ho hl hcl hx hbr (fun F' A' k1 k2 => ⟨rfl, ?_⟩))
    refine Ex_step (tk_RR_takesSign rfl) ?_
    refine Ex_step (tk_RR_takesSign rfl) ⟨rfl, by first | exact Or.inl rfl | exact Or.inr rfl | exact b2i_01 _ | assumption, ?_⟩
    exact hq F' A' ((KQ.s rr F A 514 _).tr k1.q) (hD1.kr k1 k2)
  refine Ex_step (tk_RR_takesSign rfl) ?_
  refine Ex_step (tk_RR_takesSign rfl) ?_
  refine Ex_step (tk_RR_takesSign rfl) ⟨fun h3 => ?_, fun h3 => ?_⟩
  · replace h3 : _ := h3
    first | exact absurd rfl h3 | exact absurd (show w32 (br : Int) ≤ w32 0 from h10) (by rw [w32_id (by omega) (by omega), show w32 0 = 0 from rfl]; omega)
  · replace h3 : _ := h3
    refine Ex_step (tk_RR_takesSign rfl) ?_
    refine gCI (tk_RR_takesSign rfl) (hk7) ?_
    rw [r6]
    refine Ex_step (tk_RR_takesSign rfl) ⟨fun h10 => ?_, fun h10 => ?_⟩
    · replace h10 : _ := h10
      first | exact absurd rfl h3 | exact absurd (show w32 (br : Int) ≤ w32 0 from h10) (by rw [w32_id (by omega) (by omega), show w32 0 = 0 from rfl]; omega)
    · replace h10 : _ := h10
      exact h13
set_option maxRecDepth 100000 in
/-- no bracket is closed there -/
theorem c_sg26 {c : Int} (hW : RRW m rr) (hD : RD F A rr sz p 0 pc_ cs pl no br at_ cm) (hc2 : -1 ≤ c ∧ c ≤ 255) (hbr : br ≤ 9) (hn : ¬ (c = 41 ∧ 0 < br)) (h : Ex (d + 7) RR_takesSign 26 [some (vR rr), some (vI c), none] [] (CM m F A L) Q) : Ex (d + 7) RR_takesSign 0 [some (vR rr), some (vI c), none] [] (CM m F A L) Q := by
  have hk7 := hW.1
  have r6 := hD.2.2.2.2.2.2.1
  refine Ex_step (tk_RR_takesSign rfl) ?_
  refine Ex_step (tk_RR_takesSign rfl) ?_
  refine Ex_step (tk_RR_takesSign rfl) ⟨fun h3 => ?_, fun h3 => ?_⟩
  · try simp (disch := omega) only [cmpI, w32_b2i, b2i_0, b2i_1, w32_id, Classical.not_not, not_true_eq_false, not_false_eq_true] at h3
    exact h
  · try simp (disch := omega) only [cmpI, w32_b2i, b2i_0, b2i_1, w32_id, Classical.not_not, not_true_eq_false, not_false_eq_true] at h3
    refine Ex_step (tk_RR_takesSign rfl) ?_
    refine gCI (tk_RR_takesSign rfl) (hk7) ?_
    rw [r6]
    refine Ex_step (tk_RR_takesSign rfl) ⟨fun h10 => ?_, fun h10 => ?_⟩
    · try simp (disch := omega) only [cmpI, w32_b2i, b2i_0, b2i_1, w32_id, Classical.not_not, not_true_eq_false, not_false_eq_true] at h10
      exact h
    · try simp (disch := omega) only [cmpI, w32_b2i, b2i_0, b2i_1, w32_id, Classical.not_not, not_true_eq_false, not_false_eq_true] at h10
      omega
set_option maxRecDepth 100000 in
/-- no joint there: a sign is due -/
theorem c_sg57 {c : Int} (hW : RRW m rr) (hSW : ScW m (rr + 1) tp) (hD : RD F A rr sz p 0 pc_ cs pl no br at_ cm) (hcm : cm = 0 ∨ cm = 1) (hbr : br ≤ 9) (hsz : sz ≤ 800) (hp : p ≤ sz) (hf : byts (A tp)) (hC : CLow m F A L) (hn : ¬ ((cm = 1 ∧ br = 0) ∧ (wdP (A tp) sz 9 p ∨ wdP (A tp) sz 8 p))) (h : ∀ l2 : Option AV, Ex (d + 7) RR_takesSign 57 [some (vR rr), some (vI c), l2] [] (CM m F A L) Q) : Ex (d + 7) RR_takesSign 26 [some (vR rr), some (vI c), none] [] (CM m F A L) Q := by
  have hk7 := hW.1
  have hr448 := hW.2.1
  have h41 : Ex (d + 7) RR_takesSign 41 [some (vR rr), some (vI c), none] [vI 0] (CM m F A L) Q := by
    refine Ex_step (tk_RR_takesSign rfl) ?_
    refine Ex_step (tk_RR_takesSign rfl) ?_
    refine Ex_step (tk_RR_takesSign rfl) ⟨fun h43 => ?_, fun h43 => ?_⟩
    · replace h43 : _ := h43
      exact h _
    · replace h43 : _ := h43
      exact absurd rfl h43
  refine Ex_step (tk_RR_takesSign rfl) ?_
  refine Ex_cV0 (av := []) (tk_RR_takesSign rfl) mk_RR_mayEnd ⟨rfl, rfl, by decide, rfl, Nat.le_of_ble_eq_true rfl, Nat.le_of_ble_eq_true rfl⟩ (hk7) (fun _ h => c_mayEnd hk7 hD.2 hcm hbr h) ?_
  refine Ex_step (tk_RR_takesSign rfl) ⟨fun h30 => ?_, fun h30 => ?_⟩
  · try simp (disch := omega) only [cmpI, w32_b2i, b2i_0, b2i_1, w32_id, Classical.not_not, not_true_eq_false, not_false_eq_true] at h30
    refine Ex_step (tk_RR_takesSign rfl) ?_
    exact h41
  · try simp (disch := omega) only [cmpI, w32_b2i, b2i_0, b2i_1, w32_id, Classical.not_not, not_true_eq_false, not_false_eq_true] at h30
    refine Ex_step (tk_RR_takesSign rfl) ?_
    refine Ex_cVK (av := []) (tk_RR_takesSign rfl) mk_RR_takeJoint ⟨rfl, rfl, by decide, rfl, Nat.le_of_ble_eq_true rfl, Nat.le_of_ble_eq_true rfl⟩ hk7 (c_takeJoint hk7 hr448 hSW hD.1 hsz hp hf hC (fun hw => absurd ⟨h30, Or.inl hw⟩ hn) (fun _ hw => absurd ⟨h30, Or.inr hw⟩ hn) (fun _ _ => ⟨rfl, ?_⟩))
    refine Ex_step (tk_RR_takesSign rfl) ?_
    exact h41
set_option maxRecDepth 100000 in
/-- "or", "and" -/
theorem c_sgJ {c : Int} (hW : RRW m rr) (hSW : ScW m (rr + 1) tp) (hD : RD F A rr sz p 0 pc_ cs pl no br at_ cm) (hm1 : cm = 1 ∧ br = 0) (ho : okL pl) (hl : pl.length ≤ 31) (hcl : cs.length + pl.length ≤ 800) (hsz : sz ≤ 800) (hp : p ≤ sz) (hf : byts (A tp)) (hC : CLow m F A L) (hw : wdP (A tp) sz 9 p ∨ wdP (A tp) sz 8 p) (hq : ∀ F' A' : Nat → Nat → Int, KQ rr F F' A A' → (wdP (A tp) sz 9 p ∧ RD F' A' rr sz (p + 2) 0 pc_ (relC 1 pl cs) (-11 :: relP 1 pl) 0 br 1 0 ∨ ¬ wdP (A tp) sz 9 p ∧ RD F' A' rr sz (p + 3) 0 pc_ (relC 2 pl cs) (-12 :: relP 2 pl) 0 br 1 0) → Q 0 (some (vI 1)) (CM m F' A' L)) : Ex (d + 7) RR_takesSign 26 [some (vR rr), some (vI c), none] [] (CM m F A L) Q := by
  have hk7 := hW.1
  have hr448 := hW.2.1
  have h46 : ∀ (v : Int) (q : Nat), v = -11 ∨ v = -12 → (∀ F' A' : Nat → Nat → Int, KQ rr F F' A A' → RD F' A' rr sz q 0 pc_ (relC (bnd v) pl cs) (v :: relP (bnd v) pl) 0 br 1 0 → Q 0 (some (vI 1)) (CM m F' A' L)) → Ex (d + 7) RR_takesSign 37 [some (vR rr), some (vI c), none] [vI v] (CM m (upF F 514 (rr + 1) (q : Int)) A L) Q := by
    intro v q hv hx
    have hD1 := hD.mv q
    refine Ex_step (tk_RR_takesSign rfl) ?_
    refine Ex_step (tk_RR_takesSign rfl) ?_
    refine Ex_step (tk_RR_takesSign rfl) ?_
    refine Ex_step (tk_RR_takesSign rfl) ⟨fun h43 => ?_, fun h43 => ?_⟩
    · try simp (disch := omega) only [cmpI, w32_b2i, b2i_0, b2i_1, w32_id, Classical.not_not, not_true_eq_false, not_false_eq_true] at h43
      omega
    · try simp (disch := omega) only [cmpI, w32_b2i, b2i_0, b2i_1, w32_id, Classical.not_not, not_true_eq_false, not_false_eq_true] at h43
      refine Ex_step (tk_RR_takesSign rfl) ?_
      refine Ex_step (tk_RR_takesSign rfl) ?_
      refine Ex_cVK (av := [vI v]) (tk_RR_takesSign rfl) mk_RR_addSign ⟨rfl, rfl, by decide, rfl, Nat.le_of_ble_eq_true rfl, Nat.le_of_ble_eq_true rfl⟩ (hk7) (c_addSign hW hD1.2 (by omega) ho hl hcl (fun F' A' k1 k2 => ⟨rfl, ?_⟩))
      refine Ex_step (tk_RR_takesSign rfl) ?_
      refine Ex_cVK (av := []) (tk_RR_takesSign rfl) mk_RR_beginComparison ⟨rfl, rfl, by decide, rfl, Nat.le_of_ble_eq_true rfl, Nat.le_of_ble_eq_true rfl⟩ (hk7) (c_begCmp hk7 k2 (fun F2 k3 k4 => ⟨rfl, ?_⟩))
      refine Ex_step (tk_RR_takesSign rfl) ?_
      refine Ex_step (tk_RR_takesSign rfl) ⟨rfl, by first | exact Or.inl rfl | exact Or.inr rfl | exact b2i_01 _ | assumption, ?_⟩
      exact hx F2 A' (((KQ.s rr F A 514 _).tr k1.q).tr k3.q) ((hD1.kr k1 k2).kr k3 k4)
  have hor : wdP (A tp) sz 9 p → Ex (d + 7) RR_takesSign 37 [some (vR rr), some (vI c), none] [vI (-11)] (CM m (upF F 514 (rr + 1) ((p + wn 9 : Nat) : Int)) A L) Q := fun z => h46 (-11) (p + 2) (Or.inl rfl) (fun F' A' k1 k2 => hq F' A' k1 (Or.inl ⟨z, k2⟩))
  have hand : ¬ wdP (A tp) sz 9 p → wdP (A tp) sz 8 p → Ex (d + 7) RR_takesSign 37 [some (vR rr), some (vI c), none] [vI (-12)] (CM m (upF F 514 (rr + 1) ((p + wn 8 : Nat) : Int)) A L) Q := fun z _ => h46 (-12) (p + 3) (Or.inr rfl) (fun F' A' k1 k2 => hq F' A' k1 (Or.inr ⟨z, k2⟩))
  refine Ex_step (tk_RR_takesSign rfl) ?_
  refine Ex_cV0 (av := []) (tk_RR_takesSign rfl) mk_RR_mayEnd ⟨rfl, rfl, by decide, rfl, Nat.le_of_ble_eq_true rfl, Nat.le_of_ble_eq_true rfl⟩ (hk7) (fun _ h => c_mayEnd hk7 hD.2 (Or.inr hm1.1) (by omega) h) ?_
  refine Ex_step (tk_RR_takesSign rfl) ⟨fun h30 => ?_, fun h30 => ?_⟩
  · try simp (disch := omega) only [cmpI, w32_b2i, b2i_0, b2i_1, w32_id, Classical.not_not, not_true_eq_false, not_false_eq_true] at h30
    exact absurd hm1 h30
  · try simp (disch := omega) only [cmpI, w32_b2i, b2i_0, b2i_1, w32_id, Classical.not_not, not_true_eq_false, not_false_eq_true] at h30
    refine Ex_step (tk_RR_takesSign rfl) ?_
    refine Ex_cVK (av := []) (tk_RR_takesSign rfl) mk_RR_takeJoint ⟨rfl, rfl, by decide, rfl, Nat.le_of_ble_eq_true rfl, Nat.le_of_ble_eq_true rfl⟩ hk7 (c_takeJoint hk7 hr448 hSW hD.1 hsz hp hf hC (fun hw => ⟨rfl, ?_⟩) (fun n9 hw => ⟨rfl, ?_⟩) (fun n9 n8 => absurd hw (fun z => z.elim n9 n8)))
    · exact hor hw
    · exact hand n9 hw
set_option maxRecDepth 100000 in
/-- a sign, or what can't stand there -/
theorem c_sgS {c : Int} (hW : RRW m rr) (hk8 : mK m (rr + 1) = 8) (hD : RD F A rr sz p 0 pc_ cs pl no br at_ cm) (hcm : cm = 0 ∨ cm = 1) (hc2 : -1 ≤ c ∧ c ≤ 255) (hbr : br ≤ 9) (ho : okL pl) (hl : pl.length ≤ 31) (hcl : cs.length + pl.length ≤ 800) (hsz : sz ≤ 800) (hp : sgn c ≠ 0 → p < sz) {l2 : Option AV} (hq1 : sgn c ≠ 0 → ¬ (isCmp (sgn c) ∧ (cm = 1 ∨ 0 < br)) → ∀ F' A' : Nat → Nat → Int, KQ rr F F' A A' → RD F' A' rr sz (p + 1) 0 pc_ (relC (bnd (sgn c)) pl cs) (sgn c :: relP (bnd (sgn c)) pl) no br at_ (b2i (cm = 1 ∨ isCmp (sgn c))) → Q 0 (some (vI 1)) (CM m F' A' L)) (hq0 : (sgn c = 0 ∨ isCmp (sgn c) ∧ (cm = 1 ∨ 0 < br)) → ∀ F' : Nat → Nat → Int, KQ rr F F' A A → RD F' A rr sz p 1 (p : Int) cs pl no br at_ cm → Q 0 (some (vI 0)) (CM m F' A L)) : Ex (d + 7) RR_takesSign 57 [some (vR rr), some (vI c), l2] [] (CM m F A L) Q := by
  have hk7 := hW.1
  have hr448 := hW.2.1
  have r6 := hD.2.2.2.2.2.2.1
  have r8 := hD.2.2.2.2.2.2.2.2
  have hsb : sgn c = 0 ∨ (-19 ≤ sgn c ∧ sgn c ≤ -14) := by
    unfold sgn
    split
    · right; decide
    · split
      · right; decide
      · split
        · right; decide
        · split
          · right; decide
          · split
            · right; decide
            · split
              · right; decide
              · left; rfl
  have hsig := fun (Q1 : Nat → Option AV → Mem → Prop) (M : Mem) => c_signOf (d := d + 6) (m := M) (Q := Q1) hc2
  generalize sgn c = s at *
  have h87 : (s = 0 ∨ isCmp s ∧ (cm = 1 ∨ 0 < br)) → Ex (d + 7) RR_takesSign 87 [some (vR rr), some (vI c), some (vI s)] [] (CM m F A L) Q := by
    intro z
    have hx := hq0 z _ ((KQ.s rr F A 515 1).tr (KQ.s rr _ A 516 (p : Int))) (hD.fail 1)
    refine Ex_step (tk_RR_takesSign rfl) ?_
    refine gCR (tk_RR_takesSign rfl) (hk7) (hr448) ?_
    refine Ex_step (tk_RR_takesSign rfl) ?_
    refine Ex_cV0 (av := [vI ((1 : Nat) : Int)]) (tk_RR_takesSign rfl) mk_Scan_fail ⟨rfl, rfl, by decide, rfl, Nat.le_of_ble_eq_true rfl, Nat.le_of_ble_eq_true rfl⟩ (hk8) (fun _ h => c_fail hk8 hD.1 (by decide) h) ?_
    refine Ex_step (tk_RR_takesSign rfl) ?_
    refine Ex_step (tk_RR_takesSign rfl) ⟨rfl, by first | exact Or.inl rfl | exact Or.inr rfl | exact b2i_01 _ | assumption, ?_⟩
    exact hx
  have h97 : s ≠ 0 → ¬ (isCmp s ∧ (cm = 1 ∨ 0 < br)) → Ex (d + 7) RR_takesSign 97 [some (vR rr), some (vI c), some (vI s)] [] (CM m F A L) Q := by
    intro z1 z2
    have hx := hq1 z1 z2
    have hD1 := hD.mv (p + 1)
    have key : ∀ F' A' : Nat → Nat → Int, KQ rr F F' A A' → RD F' A' rr sz (p + 1) 0 pc_ (relC (bnd s) pl cs) (s :: relP (bnd s) pl) no br at_ cm → Ex (d + 7) RR_takesSign 109 [some (vR rr), some (vI c), some (vI s)] [] (CM m F' A' L) Q := by
      intro F' A' k1 k2
      obtain ⟨sc, q1, q2, q3, q4, q5, q6, q7, q8⟩ := k2
      have h129 : ∀ v : Int, v = b2i (cm = 1 ∨ isCmp s) → (v = 0 ∨ v = 1) → Ex (d + 7) RR_takesSign 129 [some (vR rr), some (vI c), some (vI s)] [vI v, vR rr] (CM m F' A' L) Q := by
        intro v hv hv01
        have hxx := hx (upF F' 456 rr v) A' (k1.tr (KQ.r rr F' A' 456 v)) ⟨sc.k (fun f => upF_a _ _ _ (by omega)), q1, q2, by rw [upF_f _ _ _ (by decide)]; exact q3, by rw [upF_f _ _ _ (by decide)]; exact q4, by rw [upF_f _ _ _ (by decide)]; exact q5, by rw [upF_f _ _ _ (by decide)]; exact q6, by rw [upF_f _ _ _ (by decide)]; exact q7, by rw [upF_at]; exact hv⟩
        refine pCZ (tk_RR_takesSign rfl) (hk7) (hv01) ?_
        refine Ex_step (tk_RR_takesSign rfl) ?_
        refine Ex_step (tk_RR_takesSign rfl) ⟨rfl, by first | exact Or.inl rfl | exact Or.inr rfl | exact b2i_01 _ | assumption, ?_⟩
        exact hxx
      refine Ex_step (tk_RR_takesSign rfl) ?_
      refine Ex_step (tk_RR_takesSign rfl) ?_
      refine gCI (tk_RR_takesSign rfl) (hk7) ?_
      rw [q8]
      refine Ex_step (tk_RR_takesSign rfl) ⟨fun h114 => ?_, fun h114 => ?_⟩
      · try simp (disch := omega) only [cmpI, w32_b2i, b2i_0, b2i_1, w32_id, Classical.not_not, not_true_eq_false, not_false_eq_true] at h114
        have hy := h129 1 (b2i_t (by first | exact Or.inl (by omega) | exact Or.inr h121)).symm (Or.inr rfl)
        refine Ex_step (tk_RR_takesSign rfl) ?_
        refine Ex_step (tk_RR_takesSign rfl) ?_
        exact hy
      · try simp (disch := omega) only [cmpI, w32_b2i, b2i_0, b2i_1, w32_id, Classical.not_not, not_true_eq_false, not_false_eq_true] at h114
        refine Ex_step (tk_RR_takesSign rfl) ?_
        refine Ex_cS0 (av := [vI s]) (tk_RR_takesSign rfl) mk_RR_isComparison ⟨rfl, by decide, rfl, rfl, rfl, Nat.le_of_ble_eq_true rfl, Nat.le_of_ble_eq_true rfl⟩ (fun _ h => c_isCmp (by omega) h) ?_
        refine Ex_step (tk_RR_takesSign rfl) ⟨fun h121 => ?_, fun h121 => ?_⟩
        · try simp (disch := omega) only [cmpI, w32_b2i, b2i_0, b2i_1, w32_id, Classical.not_not, not_true_eq_false, not_false_eq_true] at h121
          have hy := h129 0 (b2i_f (fun w => w.elim (fun w => by omega) h121)).symm (Or.inl rfl)
          refine Ex_step (tk_RR_takesSign rfl) ?_
          exact hy
        · try simp (disch := omega) only [cmpI, w32_b2i, b2i_0, b2i_1, w32_id, Classical.not_not, not_true_eq_false, not_false_eq_true] at h121
          have hy := h129 1 (b2i_t (by first | exact Or.inl (by omega) | exact Or.inr h121)).symm (Or.inr rfl)
          refine Ex_step (tk_RR_takesSign rfl) ?_
          refine Ex_step (tk_RR_takesSign rfl) ?_
          exact hy
    refine Ex_step (tk_RR_takesSign rfl) ?_
    refine gCR (tk_RR_takesSign rfl) (hk7) (hr448) ?_
    refine Ex_cV0 (av := []) (tk_RR_takesSign rfl) mk_Scan_step ⟨rfl, rfl, by decide, rfl, Nat.le_of_ble_eq_true rfl, Nat.le_of_ble_eq_true rfl⟩ (hk8) (fun _ h => c_step hk8 hD.1 hsz (hp z1) h) ?_
    refine Ex_step (tk_RR_takesSign rfl) ?_
    refine Ex_step (tk_RR_takesSign rfl) ?_
    refine Ex_cVK (av := [vI s]) (tk_RR_takesSign rfl) mk_RR_addSign ⟨rfl, rfl, by decide, rfl, Nat.le_of_ble_eq_true rfl, Nat.le_of_ble_eq_true rfl⟩ (hk7) (c_addSign hW hD1.2 (by omega) ho hl hcl (fun F' A' k1 k2 => ⟨rfl, ?_⟩))
    exact key F' A' ((KQ.s rr F A 514 _).tr k1.q) (hD1.kr k1 k2)
  refine Ex_step (tk_RR_takesSign rfl) ?_
  refine Ex_cS0 (av := [vI c]) (tk_RR_takesSign rfl) mk_RR_signOf ⟨rfl, by decide, rfl, rfl, rfl, Nat.le_of_ble_eq_true rfl, Nat.le_of_ble_eq_true rfl⟩ (fun _ h => hsig _ _ h) ?_
  refine Ex_step (tk_RR_takesSign rfl) ?_
  refine Ex_step (tk_RR_takesSign rfl) ?_
  refine Ex_step (tk_RR_takesSign rfl) ⟨fun h63 => ?_, fun h63 => ?_⟩
  · try simp (disch := omega) only [cmpI, w32_b2i, b2i_0, b2i_1, w32_id, Classical.not_not, not_true_eq_false, not_false_eq_true] at h63
    exact h87 (by first | exact Or.inl (by omega) | exact Or.inr ⟨h70, by omega⟩)
  · try simp (disch := omega) only [cmpI, w32_b2i, b2i_0, b2i_1, w32_id, Classical.not_not, not_true_eq_false, not_false_eq_true] at h63
    refine Ex_step (tk_RR_takesSign rfl) ?_
    refine Ex_cS0 (av := [vI s]) (tk_RR_takesSign rfl) mk_RR_isComparison ⟨rfl, by decide, rfl, rfl, rfl, Nat.le_of_ble_eq_true rfl, Nat.le_of_ble_eq_true rfl⟩ (fun _ h => c_isCmp (by omega) h) ?_
    refine Ex_step (tk_RR_takesSign rfl) ⟨fun h70 => ?_, fun h70 => ?_⟩
    · try simp (disch := omega) only [cmpI, w32_b2i, b2i_0, b2i_1, w32_id, Classical.not_not, not_true_eq_false, not_false_eq_true] at h70
      exact h97 (by omega) (fun w => by first | exact h70 w.1 | (have := w.2; omega))
    · try simp (disch := omega) only [cmpI, w32_b2i, b2i_0, b2i_1, w32_id, Classical.not_not, not_true_eq_false, not_false_eq_true] at h70
      refine Ex_step (tk_RR_takesSign rfl) ?_
      refine gCI (tk_RR_takesSign rfl) (hk7) ?_
      rw [r8]
      refine Ex_step (tk_RR_takesSign rfl) ⟨fun h77 => ?_, fun h77 => ?_⟩
      · try simp (disch := omega) only [cmpI, w32_b2i, b2i_0, b2i_1, w32_id, Classical.not_not, not_true_eq_false, not_false_eq_true] at h77
        exact h87 (by first | exact Or.inl (by omega) | exact Or.inr ⟨h70, by omega⟩)
      · try simp (disch := omega) only [cmpI, w32_b2i, b2i_0, b2i_1, w32_id, Classical.not_not, not_true_eq_false, not_false_eq_true] at h77
        refine Ex_step (tk_RR_takesSign rfl) ?_
        refine gCI (tk_RR_takesSign rfl) (hk7) ?_
        rw [r6]
        refine Ex_step (tk_RR_takesSign rfl) ⟨fun h84 => ?_, fun h84 => ?_⟩
        · try simp (disch := omega) only [cmpI, w32_b2i, b2i_0, b2i_1, w32_id, Classical.not_not, not_true_eq_false, not_false_eq_true] at h84
          exact h97 (by omega) (fun w => by first | exact h70 w.1 | (have := w.2; omega))
        · try simp (disch := omega) only [cmpI, w32_b2i, b2i_0, b2i_1, w32_id, Classical.not_not, not_true_eq_false, not_false_eq_true] at h84
          exact h87 (by first | exact Or.inl (by omega) | exact Or.inr ⟨h70, by omega⟩)
end CSign
