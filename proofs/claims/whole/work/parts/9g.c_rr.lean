/-! ===== the class: the reader of rules, small steps ===== -/
def sgn (c : Int) : Int := if c = 60 then -14 else if c = 61 then -15 else if c = 62 then -16 else if c = 43 then -17 else if c = 45 then -18 else if c = 42 then -19 else 0
abbrev isCmp (c : Int) : Prop := c = -14 ∨ c = -15 ∨ c = -16
/-- the class's own words -/
def cwA (w : Nat) : Nat := if w = 8 then 22 else if w = 9 then 20 else 4 + 2 * w
def CLow (m : Mem) (F A L : Nat → Nat → Int) : Prop := ∀ w, w < 10 → Txt (CM m F A L) (cwA w) (cwA w + 1) (wn w) (wg w)
set_option maxRecDepth 100000 in
theorem CLow.k {m : Mem} {F F' A A' L L' : Nat → Nat → Int} (h : CLow m F A L) (k1 : ∀ j, j < 100 → F' 1281 j = F 1281 j) (k2 : ∀ j, j < 100 → A' j = A j) : CLow m F' A' L' := fun w hw => by
  have hb : cwA w + 1 < 100 := by unfold cwA; split <;> (try split) <;> omega
  exact Txt_CM (h w hw) (k1 _ (by omega)) (k2 _ hb)
section CRr
variable {d rr no br : Nat} {cs pl : List Int} {at_ cm : Int} {m : Mem} {F A L : Nat → Nat → Int} {Q : Nat → Option AV → Mem → Prop}
set_option maxRecDepth 100000 in
theorem c_signOf {c : Int} (hc : -1 ≤ c ∧ c ≤ 255) (h : Q 0 (some (vI (sgn c))) m) : Ex d RR_signOf 0 [some (vI c)] [] m Q := by
  have e : w32 c = c := w32_id (by omega) (by omega)
  refine Ex_step (tk_RR_signOf rfl) ?_
  refine Ex_step (tk_RR_signOf rfl) ?_
  show Ex d RR_signOf (lsw [42, 75, 43, 69, 45, 72, 60, 60, 61, 63, 62, 66] 78 (w32 c)) _ _ _ Q
  rw [e]
  by_cases q : c = 42 ∨ c = 43 ∨ c = 45 ∨ c = 60 ∨ c = 61 ∨ c = 62
  · rcases q with rfl | rfl | rfl | rfl | rfl | rfl
    · show Ex d RR_signOf 75 _ [] _ Q
      refine Ex_step (tk_RR_signOf rfl) ?_
      refine Ex_step (tk_RR_signOf rfl) ⟨rfl, ?_⟩
      exact h
    · show Ex d RR_signOf 69 _ [] _ Q
      refine Ex_step (tk_RR_signOf rfl) ?_
      refine Ex_step (tk_RR_signOf rfl) ⟨rfl, ?_⟩
      exact h
    · show Ex d RR_signOf 72 _ [] _ Q
      refine Ex_step (tk_RR_signOf rfl) ?_
      refine Ex_step (tk_RR_signOf rfl) ⟨rfl, ?_⟩
      exact h
    · show Ex d RR_signOf 60 _ [] _ Q
      refine Ex_step (tk_RR_signOf rfl) ?_
      refine Ex_step (tk_RR_signOf rfl) ⟨rfl, ?_⟩
      exact h
    · show Ex d RR_signOf 63 _ [] _ Q
      refine Ex_step (tk_RR_signOf rfl) ?_
      refine Ex_step (tk_RR_signOf rfl) ⟨rfl, ?_⟩
      exact h
    · show Ex d RR_signOf 66 _ [] _ Q
      refine Ex_step (tk_RR_signOf rfl) ?_
      refine Ex_step (tk_RR_signOf rfl) ⟨rfl, ?_⟩
      exact h
  · have et : lsw [42, 75, 43, 69, 45, 72, 60, 60, 61, 63, 62, 66] 78 c = 78 := by
      simp only [lsw]
      rw [if_neg (by omega), if_neg (by omega), if_neg (by omega), if_neg (by omega), if_neg (by omega), if_neg (by omega)]
    rw [et]
    unfold sgn at h
    rw [if_neg (by omega), if_neg (by omega), if_neg (by omega), if_neg (by omega), if_neg (by omega), if_neg (by omega)] at h
    refine Ex_step (tk_RR_signOf rfl) ?_
    refine Ex_step (tk_RR_signOf rfl) ⟨rfl, ?_⟩
    exact h
set_option maxRecDepth 100000 in
theorem c_isCmp {c : Int} (hc : -100 ≤ c ∧ c ≤ 10000) (h : Q 0 (some (vI (b2i (isCmp c)))) m) : Ex d RR_isComparison 0 [some (vI c)] [] m Q := by
  refine Ex_step (tk_RR_isComparison rfl) ?_
  refine Ex_step (tk_RR_isComparison rfl) ?_
  refine Ex_step (tk_RR_isComparison rfl) ⟨fun h3 => ?_, fun h3 => ?_⟩
  · try simp (disch := omega) only [cmpI, w32_b2i, b2i_0, b2i_1, w32_id, Classical.not_not, not_true_eq_false, not_false_eq_true] at h3
    refine Ex_step (tk_RR_isComparison rfl) ?_
    refine Ex_step (tk_RR_isComparison rfl) ?_
    refine Ex_step (tk_RR_isComparison rfl) ⟨rfl, by first | exact Or.inl rfl | exact Or.inr rfl | exact b2i_01 _ | assumption, ?_⟩
    first | (rw [b2i_t (by unfold isCmp; omega)] at h; exact h) | (rw [b2i_f (by unfold isCmp; omega)] at h; exact h)
  · try simp (disch := omega) only [cmpI, w32_b2i, b2i_0, b2i_1, w32_id, Classical.not_not, not_true_eq_false, not_false_eq_true] at h3
    refine Ex_step (tk_RR_isComparison rfl) ?_
    refine Ex_step (tk_RR_isComparison rfl) ?_
    refine Ex_step (tk_RR_isComparison rfl) ⟨fun h9 => ?_, fun h9 => ?_⟩
    · try simp (disch := omega) only [cmpI, w32_b2i, b2i_0, b2i_1, w32_id, Classical.not_not, not_true_eq_false, not_false_eq_true] at h9
      refine Ex_step (tk_RR_isComparison rfl) ?_
      refine Ex_step (tk_RR_isComparison rfl) ?_
      refine Ex_step (tk_RR_isComparison rfl) ⟨rfl, by first | exact Or.inl rfl | exact Or.inr rfl | exact b2i_01 _ | assumption, ?_⟩
      first | (rw [b2i_t (by unfold isCmp; omega)] at h; exact h) | (rw [b2i_f (by unfold isCmp; omega)] at h; exact h)
    · try simp (disch := omega) only [cmpI, w32_b2i, b2i_0, b2i_1, w32_id, Classical.not_not, not_true_eq_false, not_false_eq_true] at h9
      refine Ex_step (tk_RR_isComparison rfl) ?_
      refine Ex_step (tk_RR_isComparison rfl) ?_
      refine Ex_step (tk_RR_isComparison rfl) ⟨fun h15 => ?_, fun h15 => ?_⟩
      · try simp (disch := omega) only [cmpI, w32_b2i, b2i_0, b2i_1, w32_id, Classical.not_not, not_true_eq_false, not_false_eq_true] at h15
        refine Ex_step (tk_RR_isComparison rfl) ?_
        refine Ex_step (tk_RR_isComparison rfl) ⟨rfl, by first | exact Or.inl rfl | exact Or.inr rfl | exact b2i_01 _ | assumption, ?_⟩
        first | (rw [b2i_t (by unfold isCmp; omega)] at h; exact h) | (rw [b2i_f (by unfold isCmp; omega)] at h; exact h)
      · try simp (disch := omega) only [cmpI, w32_b2i, b2i_0, b2i_1, w32_id, Classical.not_not, not_true_eq_false, not_false_eq_true] at h15
        refine Ex_step (tk_RR_isComparison rfl) ?_
        refine Ex_step (tk_RR_isComparison rfl) ?_
        refine Ex_step (tk_RR_isComparison rfl) ⟨rfl, by first | exact Or.inl rfl | exact Or.inr rfl | exact b2i_01 _ | assumption, ?_⟩
        first | (rw [b2i_t (by unfold isCmp; omega)] at h; exact h) | (rw [b2i_f (by unfold isCmp; omega)] at h; exact h)
set_option maxRecDepth 100000 in
theorem c_begCmp (hk7 : mK m rr = 7) (hR : RRF F A rr cs pl no br at_ cm) (hq : ∀ F' : Nat → Nat → Int, KR rr F F' A A → RRF F' A rr cs pl 0 br 1 0 → Q 0 none (CM m F' A L)) : Ex d RR_beginComparison 0 [some (vR rr)] [] (CM m F A L) Q := by
  obtain ⟨r1, r2, r3, r4, r5, r6, r7, r8⟩ := hR
  refine Ex_step (tk_RR_beginComparison rfl) ?_
  refine Ex_step (tk_RR_beginComparison rfl) ?_
  refine pCI (tk_RR_beginComparison rfl) (hk7) ?_
  refine Ex_step (tk_RR_beginComparison rfl) ?_
  refine Ex_step (tk_RR_beginComparison rfl) ?_
  refine pCZ (tk_RR_beginComparison rfl) (hk7) (Or.inr rfl) ?_
  refine Ex_step (tk_RR_beginComparison rfl) ?_
  refine Ex_step (tk_RR_beginComparison rfl) ?_
  refine pCZ (tk_RR_beginComparison rfl) (hk7) (Or.inl rfl) ?_
  refine Ex_step (tk_RR_beginComparison rfl) ⟨rfl, ?_⟩
  refine hq _ ⟨fun f j q => ?_, fun _ _ _ => rfl⟩ ⟨r1, r2, ?_, ?_, ?_, ?_, ?_, ?_⟩
  · rw [upF_a _ _ _ q, upF_a _ _ _ q, upF_a _ _ _ q]
  · rw [upF_f _ _ _ (by decide), upF_f _ _ _ (by decide), upF_f _ _ _ (by decide)]; exact r3
  · rw [upF_f _ _ _ (by decide), upF_f _ _ _ (by decide), upF_f _ _ _ (by decide)]; exact r4
  · rw [upF_f _ _ _ (by decide), upF_f _ _ _ (by decide), upF_at]; rfl
  · rw [upF_f _ _ _ (by decide), upF_f _ _ _ (by decide), upF_f _ _ _ (by decide)]; exact r6
  · rw [upF_f _ _ _ (by decide), upF_at]
  · rw [upF_at]
set_option maxRecDepth 100000 in
theorem c_begCmp0 (hk7 : mK m rr = 7) (hq : ∀ F' : Nat → Nat → Int, (∀ f j, j ≠ rr → F' f j = F f j) → (∀ f, f ≠ 453 → f ≠ 455 → f ≠ 456 → F' f rr = F f rr) → F' 453 rr = ((0 : Nat) : Int) → F' 455 rr = 1 → F' 456 rr = 0 → Q 0 none (CM m F' A L)) : Ex d RR_beginComparison 0 [some (vR rr)] [] (CM m F A L) Q := by
  refine Ex_step (tk_RR_beginComparison rfl) ?_
  refine Ex_step (tk_RR_beginComparison rfl) ?_
  refine pCI (tk_RR_beginComparison rfl) (hk7) ?_
  refine Ex_step (tk_RR_beginComparison rfl) ?_
  refine Ex_step (tk_RR_beginComparison rfl) ?_
  refine pCZ (tk_RR_beginComparison rfl) (hk7) (Or.inr rfl) ?_
  refine Ex_step (tk_RR_beginComparison rfl) ?_
  refine Ex_step (tk_RR_beginComparison rfl) ?_
  refine pCZ (tk_RR_beginComparison rfl) (hk7) (Or.inl rfl) ?_
  refine Ex_step (tk_RR_beginComparison rfl) ⟨rfl, ?_⟩
  refine hq _ (fun f j q => ?_) (fun f q1 q2 q3 => ?_) ?_ ?_ ?_
  · rw [upF_a _ _ _ q, upF_a _ _ _ q, upF_a _ _ _ q]
  · rw [upF_f _ _ _ q3, upF_f _ _ _ q2, upF_f _ _ _ q1]
  · rw [upF_f _ _ _ (by decide), upF_f _ _ _ (by decide), upF_at]; rfl
  · rw [upF_f _ _ _ (by decide), upF_at]
  · rw [upF_at]
set_option maxRecDepth 100000 in
theorem c_rrBegin (hW : RRW m rr) (hq : ∀ F' : Nat → Nat → Int, KR rr F F' A A → RRF F' A rr [] [] 0 0 1 0 → Q 0 none (CM m F' A L)) : Ex (d + 1) RR_begin 0 [some (vR rr)] [] (CM m F A L) Q := by
  have hk7 := hW.1
  refine Ex_step (tk_RR_begin rfl) ?_
  refine Ex_step (tk_RR_begin rfl) ?_
  refine pCI (tk_RR_begin rfl) (hk7) ?_
  refine Ex_step (tk_RR_begin rfl) ?_
  refine Ex_step (tk_RR_begin rfl) ?_
  refine pCI (tk_RR_begin rfl) (hk7) ?_
  refine Ex_step (tk_RR_begin rfl) ?_
  refine Ex_step (tk_RR_begin rfl) ?_
  refine pCI (tk_RR_begin rfl) (hk7) ?_
  refine Ex_step (tk_RR_begin rfl) ?_
  refine Ex_cVK (av := []) (tk_RR_begin rfl) mk_RR_beginComparison ⟨rfl, rfl, by decide, rfl, Nat.le_of_ble_eq_true rfl, Nat.le_of_ble_eq_true rfl⟩ hk7 (c_begCmp0 hk7 (fun F' k1 k2 k3 k4 k5 => ⟨rfl, ?_⟩))
  refine Ex_step (tk_RR_begin rfl) ⟨rfl, ?_⟩
  refine hq F' ⟨fun f j q => ?_, fun _ _ _ => rfl⟩ ⟨trivial, trivial, ?_, ?_, k3, ?_, k4, k5⟩
  · rw [k1 f j q, upF_a _ _ _ q, upF_a _ _ _ q, upF_a _ _ _ q]
  · rw [k2 450 (by decide) (by decide) (by decide), upF_f _ _ _ (by decide), upF_f _ _ _ (by decide), upF_at]; rfl
  · rw [k2 452 (by decide) (by decide) (by decide), upF_f _ _ _ (by decide), upF_at]; rfl
  · rw [k2 454 (by decide) (by decide) (by decide), upF_at]; rfl
set_option maxRecDepth 100000 in
theorem c_mayEnd (hk7 : mK m rr = 7) (hR : RRF F A rr cs pl no br at_ cm) (hcm : cm = 0 ∨ cm = 1) (hbr : br ≤ 9) (hq : Q 0 (some (vI (b2i (cm = 1 ∧ br = 0)))) (CM m F A L)) : Ex d RR_mayEnd 0 [some (vR rr)] [] (CM m F A L) Q := by
  obtain ⟨r1, r2, r3, r4, r5, r6, r7, r8⟩ := hR
  refine Ex_step (tk_RR_mayEnd rfl) ?_
  refine gCI (tk_RR_mayEnd rfl) (hk7) ?_
  rw [r8]
  refine Ex_step (tk_RR_mayEnd rfl) ⟨fun h4 => ?_, fun h4 => ?_⟩
  · try simp (disch := omega) only [cmpI, w32_b2i, b2i_0, b2i_1, w32_id, Classical.not_not, not_true_eq_false, not_false_eq_true] at h4
    refine Ex_step (tk_RR_mayEnd rfl) ?_
    refine Ex_step (tk_RR_mayEnd rfl) ⟨rfl, by first | exact Or.inl rfl | exact Or.inr rfl | exact b2i_01 _ | assumption, ?_⟩
    first | (rw [b2i_t (by omega)] at hq; exact hq) | (rw [b2i_f (by omega)] at hq; exact hq)
  · try simp (disch := omega) only [cmpI, w32_b2i, b2i_0, b2i_1, w32_id, Classical.not_not, not_true_eq_false, not_false_eq_true] at h4
    refine Ex_step (tk_RR_mayEnd rfl) ?_
    refine gCI (tk_RR_mayEnd rfl) (hk7) ?_
    rw [r6]
    refine Ex_step (tk_RR_mayEnd rfl) ⟨fun h11 => ?_, fun h11 => ?_⟩
    · try simp (disch := omega) only [cmpI, w32_b2i, b2i_0, b2i_1, w32_id, Classical.not_not, not_true_eq_false, not_false_eq_true] at h11
      refine Ex_step (tk_RR_mayEnd rfl) ?_
      refine Ex_step (tk_RR_mayEnd rfl) ⟨rfl, by first | exact Or.inl rfl | exact Or.inr rfl | exact b2i_01 _ | assumption, ?_⟩
      first | (rw [b2i_t (by omega)] at hq; exact hq) | (rw [b2i_f (by omega)] at hq; exact hq)
    · try simp (disch := omega) only [cmpI, w32_b2i, b2i_0, b2i_1, w32_id, Classical.not_not, not_true_eq_false, not_false_eq_true] at h11
      refine Ex_step (tk_RR_mayEnd rfl) ?_
      refine Ex_step (tk_RR_mayEnd rfl) ?_
      refine Ex_step (tk_RR_mayEnd rfl) ⟨rfl, by first | exact Or.inl rfl | exact Or.inr rfl | exact b2i_01 _ | assumption, ?_⟩
      first | (rw [b2i_t (by omega)] at hq; exact hq) | (rw [b2i_f (by omega)] at hq; exact hq)
set_option maxRecDepth 100000 in
theorem c_addSign {c : Int} (hW : RRW m rr) (hR : RRF F A rr cs pl no br at_ cm) (hc : -19 ≤ c ∧ c ≤ -11) (ho : okL pl) (hl : pl.length ≤ 31) (hcl : cs.length + pl.length ≤ 800) (hq : ∀ F' A' : Nat → Nat → Int, KR rr F F' A A' → RRF F' A' rr (relC (bnd c) pl cs) (c :: relP (bnd c) pl) no br at_ cm → Q 0 none (CM m F' A' L)) : Ex (d + 2) RR_addSign 0 [some (vR rr), some (vI c)] [] (CM m F A L) Q := by
  have hk7 := hW.1
  have hpl := relP_len (bnd c) pl
  have hbb : 0 ≤ bnd c ∧ bnd c ≤ 10 := by
    rcases (show c = -19 ∨ c = -18 ∨ c = -17 ∨ c = -16 ∨ c = -15 ∨ c = -14 ∨ c = -13 ∨ c = -12 ∨ c = -11 by omega) with rfl | rfl | rfl | rfl | rfl | rfl | rfl | rfl | rfl <;> decide
  refine Ex_step (tk_RR_addSign rfl) ?_
  refine Ex_step (tk_RR_addSign rfl) ?_
  refine Ex_cS0 (av := [vI c]) (tk_RR_addSign rfl) mk_RR_bindingOf ⟨rfl, by decide, rfl, rfl, rfl, Nat.le_of_ble_eq_true rfl, Nat.le_of_ble_eq_true rfl⟩ (fun _ h => c_bnd (by omega) h) ?_
  refine Ex_cVK (av := [vI (bnd c)]) (tk_RR_addSign rfl) mk_RR_release ⟨rfl, rfl, by decide, rfl, Nat.le_of_ble_eq_true rfl, Nat.le_of_ble_eq_true rfl⟩ (hk7) (c_release hW hbb pl cs F A ho (by omega) hcl hR (fun F' A' k1 k2 => ⟨rfl, ?_⟩))
  refine Ex_step (tk_RR_addSign rfl) ?_
  refine Ex_step (tk_RR_addSign rfl) ?_
  refine Ex_cVK (av := [vI c]) (tk_RR_addSign rfl) mk_RR_pile ⟨rfl, rfl, by decide, rfl, Nat.le_of_ble_eq_true rfl, Nat.le_of_ble_eq_true rfl⟩ (hk7) (c_pile hW k2 (by omega) (fun F2 A2 k3 k4 => ⟨rfl, ?_⟩))
  refine Ex_step (tk_RR_addSign rfl) ⟨rfl, ?_⟩
  exact hq F2 A2 (k1.tr k3) k4
set_option maxRecDepth 100000 in
theorem c_close (hW : RRW m rr) (hR : RRF F A rr cs pl no br at_ cm) (ho : okL pl) (hl : pl.length ≤ 32) (hcl : cs.length + pl.length ≤ 800) {x : Int} {r : List Int} (hx : relP 1 pl = x :: r) (hbr : 1 ≤ br ∧ br ≤ 9) (hq : ∀ F' A' : Nat → Nat → Int, KR rr F F' A A' → RRF F' A' rr (relC 1 pl cs) r no (br - 1) at_ cm → Q 0 none (CM m F' A' L)) : Ex (d + 2) RR_closeBracket 0 [some (vR rr)] [] (CM m F A L) Q := by
  have hk7 := hW.1
  have hpl := relP_len 1 pl
  rw [hx] at hpl
  simp only [List.length_cons] at hpl
  have key : ∀ F' A' : Nat → Nat → Int, KR rr F F' A A' → RRF F' A' rr (relC 1 pl cs) (relP 1 pl) no br at_ cm → Ex (d + 2) RR_closeBracket 5 [some (vR rr)] [] (CM m F' A' L) Q := by
    intro F' A' k1 k2
    rw [hx] at k2
    obtain ⟨r1, r2, r3, r4, r5, r6, r7, r8⟩ := k2
    have r4 : F' 452 rr = (r.length : Int) + 1 := r4
    have em : (r.length : Int) + 1 - 1 = (r.length : Int) := by omega
    have eb : (br : Int) - 1 = ((br - 1 : Nat) : Int) := by omega
    have e6 : upF F' 452 rr (r.length : Int) 454 rr = (br : Int) := by rw [upF_f _ _ _ (by decide)]; exact r6
    have hxx := hq (upF (upF F' 452 rr (r.length : Int)) 454 rr ((br - 1 : Nat) : Int)) A' ⟨fun f j q => by rw [upF_a _ _ _ q, upF_a _ _ _ q]; exact k1.1 f j q, k1.2⟩ ⟨r1, r2.2, by rw [upF_f _ _ _ (by decide), upF_f _ _ _ (by decide)]; exact r3, by rw [upF_f _ _ _ (by decide), upF_at], by rw [upF_f _ _ _ (by decide), upF_f _ _ _ (by decide)]; exact r5, upF_at _ _ _ _, by rw [upF_f _ _ _ (by decide), upF_f _ _ _ (by decide)]; exact r7, by rw [upF_f _ _ _ (by decide), upF_f _ _ _ (by decide)]; exact r8⟩
    have h22 : Ex (d + 2) RR_closeBracket 22 [some (vR rr)] [] (CM m (upF F' 452 rr (r.length : Int)) A' L) Q := by
      refine Ex_step (tk_RR_closeBracket rfl) ?_
      refine Ex_step (tk_RR_closeBracket rfl) ?_
      refine gCI (tk_RR_closeBracket rfl) (hk7) ?_
      rw [e6]
      refine Ex_step (tk_RR_closeBracket rfl) ?_
      refine Ex_step (tk_RR_closeBracket rfl) ?_
      show Ex (d + 2) RR_closeBracket 29 _ [vI ((br : Int) - 1), vR rr] _ Q
      rw [eb]
      refine pCI (tk_RR_closeBracket rfl) (hk7) ?_
      refine Ex_step (tk_RR_closeBracket rfl) ⟨rfl, ?_⟩
      exact hxx
    refine Ex_step (tk_RR_closeBracket rfl) ?_
    refine gCI (tk_RR_closeBracket rfl) (hk7) ?_
    rw [r4]
    refine Ex_step (tk_RR_closeBracket rfl) ⟨fun h9 => ?_, fun h9 => ?_⟩
    · try simp (disch := omega) only [cmpI, w32_b2i, b2i_0, b2i_1, w32_id, Classical.not_not, not_true_eq_false, not_false_eq_true] at h9
      first | exact h22 | omega
    · try simp (disch := omega) only [cmpI, w32_b2i, b2i_0, b2i_1, w32_id, Classical.not_not, not_true_eq_false, not_false_eq_true] at h9
      refine Ex_step (tk_RR_closeBracket rfl) ?_
      refine Ex_step (tk_RR_closeBracket rfl) ?_
      refine gCI (tk_RR_closeBracket rfl) (hk7) ?_
      rw [r4]
      refine Ex_step (tk_RR_closeBracket rfl) ?_
      refine Ex_step (tk_RR_closeBracket rfl) ?_
      show Ex (d + 2) RR_closeBracket 19 _ [vI ((r.length : Int) + 1 - 1), vR rr] _ Q
      rw [em]
      refine pCI (tk_RR_closeBracket rfl) (hk7) ?_
      first | exact h22 | omega
  refine Ex_step (tk_RR_closeBracket rfl) ?_
  refine Ex_step (tk_RR_closeBracket rfl) ?_
  refine Ex_cVK (av := [vI 1]) (tk_RR_closeBracket rfl) mk_RR_release ⟨rfl, rfl, by decide, rfl, Nat.le_of_ble_eq_true rfl, Nat.le_of_ble_eq_true rfl⟩ (hk7) (c_release hW (by decide) pl cs F A ho hl hcl hR (fun F' A' k1 k2 => ⟨rfl, ?_⟩))
  exact key F' A' k1 k2
end CRr
