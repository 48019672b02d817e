/-! ===== the class: signs that wait, codes that are told ===== -/
def bnd (c : Int) : Int := if c = -10 then 0 else if c = -11 then 1 else if c = -12 then 2 else if c = -13 then 3 else if c = -17 ∨ c = -18 then 5 else if c = -19 then 6 else 4
/-- where the reader of rules lies: its scanner, its rows -/
def RRW (m : Mem) (rr : Nat) : Prop := mK m rr = 7 ∧ mFR m 448 rr = rr + 1 ∧ mFR m 449 rr = rr + 3 ∧ IA m (rr + 3) 800 ∧ mFR m 451 rr = rr + 4 ∧ IA m (rr + 4) 32
/-- codes told (the latest first), signs that wait (the latest first), what is open -/
def RRF (F A : Nat → Nat → Int) (rr : Nat) (cs pl : List Int) (no br : Nat) (at_ cm : Int) : Prop := stkR (A (rr + 3)) cs ∧ stkR (A (rr + 4)) pl ∧ F 450 rr = (cs.length : Int) ∧ F 452 rr = (pl.length : Int) ∧ F 453 rr = (no : Int) ∧ F 454 rr = (br : Int) ∧ F 455 rr = at_ ∧ F 456 rr = cm
def KR (rr : Nat) (F F' A A' : Nat → Nat → Int) : Prop := (∀ f j, j ≠ rr → F' f j = F f j) ∧ ∀ j, j ≠ rr + 3 → j ≠ rr + 4 → A' j = A j
set_option maxRecDepth 100000 in
theorem KR.rf (rr : Nat) (F A : Nat → Nat → Int) : KR rr F F A A := ⟨fun _ _ _ => rfl, fun _ _ _ => rfl⟩
set_option maxRecDepth 100000 in
theorem KR.tr {rr : Nat} {F F' F2 A A' A2 : Nat → Nat → Int} (h : KR rr F F' A A') (g : KR rr F' F2 A' A2) : KR rr F F2 A A2 := ⟨fun f j q => (g.1 f j q).trans (h.1 f j q), fun j q1 q2 => (g.2 j q1 q2).trans (h.2 j q1 q2)⟩
set_option maxRecDepth 100000 in
theorem KR.up (rr : Nat) (F A : Nat → Nat → Int) (f : Nat) (v : Int) : KR rr F (upF F f rr v) A A := ⟨fun _ _ q => upF_a _ _ _ q, fun _ _ _ => rfl⟩
/-- signs that bind at least so are told -/
def relP (b : Int) : List Int → List Int
  | [] => []
  | x :: r => if b ≤ bnd x then relP b r else x :: r
def relC (b : Int) : List Int → List Int → List Int
  | [], cs => cs
  | x :: r, cs => if b ≤ bnd x then relC b r (x :: cs) else cs
set_option maxRecDepth 100000 in
theorem relP_len (b : Int) : ∀ pl, (relP b pl).length ≤ pl.length
  | [] => Nat.le_refl _
  | x :: r => by
    unfold relP
    have := relP_len b r
    split
    · simp only [List.length_cons]; omega
    · exact Nat.le_refl _
set_option maxRecDepth 100000 in
theorem relC_len (b : Int) : ∀ pl cs, (relC b pl cs).length + (relP b pl).length = cs.length + pl.length
  | [], _ => rfl
  | x :: r, cs => by
    unfold relC relP
    have := relC_len b r (x :: cs)
    split
    · simp only [List.length_cons] at this ⊢; omega
    · rfl
section CPile
variable {d rr no br : Nat} {cs pl : List Int} {at_ cm : Int} {m : Mem} {F A L : Nat → Nat → Int} {Q : Nat → Option AV → Mem → Prop}
set_option maxRecDepth 100000 in
theorem c_bnd {c : Int} (hc : -100 ≤ c ∧ c ≤ 10000) (h : Q 0 (some (vI (bnd c))) m) : Ex d RR_bindingOf 0 [some (vI c)] [] m Q := by
  have e : w32 c = c := w32_id (by omega) (by omega)
  unfold bnd at h
  refine Ex_step (tk_RR_bindingOf rfl) ?_
  refine Ex_step (tk_RR_bindingOf rfl) ?_
  show Ex d RR_bindingOf (tsw (-19) (-10) _ (w32 c)) _ _ _ Q
  rw [e]
  by_cases q : c < -19 ∨ -10 < c
  · rw [if_neg (by omega), if_neg (by omega), if_neg (by omega), if_neg (by omega), if_neg (by omega), if_neg (by omega)] at h
    have et : tsw (-19) (-10) [69, 66, 64, 64, 69, 69, 69, 62, 60, 58, 56] c = 69 := if_pos q
    show Ex d RR_bindingOf (tsw (-19) (-10) [69, 66, 64, 64, 69, 69, 69, 62, 60, 58, 56] c) _ _ _ Q
    rw [et]
    refine Ex_step (tk_RR_bindingOf rfl) ?_
    refine Ex_step (tk_RR_bindingOf rfl) ⟨rfl, ?_⟩
    exact h
  · rcases (show c = -19 ∨ c = -18 ∨ c = -17 ∨ c = -16 ∨ c = -15 ∨ c = -14 ∨ c = -13 ∨ c = -12 ∨ c = -11 ∨ c = -10 by omega) with rfl | rfl | rfl | rfl | rfl | rfl | rfl | rfl | rfl | rfl
    · show Ex d RR_bindingOf 66 _ [] _ Q
      refine Ex_step (tk_RR_bindingOf rfl) ?_
      refine Ex_step (tk_RR_bindingOf rfl) ⟨rfl, ?_⟩
      exact h
    · show Ex d RR_bindingOf 64 _ [] _ Q
      refine Ex_step (tk_RR_bindingOf rfl) ?_
      refine Ex_step (tk_RR_bindingOf rfl) ⟨rfl, ?_⟩
      exact h
    · show Ex d RR_bindingOf 64 _ [] _ Q
      refine Ex_step (tk_RR_bindingOf rfl) ?_
      refine Ex_step (tk_RR_bindingOf rfl) ⟨rfl, ?_⟩
      exact h
    · show Ex d RR_bindingOf 69 _ [] _ Q
      refine Ex_step (tk_RR_bindingOf rfl) ?_
      refine Ex_step (tk_RR_bindingOf rfl) ⟨rfl, ?_⟩
      exact h
    · show Ex d RR_bindingOf 69 _ [] _ Q
      refine Ex_step (tk_RR_bindingOf rfl) ?_
      refine Ex_step (tk_RR_bindingOf rfl) ⟨rfl, ?_⟩
      exact h
    · show Ex d RR_bindingOf 69 _ [] _ Q
      refine Ex_step (tk_RR_bindingOf rfl) ?_
      refine Ex_step (tk_RR_bindingOf rfl) ⟨rfl, ?_⟩
      exact h
    · show Ex d RR_bindingOf 62 _ [] _ Q
      refine Ex_step (tk_RR_bindingOf rfl) ?_
      refine Ex_step (tk_RR_bindingOf rfl) ⟨rfl, ?_⟩
      exact h
    · show Ex d RR_bindingOf 60 _ [] _ Q
      refine Ex_step (tk_RR_bindingOf rfl) ?_
      refine Ex_step (tk_RR_bindingOf rfl) ⟨rfl, ?_⟩
      exact h
    · show Ex d RR_bindingOf 58 _ [] _ Q
      refine Ex_step (tk_RR_bindingOf rfl) ?_
      refine Ex_step (tk_RR_bindingOf rfl) ⟨rfl, ?_⟩
      exact h
    · show Ex d RR_bindingOf 56 _ [] _ Q
      refine Ex_step (tk_RR_bindingOf rfl) ?_
      refine Ex_step (tk_RR_bindingOf rfl) ⟨rfl, ?_⟩
      exact h
set_option maxRecDepth 100000 in
theorem c_emit {v : Int} (hW : RRW m rr) (hR : RRF F A rr cs pl no br at_ cm) (hl : cs.length < 800) (hq : ∀ F' A' : Nat → Nat → Int, KR rr F F' A A' → RRF F' A' rr (v :: cs) pl no br at_ cm → Q 0 none (CM m F' A' L)) : Ex d RR_emit 0 [some (vR rr), some (vI v)] [] (CM m F A L) Q := by
  have hk7 := hW.1
  have hr449 := hW.2.2.1
  obtain ⟨r1, r2, r3, r4, r5, r6, r7, r8⟩ := hR
  have e1 : (cs.length : Int) + 1 = (((v :: cs).length : Nat) : Int) := rfl
  have hx := hq (upF F 450 rr ((cs.length : Int) + 1)) (up1 A (rr + 3) (up1 (A (rr + 3)) cs.length v)) ⟨fun f j q => upF_a _ _ _ q, fun j q1 _ => up1_ne _ _ q1⟩ ⟨⟨by rw [up1_at, up1_at], by rw [up1_at]; exact stkR_up (Nat.le_refl _) r1⟩, by rw [up1_ne _ _ (by omega)]; exact r2, by rw [upF_at, e1], by rw [upF_f _ _ _ (by decide)]; exact r4, by rw [upF_f _ _ _ (by decide)]; exact r5, by rw [upF_f _ _ _ (by decide)]; exact r6, by rw [upF_f _ _ _ (by decide)]; exact r7, by rw [upF_f _ _ _ (by decide)]; exact r8⟩
  refine Ex_step (tk_RR_emit rfl) ?_
  refine gCI (tk_RR_emit rfl) (hk7) ?_
  rw [r3]
  refine Ex_step (tk_RR_emit rfl) ?_
  refine gCR (tk_RR_emit rfl) (hk7) (hr449) ?_
  refine lenC (tk_RR_emit rfl) hW.2.2.2.1 ?_
  refine Ex_step (tk_RR_emit rfl) ⟨fun h9 => ?_, fun h9 => ?_⟩
  · try simp (disch := omega) only [cmpI, w32_b2i, b2i_0, b2i_1, w32_id, Classical.not_not, not_true_eq_false, not_false_eq_true] at h9
    first | omega | exact Ex_step (tk_RR_emit rfl) ⟨rfl, hx⟩
  · try simp (disch := omega) only [cmpI, w32_b2i, b2i_0, b2i_1, w32_id, Classical.not_not, not_true_eq_false, not_false_eq_true] at h9
    refine Ex_step (tk_RR_emit rfl) ?_
    refine gCR (tk_RR_emit rfl) (hk7) (hr449) ?_
    refine Ex_step (tk_RR_emit rfl) ?_
    refine gCI (tk_RR_emit rfl) (hk7) ?_
    rw [r3]
    refine Ex_step (tk_RR_emit rfl) ?_
    refine tCI (n := cs.length) (tk_RR_emit rfl) (hW.2.2.2.1) (w32_id (by omega) (by omega)) (by omega) ?_
    refine Ex_step (tk_RR_emit rfl) ?_
    refine Ex_step (tk_RR_emit rfl) ?_
    refine gCI (tk_RR_emit rfl) (hk7) ?_
    rw [r3]
    refine Ex_step (tk_RR_emit rfl) ?_
    refine Ex_step (tk_RR_emit rfl) ?_
    refine pCI (tk_RR_emit rfl) (hk7) ?_
    first | omega | exact Ex_step (tk_RR_emit rfl) ⟨rfl, hx⟩
set_option maxRecDepth 100000 in
theorem c_pile {v : Int} (hW : RRW m rr) (hR : RRF F A rr cs pl no br at_ cm) (hl : pl.length < 32) (hq : ∀ F' A' : Nat → Nat → Int, KR rr F F' A A' → RRF F' A' rr cs (v :: pl) no br at_ cm → Q 0 none (CM m F' A' L)) : Ex d RR_pile 0 [some (vR rr), some (vI v)] [] (CM m F A L) Q := by
  have hk7 := hW.1
  have hr451 := hW.2.2.2.2.1
  obtain ⟨r1, r2, r3, r4, r5, r6, r7, r8⟩ := hR
  have e1 : (pl.length : Int) + 1 = (((v :: pl).length : Nat) : Int) := rfl
  have hx := hq (upF F 452 rr ((pl.length : Int) + 1)) (up1 A (rr + 4) (up1 (A (rr + 4)) pl.length v)) ⟨fun f j q => upF_a _ _ _ q, fun j _ q2 => up1_ne _ _ q2⟩ ⟨by rw [up1_ne _ _ (by omega)]; exact r1, ⟨by rw [up1_at, up1_at], by rw [up1_at]; exact stkR_up (Nat.le_refl _) r2⟩, by rw [upF_f _ _ _ (by decide)]; exact r3, by rw [upF_at, e1], by rw [upF_f _ _ _ (by decide)]; exact r5, by rw [upF_f _ _ _ (by decide)]; exact r6, by rw [upF_f _ _ _ (by decide)]; exact r7, by rw [upF_f _ _ _ (by decide)]; exact r8⟩
  refine Ex_step (tk_RR_pile rfl) ?_
  refine gCI (tk_RR_pile rfl) (hk7) ?_
  rw [r4]
  refine Ex_step (tk_RR_pile rfl) ?_
  refine gCR (tk_RR_pile rfl) (hk7) (hr451) ?_
  refine lenC (tk_RR_pile rfl) hW.2.2.2.2.2 ?_
  refine Ex_step (tk_RR_pile rfl) ⟨fun h9 => ?_, fun h9 => ?_⟩
  · try simp (disch := omega) only [cmpI, w32_b2i, b2i_0, b2i_1, w32_id, Classical.not_not, not_true_eq_false, not_false_eq_true] at h9
    first | omega | exact Ex_step (tk_RR_pile rfl) ⟨rfl, hx⟩
  · try simp (disch := omega) only [cmpI, w32_b2i, b2i_0, b2i_1, w32_id, Classical.not_not, not_true_eq_false, not_false_eq_true] at h9
    refine Ex_step (tk_RR_pile rfl) ?_
    refine gCR (tk_RR_pile rfl) (hk7) (hr451) ?_
    refine Ex_step (tk_RR_pile rfl) ?_
    refine gCI (tk_RR_pile rfl) (hk7) ?_
    rw [r4]
    refine Ex_step (tk_RR_pile rfl) ?_
    refine tCI (n := pl.length) (tk_RR_pile rfl) (hW.2.2.2.2.2) (w32_id (by omega) (by omega)) (by omega) ?_
    refine Ex_step (tk_RR_pile rfl) ?_
    refine Ex_step (tk_RR_pile rfl) ?_
    refine gCI (tk_RR_pile rfl) (hk7) ?_
    rw [r4]
    refine Ex_step (tk_RR_pile rfl) ?_
    refine Ex_step (tk_RR_pile rfl) ?_
    refine pCI (tk_RR_pile rfl) (hk7) ?_
    first | omega | exact Ex_step (tk_RR_pile rfl) ⟨rfl, hx⟩
def okL (pl : List Int) : Prop := ∀ x ∈ pl, -100 ≤ x ∧ x ≤ 10000
set_option maxRecDepth 100000 in
theorem c_release {b : Int} (hW : RRW m rr) (hb : 0 ≤ b ∧ b ≤ 10) : ∀ (pl cs : List Int) (F A : Nat → Nat → Int), okL pl → pl.length ≤ 32 → cs.length + pl.length ≤ 800 → RRF F A rr cs pl no br at_ cm → (∀ F' A' : Nat → Nat → Int, KR rr F F' A A' → RRF F' A' rr (relC b pl cs) (relP b pl) no br at_ cm → Q 0 none (CM m F' A' L)) → Ex (d + 1) RR_release 0 [some (vR rr), some (vI b)] [] (CM m F A L) Q := by
  have hk7 := hW.1
  have hr451 := hW.2.2.2.2.1
  intro pl
  induction pl with
  | nil =>
    intro cs F A ho hl hcl hR hq
    have hx := hq F A (KR.rf rr F A) hR
    have r4 : F 452 rr = 0 := hR.2.2.2.1
    refine Ex_step (tk_RR_release rfl) ?_
    refine gCI (tk_RR_release rfl) (hk7) ?_
    rw [r4]
    refine Ex_step (tk_RR_release rfl) ⟨fun h4 => ?_, fun h4 => ?_⟩
    · replace h4 : _ := h4
      refine Ex_step (tk_RR_release rfl) ⟨rfl, ?_⟩
      exact hx
    · replace h4 : _ := h4
      exact absurd (show w32 0 ≤ w32 0 from Int.le_refl _) h4
  | cons x r ih =>
    intro cs F A ho hl hcl hR hq
    have hxo := ho x List.mem_cons_self
    simp only [List.length_cons] at hl hcl
    obtain ⟨r1, r2, r3, r4, r5, r6, r7, r8⟩ := hR
    have r2a : A (rr + 4) r.length = x := r2.1
    have r4 : F 452 rr = (r.length : Int) + 1 := r4
    have em : (r.length : Int) + 1 - 1 = (r.length : Int) := by omega
    have hbb : 0 ≤ bnd x ∧ bnd x ≤ 6 := by
      unfold bnd
      split
      · decide
      · split
        · decide
        · split
          · decide
          · split
            · decide
            · split
              · decide
              · split <;> decide
    unfold relC relP at hq
    by_cases q : b ≤ bnd x
    · rw [if_pos q, if_pos q] at hq
      have hR1 : RRF (upF F 452 rr (r.length : Int)) A rr cs r no br at_ cm := ⟨r1, r2.2, by rw [upF_f _ _ _ (by decide)]; exact r3, upF_at _ _ _ _, by rw [upF_f _ _ _ (by decide)]; exact r5, by rw [upF_f _ _ _ (by decide)]; exact r6, by rw [upF_f _ _ _ (by decide)]; exact r7, by rw [upF_f _ _ _ (by decide)]; exact r8⟩
      have key : ∀ F' A' : Nat → Nat → Int, KR rr (upF F 452 rr (r.length : Int)) F' A A' → RRF F' A' rr (x :: cs) r no br at_ cm → Ex (d + 1) RR_release 48 [some (vR rr), some (vI b)] [] (CM m F' A' L) Q := by
        intro F' A' k1 k2
        have hnx := ih (x :: cs) F' A' (fun z hz => ho z (List.mem_cons_of_mem _ hz)) (by omega) (by simp only [List.length_cons]; omega) k2 (fun F2 A2 k3 k4 => hq F2 A2 (((KR.up rr F A 452 _).tr k1).tr k3) k4)
        refine Ex_step (tk_RR_release rfl) ?_
        exact hnx
      refine Ex_step (tk_RR_release rfl) ?_
      refine gCI (tk_RR_release rfl) (hk7) ?_
      rw [r4]
      refine Ex_step (tk_RR_release rfl) ⟨fun h4 => ?_, fun h4 => ?_⟩
      · try simp (disch := omega) only [cmpI, w32_b2i, b2i_0, b2i_1, w32_id, Classical.not_not, not_true_eq_false, not_false_eq_true] at h4
        omega
      · try simp (disch := omega) only [cmpI, w32_b2i, b2i_0, b2i_1, w32_id, Classical.not_not, not_true_eq_false, not_false_eq_true] at h4
        refine Ex_step (tk_RR_release rfl) ?_
        refine gCR (tk_RR_release rfl) (hk7) (hr451) ?_
        refine Ex_step (tk_RR_release rfl) ?_
        refine gCI (tk_RR_release rfl) (hk7) ?_
        rw [r4]
        refine Ex_step (tk_RR_release rfl) ?_
        refine Ex_step (tk_RR_release rfl) ?_
        refine lCI (n := r.length) (tk_RR_release rfl) (hW.2.2.2.2.2) (by rw [w32_id (by omega) (by omega)]; omega) (by omega) ?_
        rw [r2a]
        refine Ex_cS0 (av := [vI x]) (tk_RR_release rfl) mk_RR_bindingOf ⟨rfl, by decide, rfl, rfl, rfl, Nat.le_of_ble_eq_true rfl, Nat.le_of_ble_eq_true rfl⟩ (fun _ h => c_bnd hxo h) ?_
        refine Ex_step (tk_RR_release rfl) ?_
        refine Ex_step (tk_RR_release rfl) ⟨fun h22 => ?_, fun h22 => ?_⟩
        · try simp (disch := omega) only [cmpI, w32_b2i, b2i_0, b2i_1, w32_id, Classical.not_not, not_true_eq_false, not_false_eq_true] at h22
          omega
        · try simp (disch := omega) only [cmpI, w32_b2i, b2i_0, b2i_1, w32_id, Classical.not_not, not_true_eq_false, not_false_eq_true] at h22
          refine Ex_step (tk_RR_release rfl) ?_
          refine Ex_step (tk_RR_release rfl) ?_
          refine gCI (tk_RR_release rfl) (hk7) ?_
          rw [r4]
          refine Ex_step (tk_RR_release rfl) ?_
          refine Ex_step (tk_RR_release rfl) ?_
          show Ex (d + 1) RR_release 32 _ [vI ((r.length : Int) + 1 - 1), vR rr] _ Q
          rw [em]
          refine pCI (tk_RR_release rfl) (hk7) ?_
          refine Ex_step (tk_RR_release rfl) ?_
          refine Ex_step (tk_RR_release rfl) ?_
          refine gCR (tk_RR_release rfl) (hk7) (hr451) ?_
          refine Ex_step (tk_RR_release rfl) ?_
          refine gCI (tk_RR_release rfl) (hk7) ?_
          rw [upF_at]
          refine lCI (n := r.length) (tk_RR_release rfl) (hW.2.2.2.2.2) (w32_id (by omega) (by omega)) (by omega) ?_
          rw [r2a]
          refine Ex_cVK (av := [vI x]) (tk_RR_release rfl) mk_RR_emit ⟨rfl, rfl, by decide, rfl, Nat.le_of_ble_eq_true rfl, Nat.le_of_ble_eq_true rfl⟩ (hk7) (c_emit hW hR1 (by omega) (fun F' A' k1 k2 => ⟨rfl, ?_⟩))
          exact key F' A' k1 k2
    · rw [if_neg q, if_neg q] at hq
      have hx := hq F A (KR.rf rr F A) ⟨r1, r2, r3, r4, r5, r6, r7, r8⟩
      refine Ex_step (tk_RR_release rfl) ?_
      refine gCI (tk_RR_release rfl) (hk7) ?_
      rw [r4]
      refine Ex_step (tk_RR_release rfl) ⟨fun h4 => ?_, fun h4 => ?_⟩
      · try simp (disch := omega) only [cmpI, w32_b2i, b2i_0, b2i_1, w32_id, Classical.not_not, not_true_eq_false, not_false_eq_true] at h4
        first | exact Ex_step (tk_RR_release rfl) ⟨rfl, hx⟩ | omega
      · try simp (disch := omega) only [cmpI, w32_b2i, b2i_0, b2i_1, w32_id, Classical.not_not, not_true_eq_false, not_false_eq_true] at h4
        refine Ex_step (tk_RR_release rfl) ?_
        refine gCR (tk_RR_release rfl) (hk7) (hr451) ?_
        refine Ex_step (tk_RR_release rfl) ?_
        refine gCI (tk_RR_release rfl) (hk7) ?_
        rw [r4]
        refine Ex_step (tk_RR_release rfl) ?_
        refine Ex_step (tk_RR_release rfl) ?_
        refine lCI (n := r.length) (tk_RR_release rfl) (hW.2.2.2.2.2) (by rw [w32_id (by omega) (by omega)]; omega) (by omega) ?_
        rw [r2a]
        refine Ex_cS0 (av := [vI x]) (tk_RR_release rfl) mk_RR_bindingOf ⟨rfl, by decide, rfl, rfl, rfl, Nat.le_of_ble_eq_true rfl, Nat.le_of_ble_eq_true rfl⟩ (fun _ h => c_bnd hxo h) ?_
        refine Ex_step (tk_RR_release rfl) ?_
        refine Ex_step (tk_RR_release rfl) ⟨fun h22 => ?_, fun h22 => ?_⟩
        · try simp (disch := omega) only [cmpI, w32_b2i, b2i_0, b2i_1, w32_id, Classical.not_not, not_true_eq_false, not_false_eq_true] at h22
          first | exact Ex_step (tk_RR_release rfl) ⟨rfl, hx⟩ | omega
        · try simp (disch := omega) only [cmpI, w32_b2i, b2i_0, b2i_1, w32_id, Classical.not_not, not_true_eq_false, not_false_eq_true] at h22
          omega
end CPile
