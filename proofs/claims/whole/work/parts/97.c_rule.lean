/-! ===== the class: whether a rule holds ===== -/
def cod (k : Tok) : Int := if k.1 = 1 then k.2 else if k.1 = 2 then -1 - k.2 else if k.1 = 3 then -17 else if k.1 = 4 then -18 else if k.1 = 5 then -19 else if k.1 = 6 then -14 else if k.1 = 7 then -15 else if k.1 = 8 then -16 else if k.1 = 9 then -12 else if k.1 = 10 then -11 else -13
def encC (R : Nat → Int) : Nat → List Tok → Prop
  | _, [] => True
  | i, k :: r => R i = cod k ∧ encC R (i + 1) r
section CRule
variable {d u p s : Nat} {m : Mem} {F A L : Nat → Nat → Int} {Q : Nat → Option AV → Mem → Prop}
set_option maxRecDepth 100000 in
theorem c_held {x : Int} (hx : -9000000000000000 ≤ x ∧ x ≤ 9000000000000000) (h : Q 0 (some (vL (hldV x))) m) : Ex d Rule_held 0 [some (vL x), none] [] m Q := by
  have e : (if w64 (if w64 x < w64 1000000 then x else 1000000) < w64 (-1000000) then (-1000000 : Int) else (if w64 x < w64 1000000 then x else 1000000)) = hldV x := by
    unfold hldV
    rw [w64_id (x := x) (by omega) (by omega), show w64 1000000 = 1000000 from w64_id (by decide) (by decide), show w64 (-1000000) = -1000000 from w64_id (by decide) (by decide)]
    by_cases q : x < 1000000
    · rw [if_pos q, w64_id (x := x) (by omega) (by omega), if_neg (show ¬ 1000000 < x by omega)]
    · rw [if_neg q, show w64 1000000 = 1000000 from w64_id (by decide) (by decide), if_neg (show ¬ (1000000 : Int) < -1000000 by decide)]
      by_cases q2 : 1000000 < x
      · rw [if_pos q2]
      · rw [if_neg q2, if_neg (by omega)]
        omega
  rw [← e] at h
  refine Ex_step (tk_Rule_held rfl) ?_
  refine Ex_step (tk_Rule_held rfl) ?_
  refine Ex_step (tk_Rule_held rfl) ?_
  refine Ex_minL (tk_Rule_held rfl) rfl (Nat.le_of_ble_eq_true rfl) ?_
  refine Ex_maxL (tk_Rule_held rfl) rfl (Nat.le_of_ble_eq_true rfl) ?_
  refine Ex_step (tk_Rule_held rfl) ⟨rfl, ?_⟩
  exact h
set_option maxRecDepth 100000 in
theorem c_valueOf {k : Tok} (hP : IA m p 5) (hk : (k.1 = 1 ∧ 0 ≤ k.2 ∧ k.2 ≤ 9999) ∨ (k.1 = 2 ∧ 0 ≤ k.2 ∧ k.2 ≤ 4)) (hb : ∀ i, i < 5 → -1000000 ≤ A p i ∧ A p i ≤ 1000000) (h : Q 0 (some (vL (if k.1 = 1 then k.2 else A p k.2.toNat))) (CM m F A L)) : Ex d Rule_valueOf 0 [some (vI (cod k)), some (vR p), none] [] (CM m F A L) Q := by
  obtain ⟨c, v⟩ := k
  rcases hk with ⟨h1, h2, h3⟩ | ⟨h1, h2, h3⟩
  · have h1 : c = 1 := h1
    subst h1
    have ec : cod (1, v) = v := rfl
    rw [ec]
    have h : Q 0 (some (vL v)) (CM m F A L) := h
    have e : w32 v = v := w32_id (by have : v ≤ 9999 := h3; have : 0 ≤ v := h2; omega) (by have : v ≤ 9999 := h3; omega)
    have h2 : 0 ≤ v := h2
    have h3 : v ≤ 9999 := h3
    rw [← e] at h
    refine Ex_step (tk_Rule_valueOf rfl) ?_
    refine Ex_step (tk_Rule_valueOf rfl) ⟨fun h1 => ?_, fun h1 => ?_⟩
    · try simp (disch := omega) only [cmpI, w32_b2i, b2i_0, b2i_1, w32_id, Classical.not_not, not_true_eq_false, not_false_eq_true] at h1
      omega
    · try simp (disch := omega) only [cmpI, w32_b2i, b2i_0, b2i_1, w32_id, Classical.not_not, not_true_eq_false, not_false_eq_true] at h1
      refine Ex_step (tk_Rule_valueOf rfl) ?_
      refine Ex_step (tk_Rule_valueOf rfl) ?_
      refine Ex_step (tk_Rule_valueOf rfl) ⟨rfl, ?_⟩
      exact h
  · have h1 : c = 2 := h1
    subst h1
    have ec : cod (2, v) = -1 - v := rfl
    rw [ec]
    have h2 : 0 ≤ v := h2
    have h3 : v ≤ 4 := h3
    have h : Q 0 (some (vL (A p v.toNat))) (CM m F A L) := h
    have hv := hb v.toNat (by omega)
    have e : w32 (A p v.toNat) = A p v.toNat := w32_id (by omega) (by omega)
    have ev : -1 - (-1 - v) = v := by omega
    rw [← e] at h
    refine Ex_step (tk_Rule_valueOf rfl) ?_
    refine Ex_step (tk_Rule_valueOf rfl) ⟨fun h1 => ?_, fun h1 => ?_⟩
    · try simp (disch := omega) only [cmpI, w32_b2i, b2i_0, b2i_1, w32_id, Classical.not_not, not_true_eq_false, not_false_eq_true] at h1
      refine Ex_step (tk_Rule_valueOf rfl) ?_
      refine Ex_step (tk_Rule_valueOf rfl) ?_
      refine Ex_step (tk_Rule_valueOf rfl) ?_
      show Ex d Rule_valueOf 10 _ [vI (-1 - (-1 - v))] _ Q
      rw [ev]
      refine Ex_step (tk_Rule_valueOf rfl) ?_
      refine Ex_step (tk_Rule_valueOf rfl) ?_
      refine Ex_step (tk_Rule_valueOf rfl) ?_
      refine lenC (tk_Rule_valueOf rfl) hP ?_
      refine Ex_step (tk_Rule_valueOf rfl) ⟨fun h14 => ?_, fun h14 => ?_⟩
      · try simp (disch := omega) only [cmpI, w32_b2i, b2i_0, b2i_1, w32_id, Classical.not_not, not_true_eq_false, not_false_eq_true] at h14
        omega
      · try simp (disch := omega) only [cmpI, w32_b2i, b2i_0, b2i_1, w32_id, Classical.not_not, not_true_eq_false, not_false_eq_true] at h14
        refine Ex_step (tk_Rule_valueOf rfl) ?_
        refine Ex_step (tk_Rule_valueOf rfl) ?_
        refine lCI (n := v.toNat) (tk_Rule_valueOf rfl) (hP) (by rw [w32_id (by omega) (by omega)]; omega) (by omega) ?_
        refine Ex_step (tk_Rule_valueOf rfl) ?_
        refine Ex_step (tk_Rule_valueOf rfl) ?_
        refine Ex_step (tk_Rule_valueOf rfl) ⟨rfl, ?_⟩
        exact h
    · try simp (disch := omega) only [cmpI, w32_b2i, b2i_0, b2i_1, w32_id, Classical.not_not, not_true_eq_false, not_false_eq_true] at h1
      omega
set_option maxRecDepth 100000 in
theorem or_01 {x y : Int} (hx : x = 0 ∨ x = 1) (hy : y = 0 ∨ y = 1) : lOr x y = oI (0 < x + y) ∧ lAnd x y = oI (x + y = 2) := by
  rcases hx with rfl | rfl <;> rcases hy with rfl | rfl <;> decide
set_option maxRecDepth 100000 in
theorem c_worked {c : Nat} {x y : Int} (hc : 3 ≤ c ∧ c ≤ 10) (hx : -1000000 ≤ x ∧ x ≤ 1000000) (hy : -1000000 ≤ y ∧ y ≤ 1000000) (hb : 9 ≤ c → (x = 0 ∨ x = 1) ∧ (y = 0 ∨ y = 1)) (h : Q 0 (some (vL (opV c x y))) m) : Ex (d + 1) Rule_worked 0 [some (vI (cod (c, 0))), some (vL x), none, some (vL y), none] [] m Q := by
  have hxy := mul_m hx hy
  have c1 : lCmp x y = sgC x y := lCmp_sg (by omega) (by omega)
  have b3 : -9000000000000000 ≤ x + y ∧ x + y ≤ 9000000000000000 := by omega
  have b4 : -9000000000000000 ≤ x - y ∧ x - y ≤ 9000000000000000 := by omega
  have b5 : -9000000000000000 ≤ x * y ∧ x * y ≤ 9000000000000000 := by omega
  clear hxy
  unfold opV at h
  refine Ex_step (tk_Rule_worked rfl) ?_
  refine Ex_step (tk_Rule_worked rfl) ?_
  rcases (show c = 3 ∨ c = 4 ∨ c = 5 ∨ c = 6 ∨ c = 7 ∨ c = 8 ∨ c = 9 ∨ c = 10 by omega) with rfl | rfl | rfl | rfl | rfl | rfl | rfl | rfl
  · rw [if_pos rfl] at h
    show Ex (d + 1) Rule_worked 92 _ [] _ Q
    refine Ex_step (tk_Rule_worked rfl) ?_
    refine Ex_step (tk_Rule_worked rfl) ?_
    refine Ex_step (tk_Rule_worked rfl) ?_
    refine Ex_cS0 (av := [vL (x + y)]) (tk_Rule_worked rfl) mk_Rule_held ⟨rfl, by decide, rfl, rfl, rfl, Nat.le_of_ble_eq_true rfl, Nat.le_of_ble_eq_true rfl⟩ (fun _ h => c_held b3 h) ?_
    refine Ex_step (tk_Rule_worked rfl) ⟨rfl, ?_⟩
    exact h
  · rw [if_neg (by decide), if_pos rfl] at h
    show Ex (d + 1) Rule_worked 99 _ [] _ Q
    refine Ex_step (tk_Rule_worked rfl) ?_
    refine Ex_step (tk_Rule_worked rfl) ?_
    refine Ex_step (tk_Rule_worked rfl) ?_
    refine Ex_cS0 (av := [vL (x - y)]) (tk_Rule_worked rfl) mk_Rule_held ⟨rfl, by decide, rfl, rfl, rfl, Nat.le_of_ble_eq_true rfl, Nat.le_of_ble_eq_true rfl⟩ (fun _ h => c_held b4 h) ?_
    refine Ex_step (tk_Rule_worked rfl) ⟨rfl, ?_⟩
    exact h
  · rw [if_neg (by decide), if_neg (by decide), if_pos rfl] at h
    show Ex (d + 1) Rule_worked 106 _ [] _ Q
    refine Ex_step (tk_Rule_worked rfl) ?_
    refine Ex_step (tk_Rule_worked rfl) ?_
    refine Ex_step (tk_Rule_worked rfl) ?_
    refine Ex_cS0 (av := [vL (x * y)]) (tk_Rule_worked rfl) mk_Rule_held ⟨rfl, by decide, rfl, rfl, rfl, Nat.le_of_ble_eq_true rfl, Nat.le_of_ble_eq_true rfl⟩ (fun _ h => c_held b5 h) ?_
    refine Ex_step (tk_Rule_worked rfl) ⟨rfl, ?_⟩
    exact h
  · rw [if_neg (by decide), if_neg (by decide), if_neg (by decide), if_pos rfl] at h
    show Ex (d + 1) Rule_worked 56 _ [] _ Q
    refine Ex_step (tk_Rule_worked rfl) ?_
    refine Ex_step (tk_Rule_worked rfl) ?_
    refine Ex_step (tk_Rule_worked rfl) ?_
    show Ex (d + 1) Rule_worked 59 _ [vI (lCmp x y)] _ Q
    rw [c1]
    refine Ex_step (tk_Rule_worked rfl) ⟨fun h59 => ?_, fun h59 => ?_⟩
    · simp (disch := omega) only [cmpI, w32_sg, sg_le, sg_ge, sg_lt, sg_gt, sg_eq, w32_id] at h59
      rw [oI_f (by omega)] at h
      refine Ex_step (tk_Rule_worked rfl) ?_
      refine Ex_step (tk_Rule_worked rfl) ⟨rfl, ?_⟩
      exact h
    · simp (disch := omega) only [cmpI, w32_sg, sg_le, sg_ge, sg_lt, sg_gt, sg_eq, w32_id] at h59
      rw [oI_t (by omega)] at h
      refine Ex_step (tk_Rule_worked rfl) ?_
      refine Ex_step (tk_Rule_worked rfl) ?_
      refine Ex_step (tk_Rule_worked rfl) ⟨rfl, ?_⟩
      exact h
  · rw [if_neg (by decide), if_neg (by decide), if_neg (by decide), if_neg (by decide), if_pos rfl] at h
    show Ex (d + 1) Rule_worked 68 _ [] _ Q
    refine Ex_step (tk_Rule_worked rfl) ?_
    refine Ex_step (tk_Rule_worked rfl) ?_
    refine Ex_step (tk_Rule_worked rfl) ?_
    show Ex (d + 1) Rule_worked 71 _ [vI (lCmp x y)] _ Q
    rw [c1]
    refine Ex_step (tk_Rule_worked rfl) ⟨fun h71 => ?_, fun h71 => ?_⟩
    · simp (disch := omega) only [cmpI, w32_sg, sg_le, sg_ge, sg_lt, sg_gt, sg_eq, w32_id] at h71
      rw [oI_f (by omega)] at h
      refine Ex_step (tk_Rule_worked rfl) ?_
      refine Ex_step (tk_Rule_worked rfl) ⟨rfl, ?_⟩
      exact h
    · simp (disch := omega) only [cmpI, w32_sg, sg_le, sg_ge, sg_lt, sg_gt, sg_eq, w32_id] at h71
      rw [oI_t (by omega)] at h
      refine Ex_step (tk_Rule_worked rfl) ?_
      refine Ex_step (tk_Rule_worked rfl) ?_
      refine Ex_step (tk_Rule_worked rfl) ⟨rfl, ?_⟩
      exact h
  · rw [if_neg (by decide), if_neg (by decide), if_neg (by decide), if_neg (by decide), if_neg (by decide), if_pos rfl] at h
    show Ex (d + 1) Rule_worked 80 _ [] _ Q
    refine Ex_step (tk_Rule_worked rfl) ?_
    refine Ex_step (tk_Rule_worked rfl) ?_
    refine Ex_step (tk_Rule_worked rfl) ?_
    show Ex (d + 1) Rule_worked 83 _ [vI (lCmp x y)] _ Q
    rw [c1]
    refine Ex_step (tk_Rule_worked rfl) ⟨fun h83 => ?_, fun h83 => ?_⟩
    · simp (disch := omega) only [cmpI, w32_sg, sg_le, sg_ge, sg_lt, sg_gt, sg_eq, w32_id] at h83
      rw [oI_f (by omega)] at h
      refine Ex_step (tk_Rule_worked rfl) ?_
      refine Ex_step (tk_Rule_worked rfl) ⟨rfl, ?_⟩
      exact h
    · simp (disch := omega) only [cmpI, w32_sg, sg_le, sg_ge, sg_lt, sg_gt, sg_eq, w32_id] at h83
      rw [oI_t (by omega)] at h
      refine Ex_step (tk_Rule_worked rfl) ?_
      refine Ex_step (tk_Rule_worked rfl) ?_
      refine Ex_step (tk_Rule_worked rfl) ⟨rfl, ?_⟩
      exact h
  · rw [if_neg (by decide), if_neg (by decide), if_neg (by decide), if_neg (by decide), if_neg (by decide), if_neg (by decide), if_pos rfl, ← (or_01 (hb (by decide)).1 (hb (by decide)).2).2] at h
    show Ex (d + 1) Rule_worked 52 _ [] _ Q
    refine Ex_step (tk_Rule_worked rfl) ?_
    refine Ex_step (tk_Rule_worked rfl) ?_
    refine Ex_step (tk_Rule_worked rfl) ?_
    refine Ex_step (tk_Rule_worked rfl) ⟨rfl, ?_⟩
    exact h
  · rw [if_neg (by decide), if_neg (by decide), if_neg (by decide), if_neg (by decide), if_neg (by decide), if_neg (by decide), if_neg (by decide), ← (or_01 (hb (by decide)).1 (hb (by decide)).2).1] at h
    show Ex (d + 1) Rule_worked 48 _ [] _ Q
    refine Ex_step (tk_Rule_worked rfl) ?_
    refine Ex_step (tk_Rule_worked rfl) ?_
    refine Ex_step (tk_Rule_worked rfl) ?_
    refine Ex_step (tk_Rule_worked rfl) ⟨rfl, ?_⟩
    exact h
def RuW (m : Mem) (u n : Nat) : Prop := mK m u = 6 ∧ mFR m 384 u = u + 1 ∧ IA m (u + 1) n
set_option maxRecDepth 100000 in
theorem c_holds {n : Nat} (hU : RuW m u n) (hn : n ≤ 800) (hP : IA m p 5) (hS : LA m s 32) (hb : ∀ i, i < 5 → -1000000 ≤ A p i ∧ A p i ≤ 1000000) : ∀ (ts : List Tok) (st : List Int) (tys : List Bool) (i : Nat) (L' : Nat → Nat → Int) (l5 : Option AV), i + ts.length = n → encC (A (u + 1)) i ts → wft ts tys → okV st tys → stkR (L' s) st → tys.length ≤ 32 → (∀ j, j ≠ s → L' j = L j) → (∀ L' : Nat → Nat → Int, (∀ j, j ≠ s → L' j = L j) → Q 0 (some (vI (b2i (evT (fun k => A p k.toNat) ts st = [1])))) (CM m F A L')) → Ex (d + 2) Rule_holds 5 [some (vR u), some (vR p), some (vR s), some (vI (st.length : Int)), some (vI (i : Int)), l5] [] (CM m F A L') Q := by
  have hk6 := hU.1
  have hr384 := hU.2.1
  intro ts
  induction ts with
  | nil =>
    intro st tys i L' l5 hi hE hw hv hSt hl kL h
    have hi : i = n := hi
    subst hi
    have hw : tys = [true] := hw
    subst hw
    match st, hv, hSt, h with
    | [x], hv, hSt, h =>
      have hx : x = 0 ∨ x = 1 := hv.1
      have hS0 : L' s 0 = x := hSt.1
      have c1 : lCmp x 1 = sgC x 1 := lCmp_sg (by omega) (by omega)
      have hl1 : w32 (([x].length : Nat) : Int) = 1 := rfl
      have hh := h L' kL
      have e0 : b2i (evT (fun k => A p k.toNat) [] [x] = [1]) = b2i (x = 1) := b2i_congr (by show [x] = [1] ↔ x = 1; simp)
      rw [e0] at hh
      refine Ex_step (tk_Rule_holds rfl) ?_
      refine Ex_step (tk_Rule_holds rfl) ?_
      refine gCR (tk_Rule_holds rfl) (hk6) (hr384) ?_
      refine lenC (tk_Rule_holds rfl) hU.2.2 ?_
      refine Ex_step (tk_Rule_holds rfl) ⟨fun h12 => ?_, fun h12 => ?_⟩
      · try simp (disch := omega) only [cmpI, w32_sg, sg_le, sg_ge, sg_lt, sg_gt, sg_eq, w32_id] at h12
        refine Ex_step (tk_Rule_holds rfl) ?_
        refine Ex_step (tk_Rule_holds rfl) ?_
        refine Ex_step (tk_Rule_holds rfl) ⟨fun h113 => ?_, fun h113 => ?_⟩
        · try simp (disch := omega) only [cmpI, w32_sg, sg_le, sg_ge, sg_lt, sg_gt, sg_eq, w32_id] at h113
          first | omega | (rw [b2i_f (by omega)] at hh; exact Ex_step (tk_Rule_holds rfl) (Ex_step (tk_Rule_holds rfl) ⟨rfl, Or.inl rfl, hh⟩))
        · try simp (disch := omega) only [cmpI, w32_sg, sg_le, sg_ge, sg_lt, sg_gt, sg_eq, w32_id] at h113
          refine Ex_step (tk_Rule_holds rfl) ?_
          refine Ex_step (tk_Rule_holds rfl) ?_
          refine lCL (n := 0) (tk_Rule_holds rfl) (hS) (rfl) (by decide) ?_
          rw [hS0]
          refine Ex_step (tk_Rule_holds rfl) ?_
          refine Ex_step (tk_Rule_holds rfl) ?_
          show Ex (d + 2) Rule_holds 121 _ [vI (lCmp x 1)] _ Q
          rw [c1]
          refine Ex_step (tk_Rule_holds rfl) ⟨fun h121 => ?_, fun h121 => ?_⟩
          · try simp (disch := omega) only [cmpI, w32_sg, sg_le, sg_ge, sg_lt, sg_gt, sg_eq, w32_id] at h121
            first | omega | (rw [b2i_f (by omega)] at hh; exact Ex_step (tk_Rule_holds rfl) (Ex_step (tk_Rule_holds rfl) ⟨rfl, Or.inl rfl, hh⟩))
          · try simp (disch := omega) only [cmpI, w32_sg, sg_le, sg_ge, sg_lt, sg_gt, sg_eq, w32_id] at h121
            rw [b2i_t (by omega)] at hh
            refine Ex_step (tk_Rule_holds rfl) ?_
            refine Ex_step (tk_Rule_holds rfl) ?_
            refine Ex_step (tk_Rule_holds rfl) ⟨rfl, by first | exact Or.inl rfl | exact Or.inr rfl | exact b2i_01 _ | assumption, ?_⟩
            exact hh
      · try simp (disch := omega) only [cmpI, w32_sg, sg_le, sg_ge, sg_lt, sg_gt, sg_eq, w32_id] at h12
        omega
  | cons kk r ih =>
    obtain ⟨c, v⟩ := kk
    intro st tys i L' l5 hi hE hw hv hSt hl kL h
    obtain ⟨hc, hE⟩ := hE
    have hi2 : i + (r.length + 1) = n := hi
    have hlen := okV_len hv
    unfold wft at hw
    unfold evT at h
    by_cases q1 : c = 1 ∨ c = 2
    · rw [if_pos q1] at hw
      obtain ⟨hv1, hv2, hw⟩ := hw
      have hkk : ((c, v).1 = 1 ∧ 0 ≤ (c, v).2 ∧ (c, v).2 ≤ 9999) ∨ ((c, v).1 = 2 ∧ 0 ≤ (c, v).2 ∧ (c, v).2 ≤ 4) := by
        rcases q1 with q | q
        · subst q; exact Or.inl ⟨rfl, hv1.1, hv1.2⟩
        · subst q; exact Or.inr ⟨rfl, hv1.1, hv1.2⟩
      have hcg : -10 < cod (c, v) ∧ cod (c, v) ≤ 9999 := by
        rcases hkk with ⟨w1, w2, w3⟩ | ⟨w1, w2, w3⟩
        · have w1 : c = 1 := w1
          subst w1
          have : cod (1, v) = v := rfl
          have w2 : 0 ≤ v := w2
          have w3 : v ≤ 9999 := w3
          omega
        · have w1 : c = 2 := w1
          subst w1
          have : cod (2, v) = -1 - v := rfl
          have w2 : 0 ≤ v := w2
          have w3 : v ≤ 4 := w3
          omega
      have hvb : -1000000 ≤ (if c = 1 then v else A p v.toNat) ∧ (if c = 1 then v else A p v.toNat) ≤ 1000000 := by
        rcases hkk with ⟨w1, w2, w3⟩ | ⟨w1, w2, w3⟩
        · have w1 : c = 1 := w1
          rw [if_pos w1]
          have w2 : 0 ≤ v := w2
          have w3 : v ≤ 9999 := w3
          omega
        · have w1 : c = 2 := w1
          rw [if_neg (by omega)]
          have w2 : 0 ≤ v := w2
          have w3 : v ≤ 4 := w3
          exact hb v.toNat (by omega)
      have hnx := ih ((if c = 1 then v else A p v.toNat) :: st) (false :: tys) (i + 1) (up1 L' s (up1 (L' s) st.length (if c = 1 then v else A p v.toNat))) (some (vI (cod (c, v)))) (by omega) hE hw ⟨hvb, hv⟩ ⟨by rw [up1_at, up1_at], by rw [up1_at]; exact stkR_up (Nat.le_refl _) hSt⟩ (by show tys.length + 1 ≤ 32; omega) (fun j hj => by rw [up1_ne _ _ hj]; exact kL j hj) (by
        intro L2 k2
        have hh := h L2 k2
        rcases q1 with q | q
        · rw [if_pos q] at hh; rw [if_pos q]; exact hh
        · rw [if_neg (by omega), if_pos q] at hh; rw [if_neg (by omega)]; exact hh)
      have hval := fun (Q1 : Nat → Option AV → Mem → Prop) => c_valueOf (d := d + 1) (m := m) (F := F) (A := A) (L := L') (p := p) (Q := Q1) (k := (c, v)) hP hkk hb
      have hsl : st.length ≤ 31 := by omega
      generalize hcd : cod (c, v) = cd at *
      generalize hvv : (if c = 1 then v else A p v.toNat) = vv at *
      have h105 : Ex (d + 2) Rule_holds 105 [some (vR u), some (vR p), some (vR s), some (vI ((st.length : Int) + 1)), some (vI (i : Int)), some (vI cd)] [] (CM m F A (up1 L' s (up1 (L' s) st.length vv))) Q := by
        refine Ex_step (tk_Rule_holds rfl) ?_
        refine Ex_step (tk_Rule_holds rfl) ?_
        exact hnx
      refine Ex_step (tk_Rule_holds rfl) ?_
      refine Ex_step (tk_Rule_holds rfl) ?_
      refine gCR (tk_Rule_holds rfl) (hk6) (hr384) ?_
      refine lenC (tk_Rule_holds rfl) hU.2.2 ?_
      refine Ex_step (tk_Rule_holds rfl) ⟨fun h12 => ?_, fun h12 => ?_⟩
      · try simp (disch := omega) only [cmpI, w32_b2i, b2i_0, b2i_1, w32_id, Classical.not_not, not_true_eq_false, not_false_eq_true] at h12
        omega
      · try simp (disch := omega) only [cmpI, w32_b2i, b2i_0, b2i_1, w32_id, Classical.not_not, not_true_eq_false, not_false_eq_true] at h12
        refine Ex_step (tk_Rule_holds rfl) ?_
        refine gCR (tk_Rule_holds rfl) (hk6) (hr384) ?_
        refine Ex_step (tk_Rule_holds rfl) ?_
        refine lCI (n := i) (tk_Rule_holds rfl) (hU.2.2) (w32_id (by omega) (by omega)) (by omega) ?_
        rw [hc]
        refine Ex_step (tk_Rule_holds rfl) ?_
        refine Ex_step (tk_Rule_holds rfl) ?_
        refine Ex_step (tk_Rule_holds rfl) ?_
        refine Ex_step (tk_Rule_holds rfl) ⟨fun h28 => ?_, fun h28 => ?_⟩
        · try simp (disch := omega) only [cmpI, w32_b2i, b2i_0, b2i_1, w32_id, Classical.not_not, not_true_eq_false, not_false_eq_true] at h28
          omega
        · try simp (disch := omega) only [cmpI, w32_b2i, b2i_0, b2i_1, w32_id, Classical.not_not, not_true_eq_false, not_false_eq_true] at h28
          refine Ex_step (tk_Rule_holds rfl) ?_
          refine Ex_step (tk_Rule_holds rfl) ?_
          refine Ex_step (tk_Rule_holds rfl) ⟨Or.inr (Or.inl hS.1), ?_⟩
          show Ex (d + 2) Rule_holds 34 _ [vI (mLen m s : Int), vI (st.length : Int)] _ Q
          rw [hS.2]
          refine Ex_step (tk_Rule_holds rfl) ⟨fun h34 => ?_, fun h34 => ?_⟩
          · try simp (disch := omega) only [cmpI, w32_b2i, b2i_0, b2i_1, w32_id, Classical.not_not, not_true_eq_false, not_false_eq_true] at h34
            first | exact h105 | omega
          · try simp (disch := omega) only [cmpI, w32_b2i, b2i_0, b2i_1, w32_id, Classical.not_not, not_true_eq_false, not_false_eq_true] at h34
            refine Ex_step (tk_Rule_holds rfl) ?_
            refine Ex_step (tk_Rule_holds rfl) ?_
            refine Ex_step (tk_Rule_holds rfl) ?_
            refine Ex_step (tk_Rule_holds rfl) ?_
            refine Ex_cS0 (av := [vI cd, vR p]) (tk_Rule_holds rfl) mk_Rule_valueOf ⟨rfl, by decide, rfl, rfl, rfl, Nat.le_of_ble_eq_true rfl, Nat.le_of_ble_eq_true rfl⟩ (fun _ h => hval _ h) ?_
            refine tCL (n := st.length) (tk_Rule_holds rfl) (hS) (w32_id (by omega) (by omega)) (by omega) ?_
            refine Ex_step (tk_Rule_holds rfl) ?_
            refine Ex_step (tk_Rule_holds rfl) ?_
            first | exact h105 | omega
    · rw [if_neg q1] at hw
      rw [if_neg (by omega), if_neg (by omega)] at h
      by_cases q3 : c = 11
      · rw [if_pos q3] at hw
        rw [if_pos q3] at h
        subst q3
        obtain ⟨⟨t2, ht⟩, hw⟩ := hw
        subst ht
        have hc : A (u + 1) i = -13 := hc
        match st, hv, hSt, h, hlen with
        | x :: st2, hv, hSt, h, hlen =>
          have hx : x = 0 ∨ x = 1 := hv.1
          have hS1 : L' s st2.length = x := hSt.1
          have hsl : st2.length ≤ 31 := by simp only [List.length_cons] at hlen hl; omega
          have hnx := ih ((1 - x) :: st2) (true :: t2) (i + 1) (up1 L' s (up1 (L' s) st2.length (1 - x))) (some (vI (-13))) (by omega) hE hw ⟨by show 1 - x = 0 ∨ 1 - x = 1; omega, hv.2⟩ ⟨by rw [up1_at, up1_at], by rw [up1_at]; exact stkR_up (Nat.le_refl _) hSt.2⟩ hl (fun j hj => by rw [up1_ne _ _ hj]; exact kL j hj) h
          have h105 : Ex (d + 2) Rule_holds 105 [some (vR u), some (vR p), some (vR s), some (vI (((x :: st2).length : Nat) : Int)), some (vI (i : Int)), some (vI (-13))] [] (CM m F A (up1 L' s (up1 (L' s) st2.length (1 - x)))) Q := by
            refine Ex_step (tk_Rule_holds rfl) ?_
            refine Ex_step (tk_Rule_holds rfl) ?_
            exact hnx
          have el : (((x :: st2).length : Nat) : Int) = (st2.length : Int) + 1 := rfl
          rw [el] at h105
          rw [el]
          refine Ex_step (tk_Rule_holds rfl) ?_
          refine Ex_step (tk_Rule_holds rfl) ?_
          refine gCR (tk_Rule_holds rfl) (hk6) (hr384) ?_
          refine lenC (tk_Rule_holds rfl) hU.2.2 ?_
          refine Ex_step (tk_Rule_holds rfl) ⟨fun h12 => ?_, fun h12 => ?_⟩
          · try simp (disch := omega) only [cmpI, w32_id] at h12
            omega
          · try simp (disch := omega) only [cmpI, w32_id] at h12
            refine Ex_step (tk_Rule_holds rfl) ?_
            refine gCR (tk_Rule_holds rfl) (hk6) (hr384) ?_
            refine Ex_step (tk_Rule_holds rfl) ?_
            refine lCI (n := i) (tk_Rule_holds rfl) (hU.2.2) (w32_id (by omega) (by omega)) (by omega) ?_
            rw [hc]
            refine Ex_step (tk_Rule_holds rfl) ?_
            refine Ex_step (tk_Rule_holds rfl) ?_
            refine Ex_step (tk_Rule_holds rfl) ?_
            refine Ex_step (tk_Rule_holds rfl) ⟨fun h28 => ?_, fun h28 => ?_⟩
            · try simp (disch := omega) only [cmpI, w32_id] at h28
              refine Ex_step (tk_Rule_holds rfl) ?_
              refine Ex_step (tk_Rule_holds rfl) ?_
              refine Ex_step (tk_Rule_holds rfl) ⟨fun h56 => ?_, fun h56 => ?_⟩
              · try simp (disch := omega) only [cmpI, w32_id] at h56
                exact absurd h56 (by decide)
              · try simp (disch := omega) only [cmpI, w32_id] at h56
                refine Ex_step (tk_Rule_holds rfl) ?_
                refine Ex_step (tk_Rule_holds rfl) ?_
                refine Ex_step (tk_Rule_holds rfl) ⟨fun h61 => ?_, fun h61 => ?_⟩
                · try simp (disch := omega) only [cmpI, w32_id] at h61
                  first | exact h105 | omega
                · try simp (disch := omega) only [cmpI, w32_id] at h61
                  refine Ex_step (tk_Rule_holds rfl) ?_
                  refine Ex_step (tk_Rule_holds rfl) ?_
                  refine Ex_step (tk_Rule_holds rfl) ?_
                  refine Ex_step (tk_Rule_holds rfl) ?_
                  refine Ex_step (tk_Rule_holds rfl) ?_
                  refine Ex_step (tk_Rule_holds rfl) ?_
                  refine Ex_step (tk_Rule_holds rfl) ?_
                  refine Ex_step (tk_Rule_holds rfl) ?_
                  refine Ex_step (tk_Rule_holds rfl) ?_
                  refine lCL (n := st2.length) (tk_Rule_holds rfl) (hS) (by rw [w32_id (by omega) (by omega)]; omega) (by omega) ?_
                  rw [hS1]
                  refine Ex_step (tk_Rule_holds rfl) ?_
                  refine tCL (n := st2.length) (tk_Rule_holds rfl) (hS) (by rw [w32_id (by omega) (by omega)]; omega) (by omega) ?_
                  refine Ex_step (tk_Rule_holds rfl) ?_
                  first | exact h105 | omega
            · try simp (disch := omega) only [cmpI, w32_id] at h28
              exact absurd h28 (by decide)
      · rw [if_neg q3] at hw
        rw [if_neg q3] at h
        have key : ∀ (b1 b2 b3 : Bool) (t2 : List Bool), tys = b1 :: b2 :: t2 → 3 ≤ c ∧ c ≤ 10 → (9 ≤ c → b1 = true ∧ b2 = true) → wft r (b3 :: t2) → (∀ x y : Int, if b3 then opV c x y = 0 ∨ opV c x y = 1 else -1000000 ≤ opV c x y ∧ opV c x y ≤ 1000000) → Ex (d + 2) Rule_holds 5 [some (vR u), some (vR p), some (vR s), some (vI (st.length : Int)), some (vI (i : Int)), l5] [] (CM m F A L') Q := by
          intro b1 b2 b3 t2 ht hc3 hbb hw2 hob
          subst ht
          have hcv : cod (c, v) = cod (c, 0) := by
            unfold cod
            rw [if_neg (show ¬ (c, v).1 = 1 by show ¬ c = 1; omega), if_neg (show ¬ (c, v).1 = 2 by show ¬ c = 2; omega), if_neg (show ¬ (c, (0 : Int)).1 = 1 by show ¬ c = 1; omega), if_neg (show ¬ (c, (0 : Int)).1 = 2 by show ¬ c = 2; omega)]
          rw [hcv] at hc
          have hcg : -19 ≤ cod (c, 0) ∧ cod (c, 0) ≤ -11 ∧ cod (c, 0) ≠ -13 := by
            rcases (show c = 3 ∨ c = 4 ∨ c = 5 ∨ c = 6 ∨ c = 7 ∨ c = 8 ∨ c = 9 ∨ c = 10 by omega) with w | w | w | w | w | w | w | w <;> rw [w] <;> decide
          match st, hv, hSt, h, hlen with
          | y :: x :: st2, hv, hSt, h, hlen =>
            have hy := okV_bd hv.1
            have hx := okV_bd hv.2.1
            have hS1 : L' s (st2.length + 1) = y := hSt.1
            have hS2 : L' s st2.length = x := hSt.2.1
            have hsl : st2.length ≤ 30 := by simp only [List.length_cons] at hlen hl; omega
            have hb9 : 9 ≤ c → (x = 0 ∨ x = 1) ∧ (y = 0 ∨ y = 1) := fun w => by
              obtain ⟨w1, w2⟩ := hbb w
              subst w1
              subst w2
              exact ⟨hv.2.1, hv.1⟩
            have hnx := ih (opV c x y :: st2) (b3 :: t2) (i + 1) (up1 L' s (up1 (L' s) st2.length (opV c x y))) (some (vI (cod (c, 0)))) (by omega) hE hw2 ⟨hob x y, hv.2.2⟩ ⟨by rw [up1_at, up1_at], by rw [up1_at]; exact stkR_up (Nat.le_refl _) hSt.2.2⟩ (by simp only [List.length_cons] at hl ⊢; omega) (fun j hj => by rw [up1_ne _ _ hj]; exact kL j hj) h
            have hwk := fun (Q1 : Nat → Option AV → Mem → Prop) => c_worked (d := d) (m := CM m F A L') (Q := Q1) (x := x) (y := y) hc3 hx hy hb9
            have h105 : Ex (d + 2) Rule_holds 105 [some (vR u), some (vR p), some (vR s), some (vI ((st2.length : Int) + 1)), some (vI (i : Int)), some (vI (cod (c, 0)))] [] (CM m F A (up1 L' s (up1 (L' s) st2.length (opV c x y)))) Q := by
              refine Ex_step (tk_Rule_holds rfl) ?_
              refine Ex_step (tk_Rule_holds rfl) ?_
              exact hnx
            have el : (((y :: x :: st2).length : Nat) : Int) = (st2.length : Int) + 2 := rfl
            have el2 : (st2.length : Int) + 2 + (-1) = (st2.length : Int) + 1 := by omega
            rw [el]
            generalize cod (c, 0) = cd at *
            generalize opV c x y = ov at *
            refine Ex_step (tk_Rule_holds rfl) ?_
            refine Ex_step (tk_Rule_holds rfl) ?_
            refine gCR (tk_Rule_holds rfl) (hk6) (hr384) ?_
            refine lenC (tk_Rule_holds rfl) hU.2.2 ?_
            refine Ex_step (tk_Rule_holds rfl) ⟨fun h12 => ?_, fun h12 => ?_⟩
            · try simp (disch := omega) only [cmpI, w32_b2i, b2i_0, b2i_1, w32_id, Classical.not_not, not_true_eq_false, not_false_eq_true] at h12
              omega
            · try simp (disch := omega) only [cmpI, w32_b2i, b2i_0, b2i_1, w32_id, Classical.not_not, not_true_eq_false, not_false_eq_true] at h12
              refine Ex_step (tk_Rule_holds rfl) ?_
              refine gCR (tk_Rule_holds rfl) (hk6) (hr384) ?_
              refine Ex_step (tk_Rule_holds rfl) ?_
              refine lCI (n := i) (tk_Rule_holds rfl) (hU.2.2) (w32_id (by omega) (by omega)) (by omega) ?_
              rw [hc]
              refine Ex_step (tk_Rule_holds rfl) ?_
              refine Ex_step (tk_Rule_holds rfl) ?_
              refine Ex_step (tk_Rule_holds rfl) ?_
              refine Ex_step (tk_Rule_holds rfl) ⟨fun h28 => ?_, fun h28 => ?_⟩
              · try simp (disch := omega) only [cmpI, w32_b2i, b2i_0, b2i_1, w32_id, Classical.not_not, not_true_eq_false, not_false_eq_true] at h28
                refine Ex_step (tk_Rule_holds rfl) ?_
                refine Ex_step (tk_Rule_holds rfl) ?_
                refine Ex_step (tk_Rule_holds rfl) ⟨fun h56 => ?_, fun h56 => ?_⟩
                · try simp (disch := omega) only [cmpI, w32_b2i, b2i_0, b2i_1, w32_id, Classical.not_not, not_true_eq_false, not_false_eq_true] at h56
                  refine Ex_step (tk_Rule_holds rfl) ?_
                  refine Ex_step (tk_Rule_holds rfl) ?_
                  refine Ex_step (tk_Rule_holds rfl) ⟨fun h81 => ?_, fun h81 => ?_⟩
                  · try simp (disch := omega) only [cmpI, w32_b2i, b2i_0, b2i_1, w32_id, Classical.not_not, not_true_eq_false, not_false_eq_true] at h81
                    first | exact h105 | omega
                  · try simp (disch := omega) only [cmpI, w32_b2i, b2i_0, b2i_1, w32_id, Classical.not_not, not_true_eq_false, not_false_eq_true] at h81
                    refine Ex_step (tk_Rule_holds rfl) ?_
                    show Ex (d + 2) Rule_holds 87 (stL _ 3 (vI ((st2.length : Int) + 2 + (-1)))) _ _ Q
                    rw [el2]
                    refine Ex_step (tk_Rule_holds rfl) ?_
                    refine Ex_step (tk_Rule_holds rfl) ?_
                    refine Ex_step (tk_Rule_holds rfl) ?_
                    refine Ex_step (tk_Rule_holds rfl) ?_
                    refine Ex_step (tk_Rule_holds rfl) ?_
                    refine Ex_step (tk_Rule_holds rfl) ?_
                    refine Ex_step (tk_Rule_holds rfl) ?_
                    refine Ex_step (tk_Rule_holds rfl) ?_
                    refine Ex_step (tk_Rule_holds rfl) ?_
                    refine lCL (n := st2.length) (tk_Rule_holds rfl) (hS) (by rw [w32_id (by omega) (by omega)]; omega) (by omega) ?_
                    rw [hS2]
                    refine Ex_step (tk_Rule_holds rfl) ?_
                    refine Ex_step (tk_Rule_holds rfl) ?_
                    refine lCL (n := st2.length + 1) (tk_Rule_holds rfl) (hS) (by rw [w32_id (by omega) (by omega)]; omega) (by omega) ?_
                    rw [hS1]
                    refine Ex_cS0 (av := [vI cd, vL x, vL y]) (tk_Rule_holds rfl) mk_Rule_worked ⟨rfl, by decide, rfl, rfl, rfl, Nat.le_of_ble_eq_true rfl, Nat.le_of_ble_eq_true rfl⟩ (fun _ h => hwk _ h) ?_
                    refine tCL (n := st2.length) (tk_Rule_holds rfl) (hS) (by rw [w32_id (by omega) (by omega)]; omega) (by omega) ?_
                    first | exact h105 | omega
                · try simp (disch := omega) only [cmpI, w32_b2i, b2i_0, b2i_1, w32_id, Classical.not_not, not_true_eq_false, not_false_eq_true] at h56
                  omega
              · try simp (disch := omega) only [cmpI, w32_b2i, b2i_0, b2i_1, w32_id, Classical.not_not, not_true_eq_false, not_false_eq_true] at h28
                omega
        by_cases q4 : 3 ≤ c ∧ c ≤ 5
        · rw [if_pos q4] at hw
          obtain ⟨t2, ht, hw⟩ := hw
          exact key false false false t2 ht (by omega) (by omega) hw (fun x y => opV_b q4)
        · rw [if_neg q4] at hw
          by_cases q5 : 6 ≤ c ∧ c ≤ 8
          · rw [if_pos q5] at hw
            obtain ⟨t2, ht, hw⟩ := hw
            exact key false false true t2 ht (by omega) (by omega) hw (fun x y => opV_01 q5.1)
          · rw [if_neg q5] at hw
            by_cases q6 : c = 9 ∨ c = 10
            · rw [if_pos q6] at hw
              obtain ⟨t2, ht, hw⟩ := hw
              exact key true true true t2 ht (by omega) (fun _ => ⟨rfl, rfl⟩) hw (fun x y => opV_01 (by omega))
            · rw [if_neg q6] at hw
              exact hw.elim
end CRule
