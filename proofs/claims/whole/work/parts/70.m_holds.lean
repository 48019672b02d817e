/-! ===== a rule as signs behind what they take; what it comes to ===== -/
abbrev Tok : Type := Nat × Int
def opV (c : Nat) (x y : Int) : Int := if c = 3 then hldV (x + y) else if c = 4 then hldV (x - y) else if c = 5 then hldV (x * y) else if c = 6 then oI (x < y) else if c = 7 then oI (x = y) else if c = 8 then oI (y < x) else if c = 9 then oI (x + y = 2) else oI (0 < x + y)
def evT (ask : Int → Int) : List Tok → List Int → List Int
  | [], st => st
  | (c, v) :: r, st => if c = 1 then evT ask r (v :: st) else if c = 2 then evT ask r (ask v :: st) else if c = 11 then (match st with
    | x :: s => evT ask r ((1 - x) :: s)
    | [] => []) else (match st with
    | y :: x :: s => evT ask r (opV c x y :: s)
    | _ => [])
/-- sorts of what lies on the pile: true for what holds or not -/
def wft : List Tok → List Bool → Prop
  | [], t => t = [true]
  | (c, v) :: r, t => if c = 1 ∨ c = 2 then (0 ≤ v ∧ v ≤ (if c = 1 then 9999 else 4)) ∧ t.length ≤ 31 ∧ wft r (false :: t) else if c = 11 then (∃ t2, t = true :: t2) ∧ wft r t else if 3 ≤ c ∧ c ≤ 5 then ∃ t2, t = false :: false :: t2 ∧ wft r (false :: t2) else if 6 ≤ c ∧ c ≤ 8 then ∃ t2, t = false :: false :: t2 ∧ wft r (true :: t2) else if c = 9 ∨ c = 10 then ∃ t2, t = true :: true :: t2 ∧ wft r (true :: t2) else False
def okV : List Int → List Bool → Prop
  | [], [] => True
  | x :: s, b :: t => (if b then x = 0 ∨ x = 1 else -1000000 ≤ x ∧ x ≤ 1000000) ∧ okV s t
  | _, _ => False
set_option maxRecDepth 100000 in
theorem okV_len : ∀ {s : List Int} {t : List Bool}, okV s t → s.length = t.length
  | [], [], _ => rfl
  | _ :: _, _ :: _, h => by
    have := okV_len h.2
    show _ + 1 = _ + 1
    omega
  | [], _ :: _, h => h.elim
  | _ :: _, [], h => h.elim
def encT (T : Nat → Int) : Nat → List Tok → Prop
  | i, [] => i < 1920 ∧ T i = 0
  | i, (c, v) :: r => i + 1 < 1920 ∧ T i = (c : Int) ∧ (if c < 3 then T (i + 1) = v ∧ encT T (i + 2) r else encT T (i + 1) r)
def stkR (S : Nat → Int) : List Int → Prop
  | [] => True
  | x :: r => S r.length = x ∧ stkR S r
set_option maxRecDepth 100000 in
theorem stkR_up {S : Nat → Int} {k : Nat} {v : Int} : ∀ {r : List Int}, r.length ≤ k → stkR S r → stkR (up1 S k v) r
  | [], _, _ => trivial
  | x :: r, h, g => ⟨by rw [up1_ne _ _ (by simp only [List.length_cons] at h; omega)]; exact g.1, stkR_up (by simp only [List.length_cons] at h; omega) g.2⟩
set_option maxRecDepth 100000 in
theorem mul_m {x y : Int} (hx : -1000000 ≤ x ∧ x ≤ 1000000) (hy : -1000000 ≤ y ∧ y ≤ 1000000) : -1000000000000 ≤ x * y ∧ x * y ≤ 1000000000000 := by
  have a1 : x * y ≤ 1000000 * 1000000 := by
    rcases Int.le_total 0 x with q | q <;> rcases Int.le_total 0 y with q2 | q2
    · exact Int.mul_le_mul hx.2 hy.2 q2 (by decide)
    · exact Int.le_trans (Int.mul_nonpos_of_nonneg_of_nonpos q q2) (by decide)
    · exact Int.le_trans (Int.mul_nonpos_of_nonpos_of_nonneg q q2) (by decide)
    · rw [← Int.neg_mul_neg]; exact Int.mul_le_mul (by omega) (by omega) (by omega) (by decide)
  have a2 : -x * y ≤ 1000000 * 1000000 := by
    rcases Int.le_total 0 (-x) with q | q <;> rcases Int.le_total 0 y with q2 | q2
    · exact Int.mul_le_mul (by omega) hy.2 q2 (by decide)
    · exact Int.le_trans (Int.mul_nonpos_of_nonneg_of_nonpos q q2) (by decide)
    · exact Int.le_trans (Int.mul_nonpos_of_nonpos_of_nonneg q q2) (by decide)
    · rw [← Int.neg_mul_neg]; exact Int.mul_le_mul (by omega) (by omega) (by omega) (by decide)
  rw [Int.neg_mul] at a2
  omega
section MHolds
variable {d : Nat} {m : Mem} {I : Nat → Int} {A L : Nat → Nat → Int} {Q : Nat → Option AV → Mem → Prop}
set_option maxRecDepth 100000 in
theorem e_one1 (h : Q 0 (some (vL 1)) m) : Ex d M_one 0 [some (vI 1)] [] m Q := e_one (p := True) h
set_option maxRecDepth 100000 in
theorem e_one0 (h : Q 0 (some (vL 0)) m) : Ex d M_one 0 [some (vI 0)] [] m Q := e_one (p := False) h
set_option maxRecDepth 100000 in
theorem f_hold9 {x y : Int} {c : Nat} {i top : Int} (hc : 9 ≤ c ∧ c ≤ 10) (hx : -1000000 ≤ x ∧ x ≤ 1000000) (hy : -1000000 ≤ y ∧ y ≤ 1000000) {M : Mem} (h278a : opV c x y = 1 → Ex (d + 1) M_holds 278 [some (vR aM), some (vI top), some (vI i), some (vI (c : Int)), some (vL x), none, some (vL y), none] [vI 1, vI (top - 1), vR 381] M Q) (h278b : opV c x y = 0 → Ex (d + 1) M_holds 278 [some (vR aM), some (vI top), some (vI i), some (vI (c : Int)), some (vL x), none, some (vL y), none] [vI 0, vI (top - 1), vR 381] M Q) : Ex (d + 1) M_holds 237 [some (vR aM), some (vI top), some (vI i), some (vI (c : Int)), some (vL x), none, some (vL y), none] [vI (top - 1), vR 381] M Q := by
  have o9 : c = 9 → opV c x y = oI (x + y = 2) := by intro q; subst q; rfl
  have o10 : c = 10 → opV c x y = oI (0 < x + y) := by intro q; subst q; rfl
  have c2 : lCmp (x + y) 2 = sgC (x + y) 2 := lCmp_sg (by omega) (by omega)
  have c3 : lCmp (x + y) 0 = sgC (x + y) 0 := lCmp_sg (by omega) (by omega)
  refine Ex_step (tk_M_holds rfl) ?_
  refine Ex_step (tk_M_holds rfl) ?_
  refine Ex_step (tk_M_holds rfl) ⟨fun h240 => ?_, fun h240 => ?_⟩
  · try simp (disch := omega) only [cmpI, w32_sg, sg_le, sg_ge, sg_lt, sg_gt, sg_eq, w32_id] at h240
    refine Ex_step (tk_M_holds rfl) ?_
    refine Ex_step (tk_M_holds rfl) ?_
    refine Ex_step (tk_M_holds rfl) ?_
    refine Ex_step (tk_M_holds rfl) ?_
    refine Ex_step (tk_M_holds rfl) ?_
    show Ex (d + 1) M_holds 270 _ (vI (lCmp (x + y) 0) :: _) _ Q
    rw [c3]
    refine Ex_step (tk_M_holds rfl) ⟨fun h270 => ?_, fun h270 => ?_⟩
    · try simp (disch := omega) only [cmpI, w32_sg, sg_le, sg_ge, sg_lt, sg_gt, sg_eq, w32_id] at h270
      have hx := h278b (by rw [o10 (by omega)]; exact oI_f (by omega))
      refine Ex_step (tk_M_holds rfl) ?_
      exact hx
    · try simp (disch := omega) only [cmpI, w32_sg, sg_le, sg_ge, sg_lt, sg_gt, sg_eq, w32_id] at h270
      have hx := h278a (by rw [o10 (by omega)]; exact oI_t (by omega))
      refine Ex_step (tk_M_holds rfl) ?_
      refine Ex_step (tk_M_holds rfl) ?_
      exact hx
  · try simp (disch := omega) only [cmpI, w32_sg, sg_le, sg_ge, sg_lt, sg_gt, sg_eq, w32_id] at h240
    refine Ex_step (tk_M_holds rfl) ?_
    refine Ex_step (tk_M_holds rfl) ?_
    refine Ex_step (tk_M_holds rfl) ?_
    refine Ex_step (tk_M_holds rfl) ?_
    refine Ex_step (tk_M_holds rfl) ?_
    show Ex (d + 1) M_holds 252 _ (vI (lCmp (x + y) 2) :: _) _ Q
    rw [c2]
    refine Ex_step (tk_M_holds rfl) ⟨fun h252 => ?_, fun h252 => ?_⟩
    · try simp (disch := omega) only [cmpI, w32_sg, sg_le, sg_ge, sg_lt, sg_gt, sg_eq, w32_id] at h252
      have hx := h278b (by rw [o9 (by omega)]; exact oI_f (by omega))
      refine Ex_step (tk_M_holds rfl) ?_
      refine Ex_step (tk_M_holds rfl) ?_
      exact hx
    · try simp (disch := omega) only [cmpI, w32_sg, sg_le, sg_ge, sg_lt, sg_gt, sg_eq, w32_id] at h252
      have hx := h278a (by rw [o9 (by omega)]; exact oI_t (by omega))
      refine Ex_step (tk_M_holds rfl) ?_
      refine Ex_step (tk_M_holds rfl) ?_
      exact hx
set_option maxRecDepth 100000 in
theorem f_hold6 {x y : Int} {c : Nat} {i top : Int} (hc : 6 ≤ c ∧ c ≤ 10) (hx : -1000000 ≤ x ∧ x ≤ 1000000) (hy : -1000000 ≤ y ∧ y ≤ 1000000) {M : Mem} (h278a : opV c x y = 1 → Ex (d + 1) M_holds 278 [some (vR aM), some (vI top), some (vI i), some (vI (c : Int)), some (vL x), none, some (vL y), none] [vI 1, vI (top - 1), vR 381] M Q) (h278b : opV c x y = 0 → Ex (d + 1) M_holds 278 [some (vR aM), some (vI top), some (vI i), some (vI (c : Int)), some (vL x), none, some (vL y), none] [vI 0, vI (top - 1), vR 381] M Q) : Ex (d + 1) M_holds 171 [some (vR aM), some (vI top), some (vI i), some (vI (c : Int)), some (vL x), none, some (vL y), none] [vI (top - 1), vR 381] M Q := by
  have o6 : c = 6 → opV c x y = oI (x < y) := by intro q; subst q; rfl
  have o7 : c = 7 → opV c x y = oI (x = y) := by intro q; subst q; rfl
  have o8 : c = 8 → opV c x y = oI (y < x) := by intro q; subst q; rfl
  have c1 : lCmp x y = sgC x y := lCmp_sg (by omega) (by omega)
  refine Ex_step (tk_M_holds rfl) ?_
  refine Ex_step (tk_M_holds rfl) ?_
  refine Ex_step (tk_M_holds rfl) ⟨fun h174 => ?_, fun h174 => ?_⟩
  · try simp (disch := omega) only [cmpI, w32_sg, sg_le, sg_ge, sg_lt, sg_gt, sg_eq, w32_id] at h174
    refine Ex_step (tk_M_holds rfl) ?_
    refine Ex_step (tk_M_holds rfl) ?_
    refine Ex_step (tk_M_holds rfl) ⟨fun h196 => ?_, fun h196 => ?_⟩
    · try simp (disch := omega) only [cmpI, w32_sg, sg_le, sg_ge, sg_lt, sg_gt, sg_eq, w32_id] at h196
      refine Ex_step (tk_M_holds rfl) ?_
      refine Ex_step (tk_M_holds rfl) ?_
      refine Ex_step (tk_M_holds rfl) ⟨fun h218 => ?_, fun h218 => ?_⟩
      · try simp (disch := omega) only [cmpI, w32_sg, sg_le, sg_ge, sg_lt, sg_gt, sg_eq, w32_id] at h218
        exact f_hold9 (by omega) hx hy h278a h278b
      · try simp (disch := omega) only [cmpI, w32_sg, sg_le, sg_ge, sg_lt, sg_gt, sg_eq, w32_id] at h218
        refine Ex_step (tk_M_holds rfl) ?_
        refine Ex_step (tk_M_holds rfl) ?_
        refine Ex_step (tk_M_holds rfl) ?_
        show Ex (d + 1) M_holds 226 _ (vI (lCmp x y) :: _) _ Q
        rw [c1]
        refine Ex_step (tk_M_holds rfl) ⟨fun h226 => ?_, fun h226 => ?_⟩
        · try simp (disch := omega) only [cmpI, w32_sg, sg_le, sg_ge, sg_lt, sg_gt, sg_eq, w32_id] at h226
          have hx := h278b (by rw [o8 (by omega)]; exact oI_f (by omega))
          refine Ex_step (tk_M_holds rfl) ?_
          refine Ex_step (tk_M_holds rfl) ?_
          exact hx
        · try simp (disch := omega) only [cmpI, w32_sg, sg_le, sg_ge, sg_lt, sg_gt, sg_eq, w32_id] at h226
          have hx := h278a (by rw [o8 (by omega)]; exact oI_t (by omega))
          refine Ex_step (tk_M_holds rfl) ?_
          refine Ex_step (tk_M_holds rfl) ?_
          exact hx
    · try simp (disch := omega) only [cmpI, w32_sg, sg_le, sg_ge, sg_lt, sg_gt, sg_eq, w32_id] at h196
      refine Ex_step (tk_M_holds rfl) ?_
      refine Ex_step (tk_M_holds rfl) ?_
      refine Ex_step (tk_M_holds rfl) ?_
      show Ex (d + 1) M_holds 204 _ (vI (lCmp x y) :: _) _ Q
      rw [c1]
      refine Ex_step (tk_M_holds rfl) ⟨fun h204 => ?_, fun h204 => ?_⟩
      · try simp (disch := omega) only [cmpI, w32_sg, sg_le, sg_ge, sg_lt, sg_gt, sg_eq, w32_id] at h204
        have hx := h278b (by rw [o7 (by omega)]; exact oI_f (by omega))
        refine Ex_step (tk_M_holds rfl) ?_
        refine Ex_step (tk_M_holds rfl) ?_
        exact hx
      · try simp (disch := omega) only [cmpI, w32_sg, sg_le, sg_ge, sg_lt, sg_gt, sg_eq, w32_id] at h204
        have hx := h278a (by rw [o7 (by omega)]; exact oI_t (by omega))
        refine Ex_step (tk_M_holds rfl) ?_
        refine Ex_step (tk_M_holds rfl) ?_
        exact hx
  · try simp (disch := omega) only [cmpI, w32_sg, sg_le, sg_ge, sg_lt, sg_gt, sg_eq, w32_id] at h174
    refine Ex_step (tk_M_holds rfl) ?_
    refine Ex_step (tk_M_holds rfl) ?_
    refine Ex_step (tk_M_holds rfl) ?_
    show Ex (d + 1) M_holds 182 _ (vI (lCmp x y) :: _) _ Q
    rw [c1]
    refine Ex_step (tk_M_holds rfl) ⟨fun h182 => ?_, fun h182 => ?_⟩
    · try simp (disch := omega) only [cmpI, w32_sg, sg_le, sg_ge, sg_lt, sg_gt, sg_eq, w32_id] at h182
      have hx := h278b (by rw [o6 (by omega)]; exact oI_f (by omega))
      refine Ex_step (tk_M_holds rfl) ?_
      refine Ex_step (tk_M_holds rfl) ?_
      exact hx
    · try simp (disch := omega) only [cmpI, w32_sg, sg_le, sg_ge, sg_lt, sg_gt, sg_eq, w32_id] at h182
      have hx := h278a (by rw [o6 (by omega)]; exact oI_t (by omega))
      refine Ex_step (tk_M_holds rfl) ?_
      refine Ex_step (tk_M_holds rfl) ?_
      exact hx
set_option maxHeartbeats 4000000 in
set_option maxRecDepth 100000 in
theorem f_holdC {x y : Int} {c : Nat} {i top : Int} (hc : 3 ≤ c ∧ c ≤ 10) (hx : -1000000 ≤ x ∧ x ≤ 1000000) (hy : -1000000 ≤ y ∧ y ≤ 1000000) {M : Mem} (h281 : ∀ v : Int, v = opV c x y → Ex (d + 1) M_holds 281 [some (vR aM), some (vI top), some (vI i), some (vI (c : Int)), some (vL x), none, some (vL y), none] [vL v, vI (top - 1), vR 381] M Q) : Ex (d + 1) M_holds 123 [some (vR aM), some (vI top), some (vI i), some (vI (c : Int)), some (vL x), none, some (vL y), none] [vI (top - 1), vR 381] M Q := by
  have hxy := mul_m hx hy
  have o3 : c = 3 → hldV (x + y) = opV c x y := fun q => by unfold opV; rw [if_pos q]
  have o4 : c = 4 → hldV (x - y) = opV c x y := fun q => by unfold opV; rw [if_neg (by omega), if_pos q]
  have o5 : c = 5 → hldV (x * y) = opV c x y := fun q => by unfold opV; rw [if_neg (by omega), if_neg (by omega), if_pos q]
  have b3 : -9000000000000000 ≤ x + y ∧ x + y ≤ 9000000000000000 := by omega
  have b4 : -9000000000000000 ≤ x - y ∧ x - y ≤ 9000000000000000 := by omega
  have b5 : -9000000000000000 ≤ x * y ∧ x * y ≤ 9000000000000000 := by omega
  clear hxy
  have h278a : opV c x y = 1 → Ex (d + 1) M_holds 278 [some (vR aM), some (vI top), some (vI i), some (vI (c : Int)), some (vL x), none, some (vL y), none] [vI 1, vI (top - 1), vR 381] M Q := by
    intro q
    have hx := h281 1 q.symm
    refine Ex_cS0 (av := [vI 1]) (tk_M_holds rfl) mk_M_one ⟨rfl, by decide, rfl, rfl, rfl, Nat.le_of_ble_eq_true rfl, Nat.le_of_ble_eq_true rfl⟩ (fun _ h => e_one1 h) ?_
    exact hx
  have h278b : opV c x y = 0 → Ex (d + 1) M_holds 278 [some (vR aM), some (vI top), some (vI i), some (vI (c : Int)), some (vL x), none, some (vL y), none] [vI 0, vI (top - 1), vR 381] M Q := by
    intro q
    have hx := h281 0 q.symm
    refine Ex_cS0 (av := [vI 0]) (tk_M_holds rfl) mk_M_one ⟨rfl, by decide, rfl, rfl, rfl, Nat.le_of_ble_eq_true rfl, Nat.le_of_ble_eq_true rfl⟩ (fun _ h => e_one0 h) ?_
    exact hx
  refine Ex_step (tk_M_holds rfl) ?_
  refine Ex_step (tk_M_holds rfl) ?_
  refine Ex_step (tk_M_holds rfl) ⟨fun h125 => ?_, fun h125 => ?_⟩
  · try simp (disch := omega) only [cmpI, w32_sg, sg_le, sg_ge, sg_lt, sg_gt, sg_eq, w32_id] at h125
    refine Ex_step (tk_M_holds rfl) ?_
    refine Ex_step (tk_M_holds rfl) ?_
    refine Ex_step (tk_M_holds rfl) ⟨fun h141 => ?_, fun h141 => ?_⟩
    · try simp (disch := omega) only [cmpI, w32_sg, sg_le, sg_ge, sg_lt, sg_gt, sg_eq, w32_id] at h141
      refine Ex_step (tk_M_holds rfl) ?_
      refine Ex_step (tk_M_holds rfl) ?_
      refine Ex_step (tk_M_holds rfl) ⟨fun h157 => ?_, fun h157 => ?_⟩
      · try simp (disch := omega) only [cmpI, w32_sg, sg_le, sg_ge, sg_lt, sg_gt, sg_eq, w32_id] at h157
        exact f_hold6 (by omega) hx hy h278a h278b
      · try simp (disch := omega) only [cmpI, w32_sg, sg_le, sg_ge, sg_lt, sg_gt, sg_eq, w32_id] at h157
        have hx := h281 (hldV (x * y)) (o5 (by omega))
        refine Ex_step (tk_M_holds rfl) ?_
        refine Ex_step (tk_M_holds rfl) ?_
        refine Ex_step (tk_M_holds rfl) ?_
        refine Ex_cS0 (av := [vL (x * y)]) (tk_M_holds rfl) mk_M_held ⟨rfl, by decide, rfl, rfl, rfl, Nat.le_of_ble_eq_true rfl, Nat.le_of_ble_eq_true rfl⟩ (fun _ h => e_held b5 h) ?_
        refine Ex_step (tk_M_holds rfl) ?_
        exact hx
    · try simp (disch := omega) only [cmpI, w32_sg, sg_le, sg_ge, sg_lt, sg_gt, sg_eq, w32_id] at h141
      have hx := h281 (hldV (x - y)) (o4 (by omega))
      refine Ex_step (tk_M_holds rfl) ?_
      refine Ex_step (tk_M_holds rfl) ?_
      refine Ex_step (tk_M_holds rfl) ?_
      refine Ex_cS0 (av := [vL (x - y)]) (tk_M_holds rfl) mk_M_held ⟨rfl, by decide, rfl, rfl, rfl, Nat.le_of_ble_eq_true rfl, Nat.le_of_ble_eq_true rfl⟩ (fun _ h => e_held b4 h) ?_
      refine Ex_step (tk_M_holds rfl) ?_
      exact hx
  · try simp (disch := omega) only [cmpI, w32_sg, sg_le, sg_ge, sg_lt, sg_gt, sg_eq, w32_id] at h125
    have hx := h281 (hldV (x + y)) (o3 (by omega))
    refine Ex_step (tk_M_holds rfl) ?_
    refine Ex_step (tk_M_holds rfl) ?_
    refine Ex_step (tk_M_holds rfl) ?_
    refine Ex_cS0 (av := [vL (x + y)]) (tk_M_holds rfl) mk_M_held ⟨rfl, by decide, rfl, rfl, rfl, Nat.le_of_ble_eq_true rfl, Nat.le_of_ble_eq_true rfl⟩ (fun _ h => e_held b3 h) ?_
    refine Ex_step (tk_M_holds rfl) ?_
    exact hx
set_option maxHeartbeats 4000000 in
set_option maxRecDepth 100000 in
theorem f_holdOp (hM : MW m) {x y : Int} {s : List Int} {S : Nat → Int} {c n : Nat} {i : Int} (hc : 3 ≤ c ∧ c ≤ 10) (hx : -1000000 ≤ x ∧ x ≤ 1000000) (hy : -1000000 ≤ y ∧ y ≤ 1000000) (hn : n = s.length) (hl : n ≤ 100) (hS : stkR S (y :: x :: s)) {l4 l5 l6 l7 : Option AV} (h : ∀ l4 l5 l6 l7 : Option AV, Ex (d + 1) M_holds 282 [some (vR aM), some (vI ((n + 1 : Nat) : Int)), some (vI i), some (vI (c : Int)), l4, l5, l6, l7] [] (MS m I A (up1 L 19 (up1 S n (opV c x y)))) Q) : Ex (d + 1) M_holds 95 [some (vR aM), some (vI ((n + 2 : Nat) : Int)), some (vI i), some (vI (c : Int)), l4, l5, l6, l7] [] (MS m I A (up1 L 19 S)) Q := by
  subst hn
  obtain ⟨s1, s2, s3⟩ := hS
  have s1 : S (s.length + 1) = y := s1
  have h281 : ∀ v : Int, v = opV c x y → Ex (d + 1) M_holds 281 [some (vR aM), some (vI ((s.length + 1 : Nat) : Int)), some (vI i), some (vI (c : Int)), some (vL x), none, some (vL y), none] [vL v, vI ((s.length + 1 : Nat) - 1 : Int), vR 381] (MS m I A (up1 L 19 S)) Q := by
    intro v hv
    subst hv
    refine tML (j := 19) (n := s.length) (tk_M_holds rfl) (by decide) hM.k19 hM.n19 (by rw [w32_id (by omega) (by omega)]; omega) (by omega) ?_
    rw [up1_at, up1_same]
    exact h _ _ _ _
  have h123 := f_holdC (d := d) (i := i) (top := ((s.length + 1 : Nat) : Int)) hc hx hy h281
  have e1 : ((s.length + 2 : Nat) : Int) + (-1) = ((s.length + 1 : Nat) : Int) := by omega
  refine Ex_step (tk_M_holds rfl) ?_
  show Ex (d + 1) M_holds 98 (stL _ 1 (vI (((s.length + 2 : Nat) : Int) + (-1)))) _ _ Q
  rw [e1]
  refine Ex_step (tk_M_holds rfl) ?_
  refine gMR (tk_M_holds rfl) hM hM.r32 ?_
  refine Ex_step (tk_M_holds rfl) ?_
  refine Ex_step (tk_M_holds rfl) ?_
  refine Ex_step (tk_M_holds rfl) ?_
  refine lML (j := 19) (n := s.length) (tk_M_holds rfl) (by decide) hM.k19 hM.n19 (by rw [w32_id (by omega) (by omega)]; omega) (by omega) ?_
  rw [up1_at, s2]
  refine Ex_step (tk_M_holds rfl) ?_
  refine Ex_step (tk_M_holds rfl) ?_
  refine gMR (tk_M_holds rfl) hM hM.r32 ?_
  refine Ex_step (tk_M_holds rfl) ?_
  refine lML (j := 19) (n := s.length + 1) (tk_M_holds rfl) (by decide) hM.k19 hM.n19 (by rw [w32_id (by omega) (by omega)]) (by omega) ?_
  rw [up1_at, s1]
  refine Ex_step (tk_M_holds rfl) ?_
  refine Ex_step (tk_M_holds rfl) ?_
  refine gMR (tk_M_holds rfl) hM hM.r32 ?_
  refine Ex_step (tk_M_holds rfl) ?_
  refine Ex_step (tk_M_holds rfl) ?_
  refine Ex_step (tk_M_holds rfl) ?_
  exact h123
end MHolds
