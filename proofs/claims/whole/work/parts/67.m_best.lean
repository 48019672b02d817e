/-! ===== the reference: the best overlay ===== -/
abbrev BSt : Type := Int × Int × Int × Int × Int
def cAl (T : Nat → Int) (a b t : Nat) (dx dy : Int) : Int := if smS T a b t dx dy + ulS T a b t dx dy < 1 then 1 else smS T a b t dx dy + ulS T a b t dx dy
def bstep (T : Nat → Int) (a b t : Nat) (dx dy : Int) (s : BSt) : BSt := if s.1 = -1 ∨ s.1 * cAl T a b t dx dy < smS T a b t dx dy * s.2.1 then (smS T a b t dx dy, cAl T a b t dx dy, (t : Int), dx, dy) else s
def bX (T : Nat → Int) (a b t : Nat) (dy lo : Int) : Nat → BSt → BSt
  | 0, s => s
  | n + 1, s => bstep T a b t (lo + (n : Int)) dy (bX T a b t dy lo n s)
def bY (T : Nat → Int) (a b t : Nat) (lox loy : Int) (nx : Nat) : Nat → BSt → BSt
  | 0, s => s
  | n + 1, s => bX T a b t (loy + (n : Int)) lox nx (bY T a b t lox loy nx n s)
def bTn (T : Nat → Int) (a b t : Nat) (s : BSt) : BSt := bY T a b t (1 - tW (T (bD b + 1)) (T (bD b + 2)) t) (1 - tH (T (bD b + 1)) (T (bD b + 2)) t) (T (bD a + 1) + tW (T (bD b + 1)) (T (bD b + 2)) t - 1).toNat (T (bD a + 2) + tH (T (bD b + 1)) (T (bD b + 2)) t - 1).toNat s
def bT (T : Nat → Int) (a b : Nat) (s : BSt) : Nat → BSt
  | 0 => s
  | t + 1 => bTn T a b t (bT T a b s t)
def bestS (T : Nat → Int) (a b : Nat) : BSt := bT T a b (-1, 1, 0, 0, 0) 8
def BB (s : BSt) : Prop := (-1 ≤ s.1 ∧ s.1 ≤ 100) ∧ 1 ≤ s.2.1 ∧ s.2.1 ≤ 300 ∧ s.1 ≤ s.2.1
set_option maxRecDepth 100000 in
theorem cAl_b {T : Nat → Int} {a b t : Nat} {dx dy : Int} : 1 ≤ cAl T a b t dx dy ∧ cAl T a b t dx dy ≤ 300 ∧ smS T a b t dx dy ≤ cAl T a b t dx dy := by
  have h1 := smS_b (T := T) (a := a) (b := b) (t := t) (dx := dx) (dy := dy)
  have h2 := ulS_b (T := T) (a := a) (b := b) (t := t) (dx := dx) (dy := dy)
  unfold cAl
  split <;> omega
set_option maxRecDepth 100000 in
theorem BB.step {T : Nat → Int} {a b t : Nat} {dx dy : Int} {s : BSt} (h : BB s) : BB (bstep T a b t dx dy s) := by
  unfold bstep
  split
  · have h1 := smS_b (T := T) (a := a) (b := b) (t := t) (dx := dx) (dy := dy)
    have h2 := cAl_b (T := T) (a := a) (b := b) (t := t) (dx := dx) (dy := dy)
    exact ⟨⟨by show -1 ≤ smS T a b t dx dy; omega, h1.2⟩, h2.1, h2.2.1, h2.2.2⟩
  · exact h
set_option maxRecDepth 100000 in
theorem BB.x {T : Nat → Int} {a b t : Nat} {dy lo : Int} : ∀ (n : Nat) {s : BSt}, BB s → BB (bX T a b t dy lo n s)
  | 0, _, h => h
  | n + 1, _, h => (BB.x n h).step
set_option maxRecDepth 100000 in
theorem BB.y {T : Nat → Int} {a b t : Nat} {lox loy : Int} {nx : Nat} : ∀ (n : Nat) {s : BSt}, BB s → BB (bY T a b t lox loy nx n s)
  | 0, _, h => h
  | n + 1, _, h => BB.x nx (BB.y n h)
set_option maxRecDepth 100000 in
theorem BB.t {T : Nat → Int} {a b : Nat} {s : BSt} (h : BB s) : ∀ n, BB (bT T a b s n)
  | 0 => h
  | n + 1 => BB.y _ (BB.t h n)
set_option maxRecDepth 100000 in
/-- the first place takes the place of whatever was there -/
theorem bX_ind {T : Nat → Int} {a b t : Nat} {dy lo : Int} {s s2 : BSt} (h : s.1 = -1) (h2 : s2.1 = -1) : ∀ n : Nat, 1 ≤ n → bX T a b t dy lo n s = bX T a b t dy lo n s2
  | 0, h0 => absurd h0 (by decide)
  | 1, _ => by
    show bstep T a b t _ dy s = bstep T a b t _ dy s2
    unfold bstep
    rw [if_pos (Or.inl h), if_pos (Or.inl h2)]
  | n + 2, _ => by
    show bstep T a b t _ dy (bX T a b t dy lo (n + 1) s) = bstep T a b t _ dy (bX T a b t dy lo (n + 1) s2)
    rw [bX_ind h h2 (n + 1) (by omega)]
set_option maxRecDepth 100000 in
theorem bY_ind {T : Nat → Int} {a b t : Nat} {lox loy : Int} {nx : Nat} {s s2 : BSt} (h : s.1 = -1) (h2 : s2.1 = -1) (hx : 1 ≤ nx) : ∀ n : Nat, 1 ≤ n → bY T a b t lox loy nx n s = bY T a b t lox loy nx n s2
  | 0, h0 => absurd h0 (by decide)
  | 1, _ => bX_ind h h2 nx hx
  | n + 2, _ => by
    show bX T a b t _ lox nx (bY T a b t lox loy nx (n + 1) s) = bX T a b t _ lox nx (bY T a b t lox loy nx (n + 1) s2)
    rw [bY_ind h h2 hx (n + 1) (by omega)]
set_option maxRecDepth 100000 in
theorem bT_ind {T : Nat → Int} {a b : Nat} (hWa : DsW T a) (hWb : DsW T b) {s s2 : BSt} (h : s.1 = -1) (h2 : s2.1 = -1) : ∀ n : Nat, 1 ≤ n → bT T a b s n = bT T a b s2 n
  | 0, h0 => absurd h0 (by decide)
  | 1, _ => by
    have := hWa.2.1
    have := hWa.2.2.1
    have := tWH 0 hWb.2.1 hWb.2.2.1
    show bTn T a b 0 s = bTn T a b 0 s2
    unfold bTn
    exact bY_ind h h2 (by omega) _ (by omega)
  | n + 2, _ => by
    show bTn T a b (n + 1) (bT T a b s (n + 1)) = bTn T a b (n + 1) (bT T a b s2 (n + 1))
    rw [bT_ind hWa hWb h h2 (n + 1) (by omega)]
def BSI (I : Nat → Int) (s : BSt) : Prop := I 24 = s.1 ∧ I 25 = s.2.1 ∧ I 26 = s.2.2.1 ∧ I 27 = s.2.2.2.1 ∧ I 28 = s.2.2.2.2
def KpI (I I' : Nat → Int) : Prop := ∀ k, k < 15 ∨ 28 < k → I' k = I k
set_option maxRecDepth 100000 in
theorem KpI.rf (I : Nat → Int) : KpI I I := fun _ _ => rfl
set_option maxRecDepth 100000 in
theorem KpI.up {I I' : Nat → Int} (h : KpI I I') {j : Nat} (hj : 15 ≤ j ∧ j ≤ 28) (v : Int) : KpI I (up1 I' j v) := fun k hk => by rw [up1_ne _ _ (by omega)]; exact h k hk
set_option maxRecDepth 100000 in
theorem KpI.f2 {I I' : Nat → Int} (h : KpI I I') {j l : Nat} (hj : 15 ≤ j ∧ j ≤ 28) (hl : 15 ≤ l ∧ l ≤ 28) (u v : Int) : KpI I (F2 j l I' u v) := fun k hk => by rw [F2_o (by omega) (by omega)]; exact h k hk
set_option maxRecDepth 100000 in
theorem KpI.tr {I I' I2 : Nat → Int} (h : KpI I I') (g : KpI I' I2) : KpI I I2 := fun k hk => (g k hk).trans (h k hk)
set_option maxRecDepth 100000 in
theorem mul_b {x y : Int} (hx : 0 ≤ x ∧ x ≤ 300) (hy : -1 ≤ y ∧ y ≤ 300) : -300 ≤ x * y ∧ x * y ≤ 90000 := by
  constructor
  · have : x * (-1) ≤ x * y := Int.mul_le_mul_of_nonneg_left hy.1 hx.1
    omega
  · have h1 : x * y ≤ x * 300 := Int.mul_le_mul_of_nonneg_left hy.2 hx.1
    omega
section MBest
variable {d a b t : Nat} {i j : Int} {m : Mem} {I : Nat → Int} {A L : Nat → Nat → Int} {Q : Nat → Option AV → Mem → Prop}
set_option maxRecDepth 100000 in
/-- one place tried -/
theorem f_bestC (hM : MW m) (hWa : DsW (A 3) a) (hWb : DsW (A 3) b) {dx dy : Int} (hdx : -20 ≤ dx ∧ dx ≤ 20) (hdy : -20 ≤ dy ∧ dy ≤ 20) (b1 : BitR (L 15) (pSo (A 3) a)) (b2 : BitR (L 16) (pAs (A 3) a)) (b3 : BitR (L 17) (pDk (A 3) b t)) (b4 : BitR (L 18) (pDo (A 3) b t)) {s : BSt} (hs : BB s) (hI : BSI I s) {l1 l2 l6 : Option AV} (h : ∀ (I' : Nat → Int) (l6 : Option AV), KpI I I' → I' 15 = I 15 → I' 16 = I 16 → BSI I' (bstep (A 3) a b t dx dy s) → Ex (d + 2) M_overlays 149 [some (vR aM), l1, l2, some (vI (t : Int)), some (vI dy), some (vI dx), l6] [] (MS m I' A L) Q) : Ex (d + 2) M_overlays 65 [some (vR aM), l1, l2, some (vI (t : Int)), some (vI dy), some (vI dx), l6] [] (MS m I A L) Q := by
  have h1 := smS_b (T := A 3) (a := a) (b := b) (t := t) (dx := dx) (dy := dy)
  have h2 := ulS_b (T := A 3) (a := a) (b := b) (t := t) (dx := dx) (dy := dy)
  have h3 := cAl_b (T := A 3) (a := a) (b := b) (t := t) (dx := dx) (dy := dy)
  obtain ⟨⟨s1, s2⟩, s3, s4, s5⟩ := hs
  obtain ⟨i1, i2, i3, i4, i5⟩ := hI
  have m1 := mul_b (x := smS (A 3) a b t dx dy) (y := s.2.1) (by omega) (by omega)
  have m2 := mul_b (x := cAl (A 3) a b t dx dy) (y := s.1) (by omega) (by omega)
  rw [Int.mul_comm] at m2
  have eM : (if w32 (smS (A 3) a b t dx dy + ulS (A 3) a b t dx dy) < w32 1 then 1 else smS (A 3) a b t dx dy + ulS (A 3) a b t dx dy) = cAl (A 3) a b t dx dy := by rw [w32_id (by omega) (by omega)]; rfl
  have hlies := fun (Q1 : Nat → Option AV → Mem → Prop) => f_lies (d := d) (I := I) (A := A) (L := L) (T := A 3) (Q := Q1) hM hWa hWb hdx hdy b1 b2 b3 b4
  unfold bstep at h
  generalize smS (A 3) a b t dx dy = sm at *
  generalize ulS (A 3) a b t dx dy = ul at *
  generalize cAl (A 3) a b t dx dy = al at *
  have h118 : (s.1 = -1 ∨ s.1 * al < sm * s.2.1) → Ex (d + 2) M_overlays 118 [some (vR aM), l1, l2, some (vI (t : Int)), some (vI dy), some (vI dx), some (vI al)] [] (MS m (F2 22 23 I sm ul) A L) Q := by
    intro hq
    rw [if_pos hq] at h
    refine Ex_step (tk_M_overlays rfl) ?_
    refine Ex_step (tk_M_overlays rfl) ?_
    refine gMI (tk_M_overlays rfl) hM ?_
    rw [F2_a]
    refine pMI (tk_M_overlays rfl) hM ?_
    refine Ex_step (tk_M_overlays rfl) ?_
    refine Ex_step (tk_M_overlays rfl) ?_
    refine pMI (tk_M_overlays rfl) hM ?_
    refine Ex_step (tk_M_overlays rfl) ?_
    refine Ex_step (tk_M_overlays rfl) ?_
    refine pMI (tk_M_overlays rfl) hM ?_
    refine Ex_step (tk_M_overlays rfl) ?_
    refine Ex_step (tk_M_overlays rfl) ?_
    refine pMI (tk_M_overlays rfl) hM ?_
    refine Ex_step (tk_M_overlays rfl) ?_
    refine Ex_step (tk_M_overlays rfl) ?_
    refine pMI (tk_M_overlays rfl) hM ?_
    exact h _ _ (((((((KpI.rf I).f2 (by decide) (by decide) _ _).up (by decide) _).up (by decide) _).up (by decide) _).up (by decide) _).up (by decide) _) rfl rfl ⟨rfl, rfl, rfl, rfl, rfl⟩
  have h149 : ¬ (s.1 = -1 ∨ s.1 * al < sm * s.2.1) → Ex (d + 2) M_overlays 149 [some (vR aM), l1, l2, some (vI (t : Int)), some (vI dy), some (vI dx), some (vI al)] [] (MS m (F2 22 23 I sm ul) A L) Q := by
    intro hq
    rw [if_neg hq] at h
    exact h _ _ ((KpI.rf I).f2 (by decide) (by decide) _ _) rfl rfl ⟨i1, i2, i3, i4, i5⟩
  refine Ex_step (tk_M_overlays rfl) ?_
  refine Ex_step (tk_M_overlays rfl) ?_
  refine Ex_step (tk_M_overlays rfl) ?_
  refine Ex_cV0 (av := [vI dx, vI dy]) (tk_M_overlays rfl) mk_M_lies ⟨rfl, rfl, by decide, rfl, Nat.le_of_ble_eq_true rfl, Nat.le_of_ble_eq_true rfl⟩ (hM.k) (fun _ h => hlies _ h) ?_
  refine Ex_step (tk_M_overlays rfl) ?_
  refine Ex_step (tk_M_overlays rfl) ?_
  refine gMI (tk_M_overlays rfl) hM ?_
  rw [F2_a]
  refine Ex_step (tk_M_overlays rfl) ?_
  refine gMI (tk_M_overlays rfl) hM ?_
  rw [F2_b (by decide)]
  refine Ex_step (tk_M_overlays rfl) ?_
  refine Ex_cS0 (av := [vI 1, vI (sm + ul)]) (tk_M_overlays rfl) mk_M_more ⟨rfl, by decide, rfl, rfl, rfl, Nat.le_of_ble_eq_true rfl, Nat.le_of_ble_eq_true rfl⟩ (fun _ h => e_more h) ?_
  rw [eM]
  refine Ex_step (tk_M_overlays rfl) ?_
  refine Ex_step (tk_M_overlays rfl) ?_
  refine gMI (tk_M_overlays rfl) hM ?_
  rw [F2_o (by decide) (by decide), i1]
  refine Ex_step (tk_M_overlays rfl) ?_
  refine Ex_step (tk_M_overlays rfl) ⟨fun h93 => ?_, fun h93 => ?_⟩
  · try simp (disch := omega) only [cmpI, w32_b2i, b2i_0, b2i_1, w32_id, Classical.not_not, not_true_eq_false, not_false_eq_true] at h93
    exact h118 (by omega)
  · try simp (disch := omega) only [cmpI, w32_b2i, b2i_0, b2i_1, w32_id, Classical.not_not, not_true_eq_false, not_false_eq_true] at h93
    refine Ex_step (tk_M_overlays rfl) ?_
    refine gMI (tk_M_overlays rfl) hM ?_
    rw [F2_a]
    refine Ex_step (tk_M_overlays rfl) ?_
    refine gMI (tk_M_overlays rfl) hM ?_
    rw [F2_o (by decide) (by decide), i2]
    refine Ex_step (tk_M_overlays rfl) ?_
    refine Ex_step (tk_M_overlays rfl) ?_
    refine gMI (tk_M_overlays rfl) hM ?_
    rw [F2_o (by decide) (by decide), i1]
    refine Ex_step (tk_M_overlays rfl) ?_
    refine Ex_step (tk_M_overlays rfl) ?_
    refine Ex_step (tk_M_overlays rfl) ⟨fun h112 => ?_, fun h112 => ?_⟩
    · try simp (disch := omega) only [cmpI, w32_b2i, b2i_0, b2i_1, w32_id, Classical.not_not, not_true_eq_false, not_false_eq_true] at h112
      exact h118 (by omega)
    · try simp (disch := omega) only [cmpI, w32_b2i, b2i_0, b2i_1, w32_id, Classical.not_not, not_true_eq_false, not_false_eq_true] at h112
      refine Ex_step (tk_M_overlays rfl) ?_
      exact h149 (by omega)
end MBest
