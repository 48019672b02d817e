/-! ===== the reference lays one over the other ===== -/
def RowL (v : Int) (p : Int → Prop) [DecidablePred p] : Prop := ∀ i : Nat, i < 64 → lb v i = decide (p (-24 + (i : Int)))
def smR (T : Nat → Int) (a b t : Nat) (dx dy y : Int) : Int := sI (fun x => oI (pSo T a x y ∧ pDk T b t (x - dx) (y - dy))) (-24) 64
def ulR (T : Nat → Int) (a b t : Nat) (dx dy y : Int) : Int := sI (fun x => oI ((pSo T a x y ∧ tsr T b t (x - dx) (y - dy) = 0) ∨ (srt T a x y = 0 ∧ pDk T b t (x - dx) (y - dy)))) (-24) 64
set_option maxRecDepth 100000 in
theorem RowL_and {u v : Int} {p q : Int → Prop} [DecidablePred p] [DecidablePred q] (hu : RowL u p) (hv : RowL v q) : RowL (lAnd u v) (fun x => p x ∧ q x) := by
  intro i hi
  rw [lb_and, hu i hi, hv i hi, Bool.decide_and]
set_option maxRecDepth 100000 in
theorem RowL_or {u v : Int} {p q : Int → Prop} [DecidablePred p] [DecidablePred q] (hu : RowL u p) (hv : RowL v q) : RowL (lOr u v) (fun x => p x ∨ q x) := by
  intro i hi
  rw [lb_or, hu i hi, hv i hi, Bool.decide_or]
set_option maxRecDepth 100000 in
theorem RowL_not {u : Int} {p : Int → Prop} [DecidablePred p] (hu : RowL u p) : RowL (lXor u (-1)) (fun x => ¬ p x) := by
  intro i hi
  rw [lb_xor, hu i hi, lb_m1 hi, decide_not]
  cases decide (p (-24 + (i : Int))) <;> rfl
set_option maxRecDepth 100000 in
theorem RowL_xor {u v : Int} {p q : Int → Prop} [DecidablePred p] [DecidablePred q] (hu : RowL u p) (hv : RowL v q) : RowL (lXor u v) (fun x => p x ∧ ¬ q x ∨ ¬ p x ∧ q x) := by
  intro i hi
  rw [lb_xor, hu i hi, hv i hi]
  by_cases h1 : p (-24 + (i : Int)) <;> by_cases h2 : q (-24 + (i : Int)) <;> simp [h1, h2]
set_option maxRecDepth 100000 in
theorem RowL_0 {p : Int → Prop} [DecidablePred p] (h : ∀ x, ¬ p x) : RowL 0 p := by
  intro i hi
  rw [lb_0, decide_eq_false (h _)]
set_option maxRecDepth 100000 in
theorem RowL_c {u : Int} {p q : Int → Prop} [DecidablePred p] [DecidablePred q] (hu : RowL u p) (h : ∀ x, p x ↔ q x) : RowL u q := by
  intro i hi
  rw [hu i hi]
  exact decide_eq_decide.mpr (h _)
set_option maxRecDepth 100000 in
theorem RowL_n {u : Int} {p : Int → Prop} [DecidablePred p] (hu : RowL u p) : ((bc (u64 u) 64 : Nat) : Int) = sI (fun x => oI (p x)) (-24) 64 := bcL_sum hu 64 (Nat.le_refl _)
section MMoved
variable {d : Nat} {m : Mem} {Q : Nat → Option AV → Mem → Prop}
set_option maxRecDepth 100000 in
theorem e_moved {r n : Int} {p : Int → Prop} [DecidablePred p] (hr : RowL r p) (hp : ∀ x, p x → 0 ≤ x ∧ x < 10) (hn : -20 ≤ n ∧ n ≤ 20) (h : ∀ v, RowL v (fun x => p (x - n)) → Q 0 (some (vL v)) m) : Ex d M_moved 0 [some (vL r), none, some (vI n)] [] m Q := by
  have h63 : lb r 63 = false := by
    rw [hr 63 (by decide)]
    exact decide_eq_false (fun z => by have := hp _ z; omega)
  have q1 : 0 ≤ n → RowL (lShl r n) (fun x => p (x - n)) := by
    intro h0 i hi
    obtain ⟨s, rfl⟩ := Int.eq_ofNat_of_zero_le h0
    rw [lb_shl r (by omega), decide_eq_true hi, Bool.true_and]
    by_cases q : i < s
    · rw [decide_eq_true q]
      exact (decide_eq_false (fun z => by have := hp _ z; omega)).symm
    · rw [decide_eq_false q, hr (i - s) (by omega), show -24 + ((i - s : Nat) : Int) = -24 + (i : Int) - (s : Int) by omega]
      rfl
  have q2 : n < 0 → RowL (lShr r (-n)) (fun x => p (x - n)) := by
    intro h0 i hi
    obtain ⟨s, hs⟩ := Int.eq_ofNat_of_zero_le (show 0 ≤ -n by omega)
    rw [hs, lb_shr2 r (by omega) i h63]
    by_cases q : s + i < 64
    · rw [decide_eq_true q, Bool.true_and, hr (s + i) q, show -24 + ((s + i : Nat) : Int) = -24 + (i : Int) - n by omega]
    · rw [decide_eq_false q]
      exact (decide_eq_false (fun z => by have := hp _ z; omega)).symm
  refine Ex_step (tk_M_moved rfl) ?_
  refine Ex_step (tk_M_moved rfl) ⟨fun h1 => ?_, fun h1 => ?_⟩
  · try simp (disch := omega) only [cmpI, w32_b2i, b2i_0, b2i_1, w32_id, Classical.not_not, not_true_eq_false, not_false_eq_true] at h1
    refine Ex_step (tk_M_moved rfl) ?_
    refine Ex_step (tk_M_moved rfl) ?_
    refine Ex_step (tk_M_moved rfl) ?_
    refine Ex_step (tk_M_moved rfl) ⟨rfl, ?_⟩
    first | exact h _ (q1 (by omega)) | exact h _ (q2 (by omega))
  · try simp (disch := omega) only [cmpI, w32_b2i, b2i_0, b2i_1, w32_id, Classical.not_not, not_true_eq_false, not_false_eq_true] at h1
    refine Ex_step (tk_M_moved rfl) ?_
    refine Ex_step (tk_M_moved rfl) ?_
    refine Ex_step (tk_M_moved rfl) ?_
    refine Ex_step (tk_M_moved rfl) ?_
    refine Ex_step (tk_M_moved rfl) ?_
    refine Ex_step (tk_M_moved rfl) ⟨rfl, ?_⟩
    first | exact h _ (q1 (by omega)) | exact h _ (q2 (by omega))
end MMoved
section MLies
variable {d a b t : Nat} {dx dy : Int} {m : Mem} {I : Nat → Int} {A L : Nat → Nat → Int} {T : Nat → Int} {Q : Nat → Option AV → Mem → Prop}
set_option maxRecDepth 100000 in
theorem f_lieR (hM : MW m) (hWa : DsW T a) (hWb : DsW T b) (hdx : -20 ≤ dx ∧ dx ≤ 20) (hdy : -20 ≤ dy ∧ dy ≤ 20) (b1 : BitR (L 15) (pSo T a)) (b2 : BitR (L 16) (pAs T a)) (b3 : BitR (L 17) (pDk T b t)) (b4 : BitR (L 18) (pDo T b t)) {u v y : Int} (hy : -20 ≤ y ∧ y < 30) {l4 l5 l6 l7 l8 l9 l10 l11 : Option AV} (h : ∀ l4 l5 l6 l7 l8 l9 l10 l11 : Option AV, Ex (d + 1) M_lies 176 [some (vR aM), some (vI dx), some (vI dy), some (vI y), l4, l5, l6, l7, l8, l9, l10, l11] [] (MS m (F2 22 23 I (u + smR T a b t dx dy y) (v + ulR T a b t dx dy y)) A L) Q) : Ex (d + 1) M_lies 29 [some (vR aM), some (vI dx), some (vI dy), some (vI y), l4, l5, l6, l7, l8, l9, l10, l11] [] (MS m (F2 22 23 I u v) A L) Q := by
  have za : ∀ x z : Int, z < 0 ∨ 9 < z → srt T a x z = 0 := fun x z q => Classical.byContradiction fun n => by have := srt_in10 hWa n; omega
  have zb : ∀ x z : Int, z < 0 ∨ 9 < z → tsr T b t x z = 0 := fun x z q => Classical.byContradiction fun n => by have := tsr_in t hWb n; omega
  have ra := fun x z => srt_r hWa x z
  have rb := fun x z => tsr_r t hWb x z
  have h125 : ∀ (av bv v1 v2 : Int) (l10 l11 : Option AV), RowL av (fun x => pSo T a x y) → RowL bv (fun x => pDk T b t (x - dx) (y - dy)) → RowL v1 (fun x => pAs T a x y) → RowL v2 (fun x => pDo T b t (x - dx) (y - dy)) → Ex (d + 1) M_lies 125 [some (vR aM), some (vI dx), some (vI dy), some (vI y), some (vI (b2i (w32 0 ≤ w32 y ∧ w32 y ≤ w32 9))), some (vI (b2i (w32 0 ≤ w32 (y - dy) ∧ w32 (y - dy) ≤ w32 9))), some (vL av), none, some (vL bv), none, l10, l11] [vL v2, vL v1] (MS m (F2 22 23 I u v) A L) Q := by
    intro av bv v1 v2 l10 l11 r1 r2 r3 r4
    have r5 := RowL_not (RowL_or r3 r4)
    have e1 : ((bc (u64 (lAnd (lAnd av bv) (lXor (lOr v1 v2) (-1)))) 64 : Nat) : Int) = smR T a b t dx dy y := by
      rw [RowL_n (RowL_and (RowL_and r1 r2) r5)]
      exact sI_cong (fun x _ _ => oI_iff ⟨fun z => z.1, fun z => ⟨z, by have := ra x y; have := rb (x - dx) (y - dy); omega⟩⟩)
    have e2 : ((bc (u64 (lAnd (lXor av bv) (lXor (lOr v1 v2) (-1)))) 64 : Nat) : Int) = ulR T a b t dx dy y := by
      rw [RowL_n (RowL_and (RowL_xor r1 r2) r5)]
      exact sI_cong (fun x _ _ => oI_iff (by have := ra x y; have := rb (x - dx) (y - dy); omega))
    refine Ex_step (tk_M_lies rfl) ?_
    refine Ex_step (tk_M_lies rfl) ?_
    refine Ex_step (tk_M_lies rfl) ?_
    refine Ex_step (tk_M_lies rfl) ?_
    refine gMI (tk_M_lies rfl) hM ?_
    refine Ex_step (tk_M_lies rfl) ?_
    refine Ex_step (tk_M_lies rfl) ?_
    refine Ex_step (tk_M_lies rfl) ?_
    refine Ex_step (tk_M_lies rfl) ?_
    refine Ex_step (tk_M_lies rfl) ?_
    refine Ex_step (tk_M_lies rfl) ?_
    refine Ex_step (tk_M_lies rfl) ?_
    refine Ex_cS0 (av := [vL (lAnd (lAnd av bv) (lXor (lOr v1 v2) (-1)))]) (tk_M_lies rfl) mk_Lng_bitCount ⟨rfl, by decide, rfl, rfl, rfl, Nat.le_of_ble_eq_true rfl, Nat.le_of_ble_eq_true rfl⟩ (fun _ h => e_bitL h) ?_
    rw [F2_a, e1]
    refine Ex_step (tk_M_lies rfl) ?_
    refine pMI (tk_M_lies rfl) hM ?_
    rw [F2_wa]
    refine Ex_step (tk_M_lies rfl) ?_
    refine Ex_step (tk_M_lies rfl) ?_
    refine gMI (tk_M_lies rfl) hM ?_
    refine Ex_step (tk_M_lies rfl) ?_
    refine Ex_step (tk_M_lies rfl) ?_
    refine Ex_step (tk_M_lies rfl) ?_
    refine Ex_step (tk_M_lies rfl) ?_
    refine Ex_step (tk_M_lies rfl) ?_
    refine Ex_step (tk_M_lies rfl) ?_
    refine Ex_step (tk_M_lies rfl) ?_
    refine Ex_cS0 (av := [vL (lAnd (lXor av bv) (lXor (lOr v1 v2) (-1)))]) (tk_M_lies rfl) mk_Lng_bitCount ⟨rfl, by decide, rfl, rfl, rfl, Nat.le_of_ble_eq_true rfl, Nat.le_of_ble_eq_true rfl⟩ (fun _ h => e_bitL h) ?_
    rw [F2_b (by decide), e2]
    refine Ex_step (tk_M_lies rfl) ?_
    refine pMI (tk_M_lies rfl) hM ?_
    rw [F2_wb (by decide)]
    exact h _ _ _ _ _ _ _ _
  have h104 : ∀ (av bv v1 : Int) (l10 l11 : Option AV), RowL av (fun x => pSo T a x y) → RowL bv (fun x => pDk T b t (x - dx) (y - dy)) → RowL v1 (fun x => pAs T a x y) → Ex (d + 1) M_lies 104 [some (vR aM), some (vI dx), some (vI dy), some (vI y), some (vI (b2i (w32 0 ≤ w32 y ∧ w32 y ≤ w32 9))), some (vI (b2i (w32 0 ≤ w32 (y - dy) ∧ w32 (y - dy) ≤ w32 9))), some (vL av), none, some (vL bv), none, l10, l11] [vL v1] (MS m (F2 22 23 I u v) A L) Q := by
    intro av bv v1 l10 l11 r1 r2 r3
    refine Ex_step (tk_M_lies rfl) ?_
    refine Ex_step (tk_M_lies rfl) ⟨fun h106 => ?_, fun h106 => ?_⟩
    · try simp (disch := omega) only [cmpI, w32_b2i, b2i_0, b2i_1, w32_id, Classical.not_not, not_true_eq_false, not_false_eq_true] at h106
      have hx := h125 av bv v1 0 l10 l11 r1 r2 r3 (RowL_0 (fun x q => by have := zb (x - dx) (y - dy) (by omega); omega))
      refine Ex_step (tk_M_lies rfl) ?_
      exact hx
    · try simp (disch := omega) only [cmpI, w32_b2i, b2i_0, b2i_1, w32_id, Classical.not_not, not_true_eq_false, not_false_eq_true] at h106
      refine Ex_step (tk_M_lies rfl) ?_
      refine gMR (tk_M_lies rfl) hM hM.r21 ?_
      refine Ex_step (tk_M_lies rfl) ?_
      refine Ex_step (tk_M_lies rfl) ?_
      refine Ex_step (tk_M_lies rfl) ?_
      refine lML (j := 18) (n := (y - dy).toNat) (tk_M_lies rfl) (by decide) hM.k18 hM.n18 (by rw [w32_id (by omega) (by omega)]; omega) (by omega) ?_
      refine Ex_step (tk_M_lies rfl) ?_
      refine Ex_cSK (av := [vL (L 18 (y - dy).toNat), vI dx]) (tk_M_lies rfl) mk_M_moved ⟨rfl, by decide, rfl, rfl, rfl, Nat.le_of_ble_eq_true rfl, Nat.le_of_ble_eq_true rfl⟩ (e_moved (p := fun x => pDo T b t x (y - dy)) (fun i hi => by have := b4 (y - dy).toNat (by omega) i hi; rwa [show (((y - dy).toNat : Nat) : Int) = y - dy by omega] at this) (fun x q => (tsr_in t hWb (show tsr T b t x (y - dy) ≠ 0 by omega)).1) hdx (fun v2 hv => ⟨rfl, ?_⟩))
      have hx := h125 av bv v1 v2 l10 l11 r1 r2 r3 hv
      refine Ex_step (tk_M_lies rfl) ?_
      exact hx
  have h87 : ∀ (av bv : Int) (l8 l9 l10 l11 : Option AV), RowL av (fun x => pSo T a x y) → RowL bv (fun x => pDk T b t (x - dx) (y - dy)) → Ex (d + 1) M_lies 87 [some (vR aM), some (vI dx), some (vI dy), some (vI y), some (vI (b2i (w32 0 ≤ w32 y ∧ w32 y ≤ w32 9))), some (vI (b2i (w32 0 ≤ w32 (y - dy) ∧ w32 (y - dy) ≤ w32 9))), some (vL av), none, l8, l9, l10, l11] [vL bv] (MS m (F2 22 23 I u v) A L) Q := by
    intro av bv l8 l9 l10 l11 r1 r2
    refine Ex_step (tk_M_lies rfl) ?_
    refine Ex_step (tk_M_lies rfl) ?_
    refine Ex_step (tk_M_lies rfl) ⟨fun h91 => ?_, fun h91 => ?_⟩
    · try simp (disch := omega) only [cmpI, w32_b2i, b2i_0, b2i_1, w32_id, Classical.not_not, not_true_eq_false, not_false_eq_true] at h91
      have hx := h104 av bv 0 l10 l11 r1 r2 (RowL_0 (fun x q => by have := za x y (by omega); omega))
      refine Ex_step (tk_M_lies rfl) ?_
      exact hx
    · try simp (disch := omega) only [cmpI, w32_b2i, b2i_0, b2i_1, w32_id, Classical.not_not, not_true_eq_false, not_false_eq_true] at h91
      refine Ex_step (tk_M_lies rfl) ?_
      refine gMR (tk_M_lies rfl) hM hM.r19 ?_
      refine Ex_step (tk_M_lies rfl) ?_
      refine lML (j := 16) (n := y.toNat) (tk_M_lies rfl) (by decide) hM.k16 hM.n16 (by rw [w32_id (by omega) (by omega)]; omega) (by omega) ?_
      have hx := h104 av bv (L 16 y.toNat) l10 l11 r1 r2 (fun i hi => by have := b2 y.toNat (by omega) i hi; rwa [show ((y.toNat : Nat) : Int) = y by omega] at this)
      refine Ex_step (tk_M_lies rfl) ?_
      exact hx
  have h64 : ∀ (av : Int) (l6 l7 l8 l9 l10 l11 : Option AV), RowL av (fun x => pSo T a x y) → Ex (d + 1) M_lies 64 [some (vR aM), some (vI dx), some (vI dy), some (vI y), some (vI (b2i (w32 0 ≤ w32 y ∧ w32 y ≤ w32 9))), some (vI (b2i (w32 0 ≤ w32 (y - dy) ∧ w32 (y - dy) ≤ w32 9))), l6, l7, l8, l9, l10, l11] [vL av] (MS m (F2 22 23 I u v) A L) Q := by
    intro av l6 l7 l8 l9 l10 l11 r1
    refine Ex_step (tk_M_lies rfl) ?_
    refine Ex_step (tk_M_lies rfl) ?_
    refine Ex_step (tk_M_lies rfl) ⟨fun h68 => ?_, fun h68 => ?_⟩
    · try simp (disch := omega) only [cmpI, w32_b2i, b2i_0, b2i_1, w32_id, Classical.not_not, not_true_eq_false, not_false_eq_true] at h68
      have hx := h87 av 0 l8 l9 l10 l11 r1 (RowL_0 (fun x q => by have := zb (x - dx) (y - dy) (by omega); omega))
      refine Ex_step (tk_M_lies rfl) ?_
      exact hx
    · try simp (disch := omega) only [cmpI, w32_b2i, b2i_0, b2i_1, w32_id, Classical.not_not, not_true_eq_false, not_false_eq_true] at h68
      refine Ex_step (tk_M_lies rfl) ?_
      refine gMR (tk_M_lies rfl) hM hM.r20 ?_
      refine Ex_step (tk_M_lies rfl) ?_
      refine Ex_step (tk_M_lies rfl) ?_
      refine Ex_step (tk_M_lies rfl) ?_
      refine lML (j := 17) (n := (y - dy).toNat) (tk_M_lies rfl) (by decide) hM.k17 hM.n17 (by rw [w32_id (by omega) (by omega)]; omega) (by omega) ?_
      refine Ex_step (tk_M_lies rfl) ?_
      refine Ex_cSK (av := [vL (L 17 (y - dy).toNat), vI dx]) (tk_M_lies rfl) mk_M_moved ⟨rfl, by decide, rfl, rfl, rfl, Nat.le_of_ble_eq_true rfl, Nat.le_of_ble_eq_true rfl⟩ (e_moved (p := fun x => pDk T b t x (y - dy)) (fun i hi => by have := b3 (y - dy).toNat (by omega) i hi; rwa [show (((y - dy).toNat : Nat) : Int) = y - dy by omega] at this) (fun x q => (tsr_in t hWb (show tsr T b t x (y - dy) ≠ 0 by omega)).1) hdx (fun v2 hv => ⟨rfl, ?_⟩))
      have hx := h87 av v2 l8 l9 l10 l11 r1 hv
      refine Ex_step (tk_M_lies rfl) ?_
      exact hx
  refine Ex_step (tk_M_lies rfl) ?_
  refine Ex_step (tk_M_lies rfl) ?_
  refine Ex_step (tk_M_lies rfl) ?_
  refine Ex_cS0 (av := [vI y, vI 0, vI 9]) (tk_M_lies rfl) mk_M_in ⟨rfl, by decide, rfl, rfl, rfl, Nat.le_of_ble_eq_true rfl, Nat.le_of_ble_eq_true rfl⟩ (fun _ h => e_in h) ?_
  refine Ex_step (tk_M_lies rfl) ?_
  refine Ex_step (tk_M_lies rfl) ?_
  refine Ex_step (tk_M_lies rfl) ?_
  refine Ex_step (tk_M_lies rfl) ?_
  refine Ex_step (tk_M_lies rfl) ?_
  refine Ex_step (tk_M_lies rfl) ?_
  refine Ex_cS0 (av := [vI (y - dy), vI 0, vI 9]) (tk_M_lies rfl) mk_M_in ⟨rfl, by decide, rfl, rfl, rfl, Nat.le_of_ble_eq_true rfl, Nat.le_of_ble_eq_true rfl⟩ (fun _ h => e_in h) ?_
  refine Ex_step (tk_M_lies rfl) ?_
  refine Ex_step (tk_M_lies rfl) ?_
  refine Ex_step (tk_M_lies rfl) ⟨fun h51 => ?_, fun h51 => ?_⟩
  · try simp (disch := omega) only [cmpI, w32_b2i, b2i_0, b2i_1, w32_id, Classical.not_not, not_true_eq_false, not_false_eq_true] at h51
    have hx := h64 0 l6 l7 l8 l9 l10 l11 (RowL_0 (fun x q => by have := za x y (by omega); omega))
    refine Ex_step (tk_M_lies rfl) ?_
    exact hx
  · try simp (disch := omega) only [cmpI, w32_b2i, b2i_0, b2i_1, w32_id, Classical.not_not, not_true_eq_false, not_false_eq_true] at h51
    refine Ex_step (tk_M_lies rfl) ?_
    refine gMR (tk_M_lies rfl) hM hM.r18 ?_
    refine Ex_step (tk_M_lies rfl) ?_
    refine lML (j := 15) (n := y.toNat) (tk_M_lies rfl) (by decide) hM.k15 hM.n15 (by rw [w32_id (by omega) (by omega)]; omega) (by omega) ?_
    have hx := h64 (L 15 y.toNat) l6 l7 l8 l9 l10 l11 (fun i hi => by have := b1 y.toNat (by omega) i hi; rwa [show ((y.toNat : Nat) : Int) = y by omega] at this)
    refine Ex_step (tk_M_lies rfl) ?_
    exact hx
end MLies
