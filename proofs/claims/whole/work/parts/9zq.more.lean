/-! ===== the class: more alike, the most alike before ===== -/
/-- all about design a is known -/
def KA (F : Nat → Nat → Int) (a nn : Nat) : Prop := ∀ b, b < nn → b ≠ a → F 64 (310 + 2 + (a * 6 + b)) = 1
set_option maxRecDepth 100000 in
/-- what a Best holds, as far as it is asked -/
theorem crf_v {F : Nat → Nat → Int} {q : Nat} {T : Nat → Int} {a b : Nat} (h : CRF F q (bestS T a b)) (h0 : 0 ≤ (bestS T a b).1) : ∃ s al : Nat, F 65 q = (s : Int) ∧ F 66 q = (al : Int) ∧ s ≤ 300 ∧ 1 ≤ al ∧ al ≤ 300 ∧ (s = 0 → al = 1) ∧ (bestS T a b).1 = (s : Int) ∧ ((s = 0 ∧ 1 ≤ (bestS T a b).2.1) ∨ (bestS T a b).2.1 = (al : Int)) := by
  have hB := bestS_B (T := T) (a := a) (b := b)
  obtain ⟨⟨b1, b2⟩, b3, b4, b5⟩ := hB
  rcases h.2 with ⟨e, e1, e2⟩ | ⟨e, e1, e2⟩
  · exact ⟨0, 1, e1, e2, by omega, by omega, by omega, fun _ => rfl, e, Or.inl ⟨rfl, b3⟩⟩
  · exact ⟨(bestS T a b).1.toNat, (bestS T a b).2.1.toNat, by omega, by omega, by omega, by omega, by omega, by omega, by omega, Or.inr (by omega)⟩
set_option maxRecDepth 100000 in
theorem cmp_eq {s1 s2 r1 r2 : Int} {s al so ao : Nat} (e1 : s1 = (so : Int)) (e2 : (so = 0 ∧ 1 ≤ s2) ∨ s2 = (ao : Int)) (f1 : r1 = (s : Int)) (f2 : (s = 0 ∧ 1 ≤ r2) ∨ r2 = (al : Int)) (h1 : 1 ≤ al) (h2 : 1 ≤ ao) : ((so : Int) * (al : Int) < (s : Int) * (ao : Int)) ↔ s1 * r2 < r1 * s2 := by
  subst e1
  subst f1
  rcases e2 with ⟨q1, q2⟩ | q1 <;> rcases f2 with ⟨p1, p2⟩ | p1
  · subst q1; subst p1; simp
  · subst q1; subst p1
    rw [show ((0 : Nat) : Int) * (al : Int) = 0 from Int.zero_mul _]
    constructor
    · intro z
      have hs : 0 < (s : Int) := by
        rcases Nat.eq_zero_or_pos s with w | w
        · rw [w] at z; simp at z
        · omega
      exact Int.mul_pos hs (by omega)
    · intro z
      have hs : 0 < (s : Int) := by
        rcases Nat.eq_zero_or_pos s with w | w
        · rw [w] at z; simp at z
        · omega
      exact Int.mul_pos hs (by omega)
  · subst q1; subst p1
    rw [show ((0 : Nat) : Int) * (ao : Int) = 0 from Int.zero_mul _]
    constructor
    · intro z
      have : 0 ≤ (so : Int) * (al : Int) := Int.mul_nonneg (by omega) (by omega)
      omega
    · intro z
      have : 0 ≤ (so : Int) * r2 := Int.mul_nonneg (by omega) (by omega)
      omega
  · subst q1; subst p1; exact Iff.rfl
set_option maxRecDepth 100000 in
theorem prS_form {T : Nat → Int} {a : Nat} : ∀ n, prS T a n = (0, 1, -1) ∨ ∃ f : Nat, f < n ∧ f ≠ a ∧ prS T a n = ((bestS T a f).1, (bestS T a f).2.1, (f : Int))
  | 0 => Or.inl rfl
  | n + 1 => by
    show pstep T a n (prS T a n) = _ ∨ _
    unfold pstep
    split
    · next q => exact Or.inr ⟨n, by omega, fun z => by rw [z] at q; exact absurd q.1 (by omega), by rw [prS]; unfold pstep; rw [if_pos q]⟩
    · next q =>
      rcases prS_form (T := T) (a := a) n with z | ⟨f, z1, z2, z3⟩
      · exact Or.inl z
      · exact Or.inr ⟨f, by omega, z2, by rw [prS]; unfold pstep; rw [if_neg q]; exact z3⟩
set_option maxRecDepth 100000 in
theorem neS_form {T : Nat → Int} {a : Nat} : ∀ n, neS T a n = (-1, 0, 1) ∨ ∃ f : Nat, f < n ∧ f ≠ a ∧ neS T a n = ((f : Int), (bestS T a f).1, (bestS T a f).2.1)
  | 0 => Or.inl rfl
  | n + 1 => by
    show nstep T a n (neS T a n) = _ ∨ _
    unfold nstep
    split
    · next q => exact Or.inr ⟨n, by omega, q.1, by rw [neS]; unfold nstep; rw [if_pos q]⟩
    · next q =>
      rcases neS_form (T := T) (a := a) n with z | ⟨f, z1, z2, z3⟩
      · exact Or.inl z
      · exact Or.inr ⟨f, by omega, z2, by rw [neS]; unfold nstep; rw [if_neg q]; exact z3⟩
section More
variable {d : Nat} {m : Mem} {F A L F' A' L' : Nat → Nat → Int} {I : Nat → Int} {R : Nat → Nat → Int} {kb kd : Nat} {P : Nat → Nat} {ds : Nat → Nat → Nat} {nn b tp : Nat} {Q : Nat → Option AV → Mem → Prop} {a bb : Nat}
set_option maxRecDepth 100000 in
/-- the class has learned something -/
theorem DK.lrn {x y : Nat} (h : DK m F A L I R kb kd P ds nn b tp) (k : KO 310 F F' A A') (hn : KN F' 310 (R 3) nn) : DK (sOv m 310 x y) F' A' L' I R kb kd P ds nn b tp := by
  refine h.fr ⟨(SAm.sF (f := 321) (by decide)).tr (SAm.sF (f := 322) (by decide)) h.n0, fun f j _ q1 q2 _ => sOv_r m (Or.inr ⟨q1, q2⟩), fun _ _ => rfl, fun j q1 q2 => ⟨sOv_r m (Or.inl (by omega)), k.2.1 j (Or.inr (by omega))⟩, fun f j q _ => k.1 f j (Or.inl q), ⟨k.1 _ _ (Or.inl (by decide)), k.1 _ _ (Or.inl (by decide))⟩, fun j q => k.2.1 j (Or.inl q)⟩ ((k.1 707 100 (Or.inl (by decide))).trans h.f707) ((k.1 708 100 (Or.inl (by decide))).trans h.f708) hn (fun _ _ => rfl) (fun _ _ _ => rfl)
set_option maxRecDepth 100000 in
theorem DK.bst (h : DK m F A L I R kb kd P ds nn b tp) (ha : a < nn) (hb : bb < nn) (hab : bb ≠ a) (hk : KA F a nn) : CRF F (310 + 2 + (a * 6 + bb)) (bestS (R 3) a bb) ∧ 0 ≤ (bestS (R 3) a bb).1 ∧ mK m (310 + 2 + (a * 6 + bb)) = 1 := by
  have hn6 := h.now.1
  exact ⟨h.kn.2 a bb ha hb (Ne.symm hab) (hk bb hb hab), bestS_nn (h.now.2.2.2 a ha) (h.now.2.2.2 bb hb), (h.w.ov.2.2.2.2.2.2.2.2.2.2 (a * 6 + bb) (by omega)).2⟩
set_option maxRecDepth 100000 in
theorem d_isMore {fo s1 s2 : Int} (h : DK m F A L I R kb kd P ds nn b tp) (ha : a < nn) (hb : bb < nn) (hab : bb ≠ a) (hk : KA F a nn) (hfo : fo = -1 ∨ ∃ f : Nat, f < nn ∧ f ≠ a ∧ fo = (f : Int) ∧ s1 = (bestS (R 3) a f).1 ∧ s2 = (bestS (R 3) a f).2.1) (hq : Q 0 (some (vI (b2i (fo = -1 ∨ s1 * (bestS (R 3) a bb).2.1 < (bestS (R 3) a bb).1 * s2)))) (CM m F A L)) : Ex (d + 2) DD_isMoreAlike 0 [some (vR 100), some (vI (a : Int)), some (vI (bb : Int)), some (vI fo)] [] (CM m F A L) Q := by
  have hk11 := h.w.k100
  have hr713 := h.w.r713
  have hk5 := h.w.ov.1
  have hn6 := h.now.1
  by_cases z : fo = -1
  · rw [show b2i (fo = -1 ∨ s1 * (bestS (R 3) a bb).2.1 < (bestS (R 3) a bb).1 * s2) = 1 from if_pos (Or.inl z)] at hq
    subst z
    refine Ex_step (tk_DD_isMoreAlike rfl) ?_
    refine Ex_step (tk_DD_isMoreAlike rfl) ?_
    refine Ex_step (tk_DD_isMoreAlike rfl) ⟨fun h2 => ?_, fun h2 => ?_⟩
    · replace h2 : _ := h2
      refine Ex_step (tk_DD_isMoreAlike rfl) ?_
      refine Ex_step (tk_DD_isMoreAlike rfl) ?_
      refine Ex_step (tk_DD_isMoreAlike rfl) ⟨rfl, by first | exact Or.inl rfl | exact Or.inr rfl | exact b2i_01 _ | assumption, ?_⟩
      exact hq
    · replace h2 : _ := h2
      exact absurd rfl h2
  · obtain ⟨f, f1, f2, rfl, f4, f5⟩ := hfo.resolve_left z
    obtain ⟨c1, c2, c3⟩ := h.bst ha hb hab hk
    obtain ⟨d1, d2, d3⟩ := h.bst ha f1 f2 hk
    obtain ⟨s, al, v1, v2, v3, v4, v5, v6, v7, v8⟩ := crf_v c1 c2
    obtain ⟨so, ao, u1, u2, u3, u4, u5, u6, u7, u8⟩ := crf_v d1 d2
    have hcm := cmp_eq (s1 := s1) (s2 := s2) (f4.trans u7) (by rw [f5]; exact u8) v7 v8 v4 u4
    have e : b2i ((f : Int) = -1 ∨ s1 * (bestS (R 3) a bb).2.1 < (bestS (R 3) a bb).1 * s2) = b2i ((so : Int) * (al : Int) < (s : Int) * (ao : Int)) := by
      by_cases w : (so : Int) * (al : Int) < (s : Int) * (ao : Int)
      · rw [show b2i ((so : Int) * (al : Int) < (s : Int) * (ao : Int)) = 1 from if_pos w]
        exact if_pos (Or.inr (hcm.mp w))
      · rw [show b2i ((so : Int) * (al : Int) < (s : Int) * (ao : Int)) = 0 from if_neg w]
        exact if_neg (fun x => x.elim (fun y => by omega) (fun y => w (hcm.mpr y)))
    rw [e] at hq
    have hia := fun (Q1 : Nat → Option AV → Mem → Prop) => c_isAbove (d := d) (A := A) (L := L) (Q := Q1) c3 d3 v1 v2 u1 u2 (by omega) (by omega) (by omega) (by omega)
    have hb1 := fun (Q1 : Nat → Option AV → Mem → Prop) => c_bestOf (d := d + 1) (F := F) (A := A) (L := L) (Q := Q1) (a := a) (b := bb) h.w.ov (by omega) (by omega)
    have hb2 := fun (Q1 : Nat → Option AV → Mem → Prop) => c_bestOf (d := d + 1) (F := F) (A := A) (L := L) (Q := Q1) (a := a) (b := f) h.w.ov (by omega) (by omega)
    have hyes : (so : Int) * (al : Int) < (s : Int) * (ao : Int) → Q 0 (some (vI 1)) (CM m F A L) := fun w => by rw [show b2i ((so : Int) * (al : Int) < (s : Int) * (ao : Int)) = 1 from if_pos w] at hq; exact hq
    have hno : ¬ (so : Int) * (al : Int) < (s : Int) * (ao : Int) → Q 0 (some (vI 0)) (CM m F A L) := fun w => by rw [show b2i ((so : Int) * (al : Int) < (s : Int) * (ao : Int)) = 0 from if_neg w] at hq; exact hq
    refine Ex_step (tk_DD_isMoreAlike rfl) ?_
    refine Ex_step (tk_DD_isMoreAlike rfl) ?_
    refine Ex_step (tk_DD_isMoreAlike rfl) ⟨fun h2 => ?_, fun h2 => ?_⟩
    · try simp (disch := omega) only [cmpI, w32_b2i, b2i_0, b2i_1, w32_id, Classical.not_not, not_true_eq_false, not_false_eq_true] at h2
      first | omega | exact Ex_step (tk_DD_isMoreAlike rfl) (Ex_step (tk_DD_isMoreAlike rfl) (Ex_step (tk_DD_isMoreAlike rfl) ⟨rfl, Or.inr rfl, hyes h26⟩))
    · try simp (disch := omega) only [cmpI, w32_b2i, b2i_0, b2i_1, w32_id, Classical.not_not, not_true_eq_false, not_false_eq_true] at h2
      refine Ex_step (tk_DD_isMoreAlike rfl) ?_
      refine gCR (tk_DD_isMoreAlike rfl) (hk11) (hr713) ?_
      refine Ex_step (tk_DD_isMoreAlike rfl) ?_
      refine Ex_step (tk_DD_isMoreAlike rfl) ?_
      refine Ex_cV0 (av := [vI (a : Int), vI (bb : Int)]) (tk_DD_isMoreAlike rfl) mk_Ov_bestOf ⟨rfl, rfl, by decide, rfl, Nat.le_of_ble_eq_true rfl, Nat.le_of_ble_eq_true rfl⟩ (hk5) (fun _ h => hb1 _ h) ?_
      refine Ex_step (tk_DD_isMoreAlike rfl) ?_
      refine gCR (tk_DD_isMoreAlike rfl) (hk11) (hr713) ?_
      refine Ex_step (tk_DD_isMoreAlike rfl) ?_
      refine Ex_step (tk_DD_isMoreAlike rfl) ?_
      refine Ex_cV0 (av := [vI (a : Int), vI (f : Int)]) (tk_DD_isMoreAlike rfl) mk_Ov_bestOf ⟨rfl, rfl, by decide, rfl, Nat.le_of_ble_eq_true rfl, Nat.le_of_ble_eq_true rfl⟩ (hk5) (fun _ h => hb2 _ h) ?_
      refine Ex_cV0 (av := [vR (310 + 2 + (a * 6 + f))]) (tk_DD_isMoreAlike rfl) mk_Best_isAbove ⟨rfl, rfl, by decide, rfl, Nat.le_of_ble_eq_true rfl, Nat.le_of_ble_eq_true rfl⟩ (c3) (fun _ h => hia _ h) ?_
      refine Ex_step (tk_DD_isMoreAlike rfl) ⟨fun h26 => ?_, fun h26 => ?_⟩
      · try simp (disch := omega) only [cmpI, w32_b2i, b2i_0, b2i_1, w32_id, Classical.not_not, not_true_eq_false, not_false_eq_true] at h26
        refine Ex_step (tk_DD_isMoreAlike rfl) ?_
        refine Ex_step (tk_DD_isMoreAlike rfl) ⟨rfl, by first | exact Or.inl rfl | exact Or.inr rfl | exact b2i_01 _ | assumption, ?_⟩
        first | exact hno h26 | exact hyes (Classical.not_not.mp h26) | exact hyes h26
      · try simp (disch := omega) only [cmpI, w32_b2i, b2i_0, b2i_1, w32_id, Classical.not_not, not_true_eq_false, not_false_eq_true] at h26
        first | omega | exact Ex_step (tk_DD_isMoreAlike rfl) (Ex_step (tk_DD_isMoreAlike rfl) (Ex_step (tk_DD_isMoreAlike rfl) ⟨rfl, Or.inr rfl, hyes h26⟩))
set_option maxRecDepth 100000 in
theorem d_mab (h : DK m F A L I R kb kd P ds nn b tp) (ha : a < nn) (hk : KA F a nn) (hq : Q 0 (some (vI (prS (R 3) a nn).2.2)) (CM m F A L)) : Ex (d + 3) DD_mostAlikeBefore 0 [some (vR 100), some (vI (a : Int)), none, none] [] (CM m F A L) Q := by
  have hk11 := h.w.k100
  have hr709 := h.y.r709
  have hBW := h.y.bw h.w h.y.ib
  have hk2 := hBW.1
  have hr128 := hBW.2.1
  have h129 := h.bk.1
  have hN := h.now
  have hn6 := hN.1
  have ga := h.bk.2 a ha
  have hka3 := (hBW.2.2.2.2 a (by omega)).2.1
  have hda := (hN.2.2.2 a ha).1
  have hloop : ∀ (r n : Nat), n + r = nn → Ex (d + 3) DD_mostAlikeBefore 4 [some (vR 100), some (vI (a : Int)), some (vI (prS (R 3) a n).2.2), some (vI (n : Int))] [] (CM m F A L) Q := by
    intro r
    induction r with
    | zero =>
      intro n hn
      have : n = nn := by omega
      subst this
      refine Ex_step (tk_DD_mostAlikeBefore rfl) ?_
      refine Ex_step (tk_DD_mostAlikeBefore rfl) ?_
      refine gCR (tk_DD_mostAlikeBefore rfl) (hk11) (hr709) ?_
      refine gCI (tk_DD_mostAlikeBefore rfl) (hk2) ?_
      rw [h129]
      refine Ex_step (tk_DD_mostAlikeBefore rfl) ⟨fun h12 => ?_, fun h12 => ?_⟩
      · try simp (disch := omega) only [cmpI, w32_b2i, b2i_0, b2i_1, w32_id, Classical.not_not, not_true_eq_false, not_false_eq_true] at h12
        refine Ex_step (tk_DD_mostAlikeBefore rfl) ?_
        refine Ex_step (tk_DD_mostAlikeBefore rfl) ⟨rfl, ?_⟩
        exact hq
      · try simp (disch := omega) only [cmpI, w32_b2i, b2i_0, b2i_1, w32_id, Classical.not_not, not_true_eq_false, not_false_eq_true] at h12
        omega
    | succ r ih =>
      intro n hn
      have hnx := ih (n + 1) (by omega)
      have gn := h.bk.2 n (by omega)
      have hkn3 := (hBW.2.2.2.2 n (by omega)).2.1
      have hdn := (hN.2.2.2 n (by omega)).1
      have h54 : ∀ v : Int, v = (prS (R 3) a (n + 1)).2.2 → Ex (d + 3) DD_mostAlikeBefore 54 [some (vR 100), some (vI (a : Int)), some (vI v), some (vI (n : Int))] [] (CM m F A L) Q := by
        intro v hv
        subst hv
        refine Ex_step (tk_DD_mostAlikeBefore rfl) ?_
        refine Ex_step (tk_DD_mostAlikeBefore rfl) ?_
        exact hnx
      have eS : (prS (R 3) a (n + 1)) = pstep (R 3) a n (prS (R 3) a n) := rfl
      have hno : ¬ (R 3 (bD n) < R 3 (bD a) ∧ ((prS (R 3) a n).2.2 = -1 ∨ (prS (R 3) a n).1 * (bestS (R 3) a n).2.1 < (bestS (R 3) a n).1 * (prS (R 3) a n).2.1)) → (prS (R 3) a n).2.2 = (prS (R 3) a (n + 1)).2.2 := fun z => by
        rw [eS]
        unfold pstep
        rw [if_neg z]
      have hyes : (R 3 (bD n) < R 3 (bD a) ∧ ((prS (R 3) a n).2.2 = -1 ∨ (prS (R 3) a n).1 * (bestS (R 3) a n).2.1 < (bestS (R 3) a n).1 * (prS (R 3) a n).2.1)) → (n : Int) = (prS (R 3) a (n + 1)).2.2 := fun z => by
        rw [eS]
        unfold pstep
        rw [if_pos z]
      have hfo : (prS (R 3) a n).2.2 = -1 ∨ ∃ f : Nat, f < nn ∧ f ≠ a ∧ (prS (R 3) a n).2.2 = (f : Int) ∧ (prS (R 3) a n).1 = (bestS (R 3) a f).1 ∧ (prS (R 3) a n).2.1 = (bestS (R 3) a f).2.1 := by
        rcases prS_form (T := R 3) (a := a) n with z | ⟨f, z1, z2, z3⟩
        · exact Or.inl (by rw [z])
        · exact Or.inr ⟨f, by omega, z2, by rw [z3], by rw [z3], by rw [z3]⟩
      generalize (prS (R 3) a (n + 1)).2.2 = nx at *
      generalize prS (R 3) a n = S at *
      have h42 : R 3 (bD n) < R 3 (bD a) → Ex (d + 3) DD_mostAlikeBefore 42 [some (vR 100), some (vI (a : Int)), some (vI S.2.2), some (vI (n : Int))] [] (CM m F A L) Q := by
        intro hlt
        have him := fun (Q1 : Nat → Option AV → Mem → Prop) => d_isMore (d := d) (Q := Q1) h ha (show n < nn by omega) (fun z => by rw [z] at hlt; exact absurd hlt (Int.lt_irrefl _)) hk hfo
        refine Ex_step (tk_DD_mostAlikeBefore rfl) ?_
        refine Ex_step (tk_DD_mostAlikeBefore rfl) ?_
        refine Ex_step (tk_DD_mostAlikeBefore rfl) ?_
        refine Ex_step (tk_DD_mostAlikeBefore rfl) ?_
        refine Ex_cV0 (av := [vI (a : Int), vI (n : Int), vI S.2.2]) (tk_DD_mostAlikeBefore rfl) mk_DD_isMoreAlike ⟨rfl, rfl, by decide, rfl, Nat.le_of_ble_eq_true rfl, Nat.le_of_ble_eq_true rfl⟩ (hk11) (fun _ h => him _ h) ?_
        refine Ex_step (tk_DD_mostAlikeBefore rfl) ⟨fun h49 => ?_, fun h49 => ?_⟩
        · try simp (disch := omega) only [cmpI, w32_b2i, b2i_0, b2i_1, w32_id, Classical.not_not, not_true_eq_false, not_false_eq_true] at h49
          first | exact h54 _ (hno (fun z => h49 z.2)) | exact h54 _ (hyes ⟨hlt, h49⟩) | exact h54 _ (hyes ⟨hlt, Classical.not_not.mp h49⟩)
        · try simp (disch := omega) only [cmpI, w32_b2i, b2i_0, b2i_1, w32_id, Classical.not_not, not_true_eq_false, not_false_eq_true] at h49
          refine Ex_step (tk_DD_mostAlikeBefore rfl) ?_
          refine Ex_step (tk_DD_mostAlikeBefore rfl) ?_
          first | exact h54 _ (hno (fun z => h49 z.2)) | exact h54 _ (hyes ⟨hlt, h49⟩) | exact h54 _ (hyes ⟨hlt, Classical.not_not.mp h49⟩)
      refine Ex_step (tk_DD_mostAlikeBefore rfl) ?_
      refine Ex_step (tk_DD_mostAlikeBefore rfl) ?_
      refine gCR (tk_DD_mostAlikeBefore rfl) (hk11) (hr709) ?_
      refine gCI (tk_DD_mostAlikeBefore rfl) (hk2) ?_
      rw [h129]
      refine Ex_step (tk_DD_mostAlikeBefore rfl) ⟨fun h12 => ?_, fun h12 => ?_⟩
      · try simp (disch := omega) only [cmpI, w32_b2i, b2i_0, b2i_1, w32_id, Classical.not_not, not_true_eq_false, not_false_eq_true] at h12
        omega
      · try simp (disch := omega) only [cmpI, w32_b2i, b2i_0, b2i_1, w32_id, Classical.not_not, not_true_eq_false, not_false_eq_true] at h12
        refine Ex_step (tk_DD_mostAlikeBefore rfl) ?_
        refine gCR (tk_DD_mostAlikeBefore rfl) (hk11) (hr709) ?_
        refine gCR (tk_DD_mostAlikeBefore rfl) (hk2) (hr128) ?_
        refine Ex_step (tk_DD_mostAlikeBefore rfl) ?_
        refine lCR (n := n) (tk_DD_mostAlikeBefore rfl) (⟨⟨by rw [hBW.2.2.1]; decide, by rw [hBW.2.2.1]; decide⟩, hBW.2.2.2.1, (hBW.2.2.2.2 n (by omega)).1⟩) (w32_id (by omega) (by omega)) (by omega) ?_
        refine gCI (tk_DD_mostAlikeBefore rfl) (hkn3) ?_
        rw [gn.1]
        refine Ex_step (tk_DD_mostAlikeBefore rfl) ?_
        refine gCR (tk_DD_mostAlikeBefore rfl) (hk11) (hr709) ?_
        refine gCR (tk_DD_mostAlikeBefore rfl) (hk2) (hr128) ?_
        refine Ex_step (tk_DD_mostAlikeBefore rfl) ?_
        refine lCR (n := a) (tk_DD_mostAlikeBefore rfl) (⟨⟨by rw [hBW.2.2.1]; decide, by rw [hBW.2.2.1]; decide⟩, hBW.2.2.2.1, (hBW.2.2.2.2 a (by omega)).1⟩) (w32_id (by omega) (by omega)) (by omega) ?_
        refine gCI (tk_DD_mostAlikeBefore rfl) (hka3) ?_
        rw [ga.1]
        refine Ex_step (tk_DD_mostAlikeBefore rfl) ⟨fun h39 => ?_, fun h39 => ?_⟩
        · try simp (disch := omega) only [cmpI, w32_b2i, b2i_0, b2i_1, w32_id, Classical.not_not, not_true_eq_false, not_false_eq_true] at h39
          exact h54 _ (hno (fun z => by omega))
        · try simp (disch := omega) only [cmpI, w32_b2i, b2i_0, b2i_1, w32_id, Classical.not_not, not_true_eq_false, not_false_eq_true] at h39
          exact h42 (by omega)
  have h4 := hloop nn 0 (by omega)
  refine Ex_step (tk_DD_mostAlikeBefore rfl) ?_
  refine Ex_step (tk_DD_mostAlikeBefore rfl) ?_
  refine Ex_step (tk_DD_mostAlikeBefore rfl) ?_
  refine Ex_step (tk_DD_mostAlikeBefore rfl) ?_
  exact h4
end More
