/-! ===== the class: the best overlay, all places ===== -/
set_option maxRecDepth 100000 in
theorem bstep_wh {T : Nat → Int} {a b t : Nat} {dx dy : Int} {r : BSt} (h0 : 0 < r.1) (h1 : r.1 = r.2.1) : bstep T a b t dx dy r = r := by
  unfold bstep
  have c := cAl_b (T := T) (a := a) (b := b) (t := t) (dx := dx) (dy := dy)
  rw [if_neg]
  rintro (z | z)
  · omega
  · rw [← h1, Int.mul_comm] at z
    have : smS T a b t dx dy * r.1 ≤ cAl T a b t dx dy * r.1 := Int.mul_le_mul_of_nonneg_right c.2.2 (by omega)
    omega
set_option maxRecDepth 100000 in
theorem bX_wh {T : Nat → Int} {a b t : Nat} {dy lo : Int} {r : BSt} (h0 : 0 < r.1) (h1 : r.1 = r.2.1) : ∀ n, bX T a b t dy lo n r = r
  | 0 => rfl
  | n + 1 => by
    show bstep T a b t _ dy (bX T a b t dy lo n r) = r
    rw [bX_wh h0 h1 n]
    exact bstep_wh h0 h1
set_option maxRecDepth 100000 in
theorem bY_wh {T : Nat → Int} {a b t : Nat} {lox loy : Int} {nx : Nat} {r : BSt} (h0 : 0 < r.1) (h1 : r.1 = r.2.1) : ∀ n, bY T a b t lox loy nx n r = r
  | 0 => rfl
  | n + 1 => by
    show bX T a b t _ lox nx (bY T a b t lox loy nx n r) = r
    rw [bY_wh h0 h1 n]
    exact bX_wh h0 h1 nx
set_option maxRecDepth 100000 in
theorem bT_wh {T : Nat → Int} {a b : Nat} {s : BSt} {t : Nat} (h0 : 0 < (bT T a b s t).1) (h1 : (bT T a b s t).1 = (bT T a b s t).2.1) : ∀ n, bT T a b s (t + n) = bT T a b s t
  | 0 => rfl
  | n + 1 => by
    show bTn T a b (t + n) (bT T a b s (t + n)) = _
    rw [bT_wh h0 h1 n]
    exact bY_wh h0 h1 _
def KT (o q : Nat) (F F' A A' : Nat → Nat → Int) : Prop := (∀ f j, ¬ (j = o ∧ (f = 327 ∨ f = 328)) → ¬ (j = q ∧ 65 ≤ f ∧ f ≤ 69) → ¬ (j = o + 38 ∧ (f = 193 ∨ f = 194)) → F' f j = F f j) ∧ ∀ j, j ≠ o + 39 → j ≠ o + 40 → j ≠ o + 42 → A' j = A j
set_option maxRecDepth 100000 in
theorem KT.tr {o q : Nat} {F F' F2 A A' A2 : Nat → Nat → Int} (h : KT o q F F' A A') (g : KT o q F' F2 A' A2) : KT o q F F2 A A2 := ⟨fun f j h1 h2 h3 => (g.1 f j h1 h2 h3).trans (h.1 f j h1 h2 h3), fun j h1 h2 h3 => (g.2 j h1 h2 h3).trans (h.2 j h1 h2 h3)⟩
set_option maxRecDepth 100000 in
theorem KS.t {o q : Nat} {F F' A : Nat → Nat → Int} (h : KS o q F F') : KT o q F F' A A := ⟨fun f j h1 h2 _ => h f j h1 h2, fun _ _ _ _ => rfl⟩
section CSeek2
variable {d a b o q t ia ib : Nat} {dx dy : Int} {T : Nat → Int} {m : Mem} {F A L : Nat → Nat → Int} {Q : Nat → Option AV → Mem → Prop}
set_option maxRecDepth 100000 in
theorem c_seekX (hW : SeekW m F A o q a ia ib t T) (hdy : -20 ≤ dy ∧ dy ≤ 20) {lo : Int} (hlo : -9 ≤ lo ∧ lo ≤ 0) {N : Nat} (hN : lo + (N : Int) = T (bD ia + 1)) {s : BSt} (hs : BB s) (hq : ∀ (F' : Nat → Nat → Int) (l4 : Option AV), KS o q F F' → CRF F' q (bX T ia ib t dy lo N s) → Ex (d + 2) Ov_seek 163 [some (vR o), some (vR q), some (vI (t : Int)), some (vI dy), l4] [] (CM m F' A L) Q) (hN1 : 1 ≤ N) : ∀ (r k : Nat) (F' : Nat → Nat → Int), k + r = N → KS o q F F' → (CRF F' q (bX T ia ib t dy lo k s) ∨ k = 0 ∧ s.1 = -1 ∧ t = 0 ∧ Fst0 F' q lo dy) → Ex (d + 2) Ov_seek 74 [some (vR o), some (vR q), some (vI (t : Int)), some (vI dy), some (vI (lo + (k : Int)))] [] (CM m F' A L) Q := by
  have hw := hW.2.2.2.2.2.1.2.1
  have hk5 := hW.1.1
  have hr321 := hW.2.2.1
  have hk3 := hW.2.2.2.1.1
  intro r
  induction r with
  | zero =>
    intro k F' hk k1 hC
    have : k = N := by omega
    subst this
    have hg := (hW.k k1).2.2.2.2.1
    have hC2 := hC.elim id (fun z => by omega)
    refine Ex_step (tk_Ov_seek rfl) ?_
    refine Ex_step (tk_Ov_seek rfl) ?_
    refine gCR (tk_Ov_seek rfl) (hk5) (hr321) ?_
    refine gCI (tk_Ov_seek rfl) (hk3) ?_
    rw [hg.1]
    refine Ex_step (tk_Ov_seek rfl) ⟨fun h83 => ?_, fun h83 => ?_⟩
    · try simp (disch := omega) only [cmpI, w32_b2i, b2i_0, b2i_1, w32_id, Classical.not_not, not_true_eq_false, not_false_eq_true] at h83
      exact hq F' _ k1 hC2
    · try simp (disch := omega) only [cmpI, w32_b2i, b2i_0, b2i_1, w32_id, Classical.not_not, not_true_eq_false, not_false_eq_true] at h83
      omega
  | succ r ih =>
    intro k F' hk k1 hC
    have hg := (hW.k k1).2.2.2.2.1
    have h157 : ∀ F2 : Nat → Nat → Int, KS o q F' F2 → CRF F2 q (bstep T ia ib t (lo + (k : Int)) dy (bX T ia ib t dy lo k s)) → Ex (d + 2) Ov_seek 157 [some (vR o), some (vR q), some (vI (t : Int)), some (vI dy), some (vI (lo + (k : Int)))] [] (CM m F2 A L) Q := by
      intro F2 q1 q2
      have hnx := ih (k + 1) F2 (by omega) (k1.tr q1) (Or.inl q2)
      rw [show lo + ((k + 1 : Nat) : Int) = lo + (k : Int) + 1 by omega] at hnx
      refine Ex_step (tk_Ov_seek rfl) ?_
      refine Ex_step (tk_Ov_seek rfl) ?_
      exact hnx
    have h86 := c_seekC (d := d) (L := L) (hW.k k1) (dx := lo + (k : Int)) (by omega) hdy (BB.x k hs) (hC.imp id (fun z => by
      obtain ⟨z1, z2, z3, z4⟩ := z
      subst z1
      exact ⟨z2, z3, by rw [show lo + ((0 : Nat) : Int) = lo by omega]; exact z4⟩)) h157
    refine Ex_step (tk_Ov_seek rfl) ?_
    refine Ex_step (tk_Ov_seek rfl) ?_
    refine gCR (tk_Ov_seek rfl) (hk5) (hr321) ?_
    refine gCI (tk_Ov_seek rfl) (hk3) ?_
    rw [hg.1]
    refine Ex_step (tk_Ov_seek rfl) ⟨fun h83 => ?_, fun h83 => ?_⟩
    · try simp (disch := omega) only [cmpI, w32_b2i, b2i_0, b2i_1, w32_id, Classical.not_not, not_true_eq_false, not_false_eq_true] at h83
      omega
    · try simp (disch := omega) only [cmpI, w32_b2i, b2i_0, b2i_1, w32_id, Classical.not_not, not_true_eq_false, not_false_eq_true] at h83
      exact h86
set_option maxRecDepth 100000 in
theorem c_seekY (hW : SeekW m F A o q a ia ib t T) {lo lox : Int} (hlo : -9 ≤ lo ∧ lo ≤ 0) (hlox : -9 ≤ lox ∧ lox ≤ 0) (elox : lox = 1 - tW (T (bD ib + 1)) (T (bD ib + 2)) t) {N NX : Nat} (hN : lo + (N : Int) = T (bD ia + 2)) (hNX : lox + (NX : Int) = T (bD ia + 1)) {s : BSt} (hs : BB s) (hq : ∀ (F' : Nat → Nat → Int) (l3 l4 : Option AV), KS o q F F' → CRF F' q (bY T ia ib t lox lo NX N s) → Ex (d + 2) Ov_seek 169 [some (vR o), some (vR q), some (vI (t : Int)), l3, l4] [] (CM m F' A L) Q) (hN1 : 1 ≤ N) (hX1 : 1 ≤ NX) : ∀ (r k : Nat) (F' : Nat → Nat → Int) (l4 : Option AV), k + r = N → KS o q F F' → (CRF F' q (bY T ia ib t lox lo NX k s) ∨ k = 0 ∧ s.1 = -1 ∧ t = 0 ∧ Fst0 F' q lox lo) → Ex (d + 2) Ov_seek 52 [some (vR o), some (vR q), some (vI (t : Int)), some (vI (lo + (k : Int))), l4] [] (CM m F' A L) Q := by
  have hh := hW.2.2.2.2.2.1.2.2.1
  have hk5 := hW.1.1
  have hr321 := hW.2.2.1
  have hr323 := hW.1.2.1
  have hk3 := hW.2.2.2.1.1
  have hk38 := hW.1.2.2.1.1
  intro r
  induction r with
  | zero =>
    intro k F' l4 hk k1 hC
    have : k = N := by omega
    subst this
    have hg := (hW.k k1).2.2.2.2.1
    have hC2 := hC.elim id (fun z => by omega)
    refine Ex_step (tk_Ov_seek rfl) ?_
    refine Ex_step (tk_Ov_seek rfl) ?_
    refine gCR (tk_Ov_seek rfl) (hk5) (hr321) ?_
    refine gCI (tk_Ov_seek rfl) (hk3) ?_
    rw [hg.2.1]
    refine Ex_step (tk_Ov_seek rfl) ⟨fun h60 => ?_, fun h60 => ?_⟩
    · try simp (disch := omega) only [cmpI, w32_b2i, b2i_0, b2i_1, w32_id, Classical.not_not, not_true_eq_false, not_false_eq_true] at h60
      exact hq F' _ _ k1 hC2
    · try simp (disch := omega) only [cmpI, w32_b2i, b2i_0, b2i_1, w32_id, Classical.not_not, not_true_eq_false, not_false_eq_true] at h60
      omega
  | succ r ih =>
    intro k F' l4 hk k1 hC
    have hg := (hW.k k1).2.2.2.2.1
    have hg2 := (hW.k k1).2.2.2.2.2.2.2.1
    have h163 : ∀ (F2 : Nat → Nat → Int) (l4 : Option AV), KS o q F' F2 → CRF F2 q (bX T ia ib t (lo + (k : Int)) lox NX (bY T ia ib t lox lo NX k s)) → Ex (d + 2) Ov_seek 163 [some (vR o), some (vR q), some (vI (t : Int)), some (vI (lo + (k : Int))), l4] [] (CM m F2 A L) Q := by
      intro F2 l4 q1 q2
      have hnx := ih (k + 1) F2 l4 (by omega) (k1.tr q1) (Or.inl q2)
      rw [show lo + ((k + 1 : Nat) : Int) = lo + (k : Int) + 1 by omega] at hnx
      refine Ex_step (tk_Ov_seek rfl) ?_
      refine Ex_step (tk_Ov_seek rfl) ?_
      exact hnx
    have h74 := c_seekX (d := d) (L := L) (hW.k k1) (dy := lo + (k : Int)) (by omega) hlox hNX (BB.y k hs) h163 hX1 NX 0 F' (by omega) (KS.rf o q F') (hC.imp id (fun z => by
      obtain ⟨z1, z2, z3, z4⟩ := z
      subst z1
      exact ⟨rfl, z2, z3, by rw [show lo + ((0 : Nat) : Int) = lo by omega]; exact z4⟩))
    rw [show lox + ((0 : Nat) : Int) = 1 - tW (T (bD ib + 1)) (T (bD ib + 2)) t by omega] at h74
    refine Ex_step (tk_Ov_seek rfl) ?_
    refine Ex_step (tk_Ov_seek rfl) ?_
    refine gCR (tk_Ov_seek rfl) (hk5) (hr321) ?_
    refine gCI (tk_Ov_seek rfl) (hk3) ?_
    rw [hg.2.1]
    refine Ex_step (tk_Ov_seek rfl) ⟨fun h60 => ?_, fun h60 => ?_⟩
    · try simp (disch := omega) only [cmpI, w32_b2i, b2i_0, b2i_1, w32_id, Classical.not_not, not_true_eq_false, not_false_eq_true] at h60
      omega
    · try simp (disch := omega) only [cmpI, w32_b2i, b2i_0, b2i_1, w32_id, Classical.not_not, not_true_eq_false, not_false_eq_true] at h60
      refine Ex_step (tk_Ov_seek rfl) ?_
      refine Ex_step (tk_Ov_seek rfl) ?_
      refine gCR (tk_Ov_seek rfl) (hk5) (hr323) ?_
      refine gCI (tk_Ov_seek rfl) (hk38) ?_
      rw [hg2.1]
      refine Ex_step (tk_Ov_seek rfl) ?_
      refine Ex_step (tk_Ov_seek rfl) ?_
      exact h74
set_option maxRecDepth 100000 in
theorem c_seek (hO : OW m o) (hkq : mK m q = 1) (r321 : mFR m 321 o = a) (r322 : mFR m 322 o = b) (hA : DW m a) (hB : DW m b) (ga : DG F A a (T (bD ia + 1)) (T (bD ia + 2)) (srt T ia)) (gb : DG F A b (T (bD ib + 1)) (T (bD ib + 2)) (srt T ib)) (hWa : DsW T ia) (hWb : DsW T ib) (hS : SolR A o (srt T ia)) (h326 : F 326 o = nP (fun x y => srt T ia x y = 1) + nP (fun x y => srt T ib x y = 1 ∨ srt T ib x y = 3)) (hoa : a + 3 ≤ o ∨ o + 43 ≤ a) (hob : b + 3 ≤ o ∨ o + 43 ≤ b) (hqo : o + 2 ≤ q ∧ q < o + 38) (hq : ∀ F' A' : Nat → Nat → Int, KT o q F F' A A' → CRF F' q (bestS T ia ib) → Q 0 none (CM m F' A' L)) : Ex (d + 4) Ov_seek 0 [some (vR o), some (vR q), none, none, none] [] (CM m F A L) Q := by
  have hk5 := hO.1
  have hk1 := hkq
  have hr322 := r322
  have hr323 := hO.2.1
  have hD := hO.2.2.1
  have hwa := hWa.2.1
  have hha := hWa.2.2.1
  have hwb := hWb.2.1
  have hhb := hWb.2.2.1
  have hB0 : BB (-1, 1, 0, 0, 0) := ⟨⟨show (-1 : Int) ≤ -1 by decide, show (-1 : Int) ≤ 100 by decide⟩, show (1 : Int) ≤ 1 by decide, show (1 : Int) ≤ 300 by decide, show (-1 : Int) ≤ 1 by decide⟩
  have hall : ∀ (r t : Nat) (F' A' : Nat → Nat → Int) (l3 l4 : Option AV), t + r = 8 → KT o q F F' A A' → (CRF F' q (bT T ia ib (-1, 1, 0, 0, 0) t) ∨ t = 0 ∧ Fst0 F' q (1 - T (bD ib + 1)) (1 - T (bD ib + 2))) → Ex (d + 4) Ov_seek 24 [some (vR o), some (vR q), some (vI (t : Int)), l3, l4] [] (CM m F' A' L) Q := by
    intro r
    induction r with
    | zero =>
      intro t F' A' l3 l4 ht k1 hC
      have : t = 8 := by omega
      subst this
      have hC2 := hC.elim id (fun z => absurd z.1 (by decide))
      refine Ex_step (tk_Ov_seek rfl) ?_
      refine Ex_step (tk_Ov_seek rfl) ?_
      refine Ex_step (tk_Ov_seek rfl) ⟨fun h27 => ?_, fun h27 => ?_⟩
      · replace h27 : _ := h27
        refine Ex_step (tk_Ov_seek rfl) ⟨rfl, ?_⟩
        exact hq F' A' k1 hC2
      · replace h27 : _ := h27
        exact absurd (show w32 8 ≤ w32 8 from Int.le_refl _) h27
    | succ r ih =>
      intro t F' A' l3 l4 ht k1 hC
      have hBt := hB0.t (T := T) (a := ia) (b := ib) t
      obtain ⟨s, hs⟩ : ∃ s : Int, F' 65 q = s := ⟨_, rfl⟩
      obtain ⟨e, he⟩ : ∃ e : Int, F' 66 q = e := ⟨_, rfl⟩
      have hse : s = 0 ∧ e = 1 ∨ 0 < (bT T ia ib (-1, 1, 0, 0, 0) t).1 ∧ s = (bT T ia ib (-1, 1, 0, 0, 0) t).1 ∧ e = (bT T ia ib (-1, 1, 0, 0, 0) t).2.1 := by
        rcases hC with ⟨_, z | z⟩ | ⟨_, z⟩
        · exact Or.inl ⟨hs.symm.trans z.2.1, he.symm.trans z.2.2⟩
        · exact Or.inr ⟨z.1, hs.symm.trans z.2.1, he.symm.trans z.2.2⟩
        · exact Or.inl ⟨hs.symm.trans z.1, he.symm.trans z.2.1⟩
      have hstop : s = e → Q 0 none (CM m F' A' L) := by
        intro z
        rcases hse with y | ⟨y1, y2, y3⟩
        · omega
        · have e1 := bT_wh (T := T) (a := ia) (b := ib) (s := (-1, 1, 0, 0, 0)) (t := t) y1 (by omega) (r + 1)
          rw [ht] at e1
          refine hq F' A' k1 ?_
          unfold bestS
          rw [e1]
          exact hC.elim id (fun w => by have := w.2.1; have := w.2.2.1; omega)
      obtain ⟨⟨v1, v2⟩, v3, v4, v5⟩ := hBt
      have hwh := tWH t hwb hhb
      have hga : DG F' A' a (T (bD ia + 1)) (T (bD ia + 2)) (srt T ia) := ⟨(k1.1 193 a (fun w => by omega) (fun w => by omega) (fun w => by omega)).trans ga.1, (k1.1 194 a (fun w => by omega) (fun w => by omega) (fun w => by omega)).trans ga.2.1, fun y hy i hi => by rw [k1.2 (a + 1) (by omega) (by omega) (by omega), k1.2 (a + 2) (by omega) (by omega) (by omega)]; exact ga.2.2 y hy i hi⟩
      have hgb : DG F' A' b (T (bD ib + 1)) (T (bD ib + 2)) (srt T ib) := ⟨(k1.1 193 b (fun w => by omega) (fun w => by omega) (fun w => by omega)).trans gb.1, (k1.1 194 b (fun w => by omega) (fun w => by omega) (fun w => by omega)).trans gb.2.1, fun y hy i hi => by rw [k1.2 (b + 1) (by omega) (by omega) (by omega), k1.2 (b + 2) (by omega) (by omega) (by omega)]; exact gb.2.2 y hy i hi⟩
      have key : ∀ A1 : Nat → Nat → Int, (∀ j, j ≠ o + 39 → j ≠ o + 40 → j ≠ o + 42 → A1 j = A' j) → DB A1 (o + 38) (tf (T (bD ib + 1)) (T (bD ib + 2)) (srt T ib) t) → DotR A1 o (tf (T (bD ib + 1)) (T (bD ib + 2)) (srt T ib) t) → Ex (d + 4) Ov_seek 42 [some (vR o), some (vR q), some (vI (t : Int)), l3, l4] [] (CM m (upF (upF F' 193 (o + 38) (tW (T (bD ib + 1)) (T (bD ib + 2)) t)) 194 (o + 38) (tH (T (bD ib + 1)) (T (bD ib + 2)) t)) A1 L) Q := by
        intro A1 q1 q2 q3
        have hF1 : ∀ f j, ¬ (j = o + 38 ∧ (f = 193 ∨ f = 194)) → upF (upF F' 193 (o + 38) (tW (T (bD ib + 1)) (T (bD ib + 2)) t)) 194 (o + 38) (tH (T (bD ib + 1)) (T (bD ib + 2)) t) f j = F' f j := by
          intro f j z
          unfold upF
          rw [if_neg (fun w => z ⟨w.2, Or.inr w.1⟩), if_neg (fun w => z ⟨w.2, Or.inl w.1⟩)]
        have h38w : upF (upF F' 193 (o + 38) (tW (T (bD ib + 1)) (T (bD ib + 2)) t)) 194 (o + 38) (tH (T (bD ib + 1)) (T (bD ib + 2)) t) 193 (o + 38) = tW (T (bD ib + 1)) (T (bD ib + 2)) t := by rw [upF_f _ _ _ (by decide), upF_at]
        have h38h : upF (upF F' 193 (o + 38) (tW (T (bD ib + 1)) (T (bD ib + 2)) t)) 194 (o + 38) (tH (T (bD ib + 1)) (T (bD ib + 2)) t) 194 (o + 38) = tH (T (bD ib + 1)) (T (bD ib + 2)) t := upF_at _ _ _ _
        generalize upF (upF F' 193 (o + 38) (tW (T (bD ib + 1)) (T (bD ib + 2)) t)) 194 (o + 38) (tH (T (bD ib + 1)) (T (bD ib + 2)) t) = F1 at *
        have k2 : KT o q F' F1 A' A1 := ⟨fun f j _ _ z => hF1 f j z, q1⟩
        have hSW : SeekW m F1 A1 o q a ia ib t T := by
          refine ⟨hO, hkq, r321, hA, ⟨(hF1 193 a (fun w => by omega)).trans hga.1, (hF1 194 a (fun w => by omega)).trans hga.2.1, fun y hy i hi => by rw [q1 (a + 1) (by omega) (by omega) (by omega), q1 (a + 2) (by omega) (by omega) (by omega)]; exact hga.2.2 y hy i hi⟩, hWa, hWb, ⟨h38w, h38h, q2⟩, fun y hy => ?_, q3, ?_, ⟨by omega, by omega, by omega, by omega⟩, by omega⟩
          · rw [q1 (o + 41) (by omega) (by omega) (by omega), k1.2 (o + 41) (by omega) (by omega) (by omega)]; exact hS y hy
          · rw [hF1 326 o (fun w => by omega), k1.1 326 o (fun w => by omega) (fun w => by omega) (fun w => by omega)]; exact h326
        have h169 : ∀ (F2 : Nat → Nat → Int) (l3 l4 : Option AV), KS o q F1 F2 → CRF F2 q (bTn T ia ib t (bT T ia ib (-1, 1, 0, 0, 0) t)) → Ex (d + 4) Ov_seek 169 [some (vR o), some (vR q), some (vI (t : Int)), l3, l4] [] (CM m F2 A1 L) Q := by
          intro F2 l3 l4 z1 z2
          have hnx := ih (t + 1) F2 A1 l3 l4 (by omega) ((k1.tr k2).tr z1.t) (Or.inl z2)
          refine Ex_step (tk_Ov_seek rfl) ?_
          refine Ex_step (tk_Ov_seek rfl) ?_
          exact hnx
        have h52 := c_seekY (d := d + 2) (L := L) hSW (lo := 1 - tH (T (bD ib + 1)) (T (bD ib + 2)) t) (lox := 1 - tW (T (bD ib + 1)) (T (bD ib + 2)) t) (by omega) (by omega) rfl (N := (T (bD ia + 2) + tH (T (bD ib + 1)) (T (bD ib + 2)) t - 1).toNat) (NX := (T (bD ia + 1) + tW (T (bD ib + 1)) (T (bD ib + 2)) t - 1).toNat) (by omega) (by omega) (hB0.t t) h169 (by omega) (by omega) _ 0 F1 l4 (Nat.zero_add _) (KS.rf o q F1) (by
          have e65 : ∀ f, 65 ≤ f → f ≤ 69 → F1 f q = F' f q := fun f _ _ => hF1 f q (fun w => by omega)
          rcases hC with z | ⟨z1, z2⟩
          · exact Or.inl ⟨⟨by rw [e65 _ (by decide) (by decide)]; exact z.1.1, by rw [e65 _ (by decide) (by decide)]; exact z.1.2.1, by rw [e65 _ (by decide) (by decide)]; exact z.1.2.2⟩, by rw [e65 _ (by decide) (by decide), e65 _ (by decide) (by decide)]; exact z.2⟩
          · subst z1
            refine Or.inr ⟨rfl, rfl, rfl, ?_⟩
            exact ⟨by rw [e65 _ (by decide) (by decide)]; exact z2.1, by rw [e65 _ (by decide) (by decide)]; exact z2.2.1, by rw [e65 _ (by decide) (by decide)]; exact z2.2.2.1, by rw [e65 _ (by decide) (by decide)]; exact z2.2.2.2.1, by rw [e65 _ (by decide) (by decide)]; exact z2.2.2.2.2⟩)
        rw [show 1 - tH (T (bD ib + 1)) (T (bD ib + 2)) t + ((0 : Nat) : Int) = 1 - tH (T (bD ib + 1)) (T (bD ib + 2)) t by omega] at h52
        refine Ex_step (tk_Ov_seek rfl) ?_
        refine Ex_step (tk_Ov_seek rfl) ?_
        refine gCR (tk_Ov_seek rfl) (hk5) (hr323) ?_
        refine gCI (tk_Ov_seek rfl) (hD.1) ?_
        rw [h38h]
        refine Ex_step (tk_Ov_seek rfl) ?_
        refine Ex_step (tk_Ov_seek rfl) ?_
        exact h52
      clear hC
      refine Ex_step (tk_Ov_seek rfl) ?_
      refine Ex_step (tk_Ov_seek rfl) ?_
      refine Ex_step (tk_Ov_seek rfl) ⟨fun h27 => ?_, fun h27 => ?_⟩
      · try simp (disch := omega) only [cmpI, w32_b2i, b2i_0, b2i_1, w32_id, Classical.not_not, not_true_eq_false, not_false_eq_true] at h27
        first | omega | exact Ex_step (tk_Ov_seek rfl) ⟨rfl, hstop (by omega)⟩
      · try simp (disch := omega) only [cmpI, w32_b2i, b2i_0, b2i_1, w32_id, Classical.not_not, not_true_eq_false, not_false_eq_true] at h27
        refine Ex_step (tk_Ov_seek rfl) ?_
        refine Ex_cV0 (av := []) (tk_Ov_seek rfl) mk_Best_isWhole ⟨rfl, rfl, by decide, rfl, Nat.le_of_ble_eq_true rfl, Nat.le_of_ble_eq_true rfl⟩ (hkq) (fun _ h => c_isWhole hkq hs he (by omega) (by omega) h) ?_
        refine Ex_step (tk_Ov_seek rfl) ⟨fun h34 => ?_, fun h34 => ?_⟩
        · try simp (disch := omega) only [cmpI, w32_b2i, b2i_0, b2i_1, w32_id, Classical.not_not, not_true_eq_false, not_false_eq_true] at h34
          first | omega | exact Ex_step (tk_Ov_seek rfl) ⟨rfl, hstop (by omega)⟩
        · try simp (disch := omega) only [cmpI, w32_b2i, b2i_0, b2i_1, w32_id, Classical.not_not, not_true_eq_false, not_false_eq_true] at h34
          refine Ex_step (tk_Ov_seek rfl) ?_
          refine Ex_step (tk_Ov_seek rfl) ?_
          refine Ex_cVK (av := [vI (t : Int)]) (tk_Ov_seek rfl) mk_Ov_turnTo ⟨rfl, rfl, by decide, rfl, Nat.le_of_ble_eq_true rfl, Nat.le_of_ble_eq_true rfl⟩ (hk5) (c_turnTo hO r322 hB hob hgb (srt_FG hWb) (by omega) (fun A1 q1 q2 q3 => ⟨rfl, ?_⟩))
          exact key A1 q1 q2 q3
  refine Ex_step (tk_Ov_seek rfl) ?_
  refine Ex_step (tk_Ov_seek rfl) ?_
  refine Ex_step (tk_Ov_seek rfl) ?_
  refine gCR (tk_Ov_seek rfl) (hk5) (hr322) ?_
  refine gCI (tk_Ov_seek rfl) (hB.1) ?_
  rw [gb.1]
  refine Ex_step (tk_Ov_seek rfl) ?_
  refine Ex_step (tk_Ov_seek rfl) ?_
  refine Ex_step (tk_Ov_seek rfl) ?_
  refine gCR (tk_Ov_seek rfl) (hk5) (hr322) ?_
  refine gCI (tk_Ov_seek rfl) (hB.1) ?_
  rw [gb.2.1]
  refine Ex_step (tk_Ov_seek rfl) ?_
  refine Ex_cVK (av := [vI (1 - T (bD ib + 1)), vI (1 - T (bD ib + 2))]) (tk_Ov_seek rfl) mk_Best_begin ⟨rfl, rfl, by decide, rfl, Nat.le_of_ble_eq_true rfl, Nat.le_of_ble_eq_true rfl⟩ (hkq) (c_bBegin hkq ⟨rfl, ?_⟩)
  refine Ex_step (tk_Ov_seek rfl) ?_
  refine Ex_step (tk_Ov_seek rfl) ?_
  refine hall 8 0 _ A none none (by omega) ⟨fun f j h1 h2 h3 => ?_, fun _ _ _ _ => rfl⟩ (Or.inr ⟨rfl, ?_⟩)
  · unfold upF
    rw [if_neg (fun w => h2 ⟨w.2, by omega⟩), if_neg (fun w => h2 ⟨w.2, by omega⟩), if_neg (fun w => h2 ⟨w.2, by omega⟩), if_neg (fun w => h2 ⟨w.2, by omega⟩), if_neg (fun w => h2 ⟨w.2, by omega⟩)]
  · refine ⟨?_, ?_, ?_, ?_, ?_⟩ <;> simp [upF]
end CSeek2
