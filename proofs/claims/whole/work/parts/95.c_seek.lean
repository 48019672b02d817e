/-! ===== the class: the best overlay, against the reference's ===== -/
/-- the numbers of the best at q stand for the reference's -/
def CRF (F : Nat → Nat → Int) (q : Nat) (r : BSt) : Prop := (F 67 q = r.2.2.1 ∧ F 68 q = r.2.2.2.1 ∧ F 69 q = r.2.2.2.2) ∧ ((r.1 = 0 ∧ F 65 q = 0 ∧ F 66 q = 1) ∨ (0 < r.1 ∧ F 65 q = r.1 ∧ F 66 q = r.2.1))
def Fst0 (F : Nat → Nat → Int) (q : Nat) (x0 y0 : Int) : Prop := F 65 q = 0 ∧ F 66 q = 1 ∧ F 67 q = 0 ∧ F 68 q = x0 ∧ F 69 q = y0
/-- what seeking changes -/
def KS (o q : Nat) (F F' : Nat → Nat → Int) : Prop := ∀ f j, ¬ (j = o ∧ (f = 327 ∨ f = 328)) → ¬ (j = q ∧ 65 ≤ f ∧ f ≤ 69) → F' f j = F f j
set_option maxRecDepth 100000 in
theorem KS.rf (o q : Nat) (F : Nat → Nat → Int) : KS o q F F := fun _ _ _ _ => rfl
set_option maxRecDepth 100000 in
theorem KS.tr {o q : Nat} {F F' F2 : Nat → Nat → Int} (h : KS o q F F') (g : KS o q F' F2) : KS o q F F2 := fun f j h1 h2 => (g f j h1 h2).trans (h f j h1 h2)
set_option maxRecDepth 100000 in
theorem KS.o {o q : Nat} {F F' : Nat → Nat → Int} (h : KS o q F F') {f : Nat} (hf : f = 327 ∨ f = 328) (v : Int) : KS o q F (upF F' f o v) := fun f2 j h1 h2 => by
  rw [show upF F' f o v f2 j = F' f2 j from if_neg (fun z => h1 ⟨z.2, by rw [z.1]; exact hf⟩)]
  exact h f2 j h1 h2
set_option maxRecDepth 100000 in
theorem KS.q {o q : Nat} {F F' : Nat → Nat → Int} (h : KS o q F F') {f : Nat} (hf : 65 ≤ f ∧ f ≤ 69) (v : Int) : KS o q F (upF F' f q v) := fun f2 j h1 h2 => by
  rw [show upF F' f q v f2 j = F' f2 j from if_neg (fun z => h2 ⟨z.2, by rw [z.1]; exact hf⟩)]
  exact h f2 j h1 h2
section CSeek
variable {d a b o q t ia ib : Nat} {dx dy : Int} {T : Nat → Int} {m : Mem} {F A L : Nat → Nat → Int} {Q : Nat → Option AV → Mem → Prop}
/-- all that stays while places are tried -/
def SeekW (m : Mem) (F A : Nat → Nat → Int) (o q a ia ib t : Nat) (T : Nat → Int) : Prop := OW m o ∧ mK m q = 1 ∧ mFR m 321 o = a ∧ DW m a ∧ DG F A a (T (bD ia + 1)) (T (bD ia + 2)) (srt T ia) ∧ DsW T ia ∧ DsW T ib ∧ DG F A (o + 38) (tW (T (bD ib + 1)) (T (bD ib + 2)) t) (tH (T (bD ib + 1)) (T (bD ib + 2)) t) (tsr T ib t) ∧ SolR A o (srt T ia) ∧ DotR A o (tsr T ib t) ∧ F 326 o = nP (fun x y => srt T ia x y = 1) + nP (fun x y => srt T ib x y = 1 ∨ srt T ib x y = 3) ∧ (q ≠ o ∧ q ≠ a ∧ q ≠ o + 38 ∧ a ≠ o) ∧ t < 8
set_option maxRecDepth 100000 in
theorem SeekW.k {F' : Nat → Nat → Int} (h : SeekW m F A o q a ia ib t T) (k : KS o q F F') : SeekW m F' A o q a ia ib t T := by
  obtain ⟨h1, h2, h3, h4, h5, h6, h7, h8, h9, h10, h11, h12, h13⟩ := h
  have e : ∀ f j, f = 193 ∨ f = 194 ∨ f = 326 → F' f j = F f j := fun f j z => k f j (fun w => by omega) (fun w => by omega)
  exact ⟨h1, h2, h3, h4, ⟨(e _ _ (by omega)).trans h5.1, (e _ _ (by omega)).trans h5.2.1, h5.2.2⟩, h6, h7, ⟨(e _ _ (by omega)).trans h8.1, (e _ _ (by omega)).trans h8.2.1, h8.2.2⟩, h9, h10, (e _ _ (by omega)).trans h11, h12, h13⟩
set_option maxRecDepth 100000 in
theorem tsr_FG (hW : DsW T ib) (t : Nat) : FG (tW (T (bD ib + 1)) (T (bD ib + 2)) t) (tH (T (bD ib + 1)) (T (bD ib + 2)) t) (tsr T ib t) := tf_FG (srt_FG hW) t
set_option maxRecDepth 100000 in
theorem c_seekC (hW : SeekW m F A o q a ia ib t T) (hdx : -20 ≤ dx ∧ dx ≤ 20) (hdy : -20 ≤ dy ∧ dy ≤ 20) {r : BSt} (hr : BB r) (hC : CRF F q r ∨ r.1 = -1 ∧ t = 0 ∧ Fst0 F q dx dy) (hq : ∀ F' : Nat → Nat → Int, KS o q F F' → CRF F' q (bstep T ia ib t dx dy r) → Ex (d + 2) Ov_seek 157 [some (vR o), some (vR q), some (vI (t : Int)), some (vI dy), some (vI dx)] [] (CM m F' A L) Q) : Ex (d + 2) Ov_seek 86 [some (vR o), some (vR q), some (vI (t : Int)), some (vI dy), some (vI dx)] [] (CM m F A L) Q := by
  obtain ⟨h1, hk1, h3, h4, h5, h6, h7, h8, h9, h10, h11, h12, h13⟩ := hW
  have hk5 := h1.1
  have b1 := smS_b (T := T) (a := ia) (b := ib) (t := t) (dx := dx) (dy := dy)
  have b2 := ulS_b (T := T) (a := ia) (b := ib) (t := t) (dx := dx) (dy := dy)
  have eu := ul_eq h6 h7 h13 hdx hdy
  rw [sm_eq, ← h11] at eu
  have es := sm_eq (T := T) (a := ia) (b := ib) (t := t) (dx := dx) (dy := dy)
  have ca : 0 < smS T ia ib t dx dy → cAl T ia ib t dx dy = smS T ia ib t dx dy + ulS T ia ib t dx dy := fun z => by unfold cAl; rw [if_neg (by omega)]
  have ca1 := (cAl_b (T := T) (a := ia) (b := ib) (t := t) (dx := dx) (dy := dy))
  have hlay := fun (Q1 : Nat → Option AV → Mem → Prop) => c_lay (d := d) (F := F) (A := A) (L := L) (Q := Q1) (dx := dx) (dy := dy) h1 h3 h4 h5 (srt_FG h6) h8 (tsr_FG h7 t) h9 h10 hdx hdy
  rw [es, eu] at hlay
  unfold bstep at hq
  obtain ⟨⟨g1, g2⟩, g3, g4, g5⟩ := hr
  generalize smS T ia ib t dx dy = sm at *
  generalize ulS T ia ib t dx dy = ul at *
  generalize cAl T ia ib t dx dy = al at *
  obtain ⟨s, hs⟩ : ∃ s : Int, F 65 q = s := ⟨_, rfl⟩
  obtain ⟨e, he⟩ : ∃ e : Int, F 66 q = e := ⟨_, rfl⟩
  have f1 : upF (upF F 327 o sm) 328 o ul 327 o = sm := by rw [upF_f _ _ _ (by decide), upF_at]
  have f2 : upF (upF F 327 o sm) 328 o ul 328 o = ul := upF_at _ _ _ _
  have f3 : upF (upF F 327 o sm) 328 o ul 65 q = s := by rw [upF_f _ _ _ (by decide), upF_f _ _ _ (by decide)]; exact hs
  have f4 : upF (upF F 327 o sm) 328 o ul 66 q = e := by rw [upF_f _ _ _ (by decide), upF_f _ _ _ (by decide)]; exact he
  have hks : KS o q F (upF (upF F 327 o sm) 328 o ul) := ((KS.rf o q F).o (Or.inl rfl) _).o (Or.inr rfl) _
  have hse : (r.1 = 0 ∨ r.1 = -1) ∧ s = 0 ∧ e = 1 ∨ 0 < r.1 ∧ s = r.1 ∧ e = r.2.1 := by
    rcases hC with ⟨_, z | z⟩ | ⟨z1, _, z2⟩
    · exact Or.inl ⟨Or.inl z.1, hs.symm.trans z.2.1, he.symm.trans z.2.2⟩
    · exact Or.inr ⟨z.1, hs.symm.trans z.2.1, he.symm.trans z.2.2⟩
    · exact Or.inl ⟨Or.inr z1, hs.symm.trans z2.1, he.symm.trans z2.2.1⟩
  have pm : 0 < sm → 0 < sm * r.2.1 := fun z => Int.mul_pos z (by omega)
  have pr : 0 < r.1 → 0 < r.1 * al := fun z => Int.mul_pos z (by omega)
  have hyes : 0 < sm → s * (sm + ul) < sm * e → Ex (d + 2) Ov_seek 120 [some (vR o), some (vR q), some (vI (t : Int)), some (vI dy), some (vI dx)] [] (CM m (upF (upF F 327 o sm) 328 o ul) A L) Q := by
    intro z1 z2
    rw [if_pos (by
      rcases hse with ⟨y1 | y1, y2, y3⟩ | ⟨y1, y2, y3⟩
      · refine Or.inr ?_
        rw [y1, Int.zero_mul]
        exact pm z1
      · exact Or.inl y1
      · refine Or.inr ?_
        rw [ca z1, ← y2, ← y3]
        exact z2)] at hq
    refine Ex_step (tk_Ov_seek rfl) ?_
    refine Ex_step (tk_Ov_seek rfl) ?_
    refine gCI (tk_Ov_seek rfl) (hk5) ?_
    rw [f1]
    refine pCI (tk_Ov_seek rfl) (hk1) ?_
    refine Ex_step (tk_Ov_seek rfl) ?_
    refine Ex_step (tk_Ov_seek rfl) ?_
    refine gCI (tk_Ov_seek rfl) (hk5) ?_
    rw [upF_f _ _ _ (by decide), f1]
    refine Ex_step (tk_Ov_seek rfl) ?_
    refine gCI (tk_Ov_seek rfl) (hk5) ?_
    rw [upF_f _ _ _ (by decide), f2]
    refine Ex_step (tk_Ov_seek rfl) ?_
    refine pCI (tk_Ov_seek rfl) (hk1) ?_
    refine Ex_step (tk_Ov_seek rfl) ?_
    refine Ex_step (tk_Ov_seek rfl) ?_
    refine pCI (tk_Ov_seek rfl) (hk1) ?_
    refine Ex_step (tk_Ov_seek rfl) ?_
    refine Ex_step (tk_Ov_seek rfl) ?_
    refine pCI (tk_Ov_seek rfl) (hk1) ?_
    refine Ex_step (tk_Ov_seek rfl) ?_
    refine Ex_step (tk_Ov_seek rfl) ?_
    refine pCI (tk_Ov_seek rfl) (hk1) ?_
    refine hq _ (((((hks.q (by decide) _).q (by decide) _).q (by decide) _).q (by decide) _).q (by decide) _) ⟨⟨?_, ?_, ?_⟩, Or.inr ⟨z1, ?_, ?_⟩⟩
    · rw [upF_f _ _ _ (by decide), upF_f _ _ _ (by decide), upF_at]
    · rw [upF_f _ _ _ (by decide), upF_at]
    · rw [upF_at]
    · rw [upF_f _ _ _ (by decide), upF_f _ _ _ (by decide), upF_f _ _ _ (by decide), upF_f _ _ _ (by decide), upF_at]
    · rw [upF_f _ _ _ (by decide), upF_f _ _ _ (by decide), upF_f _ _ _ (by decide), upF_at]; exact (ca z1).symm
  have hno : ¬ (0 < sm ∧ s * (sm + ul) < sm * e) → Ex (d + 2) Ov_seek 157 [some (vR o), some (vR q), some (vI (t : Int)), some (vI dy), some (vI dx)] [] (CM m (upF (upF F 327 o sm) 328 o ul) A L) Q := by
    intro z
    have g65 : ∀ f, 65 ≤ f → f ≤ 69 → upF (upF F 327 o sm) 328 o ul f q = F f q := fun f w1 w2 => by rw [upF_f _ _ _ (by omega), upF_f _ _ _ (by omega)]
    refine hq _ hks ?_
    by_cases y : r.1 = -1
    · rw [if_pos (Or.inl y)]
      rcases hC with ⟨_, w | w⟩ | ⟨_, w1, w2⟩
      · omega
      · omega
      · have hsm : sm = 0 := by
          rcases hse with ⟨_, y2, y3⟩ | ⟨y1, _⟩
          · refine Classical.byContradiction fun u => z ⟨by omega, ?_⟩
            rw [y2, y3, Int.zero_mul, Int.mul_one]
            omega
          · omega
        refine ⟨⟨?_, ?_, ?_⟩, Or.inl ⟨hsm, ?_, ?_⟩⟩
        · rw [g65 _ (by decide) (by decide), w2.2.2.1, w1]; rfl
        · rw [g65 _ (by decide) (by decide), w2.2.2.2.1]
        · rw [g65 _ (by decide) (by decide), w2.2.2.2.2]
        · rw [g65 _ (by decide) (by decide), w2.1]
        · rw [g65 _ (by decide) (by decide), w2.2.1]
    · have hC2 : CRF F q r := hC.elim id (fun w => absurd w.1 y)
      rw [if_neg (by
        rintro (w | w)
        · exact y w
        · rcases hse with ⟨y1 | y1, y2, y3⟩ | ⟨y1, y2, y3⟩
          · refine z ⟨Classical.byContradiction fun u => ?_, ?_⟩
            · have : sm = 0 := by omega
              rw [this, y1, Int.zero_mul, Int.zero_mul] at w
              omega
            · rw [y1, Int.zero_mul] at w
              have hsm : 0 < sm := Classical.byContradiction fun u => by
                have : sm = 0 := by omega
                rw [this, Int.zero_mul] at w
                omega
              rw [y2, y3, Int.zero_mul, Int.mul_one]
              exact hsm
          · exact y y1
          · have hsm : 0 < sm := Classical.byContradiction fun u => by
              have : sm = 0 := by omega
              rw [this, Int.zero_mul] at w
              have := pr y1
              omega
            refine z ⟨hsm, ?_⟩
            rw [y2, y3, ← ca hsm]
            exact w)]
      exact ⟨⟨by rw [g65 _ (by decide) (by decide)]; exact hC2.1.1, by rw [g65 _ (by decide) (by decide)]; exact hC2.1.2.1, by rw [g65 _ (by decide) (by decide)]; exact hC2.1.2.2⟩, by rw [g65 _ (by decide) (by decide), g65 _ (by decide) (by decide)]; exact hC2.2⟩
  clear hC
  refine Ex_step (tk_Ov_seek rfl) ?_
  refine Ex_step (tk_Ov_seek rfl) ?_
  refine Ex_step (tk_Ov_seek rfl) ?_
  refine Ex_cV0 (av := [vI dx, vI dy]) (tk_Ov_seek rfl) mk_Ov_lay ⟨rfl, rfl, by decide, rfl, Nat.le_of_ble_eq_true rfl, Nat.le_of_ble_eq_true rfl⟩ (hk5) (fun _ h => hlay _ h) ?_
  refine Ex_step (tk_Ov_seek rfl) ?_
  refine gCI (tk_Ov_seek rfl) (hk5) ?_
  rw [f1]
  refine Ex_step (tk_Ov_seek rfl) ⟨fun h97 => ?_, fun h97 => ?_⟩
  · try simp (disch := omega) only [cmpI, w32_b2i, b2i_0, b2i_1, w32_id, Classical.not_not, not_true_eq_false, not_false_eq_true] at h97
    exact hno (fun w => by first | exact h117 w.2 | omega)
  · try simp (disch := omega) only [cmpI, w32_b2i, b2i_0, b2i_1, w32_id, Classical.not_not, not_true_eq_false, not_false_eq_true] at h97
    refine Ex_step (tk_Ov_seek rfl) ?_
    refine Ex_step (tk_Ov_seek rfl) ?_
    refine gCI (tk_Ov_seek rfl) (hk5) ?_
    rw [f1]
    refine Ex_step (tk_Ov_seek rfl) ?_
    refine gCI (tk_Ov_seek rfl) (hk5) ?_
    rw [f1]
    refine Ex_step (tk_Ov_seek rfl) ?_
    refine gCI (tk_Ov_seek rfl) (hk5) ?_
    rw [f2]
    refine Ex_step (tk_Ov_seek rfl) ?_
    refine Ex_cV0 (av := [vI sm, vI (sm + ul)]) (tk_Ov_seek rfl) mk_Best_isBelow ⟨rfl, rfl, by decide, rfl, Nat.le_of_ble_eq_true rfl, Nat.le_of_ble_eq_true rfl⟩ (hk1) (fun _ h => c_isBelow hk1 f3 f4 (by omega) (by omega) (by omega) (by omega) h) ?_
    refine Ex_step (tk_Ov_seek rfl) ⟨fun h117 => ?_, fun h117 => ?_⟩
    · try simp (disch := omega) only [cmpI, w32_b2i, b2i_0, b2i_1, w32_id, Classical.not_not, not_true_eq_false, not_false_eq_true] at h117
      exact hno (fun w => by first | exact h117 w.2 | omega)
    · try simp (disch := omega) only [cmpI, w32_b2i, b2i_0, b2i_1, w32_id, Classical.not_not, not_true_eq_false, not_false_eq_true] at h117
      exact hyes (by omega) h117
end CSeek
