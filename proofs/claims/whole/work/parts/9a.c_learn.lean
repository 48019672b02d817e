/-! ===== the class: best overlays that are known ===== -/
set_option maxRecDepth 100000 in
theorem up_sFR (m : Mem) (F A L : Nat → Nat → Int) (f a b : Nat) : CM (sFR m f a b) F A L = sFR (CM m F A L) f a b := rfl
/-- a book of designs: the row of its designs, each of them -/
def BkW (m : Mem) (k : Nat) (ds : Nat → Nat) : Prop := mK m k = 2 ∧ mFR m 128 k = k + 1 ∧ mK m (k + 1) = 18 ∧ mLen m (k + 1) = 6 ∧ ∀ i, i < 6 → mAR m (k + 1) i = ds i ∧ DW m (ds i)
/-- its designs stand for those of the row -/
def BkG (F A : Nat → Nat → Int) (k : Nat) (ds : Nat → Nat) (T : Nat → Int) (nn : Nat) : Prop := F 129 k = (nn : Int) ∧ ∀ i, i < nn → F 192 (ds i) = T (bD i) ∧ DG F A (ds i) (T (bD i + 1)) (T (bD i + 2)) (srt T i)
/-- the overlays' two designs at hand -/
def sOv (m : Mem) (o x y : Nat) : Mem := sFR (sFR m 321 o x) 322 o y
set_option maxRecDepth 100000 in
theorem sOv_sOv (m : Mem) (o x y x2 y2 : Nat) : sFR (sFR (sOv m o x y) 321 o x2) 322 o y2 = sOv m o x2 y2 := by
  have e : mFR (sFR (sFR (sOv m o x y) 321 o x2) 322 o y2) = mFR (sOv m o x2 y2) := by
    funext f j
    show (if f = 322 ∧ j = o then y2 else if f = 321 ∧ j = o then x2 else if f = 322 ∧ j = o then y else if f = 321 ∧ j = o then x else mFR m f j) = (if f = 322 ∧ j = o then y2 else if f = 321 ∧ j = o then x2 else mFR m f j)
    by_cases q1 : f = 322 ∧ j = o
    · simp only [if_pos q1]
    · by_cases q2 : f = 321 ∧ j = o
      · simp only [if_neg q1, if_pos q2]
      · simp only [if_neg q1, if_neg q2]
  show (mN m, mZ m, mK m, mLen m, mFI m, mFR (sFR (sFR (sOv m o x y) 321 o x2) 322 o y2), mAI m, mAL m, mAR m) = (mN m, mZ m, mK m, mLen m, mFI m, mFR (sOv m o x2 y2), mAI m, mAL m, mAR m)
  rw [e]
set_option maxRecDepth 100000 in
theorem sOv_self (m : Mem) (o : Nat) : sOv m o (mFR m 321 o) (mFR m 322 o) = m := by
  have e : mFR (sOv m o (mFR m 321 o) (mFR m 322 o)) = mFR m := by
    funext f j
    show (if f = 322 ∧ j = o then mFR m 322 o else if f = 321 ∧ j = o then mFR m 321 o else mFR m f j) = mFR m f j
    by_cases q1 : f = 322 ∧ j = o
    · rw [if_pos q1, q1.1, q1.2]
    · rw [if_neg q1]
      by_cases q2 : f = 321 ∧ j = o
      · rw [if_pos q2, q2.1, q2.2]
      · rw [if_neg q2]
  show (mN m, mZ m, mK m, mLen m, mFI m, mFR (sOv m o (mFR m 321 o) (mFR m 322 o)), mAI m, mAL m, mAR m) = m
  rw [e]
  rfl
set_option maxRecDepth 100000 in
theorem sOv_r (m : Mem) {o x y f j : Nat} (h : j ≠ o ∨ f ≠ 321 ∧ f ≠ 322) : mFR (sOv m o x y) f j = mFR m f j := by
  show (if f = 322 ∧ j = o then y else if f = 321 ∧ j = o then x else mFR m f j) = mFR m f j
  rw [if_neg (by omega), if_neg (by omega)]
set_option maxRecDepth 100000 in
theorem DW.ov {m : Mem} {a : Nat} (h : DW m a) {o x y : Nat} (ha : a ≠ o) : DW (sOv m o x y) a := ⟨h.1, h.2.1, by rw [sOv_r m (Or.inl ha)]; exact h.2.2.1, by rw [sOv_r m (Or.inl ha)]; exact h.2.2.2.1, h.2.2.2.2.1, h.2.2.2.2.2⟩
set_option maxRecDepth 100000 in
theorem OW.ov {m : Mem} {o : Nat} (h : OW m o) (x y : Nat) : OW (sOv m o x y) o := ⟨h.1, by rw [sOv_r m (Or.inr (by decide))]; exact h.2.1, h.2.2.1.ov (by omega), by rw [sOv_r m (Or.inr (by decide))]; exact h.2.2.2.1, h.2.2.2.2.1, by rw [sOv_r m (Or.inr (by decide))]; exact h.2.2.2.2.2.1, h.2.2.2.2.2.2.1, by rw [sOv_r m (Or.inr (by decide))]; exact h.2.2.2.2.2.2.2.1, h.2.2.2.2.2.2.2.2.1, h.2.2.2.2.2.2.2.2.2.1, h.2.2.2.2.2.2.2.2.2.2⟩
set_option maxRecDepth 100000 in
theorem BkW.ov {m : Mem} {k : Nat} {ds : Nat → Nat} (h : BkW m k ds) {o x y : Nat} (hk : k ≠ o) (hd : ∀ i, i < 6 → ds i ≠ o) : BkW (sOv m o x y) k ds := ⟨h.1, by rw [sOv_r m (Or.inl hk)]; exact h.2.1, h.2.2.1, h.2.2.2.1, fun i hi => ⟨(h.2.2.2.2 i hi).1, (h.2.2.2.2 i hi).2.ov (hd i hi)⟩⟩
/-- what is known is so -/
def KN (F : Nat → Nat → Int) (o : Nat) (T : Nat → Int) (nn : Nat) : Prop := (∀ i, i < 36 → F 64 (o + 2 + i) = 0 ∨ F 64 (o + 2 + i) = 1) ∧ ∀ a b, a < nn → b < nn → a ≠ b → F 64 (o + 2 + (a * 6 + b)) = 1 → CRF F (o + 2 + (a * 6 + b)) (bestS T a b)
/-- nothing outside of the overlays' own cells has changed; what was known stays so -/
def KO (o : Nat) (F F' A A' : Nat → Nat → Int) : Prop := (∀ f j, j < o ∨ o + 43 ≤ j → F' f j = F f j) ∧ (∀ j, j < o ∨ o + 43 ≤ j → A' j = A j) ∧ ∀ i, i < 36 → F 64 (o + 2 + i) = 1 → F' 64 (o + 2 + i) = 1
set_option maxRecDepth 100000 in
theorem KO.rf (o : Nat) (F A : Nat → Nat → Int) : KO o F F A A := ⟨fun _ _ _ => rfl, fun _ _ => rfl, fun _ _ h => h⟩
set_option maxRecDepth 100000 in
theorem KO.tr {o : Nat} {F F' F2 A A' A2 : Nat → Nat → Int} (h : KO o F F' A A') (g : KO o F' F2 A' A2) : KO o F F2 A A2 := ⟨fun f j q => (g.1 f j q).trans (h.1 f j q), fun j q => (g.2.1 j q).trans (h.2.1 j q), fun i hi q => g.2.2 i hi (h.2.2 i hi q)⟩
set_option maxRecDepth 100000 in
theorem KO.bk {o k : Nat} {ds : Nat → Nat} {T : Nat → Int} {nn : Nat} {F F' A A' : Nat → Nat → Int} (h : KO o F F' A A') (hk : k < o) (hn : nn ≤ 6) (hd : ∀ i, i < 6 → ds i + 3 ≤ o) (g : BkG F A k ds T nn) : BkG F' A' k ds T nn := ⟨(h.1 129 k (Or.inl hk)).trans g.1, fun i hi => by
  have := hd i (by omega)
  have gi := g.2 i hi
  exact ⟨(h.1 192 (ds i) (by omega)).trans gi.1, (h.1 193 (ds i) (by omega)).trans gi.2.1, (h.1 194 (ds i) (by omega)).trans gi.2.2.1, fun y hy j hj => by rw [h.2.1 (ds i + 1) (by omega), h.2.1 (ds i + 2) (by omega)]; exact gi.2.2.2 y hy j hj⟩⟩
section CLearn
variable {d o k : Nat} {m : Mem} {F A L : Nat → Nat → Int} {Q : Nat → Option AV → Mem → Prop}
set_option maxRecDepth 100000 in
theorem c_bestOf {a b : Nat} (hO : OW m o) (ha : a < 6) (hb : b < 6) (h : Q 0 (some (vR (o + 2 + (a * 6 + b)))) (CM m F A L)) : Ex d Ov_bestOf 0 [some (vR o), some (vI (a : Int)), some (vI (b : Int))] [] (CM m F A L) Q := by
  have hk5 := hO.1
  have h8 := hO.2.2.2.2.2.2.2
  have hr320 := h8.1
  have h9 := h8.2.2.2 (a * 6 + b) (by omega)
  refine Ex_step (tk_Ov_bestOf rfl) ?_
  refine gCR (tk_Ov_bestOf rfl) (hk5) (hr320) ?_
  refine Ex_step (tk_Ov_bestOf rfl) ?_
  refine Ex_step (tk_Ov_bestOf rfl) ?_
  refine Ex_step (tk_Ov_bestOf rfl) ?_
  refine Ex_step (tk_Ov_bestOf rfl) ?_
  refine Ex_step (tk_Ov_bestOf rfl) ?_
  refine lCR (n := a * 6 + b) (tk_Ov_bestOf rfl) (⟨⟨by rw [h8.2.1]; decide, by rw [h8.2.1]; decide⟩, h8.2.2.1, h9.1⟩) (by rw [w32_id (by omega) (by omega)]; omega) (by omega) ?_
  refine Ex_step (tk_Ov_bestOf rfl) ⟨rfl, ?_⟩
  exact h
set_option maxRecDepth 100000 in
theorem c_learn {a b nn x y : Nat} {T : Nat → Int} {ds : Nat → Nat} (hO : OW m o) (hB : BkW m k ds) (hko : k < o) (hd : ∀ i, i < 6 → ds i + 3 ≤ o) (hN : NowW T nn) (hG : BkG F A k ds T nn) (hK : KN F o T nn) (ha : a < nn) (hb : b < nn) (hab : a ≠ b) (h : ∀ (x y : Nat) (F' A' : Nat → Nat → Int), KO o F F' A A' → KN F' o T nn → F' 64 (o + 2 + (a * 6 + b)) = 1 → Q 0 none (CM (sOv m o x y) F' A' L)) : Ex (d + 5) Ov_learn 0 [some (vR o), some (vR k), some (vI (a : Int)), some (vI (b : Int)), none] [] (CM (sOv m o x y) F A L) Q := by
  have hn6 := hN.1
  have hWa := hN.2.2.2 a ha
  have hWb := hN.2.2.2 b hb
  have hOv := hO.ov x y
  have hBv := hB.ov (x := x) (y := y) (show k ≠ o by omega) (fun i hi => by have := hd i hi; omega)
  have hda := hd a (by omega)
  have hdb := hd b (by omega)
  have hga := hG.2 a ha
  have hgb := hG.2 b hb
  have hkq : mK (sOv m o x y) (o + 2 + (a * 6 + b)) = 1 := (hO.2.2.2.2.2.2.2.2.2.2 (a * 6 + b) (by omega)).2
  have hz := hK.1 (a * 6 + b) (by omega)
  have hk2 := hBv.1
  have hr128 := hBv.2.1
  have hA := (hBv.2.2.2.2 a (by omega)).2
  have hB2 := (hBv.2.2.2.2 b (by omega)).2
  have hyes : F 64 (o + 2 + (a * 6 + b)) = 1 → Q 0 none (CM (sOv m o x y) F A L) := fun z => h x y F A (KO.rf o F A) hK z
  have key : ∀ A1 : Nat → Nat → Int, (∀ j, j ≠ o + 41 → A1 j = A j) → SolR A1 o (srt T a) → Ex (d + 5) Ov_learn 32 [some (vR o), some (vR k), some (vI (a : Int)), some (vI (b : Int)), some (vR (o + 2 + (a * 6 + b)))] [] (CM (sOv m o (ds a) (ds b)) (upF F 326 o (nP (fun x y => srt T a x y = 1) + nP (fun x y => srt T b x y = 1 ∨ srt T b x y = 3))) A1 L) Q := by
    intro A1 k1 k2
    have hO2 := hO.ov (ds a) (ds b)
    have hA2 := (hB.2.2.2.2 a (by omega)).2.ov (o := o) (x := ds a) (y := ds b) (by omega)
    have hB3 := (hB.2.2.2.2 b (by omega)).2.ov (o := o) (x := ds a) (y := ds b) (by omega)
    have hq2 : mK (sOv m o (ds a) (ds b)) (o + 2 + (a * 6 + b)) = 1 := hkq
    have e1 : mFR (sOv m o (ds a) (ds b)) 321 o = ds a := by
      show (if (321 : Nat) = 322 ∧ o = o then ds b else if (321 : Nat) = 321 ∧ o = o then ds a else mFR m 321 o) = ds a
      rw [if_neg (fun z => absurd z.1 (by decide)), if_pos ⟨rfl, rfl⟩]
    have e2 : mFR (sOv m o (ds a) (ds b)) 322 o = ds b := by
      show (if (322 : Nat) = 322 ∧ o = o then ds b else if (322 : Nat) = 321 ∧ o = o then ds a else mFR m 322 o) = ds b
      rw [if_pos ⟨rfl, rfl⟩]
    have dg : ∀ i, i < nn → DG (upF F 326 o (nP (fun x y => srt T a x y = 1) + nP (fun x y => srt T b x y = 1 ∨ srt T b x y = 3))) A1 (ds i) (T (bD i + 1)) (T (bD i + 2)) (srt T i) := fun i hi => by
      have := hd i (by omega)
      have gi := (hG.2 i hi).2
      exact ⟨by rw [upF_f _ _ _ (by decide)]; exact gi.1, by rw [upF_f _ _ _ (by decide)]; exact gi.2.1, fun y hy j hj => by rw [k1 (ds i + 1) (by omega), k1 (ds i + 2) (by omega)]; exact gi.2.2 y hy j hj⟩
    have hfin : ∀ F2 A2 : Nat → Nat → Int, KT o (o + 2 + (a * 6 + b)) (upF F 326 o (nP (fun x y => srt T a x y = 1) + nP (fun x y => srt T b x y = 1 ∨ srt T b x y = 3))) F2 A1 A2 → CRF F2 (o + 2 + (a * 6 + b)) (bestS T a b) → Q 0 none (CM (sOv m o (ds a) (ds b)) (upF F2 64 (o + 2 + (a * 6 + b)) 1) A2 L) := by
      intro F2 A2 q1 q2
      have e64 : ∀ j, o + 2 ≤ j → j < o + 38 → F2 64 j = F 64 j := fun j j1 j2 => by
        rw [q1.1 64 j (fun w => by omega) (fun w => by omega) (fun w => by omega), upF_f _ _ _ (by decide)]
      have eo : ∀ f j, o + 2 ≤ j → j < o + 38 → j ≠ o + 2 + (a * 6 + b) → F2 f j = F f j := fun f j j1 j2 j3 => by
        rw [q1.1 f j (fun w => by omega) (fun w => by omega) (fun w => by omega), upF_a _ _ _ (by omega)]
      refine h (ds a) (ds b) _ A2 ⟨fun f j hj => ?_, fun j hj => ?_, fun i hi z => ?_⟩ ⟨fun i hi => ?_, fun a2 b2 ha2 hb2 hab2 z => ?_⟩ (upF_at _ _ _ _)
      · rw [upF_a _ _ _ (by omega), q1.1 f j (fun w => by omega) (fun w => by omega) (fun w => by omega), upF_a _ _ _ (by omega)]
      · rw [q1.2 j (by omega) (by omega) (by omega), k1 j (by omega)]
      · by_cases w : i = a * 6 + b
        · rw [w]; exact upF_at _ _ _ _
        · rw [upF_a _ _ _ (by omega), e64 _ (by omega) (by omega)]; exact z
      · by_cases w : i = a * 6 + b
        · rw [w, upF_at]; exact Or.inr rfl
        · rw [upF_a _ _ _ (by omega), e64 _ (by omega) (by omega)]; exact hK.1 i hi
      · by_cases w : a2 * 6 + b2 = a * 6 + b
        · have wa : a2 = a := by omega
          have wb : b2 = b := by omega
          subst wa
          subst wb
          exact ⟨⟨by rw [upF_f _ _ _ (by decide)]; exact q2.1.1, by rw [upF_f _ _ _ (by decide)]; exact q2.1.2.1, by rw [upF_f _ _ _ (by decide)]; exact q2.1.2.2⟩, by rw [upF_f _ _ _ (by decide), upF_f _ _ _ (by decide)]; exact q2.2⟩
        · rw [upF_a _ _ _ (by omega), e64 _ (by omega) (by omega)] at z
          have kk := hK.2 a2 b2 ha2 hb2 hab2 z
          have ej : ∀ f, upF F2 64 (o + 2 + (a * 6 + b)) 1 f (o + 2 + (a2 * 6 + b2)) = F f (o + 2 + (a2 * 6 + b2)) := fun f => by rw [upF_a _ _ _ (by omega), eo f _ (by omega) (by omega) (by omega)]
          exact ⟨⟨by rw [ej]; exact kk.1.1, by rw [ej]; exact kk.1.2.1, by rw [ej]; exact kk.1.2.2⟩, by rw [ej, ej]; exact kk.2⟩
    have hseek := fun (Q1 : Nat → Option AV → Mem → Prop) => c_seek (d := d) (Q := Q1) (L := L) (ia := a) (ib := b) (q := o + 2 + (a * 6 + b)) hO2 hq2 e1 e2 hA2 hB3 (dg a ha) (dg b hb) hWa hWb k2 (upF_at _ _ _ _) (by omega) (by omega) (by omega)
    refine Ex_step (tk_Ov_learn rfl) ?_
    refine Ex_step (tk_Ov_learn rfl) ?_
    refine Ex_cVK (av := [vR (o + 2 + (a * 6 + b))]) (tk_Ov_learn rfl) mk_Ov_seek ⟨rfl, rfl, by decide, rfl, Nat.le_of_ble_eq_true rfl, Nat.le_of_ble_eq_true rfl⟩ (hO2.1) (hseek _ (fun F2 A2 q1 q2 => ⟨rfl, ?_⟩))
    refine Ex_step (tk_Ov_learn rfl) ?_
    refine Ex_step (tk_Ov_learn rfl) ?_
    refine pCZ (tk_Ov_learn rfl) (hq2) (Or.inr rfl) ?_
    refine Ex_step (tk_Ov_learn rfl) ⟨rfl, ?_⟩
    exact hfin F2 A2 q1 q2
  refine Ex_step (tk_Ov_learn rfl) ?_
  refine Ex_step (tk_Ov_learn rfl) ?_
  refine Ex_step (tk_Ov_learn rfl) ?_
  refine Ex_cV0 (av := [vI (a : Int), vI (b : Int)]) (tk_Ov_learn rfl) mk_Ov_bestOf ⟨rfl, rfl, by decide, rfl, Nat.le_of_ble_eq_true rfl, Nat.le_of_ble_eq_true rfl⟩ (hOv.1) (fun _ h => c_bestOf hOv (by omega) (by omega) h) ?_
  refine Ex_step (tk_Ov_learn rfl) ?_
  refine Ex_step (tk_Ov_learn rfl) ?_
  refine gCI (tk_Ov_learn rfl) (hkq) ?_
  refine Ex_step (tk_Ov_learn rfl) ⟨fun h13 => ?_, fun h13 => ?_⟩
  · try simp (disch := omega) only [cmpI, w32_b2i, b2i_0, b2i_1, w32_id, Classical.not_not, not_true_eq_false, not_false_eq_true] at h13
    refine Ex_step (tk_Ov_learn rfl) ⟨rfl, ?_⟩
    exact hyes (by omega)
  · try simp (disch := omega) only [cmpI, w32_b2i, b2i_0, b2i_1, w32_id, Classical.not_not, not_true_eq_false, not_false_eq_true] at h13
    refine Ex_step (tk_Ov_learn rfl) ?_
    refine Ex_step (tk_Ov_learn rfl) ?_
    refine gCR (tk_Ov_learn rfl) (hk2) (hr128) ?_
    refine Ex_step (tk_Ov_learn rfl) ?_
    refine lCR (n := a) (tk_Ov_learn rfl) (⟨⟨by rw [hBv.2.2.1]; decide, by rw [hBv.2.2.1]; decide⟩, hBv.2.2.2.1, (hBv.2.2.2.2 a (by omega)).1⟩) (w32_id (by omega) (by omega)) (by omega) ?_
    refine Ex_step (tk_Ov_learn rfl) ?_
    refine gCR (tk_Ov_learn rfl) (hk2) (hr128) ?_
    refine Ex_step (tk_Ov_learn rfl) ?_
    refine lCR (n := b) (tk_Ov_learn rfl) (⟨⟨by rw [hBv.2.2.1]; decide, by rw [hBv.2.2.1]; decide⟩, hBv.2.2.2.1, (hBv.2.2.2.2 b (by omega)).1⟩) (w32_id (by omega) (by omega)) (by omega) ?_
    refine Ex_cVK (av := [vR (ds a), vR (ds b)]) (tk_Ov_learn rfl) mk_Ov_take ⟨rfl, rfl, by decide, rfl, Nat.le_of_ble_eq_true rfl, Nat.le_of_ble_eq_true rfl⟩ (hOv.1) (c_take hOv hA hB2 (by omega) (by omega) hga.2.2.2 hgb.2.2.2 (srt_FG hWa).b (srt_FG hWb).b (fun A1 k1 k2 => ⟨rfl, ?_⟩))
    rw [sOv_sOv]
    exact key A1 k1 k2
end CLearn
