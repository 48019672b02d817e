/-! ===== SAME and UNLIKE of an overlay, place by place ===== -/
def smS (T : Nat → Int) (a b t : Nat) (dx dy : Int) : Int := sI (fun y => sI (fun x => oI (pSo T a x y ∧ pDk T b t (x - dx) (y - dy))) 0 10) 0 10
def ulS (T : Nat → Int) (a b t : Nat) (dx dy : Int) : Int := sI (fun y => sI (fun x => oI (pSo T a x y ∧ tsr T b t (x - dx) (y - dy) = 0)) 0 10) 0 10 + sI (fun y => sI (fun x => oI (pDk T b t x y ∧ srt T a (x + dx) (y + dy) = 0)) 0 10) 0 10
def loY (dy : Int) : Int := if 0 < dy then 0 else dy
set_option maxRecDepth 100000 in
theorem sI2_win {f : Int → Int → Int} {lo1 lo2 c1 c2 : Int} {n1 n2 : Nat} (h : ∀ x y, f x y ≠ 0 → (c1 ≤ x ∧ x < c1 + 10) ∧ c2 ≤ y ∧ y < c2 + 10) (a1 : lo1 ≤ c1) (a2 : c1 + 10 ≤ lo1 + (n1 : Int)) (a3 : lo2 ≤ c2) (a4 : c2 + 10 ≤ lo2 + (n2 : Int)) : sI (fun y => sI (fun x => f x y) lo1 n1) lo2 n2 = sI (fun y => sI (fun x => f x y) c1 10) c2 10 := by
  have z : ∀ x y, ¬ ((c1 ≤ x ∧ x < c1 + 10) ∧ c2 ≤ y ∧ y < c2 + 10) → f x y = 0 := fun x y q => Classical.byContradiction fun w => q (h x y w)
  rw [sI_win (k := 10) (c := c2) (fun y hy => sI_0 (fun x _ _ => z x y (fun q => by omega))) a3 a4]
  exact sI_cong (fun y _ _ => sI_win (k := 10) (fun x hx => z x y (fun q => by omega)) a1 a2)
set_option maxRecDepth 100000 in
theorem sI2_move (f : Int → Int → Int) (c1 c2 : Int) (n1 n2 : Nat) : sI (fun y => sI (fun x => f (x + c1) (y + c2)) 0 n1) 0 n2 = sI (fun y => sI (fun x => f x y) c1 n1) c2 n2 := by
  have e : sI (fun y => sI (fun x => f (x + c1) (y + c2)) 0 n1) 0 n2 = sI (fun y => (fun y => sI (fun x => f x y) c1 n1) (y + c2)) 0 n2 := sI_cong (fun y _ _ => by
    have := sI_move (fun x => f x (y + c2)) 0 c1 n1
    rw [Int.zero_add] at this
    exact this)
  rw [e, sI_move (fun y => sI (fun x => f x y) c1 n1) 0 c2 n2, Int.zero_add]
set_option maxRecDepth 100000 in
theorem sI2_b {f : Int → Int → Int} (h : ∀ x y, 0 ≤ f x y ∧ f x y ≤ 1) : 0 ≤ sI (fun y => sI (fun x => f x y) 0 10) 0 10 ∧ sI (fun y => sI (fun x => f x y) 0 10) 0 10 ≤ 100 := by
  constructor
  · exact sI_nn (fun y => sI_nn (fun x => (h x y).1) 0 10) 0 10
  · have := sI_le (f := fun y => sI (fun x => f x y) 0 10) (c := 10) (fun y => by
      have := sI_le (f := fun x => f x y) (c := 1) (fun x => (h x y).2) 0 10
      omega) 0 10
    omega
section Totals
variable {T : Nat → Int} {a b t : Nat} {dx dy : Int}
set_option maxRecDepth 100000 in
theorem smS_b : 0 ≤ smS T a b t dx dy ∧ smS T a b t dx dy ≤ 100 := sI2_b (fun _ _ => oI_b _)
set_option maxRecDepth 100000 in
theorem ulS_b : 0 ≤ ulS T a b t dx dy ∧ ulS T a b t dx dy ≤ 200 := by
  have h1 := sI2_b (f := fun x y => oI (pSo T a x y ∧ tsr T b t (x - dx) (y - dy) = 0)) (fun _ _ => oI_b _)
  have h2 := sI2_b (f := fun x y => oI (pDk T b t x y ∧ srt T a (x + dx) (y + dy) = 0)) (fun _ _ => oI_b _)
  unfold ulS
  omega
set_option maxRecDepth 100000 in
theorem smR_sum (hWa : DsW T a) (hdy : -20 ≤ dy ∧ dy ≤ 20) {N : Nat} (hN : (N : Int) = (if 0 < dy then dy + 10 else 10) - loY dy) : sI (smR T a b t dx dy) (loY dy) N = smS T a b t dx dy := by
  unfold loY at *
  exact sI2_win (f := fun x y => oI (pSo T a x y ∧ pDk T b t (x - dx) (y - dy))) (c1 := 0) (c2 := 0) (fun x y q => by
    have : pSo T a x y := Classical.byContradiction fun w => q (oI_f (fun z => w z.1))
    have := srt_in10 hWa (show srt T a x y ≠ 0 by omega)
    omega) (by decide) (by decide) (by split <;> omega) (by split <;> omega)
set_option maxRecDepth 100000 in
theorem ulR_sum (hWa : DsW T a) (hWb : DsW T b) (hdx : -20 ≤ dx ∧ dx ≤ 20) (hdy : -20 ≤ dy ∧ dy ≤ 20) {N : Nat} (hN : (N : Int) = (if 0 < dy then dy + 10 else 10) - loY dy) : sI (ulR T a b t dx dy) (loY dy) N = ulS T a b t dx dy := by
  have e : sI (ulR T a b t dx dy) (loY dy) N = sI (fun y => sI (fun x => oI (pSo T a x y ∧ tsr T b t (x - dx) (y - dy) = 0)) (-24) 64) (loY dy) N + sI (fun y => sI (fun x => oI (pDk T b t (x - dx) (y - dy) ∧ srt T a x y = 0)) (-24) 64) (loY dy) N := by
    rw [← sI_add]
    refine sI_cong (fun y _ _ => ?_)
    rw [← sI_add]
    refine sI_cong (fun x _ _ => ?_)
    by_cases q1 : pSo T a x y ∧ tsr T b t (x - dx) (y - dy) = 0
    · rw [oI_t (Or.inl q1), oI_t q1, oI_f (by omega)]
      rfl
    · by_cases q2 : pDk T b t (x - dx) (y - dy) ∧ srt T a x y = 0
      · rw [oI_t (Or.inr ⟨q2.2, q2.1⟩), oI_f q1, oI_t q2]
        rfl
      · rw [oI_f (fun z => z.elim q1 (fun z => q2 ⟨z.2, z.1⟩)), oI_f q1, oI_f q2]
        rfl
  have e1 := sI2_win (f := fun x y => oI (pSo T a x y ∧ tsr T b t (x - dx) (y - dy) = 0)) (lo1 := -24) (n1 := 64) (lo2 := loY dy) (n2 := N) (c1 := 0) (c2 := 0) (fun x y q => by
    have : pSo T a x y := Classical.byContradiction fun w => q (oI_f (fun z => w z.1))
    have := srt_in10 hWa (show srt T a x y ≠ 0 by omega)
    omega) (by decide) (by decide) (by unfold loY; split <;> omega) (by unfold loY at *; split at hN <;> split <;> omega)
  have e2 := sI2_win (f := fun x y => oI (pDk T b t (x - dx) (y - dy) ∧ srt T a x y = 0)) (lo1 := -24) (n1 := 64) (lo2 := loY dy) (n2 := N) (c1 := dx) (c2 := dy) (fun x y q => by
    have : pDk T b t (x - dx) (y - dy) := Classical.byContradiction fun w => q (oI_f (fun z => w z.1))
    have := tsr_in t hWb (show tsr T b t (x - dx) (y - dy) ≠ 0 by omega)
    omega) (by omega) (by omega) (by unfold loY; split <;> omega) (by unfold loY at *; split at hN <;> split <;> omega)
  rw [e, e1, e2, ← sI2_move (fun x y => oI (pDk T b t (x - dx) (y - dy) ∧ srt T a x y = 0)) dx dy 10 10]
  unfold ulS
  simp only [Int.add_sub_cancel]
end Totals
section MLies2
variable {d a b t : Nat} {dx dy : Int} {m : Mem} {I : Nat → Int} {A L : Nat → Nat → Int} {T : Nat → Int} {Q : Nat → Option AV → Mem → Prop}
set_option maxRecDepth 100000 in
theorem f_lies (hM : MW m) (hWa : DsW T a) (hWb : DsW T b) (hdx : -20 ≤ dx ∧ dx ≤ 20) (hdy : -20 ≤ dy ∧ dy ≤ 20) (b1 : BitR (L 15) (pSo T a)) (b2 : BitR (L 16) (pAs T a)) (b3 : BitR (L 17) (pDk T b t)) (b4 : BitR (L 18) (pDo T b t)) (h : Q 0 none (MS m (F2 22 23 I (smS T a b t dx dy) (ulS T a b t dx dy)) A L)) : Ex (d + 1) M_lies 0 [some (vR aM), some (vI dx), some (vI dy), none, none, none, none, none, none, none, none, none] [] (MS m I A L) Q := by
  have eL : (if w32 0 < w32 dy then 0 else dy) = loY dy := by rw [w32_id (x := dy) (by omega) (by omega)]; rfl
  have eH : (if w32 (dy + 10) < w32 10 then 10 else dy + 10) = (if 0 < dy then dy + 10 else 10) := by
    rw [w32_id (x := dy + 10) (by omega) (by omega), show w32 10 = 10 from rfl]
    split <;> split <;> omega
  obtain ⟨N, hN⟩ : ∃ N : Nat, (N : Int) = (if 0 < dy then dy + 10 else 10) - loY dy := ⟨((if 0 < dy then dy + 10 else 10) - loY dy).toNat, by unfold loY; split <;> omega⟩
  rw [← smR_sum hWa hdy hN, ← ulR_sum hWa hWb hdx hdy hN] at h
  have hb : -20 ≤ loY dy ∧ loY dy ≤ 0 := by unfold loY; split <;> omega
  have hh : (if 0 < dy then dy + 10 else 10) ≤ 30 := by split <;> omega
  generalize hhe : (if 0 < dy then dy + 10 else 10) = hi at *
  generalize loY dy = lo at *
  have hloop : ∀ (r k : Nat) (l4 l5 l6 l7 l8 l9 l10 l11 : Option AV), k + r = N → Ex (d + 1) M_lies 16 [some (vR aM), some (vI dx), some (vI dy), some (vI (lo + (k : Int))), l4, l5, l6, l7, l8, l9, l10, l11] [] (MS m (F2 22 23 I (sI (smR T a b t dx dy) lo k) (sI (ulR T a b t dx dy) lo k)) A L) Q := by
    intro r
    induction r with
    | zero =>
      intro k l4 l5 l6 l7 l8 l9 l10 l11 hk
      have : k = N := by omega
      subst this
      refine Ex_step (tk_M_lies rfl) ?_
      refine Ex_step (tk_M_lies rfl) ?_
      refine Ex_step (tk_M_lies rfl) ?_
      refine Ex_step (tk_M_lies rfl) ?_
      refine Ex_step (tk_M_lies rfl) ?_
      refine Ex_cS0 (av := [vI 10, vI (dy + 10)]) (tk_M_lies rfl) mk_M_more ⟨rfl, by decide, rfl, rfl, rfl, Nat.le_of_ble_eq_true rfl, Nat.le_of_ble_eq_true rfl⟩ (fun _ h => e_more h) ?_
      rw [eH]
      refine Ex_step (tk_M_lies rfl) ⟨fun h26 => ?_, fun h26 => ?_⟩
      · try simp (disch := omega) only [cmpI, w32_b2i, b2i_0, b2i_1, w32_id, Classical.not_not, not_true_eq_false, not_false_eq_true] at h26
        refine Ex_step (tk_M_lies rfl) ⟨rfl, ?_⟩
        exact h
      · try simp (disch := omega) only [cmpI, w32_b2i, b2i_0, b2i_1, w32_id, Classical.not_not, not_true_eq_false, not_false_eq_true] at h26
        omega
    | succ r ih =>
      intro k l4 l5 l6 l7 l8 l9 l10 l11 hk
      have h176 : ∀ l4 l5 l6 l7 l8 l9 l10 l11 : Option AV, Ex (d + 1) M_lies 176 [some (vR aM), some (vI dx), some (vI dy), some (vI (lo + (k : Int))), l4, l5, l6, l7, l8, l9, l10, l11] [] (MS m (F2 22 23 I (sI (smR T a b t dx dy) lo k + smR T a b t dx dy (lo + (k : Int))) (sI (ulR T a b t dx dy) lo k + ulR T a b t dx dy (lo + (k : Int)))) A L) Q := by
        intro l4 l5 l6 l7 l8 l9 l10 l11
        have hnx := ih (k + 1) l4 l5 l6 l7 l8 l9 l10 l11 (by omega)
        rw [show lo + ((k + 1 : Nat) : Int) = lo + (k : Int) + 1 by omega] at hnx
        refine Ex_step (tk_M_lies rfl) ?_
        refine Ex_step (tk_M_lies rfl) ?_
        exact hnx
      refine Ex_step (tk_M_lies rfl) ?_
      refine Ex_step (tk_M_lies rfl) ?_
      refine Ex_step (tk_M_lies rfl) ?_
      refine Ex_step (tk_M_lies rfl) ?_
      refine Ex_step (tk_M_lies rfl) ?_
      refine Ex_cS0 (av := [vI 10, vI (dy + 10)]) (tk_M_lies rfl) mk_M_more ⟨rfl, by decide, rfl, rfl, rfl, Nat.le_of_ble_eq_true rfl, Nat.le_of_ble_eq_true rfl⟩ (fun _ h => e_more h) ?_
      rw [eH]
      refine Ex_step (tk_M_lies rfl) ⟨fun h26 => ?_, fun h26 => ?_⟩
      · try simp (disch := omega) only [cmpI, w32_b2i, b2i_0, b2i_1, w32_id, Classical.not_not, not_true_eq_false, not_false_eq_true] at h26
        omega
      · try simp (disch := omega) only [cmpI, w32_b2i, b2i_0, b2i_1, w32_id, Classical.not_not, not_true_eq_false, not_false_eq_true] at h26
        exact f_lieR hM hWa hWb hdx hdy b1 b2 b3 b4 (by omega) h176
  have h16 := hloop N 0 none none none none none none none none (by omega)
  rw [show lo + ((0 : Nat) : Int) = lo by omega] at h16
  have e0 : F2 22 23 I (sI (smR T a b t dx dy) lo 0) (sI (ulR T a b t dx dy) lo 0) = up1 (up1 I 22 0) 23 0 := (F2_up (by decide) I 0 0).symm
  rw [e0] at h16
  refine Ex_step (tk_M_lies rfl) ?_
  refine Ex_step (tk_M_lies rfl) ?_
  refine pMI (tk_M_lies rfl) hM ?_
  refine Ex_step (tk_M_lies rfl) ?_
  refine Ex_step (tk_M_lies rfl) ?_
  refine pMI (tk_M_lies rfl) hM ?_
  refine Ex_step (tk_M_lies rfl) ?_
  refine Ex_step (tk_M_lies rfl) ?_
  refine Ex_cS0 (av := [vI 0, vI dy]) (tk_M_lies rfl) mk_M_less ⟨rfl, by decide, rfl, rfl, rfl, Nat.le_of_ble_eq_true rfl, Nat.le_of_ble_eq_true rfl⟩ (fun _ h => e_less h) ?_
  rw [eL]
  refine Ex_step (tk_M_lies rfl) ?_
  exact h16
end MLies2
