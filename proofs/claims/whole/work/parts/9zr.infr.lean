/-! ===== the class: new, prior, infringed ===== -/
set_option maxRecDepth 100000 in
theorem askS_b {T : Nat → Int} {nn a b : Nat} (hN : NowW T nn) (ha : a < nn) (hb : b < nn) : ∀ k, k < 5 → -1000000 ≤ askS T nn a b k ∧ askS T nn a b k ≤ 1000000 := by
  have hn6 := hN.1
  have hWa := hN.2.2.2 a ha
  have hWb := hN.2.2.2 b hb
  have hB := bestS_B (T := T) (a := a) (b := b)
  have hB0 := bestS_nn hWa hWb
  have hPB := prS_B hN ha nn (Nat.le_refl _)
  have hw := hWa.2.1
  have hh := hWa.2.2.1
  have p1 : 1 ≤ T (bD a + 1) * T (bD a + 2) := Int.mul_pos (by omega) (by omega)
  have n0 := cntS_b hWa 0
  have n1 := cntS_b hWa 1
  have n2 := cntS_b hWb 1
  have n3 := cntS_b hWb 3
  have da := hWa.1
  have db := hWb.1
  obtain ⟨⟨w1, w2⟩, w3, w4, w5⟩ := hB
  obtain ⟨⟨v1, v2⟩, ⟨v3, v4⟩, ⟨v5, v6⟩, v7⟩ := hPB
  have d0 := div_b (x := 1000 * (bestS T a b).1) (y := (bestS T a b).2.1) (by omega) w3
  have d1 := div_b (x := 1000 * (cntS T a 0 + cntS T a 1)) (y := T (bD a + 1) * T (bD a + 2)) (by omega) p1
  have d2 := div_b (x := 1000 * (prS T a nn).1) (y := (prS T a nn).2.1) (by omega) v3
  intro k hk
  rcases (show k = 0 ∨ k = 1 ∨ k = 2 ∨ k = 3 ∨ k = 4 by omega) with rfl | rfl | rfl | rfl | rfl
  · show -1000000 ≤ 1000 * (bestS T a b).1 / (bestS T a b).2.1 ∧ 1000 * (bestS T a b).1 / (bestS T a b).2.1 ≤ 1000000
    omega
  · show -1000000 ≤ 1000 * (cntS T a 0 + cntS T a 1) / (T (bD a + 1) * T (bD a + 2)) ∧ 1000 * (cntS T a 0 + cntS T a 1) / (T (bD a + 1) * T (bD a + 2)) ≤ 1000000
    omega
  · show -1000000 ≤ 1000 * (prS T a nn).1 / (prS T a nn).2.1 ∧ 1000 * (prS T a nn).1 / (prS T a nn).2.1 ≤ 1000000
    omega
  · show -1000000 ≤ cntS T b 1 + cntS T b 3 ∧ cntS T b 1 + cntS T b 3 ≤ 1000000
    omega
  · show -1000000 ≤ T (bD b) - T (bD a) ∧ T (bD b) - T (bD a) ≤ 1000000
    omega
set_option maxRecDepth 100000 in
theorem thou_eq {r1 r2 : Int} {s al : Nat} (e1 : r1 = (s : Int)) (e2 : (s = 0 ∧ 1 ≤ r2) ∨ r2 = (al : Int)) : 1000 * (s : Int) / (al : Int) = 1000 * r1 / r2 := by
  subst e1
  rcases e2 with ⟨q, _⟩ | q
  · subst q
    simp
  · rw [q]
/-- the rule of the class, the rule of the reference -/
def RuX (m : Mem) (A : Nat → Nat → Int) (u : Nat) (ru : Option (List Tok)) : Prop := u = 0 ∧ ru = none ∨ (387 ≤ u ∧ u + 1 < 100 + mN m ∧ ∃ ts : List Tok, ru = some ts ∧ RuW m u ts.length ∧ ts.length < 800 ∧ encC (A (u + 1)) 0 ts ∧ wft ts [])
set_option maxRecDepth 100000 in
theorem RuC.x {m : Mem} {A : Nat → Nat → Int} {u : Nat} {T : Nat → Int} (h : RuC m A u T) : ∃ ru, RulT T ru ∧ RuX m A u ru := by
  rcases h with ⟨h1, h2⟩ | ⟨h1, h2, h3, ts, h4, h5, h6, h7, h8⟩
  · exact ⟨none, h2, Or.inl ⟨h1, rfl⟩⟩
  · exact ⟨some ts, ⟨h3, h7, h8⟩, Or.inr ⟨h1, h2, ts, rfl, h4, h5, h6, h8⟩⟩
section Infr
variable {d : Nat} {m : Mem} {F A L F' A' L' : Nat → Nat → Int} {I : Nat → Int} {R : Nat → Nat → Int} {kb kd : Nat} {P : Nat → Nat} {ds : Nat → Nat → Nat} {nn b tp : Nat} {Q : Nat → Option AV → Mem → Prop} {a bb : Nat}
set_option maxRecDepth 100000 in
/-- rows of the class's own scratch change -/
theorem DK.sc (h : DK m F A L I R kb kd P ds nn b tp) (hA : ∀ j, j < 353 ∨ 362 ≤ j → A' j = A j) (hF : ∀ f j, j < 353 ∨ 362 ≤ j → F' f j = F f j) : DK m F' A' L' I R kb kd P ds nn b tp :=
  h.fr ⟨SAm.rf m, fun _ _ _ _ _ _ => rfl, fun _ _ => rfl, fun j q1 q2 => ⟨rfl, hA j (Or.inr (by omega))⟩, fun f j q _ => hF f j (Or.inl (by omega)), ⟨hF _ _ (Or.inl (by decide)), hF _ _ (Or.inl (by decide))⟩, fun j q => hA j (Or.inl (by omega))⟩ ((hF 707 100 (Or.inl (by decide))).trans h.f707) ((hF 708 100 (Or.inl (by decide))).trans h.f708) (h.kn.k h.now.1 (fun f j y1 y2 => hF f j (Or.inl (by omega)))) (fun _ _ => rfl) (fun _ _ _ => rfl)
set_option maxRecDepth 100000 in
theorem d_isNew (h : DK m F A L I R kb kd P ds nn b tp) (ha : a < nn) (hk : KA F a nn) (hq : Q 0 (some (vI (b2i ((prS (R 3) a nn).1 < (prS (R 3) a nn).2.1)))) (CM m F A L)) : Ex (d + 4) DD_isNew 0 [some (vR 100), some (vI (a : Int)), none] [] (CM m F A L) Q := by
  have hk11 := h.w.k100
  have hr713 := h.w.r713
  have hk5 := h.w.ov.1
  have hn6 := h.now.1
  have hmb := fun (Q1 : Nat → Option AV → Mem → Prop) => d_mab (d := d) (Q := Q1) h ha hk
  rcases prS_form (T := R 3) (a := a) nn with z | ⟨f, z1, z2, z3⟩
  · rw [z] at hq hmb
    have hq : Q 0 (some (vI 1)) (CM m F A L) := hq
    refine Ex_step (tk_DD_isNew rfl) ?_
    refine Ex_step (tk_DD_isNew rfl) ?_
    refine Ex_cV0 (av := [vI (a : Int)]) (tk_DD_isNew rfl) mk_DD_mostAlikeBefore ⟨rfl, rfl, by decide, rfl, Nat.le_of_ble_eq_true rfl, Nat.le_of_ble_eq_true rfl⟩ (hk11) (fun _ h => hmb _ h) ?_
    refine Ex_step (tk_DD_isNew rfl) ?_
    refine Ex_step (tk_DD_isNew rfl) ?_
    refine Ex_step (tk_DD_isNew rfl) ?_
    refine Ex_step (tk_DD_isNew rfl) ⟨fun h8 => ?_, fun h8 => ?_⟩
    · replace h8 : _ := h8
      refine Ex_step (tk_DD_isNew rfl) ?_
      refine Ex_step (tk_DD_isNew rfl) ?_
      refine Ex_step (tk_DD_isNew rfl) ⟨rfl, by first | exact Or.inl rfl | exact Or.inr rfl | exact b2i_01 _ | assumption, ?_⟩
      exact hq
    · replace h8 : _ := h8
      exact absurd rfl h8
  · rw [z3] at hq hmb
    obtain ⟨d1, d2, d3⟩ := h.bst ha z1 z2 hk
    obtain ⟨so, ao, u1, u2, u3, u4, u5, u6, u7, u8⟩ := crf_v d1 d2
    have hB := bestS_B (T := R 3) (a := a) (b := f)
    have hw := fun (Q1 : Nat → Option AV → Mem → Prop) => c_isWhole (d := d + 3) (A := A) (L := L) (Q := Q1) d3 u1 u2 (by omega) (by omega)
    have hb2 := fun (Q1 : Nat → Option AV → Mem → Prop) => c_bestOf (d := d + 3) (F := F) (A := A) (L := L) (Q := Q1) (a := a) (b := f) h.w.ov (by omega) (by omega)
    have hyes : (so : Int) ≠ (ao : Int) → Q 0 (some (vI 1)) (CM m F A L) := fun w => by
      rw [show b2i ((bestS (R 3) a f).1 < (bestS (R 3) a f).2.1) = 1 from if_pos (by have := hB.2.2.2; omega)] at hq
      exact hq
    have hno : (so : Int) = (ao : Int) → Q 0 (some (vI 0)) (CM m F A L) := fun w => by
      rw [show b2i ((bestS (R 3) a f).1 < (bestS (R 3) a f).2.1) = 0 from if_neg (by omega)] at hq
      exact hq
    refine Ex_step (tk_DD_isNew rfl) ?_
    refine Ex_step (tk_DD_isNew rfl) ?_
    refine Ex_cV0 (av := [vI (a : Int)]) (tk_DD_isNew rfl) mk_DD_mostAlikeBefore ⟨rfl, rfl, by decide, rfl, Nat.le_of_ble_eq_true rfl, Nat.le_of_ble_eq_true rfl⟩ (hk11) (fun _ h => hmb _ h) ?_
    refine Ex_step (tk_DD_isNew rfl) ?_
    refine Ex_step (tk_DD_isNew rfl) ?_
    refine Ex_step (tk_DD_isNew rfl) ?_
    refine Ex_step (tk_DD_isNew rfl) ⟨fun h8 => ?_, fun h8 => ?_⟩
    · try simp (disch := omega) only [cmpI, w32_b2i, b2i_0, b2i_1, w32_id, Classical.not_not, not_true_eq_false, not_false_eq_true] at h8
      first | omega | exact Ex_step (tk_DD_isNew rfl) (Ex_step (tk_DD_isNew rfl) (Ex_step (tk_DD_isNew rfl) ⟨rfl, Or.inr rfl, hyes (by omega)⟩))
    · try simp (disch := omega) only [cmpI, w32_b2i, b2i_0, b2i_1, w32_id, Classical.not_not, not_true_eq_false, not_false_eq_true] at h8
      refine Ex_step (tk_DD_isNew rfl) ?_
      refine gCR (tk_DD_isNew rfl) (hk11) (hr713) ?_
      refine Ex_step (tk_DD_isNew rfl) ?_
      refine Ex_step (tk_DD_isNew rfl) ?_
      refine Ex_cV0 (av := [vI (a : Int), vI (f : Int)]) (tk_DD_isNew rfl) mk_Ov_bestOf ⟨rfl, rfl, by decide, rfl, Nat.le_of_ble_eq_true rfl, Nat.le_of_ble_eq_true rfl⟩ (hk5) (fun _ h => hb2 _ h) ?_
      refine Ex_cV0 (av := []) (tk_DD_isNew rfl) mk_Best_isWhole ⟨rfl, rfl, by decide, rfl, Nat.le_of_ble_eq_true rfl, Nat.le_of_ble_eq_true rfl⟩ (d3) (fun _ h => hw _ h) ?_
      refine Ex_step (tk_DD_isNew rfl) ⟨fun h23 => ?_, fun h23 => ?_⟩
      · try simp (disch := omega) only [cmpI, w32_b2i, b2i_0, b2i_1, w32_id, Classical.not_not, not_true_eq_false, not_false_eq_true] at h23
        refine Ex_step (tk_DD_isNew rfl) ?_
        refine Ex_step (tk_DD_isNew rfl) ⟨rfl, by first | exact Or.inl rfl | exact Or.inr rfl | exact b2i_01 _ | assumption, ?_⟩
        first | exact hno (by omega) | exact hyes (by omega)
      · try simp (disch := omega) only [cmpI, w32_b2i, b2i_0, b2i_1, w32_id, Classical.not_not, not_true_eq_false, not_false_eq_true] at h23
        first | omega | exact Ex_step (tk_DD_isNew rfl) (Ex_step (tk_DD_isNew rfl) (Ex_step (tk_DD_isNew rfl) ⟨rfl, Or.inr rfl, hyes (by omega)⟩))
set_option maxRecDepth 100000 in
theorem d_priTh (h : DK m F A L I R kb kd P ds nn b tp) (ha : a < nn) (hk : KA F a nn) (hq : Q 0 (some (vI (1000 * (prS (R 3) a nn).1 / (prS (R 3) a nn).2.1))) (CM m F A L)) : Ex (d + 4) DD_priorThousandths 0 [some (vR 100), some (vI (a : Int)), none] [] (CM m F A L) Q := by
  have hk11 := h.w.k100
  have hr713 := h.w.r713
  have hk5 := h.w.ov.1
  have hn6 := h.now.1
  have hmb := fun (Q1 : Nat → Option AV → Mem → Prop) => d_mab (d := d) (Q := Q1) h ha hk
  rcases prS_form (T := R 3) (a := a) nn with z | ⟨f, z1, z2, z3⟩
  · rw [z] at hq hmb
    have hq : Q 0 (some (vI 0)) (CM m F A L) := hq
    refine Ex_step (tk_DD_priorThousandths rfl) ?_
    refine Ex_step (tk_DD_priorThousandths rfl) ?_
    refine Ex_cV0 (av := [vI (a : Int)]) (tk_DD_priorThousandths rfl) mk_DD_mostAlikeBefore ⟨rfl, rfl, by decide, rfl, Nat.le_of_ble_eq_true rfl, Nat.le_of_ble_eq_true rfl⟩ (hk11) (fun _ h => hmb _ h) ?_
    refine Ex_step (tk_DD_priorThousandths rfl) ?_
    refine Ex_step (tk_DD_priorThousandths rfl) ?_
    refine Ex_step (tk_DD_priorThousandths rfl) ?_
    refine Ex_step (tk_DD_priorThousandths rfl) ⟨fun h8 => ?_, fun h8 => ?_⟩
    · replace h8 : _ := h8
      exact absurd rfl h8
    · replace h8 : _ := h8
      refine Ex_step (tk_DD_priorThousandths rfl) ?_
      refine Ex_step (tk_DD_priorThousandths rfl) ?_
      refine Ex_step (tk_DD_priorThousandths rfl) ⟨rfl, ?_⟩
      exact hq
  · rw [z3] at hq hmb
    obtain ⟨d1, d2, d3⟩ := h.bst ha z1 z2 hk
    obtain ⟨so, ao, u1, u2, u3, u4, u5, u6, u7, u8⟩ := crf_v d1 d2
    have hth := fun (Q1 : Nat → Option AV → Mem → Prop) => c_thou (d := d + 3) (A := A) (L := L) (Q := Q1) d3 u1 u2 (by omega) (by omega)
    have hb2 := fun (Q1 : Nat → Option AV → Mem → Prop) => c_bestOf (d := d + 3) (F := F) (A := A) (L := L) (Q := Q1) (a := a) (b := f) h.w.ov (by omega) (by omega)
    rw [← thou_eq u7 u8] at hq
    refine Ex_step (tk_DD_priorThousandths rfl) ?_
    refine Ex_step (tk_DD_priorThousandths rfl) ?_
    refine Ex_cV0 (av := [vI (a : Int)]) (tk_DD_priorThousandths rfl) mk_DD_mostAlikeBefore ⟨rfl, rfl, by decide, rfl, Nat.le_of_ble_eq_true rfl, Nat.le_of_ble_eq_true rfl⟩ (hk11) (fun _ h => hmb _ h) ?_
    refine Ex_step (tk_DD_priorThousandths rfl) ?_
    refine Ex_step (tk_DD_priorThousandths rfl) ?_
    refine Ex_step (tk_DD_priorThousandths rfl) ?_
    refine Ex_step (tk_DD_priorThousandths rfl) ⟨fun h8 => ?_, fun h8 => ?_⟩
    · try simp (disch := omega) only [cmpI, w32_b2i, b2i_0, b2i_1, w32_id, Classical.not_not, not_true_eq_false, not_false_eq_true] at h8
      refine Ex_step (tk_DD_priorThousandths rfl) ?_
      refine gCR (tk_DD_priorThousandths rfl) (hk11) (hr713) ?_
      refine Ex_step (tk_DD_priorThousandths rfl) ?_
      refine Ex_step (tk_DD_priorThousandths rfl) ?_
      refine Ex_cV0 (av := [vI (a : Int), vI (f : Int)]) (tk_DD_priorThousandths rfl) mk_Ov_bestOf ⟨rfl, rfl, by decide, rfl, Nat.le_of_ble_eq_true rfl, Nat.le_of_ble_eq_true rfl⟩ (hk5) (fun _ h => hb2 _ h) ?_
      refine Ex_cV0 (av := []) (tk_DD_priorThousandths rfl) mk_Best_thousandths ⟨rfl, rfl, by decide, rfl, Nat.le_of_ble_eq_true rfl, Nat.le_of_ble_eq_true rfl⟩ (d3) (fun _ h => hth _ h) ?_
      refine Ex_step (tk_DD_priorThousandths rfl) ⟨rfl, ?_⟩
      exact hq
    · try simp (disch := omega) only [cmpI, w32_b2i, b2i_0, b2i_1, w32_id, Classical.not_not, not_true_eq_false, not_false_eq_true] at h8
      omega
set_option maxRecDepth 100000 in
theorem d_holds {u p s : Nat} {ts : List Tok} (hU : RuW m u ts.length) (hn : ts.length ≤ 800) (hP : IA m p 5) (hS : LA m s 32) (hb : ∀ i, i < 5 → -1000000 ≤ A p i ∧ A p i ≤ 1000000) (hE : encC (A (u + 1)) 0 ts) (hw : wft ts []) (hq : ∀ L' : Nat → Nat → Int, (∀ j, j ≠ s → L' j = L j) → Q 0 (some (vI (b2i (evT (fun k => A p k.toNat) ts [] = [1])))) (CM m F A L')) : Ex (d + 2) Rule_holds 0 [some (vR u), some (vR p), some (vR s), none, none, none] [] (CM m F A L) Q := by
  have z := c_holds (d := d) (F := F) (L := L) (Q := Q) hU hn hP hS hb ts [] [] 0 L none (by omega) hE hw trivial trivial (by decide) (fun _ _ => rfl) hq
  refine Ex_step (tk_Rule_holds rfl) ?_
  refine Ex_step (tk_Rule_holds rfl) ?_
  refine Ex_step (tk_Rule_holds rfl) ?_
  refine Ex_step (tk_Rule_holds rfl) ?_
  exact z
set_option maxRecDepth 100000 in
theorem d_isInf {ru : Option (List Tok)} (h : DK m F A L I R kb kd P ds nn b tp) (ha : a < nn) (hb : bb < nn) (hab : bb ≠ a) (hk : KA F a nn) (hX : RuX m A (mFR m 130 kb) ru) (hq : ∀ A' L' : Nat → Nat → Int, (∀ j, j ≠ 359 → A' j = A j) → (∀ j, j ≠ 360 → L' j = L j) → Q 0 (some (vI (b2i (infB (R 3) ru nn a bb = true)))) (CM m F A' L')) : Ex (d + 5) DD_isInfringed 0 [some (vR 100), some (vI (a : Int)), some (vI (bb : Int)), none, none, none, none] [] (CM m F A L) Q := by
  have hk11 := h.w.k100
  have hr709 := h.y.r709
  have hr713 := h.w.r713
  have hr715 := h.w.r715
  have hr716 := h.w.r716
  have hk5 := h.w.ov.1
  have hBW := h.y.bw h.w h.y.ib
  have hk2 := hBW.1
  have hr128 := hBW.2.1
  have hN := h.now
  have hn6 := hN.1
  obtain ⟨c1, c2, c3⟩ := h.bst ha hb hab hk
  obtain ⟨s, al, v1, v2, v3, v4, v5, v6, v7, v8⟩ := crf_v c1 c2
  have hth := fun (Q1 : Nat → Option AV → Mem → Prop) => c_thou (d := d + 4) (A := A) (L := L) (Q := Q1) c3 v1 v2 (by omega) (by omega)
  have hb1 := fun (Q1 : Nat → Option AV → Mem → Prop) => c_bestOf (d := d + 4) (F := F) (A := A) (L := L) (Q := Q1) (a := a) (b := bb) h.w.ov (by omega) (by omega)
  rw [show 1000 * (s : Int) / (al : Int) = askS (R 3) nn a bb 0 from thou_eq v7 v8] at hth
  have hb5 := askS_b hN ha hb
  have hb0 := hb5 0 (by decide)
  rcases hX with ⟨hu, rfl⟩ | ⟨hu1, hu2, ts, rfl, hU, hts, hE, hwf⟩
  · have hq := hq A L (fun _ _ => rfl) (fun _ _ => rfl)
    have e : b2i (infB (R 3) none nn a bb = true) = b2i (700 < askS (R 3) nn a bb 0) := b2i_congr decide_eq_true_iff
    rw [e] at hq
    have hyes : 700 < askS (R 3) nn a bb 0 → Q 0 (some (vI 1)) (CM m F A L) := fun w => by rw [show b2i (700 < askS (R 3) nn a bb 0) = 1 from if_pos w] at hq; exact hq
    have hno : ¬ 700 < askS (R 3) nn a bb 0 → Q 0 (some (vI 0)) (CM m F A L) := fun w => by rw [show b2i (700 < askS (R 3) nn a bb 0) = 0 from if_neg w] at hq; exact hq
    refine Ex_step (tk_DD_isInfringed rfl) ?_
    refine gCR (tk_DD_isInfringed rfl) (hk11) (hr713) ?_
    refine Ex_step (tk_DD_isInfringed rfl) ?_
    refine Ex_step (tk_DD_isInfringed rfl) ?_
    refine Ex_cV0 (av := [vI (a : Int), vI (bb : Int)]) (tk_DD_isInfringed rfl) mk_Ov_bestOf ⟨rfl, rfl, by decide, rfl, Nat.le_of_ble_eq_true rfl, Nat.le_of_ble_eq_true rfl⟩ (hk5) (fun _ h => hb1 _ h) ?_
    refine Ex_cV0 (av := []) (tk_DD_isInfringed rfl) mk_Best_thousandths ⟨rfl, rfl, by decide, rfl, Nat.le_of_ble_eq_true rfl, Nat.le_of_ble_eq_true rfl⟩ (c3) (fun _ h => hth _ h) ?_
    refine Ex_step (tk_DD_isInfringed rfl) ?_
    refine Ex_step (tk_DD_isInfringed rfl) ?_
    refine gCR (tk_DD_isInfringed rfl) (hk11) (hr709) ?_
    refine gCR (tk_DD_isInfringed rfl) (hk2) (hu) ?_
    refine Ex_step (tk_DD_isInfringed rfl) ?_
    refine Ex_step (tk_DD_isInfringed rfl) ?_
    refine Ex_step (tk_DD_isInfringed rfl) ⟨by decide, fun h24 => ?_, fun h24 => ?_⟩
    · exact absurd rfl h24
    · refine Ex_step (tk_DD_isInfringed rfl) ?_
      refine Ex_step (tk_DD_isInfringed rfl) ?_
      refine Ex_step (tk_DD_isInfringed rfl) ⟨fun h31 => ?_, fun h31 => ?_⟩
      · try simp (disch := omega) only [cmpI, w32_b2i, b2i_0, b2i_1, w32_id, Classical.not_not, not_true_eq_false, not_false_eq_true] at h31
        refine Ex_step (tk_DD_isInfringed rfl) ?_
        refine Ex_step (tk_DD_isInfringed rfl) ⟨rfl, by first | exact Or.inl rfl | exact Or.inr rfl | exact b2i_01 _ | assumption, ?_⟩
        first | exact hno (by omega) | exact hyes (by omega)
      · try simp (disch := omega) only [cmpI, w32_b2i, b2i_0, b2i_1, w32_id, Classical.not_not, not_true_eq_false, not_false_eq_true] at h31
        refine Ex_step (tk_DD_isInfringed rfl) ?_
        refine Ex_step (tk_DD_isInfringed rfl) ?_
        refine Ex_step (tk_DD_isInfringed rfl) ⟨rfl, by first | exact Or.inl rfl | exact Or.inr rfl | exact b2i_01 _ | assumption, ?_⟩
        first | exact hno (by omega) | exact hyes (by omega)
  · have hWa := hN.2.2.2 a ha
    have hWb := hN.2.2.2 bb hb
    have ga := h.bk.2 a ha
    have gb := h.bk.2 bb hb
    have hDa := (hBW.2.2.2.2 a (by omega)).2
    have hDb := (hBW.2.2.2.2 bb (by omega)).2
    have hda := hDa.1
    have hdb := hDb.1
    have hdd := h.y.bd h.y.ib
    have hda2 := hdd.1 a (by omega)
    have hdb2 := hdd.1 bb (by omega)
    have ob := isBk_out h.y.ib
    have hku : mK m (mFR m 130 kb) = 6 := hU.1
    have hDG : ∀ (A' : Nat → Nat → Int), (∀ j, j ≠ 359 → A' j = A j) → ∀ i, i < nn → DG F A' (ds kb i) (R 3 (bD i + 1)) (R 3 (bD i + 2)) (srt (R 3) i) := fun A' kA i hi => by
      have g := (h.bk.2 i hi).2
      have hx := hdd.1 i (by omega)
      exact ⟨g.1, g.2.1, fun y hy j hj => by rw [kA _ (by omega), kA _ (by omega)]; exact g.2.2 y hy j hj⟩
    have e5 : askS (R 3) nn a bb 4 = R 3 (bD bb) - R 3 (bD a) := rfl
    have e4 : askS (R 3) nn a bb 3 = cntS (R 3) bb 1 + cntS (R 3) bb 3 := rfl
    have e3 : askS (R 3) nn a bb 2 = 1000 * (prS (R 3) a nn).1 / (prS (R 3) a nn).2.1 := rfl
    have e2 : askS (R 3) nn a bb 1 = 1000 * (cntS (R 3) a 0 + cntS (R 3) a 1) / (R 3 (bD a + 1) * R 3 (bD a + 2)) := rfl
    have z110 : ∀ A' : Nat → Nat → Int, (∀ j, j ≠ 359 → A' j = A j) → A' 359 0 = askS (R 3) nn a bb 0 → A' 359 1 = askS (R 3) nn a bb 1 → A' 359 2 = askS (R 3) nn a bb 2 → A' 359 3 = askS (R 3) nn a bb 3 → Ex (d + 5) DD_isInfringed 110 [some (vR 100), some (vI (a : Int)), some (vI (bb : Int)), some (vI (askS (R 3) nn a bb 0)), some (vR (mFR m 130 kb)), some (vR (ds kb a)), some (vR (ds kb bb))] [] (CM m F A' L) Q := by
      intro A' kA f0 f1 f2 f3
      have hall : ∀ i, i < 5 → up1 A' 359 (up1 (A' 359) 4 (R 3 (bD bb) - R 3 (bD a))) 359 i = askS (R 3) nn a bb i := by
        intro i hi
        rw [up1_at]
        rcases (show i = 0 ∨ i = 1 ∨ i = 2 ∨ i = 3 ∨ i = 4 by omega) with rfl | rfl | rfl | rfl | rfl
        · rw [up1_ne _ _ (by decide)]; exact f0
        · rw [up1_ne _ _ (by decide)]; exact f1
        · rw [up1_ne _ _ (by decide)]; exact f2
        · rw [up1_ne _ _ (by decide)]; exact f3
        · rw [up1_at]; rfl
      have kA2 : ∀ j, j ≠ 359 → up1 A' 359 (up1 (A' 359) 4 (R 3 (bD bb) - R 3 (bD a))) j = A j := fun j q => (up1_ne _ _ q).trans (kA j q)
      generalize hA2e : up1 A' 359 (up1 (A' 359) 4 (R 3 (bD bb) - R 3 (bD a))) = A2 at *
      have hho := fun (Q1 : Nat → Option AV → Mem → Prop) => d_holds (d := d + 2) (F := F) (A := A2) (L := L) (Q := Q1) hU (by omega) h.w.facts h.w.stack (fun i hi => by rw [hall i hi]; exact hb5 i hi) (by rw [kA2 _ (by omega)]; exact hE) hwf
      have e9 : b2i (infB (R 3) (some ts) nn a bb = true) = b2i (evT (fun k => A2 359 k.toNat) ts [] = [1]) := by
        refine b2i_congr ?_
        rw [evT_c (ask := fun k => A2 359 k.toNat) (ask2 := fun k => askS (R 3) nn a bb k.toNat) (fun k q1 q2 => hall k.toNat (by omega)) ts [] [] hwf]
        exact decide_eq_true_iff
      rw [e9] at hq
      refine Ex_step (tk_DD_isInfringed rfl) ?_
      refine gCR (tk_DD_isInfringed rfl) (hk11) (hr715) ?_
      refine Ex_step (tk_DD_isInfringed rfl) ?_
      refine Ex_step (tk_DD_isInfringed rfl) ?_
      refine gCI (tk_DD_isInfringed rfl) (hdb) ?_
      rw [gb.1]
      refine Ex_step (tk_DD_isInfringed rfl) ?_
      refine gCI (tk_DD_isInfringed rfl) (hda) ?_
      rw [ga.1]
      refine Ex_step (tk_DD_isInfringed rfl) ?_
      refine tCI (n := 4) (tk_DD_isInfringed rfl) (h.w.facts) (rfl) (by decide) ?_
      rw [hA2e]
      refine Ex_step (tk_DD_isInfringed rfl) ?_
      refine Ex_step (tk_DD_isInfringed rfl) ?_
      refine gCR (tk_DD_isInfringed rfl) (hk11) (hr715) ?_
      refine Ex_step (tk_DD_isInfringed rfl) ?_
      refine gCR (tk_DD_isInfringed rfl) (hk11) (hr716) ?_
      refine Ex_cVK (av := [vR 359, vR 360]) (tk_DD_isInfringed rfl) mk_Rule_holds ⟨rfl, rfl, by decide, rfl, Nat.le_of_ble_eq_true rfl, Nat.le_of_ble_eq_true rfl⟩ (hku) (hho _ (fun L2 kL => ⟨rfl, ?_⟩))
      refine Ex_step (tk_DD_isInfringed rfl) ⟨rfl, by first | exact Or.inl rfl | exact Or.inr rfl | exact b2i_01 _ | assumption, ?_⟩
      exact hq A2 L2 kA2 kL
    have z91 : ∀ A' : Nat → Nat → Int, (∀ j, j ≠ 359 → A' j = A j) → A' 359 0 = askS (R 3) nn a bb 0 → A' 359 1 = askS (R 3) nn a bb 1 → A' 359 2 = askS (R 3) nn a bb 2 → Ex (d + 5) DD_isInfringed 91 [some (vR 100), some (vI (a : Int)), some (vI (bb : Int)), some (vI (askS (R 3) nn a bb 0)), some (vR (mFR m 130 kb)), some (vR (ds kb a)), some (vR (ds kb bb))] [] (CM m F A' L) Q := by
      intro A' kA f0 f1 f2
      have hc1 := fun (Q1 : Nat → Option AV → Mem → Prop) => c_countOf (d := d + 2) (L := L) (Q := Q1) (so := 1) hDb (hDG A' kA bb hb) hWb (by omega)
      have hc3 := fun (Q1 : Nat → Option AV → Mem → Prop) => c_countOf (d := d + 2) (L := L) (Q := Q1) (so := 3) hDb (hDG A' kA bb hb) hWb (by omega)
      have z := z110 (up1 A' 359 (up1 (A' 359) 3 (cntS (R 3) bb 1 + cntS (R 3) bb 3))) (fun j q => (up1_ne _ _ q).trans (kA j q)) (by rw [up1_at, up1_ne _ _ (by decide)]; exact f0) (by rw [up1_at, up1_ne _ _ (by decide)]; exact f1) (by rw [up1_at, up1_ne _ _ (by decide)]; exact f2) (by rw [up1_at, up1_at]; rfl)
      refine Ex_step (tk_DD_isInfringed rfl) ?_
      refine gCR (tk_DD_isInfringed rfl) (hk11) (hr715) ?_
      refine Ex_step (tk_DD_isInfringed rfl) ?_
      refine Ex_step (tk_DD_isInfringed rfl) ?_
      refine Ex_step (tk_DD_isInfringed rfl) ?_
      refine Ex_cV0 (av := [vI 1]) (tk_DD_isInfringed rfl) mk_Des_countOfSort ⟨rfl, rfl, by decide, rfl, Nat.le_of_ble_eq_true rfl, Nat.le_of_ble_eq_true rfl⟩ (hdb) (fun _ h => hc1 _ h) ?_
      refine Ex_step (tk_DD_isInfringed rfl) ?_
      refine Ex_step (tk_DD_isInfringed rfl) ?_
      refine Ex_cV0 (av := [vI 3]) (tk_DD_isInfringed rfl) mk_Des_countOfSort ⟨rfl, rfl, by decide, rfl, Nat.le_of_ble_eq_true rfl, Nat.le_of_ble_eq_true rfl⟩ (hdb) (fun _ h => hc3 _ h) ?_
      refine Ex_step (tk_DD_isInfringed rfl) ?_
      refine tCI (n := 3) (tk_DD_isInfringed rfl) (h.w.facts) (rfl) (by decide) ?_
      exact z
    have z80 : ∀ A' : Nat → Nat → Int, (∀ j, j ≠ 359 → A' j = A j) → A' 359 0 = askS (R 3) nn a bb 0 → A' 359 1 = askS (R 3) nn a bb 1 → Ex (d + 5) DD_isInfringed 80 [some (vR 100), some (vI (a : Int)), some (vI (bb : Int)), some (vI (askS (R 3) nn a bb 0)), some (vR (mFR m 130 kb)), some (vR (ds kb a)), some (vR (ds kb bb))] [] (CM m F A' L) Q := by
      intro A' kA f0 f1
      have hpt := fun (Q1 : Nat → Option AV → Mem → Prop) => d_priTh (d := d) (Q := Q1) (h.sc (A' := A') (L' := L) (F' := F) (fun j q => kA j (by omega)) (fun _ _ _ => rfl)) ha hk
      have z := z91 (up1 A' 359 (up1 (A' 359) 2 (1000 * (prS (R 3) a nn).1 / (prS (R 3) a nn).2.1))) (fun j q => (up1_ne _ _ q).trans (kA j q)) (by rw [up1_at, up1_ne _ _ (by decide)]; exact f0) (by rw [up1_at, up1_ne _ _ (by decide)]; exact f1) (by rw [up1_at, up1_at]; rfl)
      refine Ex_step (tk_DD_isInfringed rfl) ?_
      refine gCR (tk_DD_isInfringed rfl) (hk11) (hr715) ?_
      refine Ex_step (tk_DD_isInfringed rfl) ?_
      refine Ex_step (tk_DD_isInfringed rfl) ?_
      refine Ex_step (tk_DD_isInfringed rfl) ?_
      refine Ex_cV0 (av := [vI (a : Int)]) (tk_DD_isInfringed rfl) mk_DD_priorThousandths ⟨rfl, rfl, by decide, rfl, Nat.le_of_ble_eq_true rfl, Nat.le_of_ble_eq_true rfl⟩ (hk11) (fun _ h => hpt _ h) ?_
      refine tCI (n := 2) (tk_DD_isInfringed rfl) (h.w.facts) (rfl) (by decide) ?_
      exact z
    have z69 : ∀ A' : Nat → Nat → Int, (∀ j, j ≠ 359 → A' j = A j) → A' 359 0 = askS (R 3) nn a bb 0 → Ex (d + 5) DD_isInfringed 69 [some (vR 100), some (vI (a : Int)), some (vI (bb : Int)), some (vI (askS (R 3) nn a bb 0)), some (vR (mFR m 130 kb)), some (vR (ds kb a)), some (vR (ds kb bb))] [] (CM m F A' L) Q := by
      intro A' kA f0
      have hfr := fun (Q1 : Nat → Option AV → Mem → Prop) => c_freedom (d := d + 1) (L := L) (Q := Q1) hDa (hDG A' kA a ha) hWa
      have z := z80 (up1 A' 359 (up1 (A' 359) 1 (1000 * (cntS (R 3) a 0 + cntS (R 3) a 1) / (R 3 (bD a + 1) * R 3 (bD a + 2))))) (fun j q => (up1_ne _ _ q).trans (kA j q)) (by rw [up1_at, up1_ne _ _ (by decide)]; exact f0) (by rw [up1_at, up1_at]; rfl)
      refine Ex_step (tk_DD_isInfringed rfl) ?_
      refine gCR (tk_DD_isInfringed rfl) (hk11) (hr715) ?_
      refine Ex_step (tk_DD_isInfringed rfl) ?_
      refine Ex_step (tk_DD_isInfringed rfl) ?_
      refine Ex_cV0 (av := []) (tk_DD_isInfringed rfl) mk_Des_freedom ⟨rfl, rfl, by decide, rfl, Nat.le_of_ble_eq_true rfl, Nat.le_of_ble_eq_true rfl⟩ (hda) (fun _ h => hfr _ h) ?_
      refine tCI (n := 1) (tk_DD_isInfringed rfl) (h.w.facts) (rfl) (by decide) ?_
      exact z
    have z40 : Ex (d + 5) DD_isInfringed 40 [some (vR 100), some (vI (a : Int)), some (vI (bb : Int)), some (vI (askS (R 3) nn a bb 0)), some (vR (mFR m 130 kb)), none, none] [] (CM m F A L) Q := by
      have z := z69 (up1 A 359 (up1 (A 359) 0 (askS (R 3) nn a bb 0))) (fun j q => up1_ne _ _ q) (by rw [up1_at, up1_at])
      refine Ex_step (tk_DD_isInfringed rfl) ?_
      refine gCR (tk_DD_isInfringed rfl) (hk11) (hr709) ?_
      refine gCR (tk_DD_isInfringed rfl) (hk2) (hr128) ?_
      refine Ex_step (tk_DD_isInfringed rfl) ?_
      refine lCR (n := a) (tk_DD_isInfringed rfl) (⟨⟨by rw [hBW.2.2.1]; decide, by rw [hBW.2.2.1]; decide⟩, hBW.2.2.2.1, (hBW.2.2.2.2 a (by omega)).1⟩) (w32_id (by omega) (by omega)) (by omega) ?_
      refine Ex_step (tk_DD_isInfringed rfl) ?_
      refine Ex_step (tk_DD_isInfringed rfl) ?_
      refine gCR (tk_DD_isInfringed rfl) (hk11) (hr709) ?_
      refine gCR (tk_DD_isInfringed rfl) (hk2) (hr128) ?_
      refine Ex_step (tk_DD_isInfringed rfl) ?_
      refine lCR (n := bb) (tk_DD_isInfringed rfl) (⟨⟨by rw [hBW.2.2.1]; decide, by rw [hBW.2.2.1]; decide⟩, hBW.2.2.2.1, (hBW.2.2.2.2 bb (by omega)).1⟩) (w32_id (by omega) (by omega)) (by omega) ?_
      refine Ex_step (tk_DD_isInfringed rfl) ?_
      refine Ex_step (tk_DD_isInfringed rfl) ?_
      refine gCR (tk_DD_isInfringed rfl) (hk11) (hr715) ?_
      refine Ex_step (tk_DD_isInfringed rfl) ?_
      refine Ex_step (tk_DD_isInfringed rfl) ?_
      refine tCI (n := 0) (tk_DD_isInfringed rfl) (h.w.facts) (rfl) (by decide) ?_
      exact z
    refine Ex_step (tk_DD_isInfringed rfl) ?_
    refine gCR (tk_DD_isInfringed rfl) (hk11) (hr713) ?_
    refine Ex_step (tk_DD_isInfringed rfl) ?_
    refine Ex_step (tk_DD_isInfringed rfl) ?_
    refine Ex_cV0 (av := [vI (a : Int), vI (bb : Int)]) (tk_DD_isInfringed rfl) mk_Ov_bestOf ⟨rfl, rfl, by decide, rfl, Nat.le_of_ble_eq_true rfl, Nat.le_of_ble_eq_true rfl⟩ (hk5) (fun _ h => hb1 _ h) ?_
    refine Ex_cV0 (av := []) (tk_DD_isInfringed rfl) mk_Best_thousandths ⟨rfl, rfl, by decide, rfl, Nat.le_of_ble_eq_true rfl, Nat.le_of_ble_eq_true rfl⟩ (c3) (fun _ h => hth _ h) ?_
    refine Ex_step (tk_DD_isInfringed rfl) ?_
    refine Ex_step (tk_DD_isInfringed rfl) ?_
    refine gCR (tk_DD_isInfringed rfl) (hk11) (hr709) ?_
    refine gCR (tk_DD_isInfringed rfl) (hk2) (rfl) ?_
    refine Ex_step (tk_DD_isInfringed rfl) ?_
    refine Ex_step (tk_DD_isInfringed rfl) ?_
    refine Ex_step (tk_DD_isInfringed rfl) ⟨by omega, fun h24 => ?_, fun h24 => ?_⟩
    · exact z40
    · omega
end Infr
