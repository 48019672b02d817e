/-! ===== the class: the reader of rules: what is opened, values ===== -/
/-- scanner and reader of rules together -/
def RD (F A : Nat → Nat → Int) (rr sz p fl : Nat) (pc_ : Int) (cs pl : List Int) (no br : Nat) (at_ cm : Int) : Prop := ScF F (rr + 1) sz p fl pc_ ∧ RRF F A rr cs pl no br at_ cm
def KQ (rr : Nat) (F F' A A' : Nat → Nat → Int) : Prop := (∀ f j, j ≠ rr → j ≠ rr + 1 → F' f j = F f j) ∧ ∀ j, j ≠ rr + 3 → j ≠ rr + 4 → A' j = A j
set_option maxRecDepth 100000 in
theorem KQ.rf (rr : Nat) (F A : Nat → Nat → Int) : KQ rr F F A A := ⟨fun _ _ _ _ => rfl, fun _ _ _ => rfl⟩
set_option maxRecDepth 100000 in
theorem KQ.tr {rr : Nat} {F F' F2 A A' A2 : Nat → Nat → Int} (h : KQ rr F F' A A') (g : KQ rr F' F2 A' A2) : KQ rr F F2 A A2 := ⟨fun f j q1 q2 => (g.1 f j q1 q2).trans (h.1 f j q1 q2), fun j q1 q2 => (g.2 j q1 q2).trans (h.2 j q1 q2)⟩
set_option maxRecDepth 100000 in
theorem KR.q {rr : Nat} {F F' A A' : Nat → Nat → Int} (h : KR rr F F' A A') : KQ rr F F' A A' := ⟨fun f j q1 _ => h.1 f j q1, h.2⟩
set_option maxRecDepth 100000 in
theorem KQ.s (rr : Nat) (F A : Nat → Nat → Int) (f : Nat) (v : Int) : KQ rr F (upF F f (rr + 1) v) A A := ⟨fun _ _ _ q => upF_a _ _ _ q, fun _ _ _ => rfl⟩
set_option maxRecDepth 100000 in
theorem KQ.r (rr : Nat) (F A : Nat → Nat → Int) (f : Nat) (v : Int) : KQ rr F (upF F f rr v) A A := ⟨fun _ _ q _ => upF_a _ _ _ q, fun _ _ _ => rfl⟩
set_option maxRecDepth 100000 in
theorem RRF.s {F A : Nat → Nat → Int} {rr : Nat} {cs pl : List Int} {no br : Nat} {at_ cm : Int} (h : RRF F A rr cs pl no br at_ cm) (f : Nat) (v : Int) : RRF (upF F f (rr + 1) v) A rr cs pl no br at_ cm := by
  obtain ⟨r1, r2, r3, r4, r5, r6, r7, r8⟩ := h
  have e : ∀ g, upF F f (rr + 1) v g rr = F g rr := fun g => upF_a _ _ _ (by omega)
  exact ⟨r1, r2, by rw [e]; exact r3, by rw [e]; exact r4, by rw [e]; exact r5, by rw [e]; exact r6, by rw [e]; exact r7, by rw [e]; exact r8⟩
set_option maxRecDepth 100000 in
theorem ScF.k {F F' : Nat → Nat → Int} {c sz p fl : Nat} {pc_ : Int} (h : ScF F c sz p fl pc_) (k : ∀ f, F' f c = F f c) : ScF F' c sz p fl pc_ := ⟨(k _).trans h.1, (k _).trans h.2.1, (k _).trans h.2.2.1, (k _).trans h.2.2.2⟩
section COpen
variable {d rr tp sz p no br : Nat} {pc_ : Int} {cs pl : List Int} {at_ cm : Int} {m : Mem} {F A L : Nat → Nat → Int} {Q : Nat → Option AV → Mem → Prop}
set_option maxRecDepth 100000 in
theorem RD.mv {fl : Nat} (h : RD F A rr sz p fl pc_ cs pl no br at_ cm) (q : Nat) : RD (upF F 514 (rr + 1) (q : Int)) A rr sz q fl pc_ cs pl no br at_ cm := ⟨h.1.at_ q, h.2.s _ _⟩
set_option maxRecDepth 100000 in
theorem RD.fail (h : RD F A rr sz p 0 pc_ cs pl no br at_ cm) (k : Nat) : RD (upF (upF F 515 (rr + 1) (k : Int)) 516 (rr + 1) (p : Int)) A rr sz p k (p : Int) cs pl no br at_ cm := by
  refine ⟨⟨?_, ?_, ?_, upF_at _ _ _ _⟩, (h.2.s _ _).s _ _⟩
  · rw [upF_f _ _ _ (by decide), upF_f _ _ _ (by decide)]; exact h.1.1
  · rw [upF_f _ _ _ (by decide), upF_f _ _ _ (by decide)]; exact h.1.2.1
  · rw [upF_f _ _ _ (by decide), upF_at]
set_option maxRecDepth 100000 in
theorem RD.kr {fl : Nat} {F' A' : Nat → Nat → Int} {cs2 pl2 : List Int} {no2 br2 : Nat} {at2 cm2 : Int} (h : RD F A rr sz p fl pc_ cs pl no br at_ cm) (k : KR rr F F' A A') (g : RRF F' A' rr cs2 pl2 no2 br2 at2 cm2) : RD F' A' rr sz p fl pc_ cs2 pl2 no2 br2 at2 cm2 := ⟨h.1.k (fun f => k.1 f _ (by omega)), g⟩
set_option maxRecDepth 100000 in
theorem c_openF {c : Int} (hW : RRW m rr) (hD : RD F A rr sz p 0 pc_ cs pl no br at_ cm) (hn : 4 ≤ no + br ∧ no + br ≤ 20) (hk8 : mK m (rr + 1) = 8) (hq : ∀ F' : Nat → Nat → Int, KQ rr F F' A A → RD F' A rr sz p 4 (p : Int) cs pl no br at_ cm → Q 0 none (CM m F' A L)) : Ex (d + 1) RR_openOne 0 [some (vR rr), some (vI c)] [] (CM m F A L) Q := by
  have hk7 := hW.1
  have hr448 := hW.2.1
  have r5 := hD.2.2.2.2.2.1
  have r6 := hD.2.2.2.2.2.2.1
  have hx := hq _ ((KQ.s rr F A 515 4).tr (KQ.s rr _ A 516 (p : Int))) (hD.fail 4)
  refine Ex_step (tk_RR_openOne rfl) ?_
  refine gCI (tk_RR_openOne rfl) (hk7) ?_
  rw [r5]
  refine Ex_step (tk_RR_openOne rfl) ?_
  refine gCI (tk_RR_openOne rfl) (hk7) ?_
  rw [r6]
  refine Ex_step (tk_RR_openOne rfl) ?_
  refine Ex_step (tk_RR_openOne rfl) ?_
  refine Ex_step (tk_RR_openOne rfl) ⟨fun h10 => ?_, fun h10 => ?_⟩
  · try simp (disch := omega) only [cmpI, w32_b2i, b2i_0, b2i_1, w32_id, Classical.not_not, not_true_eq_false, not_false_eq_true] at h10
    omega
  · try simp (disch := omega) only [cmpI, w32_b2i, b2i_0, b2i_1, w32_id, Classical.not_not, not_true_eq_false, not_false_eq_true] at h10
    refine Ex_step (tk_RR_openOne rfl) ?_
    refine gCR (tk_RR_openOne rfl) (hk7) (hr448) ?_
    refine Ex_step (tk_RR_openOne rfl) ?_
    refine Ex_cV0 (av := [vI ((4 : Nat) : Int)]) (tk_RR_openOne rfl) mk_Scan_fail ⟨rfl, rfl, by decide, rfl, Nat.le_of_ble_eq_true rfl, Nat.le_of_ble_eq_true rfl⟩ (hk8) (fun _ h => c_fail hk8 hD.1 (by decide) h) ?_
    refine Ex_step (tk_RR_openOne rfl) ⟨rfl, ?_⟩
    exact hx
set_option maxRecDepth 100000 in
theorem c_openN (hW : RRW m rr) (hSW : ScW m (rr + 1) tp) (hD : RD F A rr sz p 0 pc_ cs pl no br at_ cm) (hn : no + br < 4) (hl : pl.length < 32) (hsz : sz ≤ 800) (hp : p ≤ sz) (hf : byts (A tp)) (hC : CLow m F A L) (hw : wdP (A tp) sz 2 p) (hq : ∀ F' A' : Nat → Nat → Int, KQ rr F F' A A' → RD F' A' rr sz (p + 3) 0 pc_ cs (-13 :: pl) (no + 1) br at_ cm → Q 0 none (CM m F' A' L)) : Ex (d + 6) RR_openOne 0 [some (vR rr), some (vI (-13))] [] (CM m F A L) Q := by
  have hk7 := hW.1
  have hk8 := hSW.1
  have hr448 := hW.2.1
  have r5 := hD.2.2.2.2.2.1
  have r6 := hD.2.2.2.2.2.2.1
  have hD1 := hD.mv (p + 3)
  have hD2 : RD (upF (upF F 514 (rr + 1) ((p + 3 : Nat) : Int)) 453 rr ((no : Int) + 1)) A rr sz (p + 3) 0 pc_ cs pl (no + 1) br at_ cm := by
    obtain ⟨s, r1, r2, r3, r4, r5, r6, r7, r8⟩ := hD1
    exact ⟨s.k (fun f => upF_a _ _ _ (by omega)), r1, r2, by rw [upF_f _ _ _ (by decide)]; exact r3, by rw [upF_f _ _ _ (by decide)]; exact r4, by rw [upF_at]; rfl, by rw [upF_f _ _ _ (by decide)]; exact r6, by rw [upF_f _ _ _ (by decide)]; exact r7, by rw [upF_f _ _ _ (by decide)]; exact r8⟩
  have h37 : Ex (d + 6) RR_openOne 37 [some (vR rr), some (vI (-13))] [vI 1] (CM m (upF F 514 (rr + 1) ((p + 3 : Nat) : Int)) A L) Q := by
    have e5 := hD1.2.2.2.2.2.1
    refine Ex_step (tk_RR_openOne rfl) ?_
    refine Ex_step (tk_RR_openOne rfl) ?_
    refine Ex_step (tk_RR_openOne rfl) ?_
    refine gCI (tk_RR_openOne rfl) (hk7) ?_
    rw [e5]
    refine Ex_step (tk_RR_openOne rfl) ?_
    refine Ex_step (tk_RR_openOne rfl) ?_
    refine pCI (tk_RR_openOne rfl) (hk7) ?_
    refine Ex_step (tk_RR_openOne rfl) ?_
    refine Ex_step (tk_RR_openOne rfl) ?_
    refine Ex_step (tk_RR_openOne rfl) ?_
    refine Ex_cVK (av := [vI (-13)]) (tk_RR_openOne rfl) mk_RR_pile ⟨rfl, rfl, by decide, rfl, Nat.le_of_ble_eq_true rfl, Nat.le_of_ble_eq_true rfl⟩ (hk7) (c_pile hW hD2.2 hl (fun F' A' k1 k2 => ⟨rfl, ?_⟩))
    refine Ex_step (tk_RR_openOne rfl) ⟨rfl, ?_⟩
    exact hq F' A' (((KQ.s rr F A 514 _).tr (KQ.r rr _ A 453 _)).tr k1.q) (hD2.kr k1 k2)
  refine Ex_step (tk_RR_openOne rfl) ?_
  refine gCI (tk_RR_openOne rfl) (hk7) ?_
  rw [r5]
  refine Ex_step (tk_RR_openOne rfl) ?_
  refine gCI (tk_RR_openOne rfl) (hk7) ?_
  rw [r6]
  refine Ex_step (tk_RR_openOne rfl) ?_
  refine Ex_step (tk_RR_openOne rfl) ?_
  refine Ex_step (tk_RR_openOne rfl) ⟨fun h10 => ?_, fun h10 => ?_⟩
  · replace h10 : _ := h10
    refine Ex_step (tk_RR_openOne rfl) ?_
    refine Ex_step (tk_RR_openOne rfl) ?_
    refine Ex_step (tk_RR_openOne rfl) ⟨fun h25 => ?_, fun h25 => ?_⟩
    · replace h25 : _ := h25
      exact absurd rfl h25
    · replace h25 : _ := h25
      refine Ex_step (tk_RR_openOne rfl) ?_
      refine gCR (tk_RR_openOne rfl) (hk7) (hr448) ?_
      refine Ex_step (tk_RR_openOne rfl) ?_
      refine Ex_cVK (av := [vR 8]) (tk_RR_openOne rfl) mk_Scan_takesWord ⟨rfl, rfl, by decide, rfl, Nat.le_of_ble_eq_true rfl, Nat.le_of_ble_eq_true rfl⟩ hk8 (c_takesW hSW hD.1 hsz hp hf (hC 2 (by decide)) (fun _ => ⟨rfl, ?_⟩) (fun z => absurd hw z))
      exact h37
  · replace h10 : _ := h10
    exact absurd (show w32 ((no : Int) + (br : Int)) < w32 4 by rw [w32_id (by omega) (by omega), show w32 4 = 4 from rfl]; omega) h10
set_option maxRecDepth 100000 in
theorem c_openB (hW : RRW m rr) (hk8 : mK m (rr + 1) = 8) (hD : RD F A rr sz p 0 pc_ cs pl no br at_ cm) (hn : no + br < 4) (hl : pl.length < 32) (hsz : sz ≤ 800) (hp : p < sz) (hq : ∀ F' A' : Nat → Nat → Int, KQ rr F F' A A' → RD F' A' rr sz (p + 1) 0 pc_ cs (-10 :: pl) no (br + 1) at_ cm → Q 0 none (CM m F' A' L)) : Ex (d + 6) RR_openOne 0 [some (vR rr), some (vI (-10))] [] (CM m F A L) Q := by
  have hk7 := hW.1
  have hr448 := hW.2.1
  have r5 := hD.2.2.2.2.2.1
  have r6 := hD.2.2.2.2.2.2.1
  have hD1 := hD.mv (p + 1)
  have e6 := hD1.2.2.2.2.2.2.1
  have hD2 : RD (upF (upF F 514 (rr + 1) ((p + 1 : Nat) : Int)) 454 rr ((br : Int) + 1)) A rr sz (p + 1) 0 pc_ cs pl no (br + 1) at_ cm := by
    obtain ⟨s, r1, r2, r3, r4, r5, r6, r7, r8⟩ := hD1
    exact ⟨s.k (fun f => upF_a _ _ _ (by omega)), r1, r2, by rw [upF_f _ _ _ (by decide)]; exact r3, by rw [upF_f _ _ _ (by decide)]; exact r4, by rw [upF_f _ _ _ (by decide)]; exact r5, by rw [upF_at]; rfl, by rw [upF_f _ _ _ (by decide)]; exact r7, by rw [upF_f _ _ _ (by decide)]; exact r8⟩
  refine Ex_step (tk_RR_openOne rfl) ?_
  refine gCI (tk_RR_openOne rfl) (hk7) ?_
  rw [r5]
  refine Ex_step (tk_RR_openOne rfl) ?_
  refine gCI (tk_RR_openOne rfl) (hk7) ?_
  rw [r6]
  refine Ex_step (tk_RR_openOne rfl) ?_
  refine Ex_step (tk_RR_openOne rfl) ?_
  refine Ex_step (tk_RR_openOne rfl) ⟨fun h10 => ?_, fun h10 => ?_⟩
  · replace h10 : _ := h10
    refine Ex_step (tk_RR_openOne rfl) ?_
    refine Ex_step (tk_RR_openOne rfl) ?_
    refine Ex_step (tk_RR_openOne rfl) ⟨fun h25 => ?_, fun h25 => ?_⟩
    · replace h25 : _ := h25
      refine Ex_step (tk_RR_openOne rfl) ?_
      refine gCR (tk_RR_openOne rfl) (hk7) (hr448) ?_
      refine Ex_cV0 (av := []) (tk_RR_openOne rfl) mk_Scan_step ⟨rfl, rfl, by decide, rfl, Nat.le_of_ble_eq_true rfl, Nat.le_of_ble_eq_true rfl⟩ (hk8) (fun _ h => c_step hk8 hD.1 hsz hp h) ?_
      refine Ex_step (tk_RR_openOne rfl) ?_
      refine Ex_step (tk_RR_openOne rfl) ?_
      refine gCI (tk_RR_openOne rfl) (hk7) ?_
      rw [e6]
      refine Ex_step (tk_RR_openOne rfl) ?_
      refine Ex_step (tk_RR_openOne rfl) ?_
      refine pCI (tk_RR_openOne rfl) (hk7) ?_
      refine Ex_step (tk_RR_openOne rfl) ?_
      refine Ex_step (tk_RR_openOne rfl) ?_
      refine Ex_cVK (av := [vI (-10)]) (tk_RR_openOne rfl) mk_RR_pile ⟨rfl, rfl, by decide, rfl, Nat.le_of_ble_eq_true rfl, Nat.le_of_ble_eq_true rfl⟩ (hk7) (c_pile hW hD2.2 hl (fun F' A' k1 k2 => ⟨rfl, ?_⟩))
      refine Ex_step (tk_RR_openOne rfl) ⟨rfl, ?_⟩
      exact hq F' A' (((KQ.s rr F A 514 _).tr (KQ.r rr _ A 454 _)).tr k1.q) (hD2.kr k1 k2)
    · replace h25 : _ := h25
      exact absurd h25 (fun z => absurd (show w32 (-10) = w32 (-13) from Classical.not_not.mp z) (by decide))
  · replace h10 : _ := h10
    exact absurd (show w32 ((no : Int) + (br : Int)) < w32 4 by rw [w32_id (by omega) (by omega), show w32 4 = 4 from rfl]; omega) h10
end COpen
