/-! ===== the class: an act is kept ===== -/
section CKeep
variable {d hh k2 nn : Nat} {P : Nat → Nat} {T : Nat → Int} {ds1 ds2 : Nat → Nat} {m : Mem} {F A L : Nat → Nat → Int} {Q : Nat → Option AV → Mem → Prop}
set_option maxRecDepth 100000 in
theorem BkW.ar {k a : Nat} {ds R : Nat → Nat} (h : BkW m k ds) (hk : k + 1 ≠ a) : BkW (sAR m a R) k ds := ⟨h.1, h.2.1, h.2.2.1, h.2.2.2.1, fun i hi => ⟨by
  show (if k + 1 = a then R else mAR m (k + 1)) i = ds i
  rw [if_neg hk]
  exact (h.2.2.2.2 i hi).1, (h.2.2.2.2 i hi).2⟩⟩
set_option maxRecDepth 100000 in
theorem c_keep13 {n p : Nat} (hk4 : mK m hh = 4) (hr256 : mFR m 256 hh = hh + 1) (hA : (16 ≤ mK m (hh + 1) ∧ mK m (hh + 1) ≤ 19) ∧ mLen m (hh + 1) = 8 ∧ mAR m (hh + 1) n = p) (hn : F 257 hh = (n : Int)) (hn8 : n < 8) (h1 : BkW m p ds1) (d1 : BkD p ds1) (h2 : BkW m k2 ds2) (d2 : BkD k2 ds2) (hk : p + 20 ≤ k2 ∨ k2 + 20 ≤ p) (hph : hh < p ∨ p + 20 ≤ hh) (hnn : nn ≤ 6) (g : BkG F A k2 ds2 T nn) (hq : ∀ F' A' : Nat → Nat → Int, KB p F F' A A' → BkG F' A' p ds1 T nn → Q 0 none (CM (sFR m 130 p (mFR m 130 k2)) (upF F' 257 hh ((n + 1 : Nat) : Int)) A' L)) : Ex (d + 2) Hist_keep 13 [some (vR hh), some (vR k2)] [] (CM m F A L) Q := by
  have key : ∀ F' A' : Nat → Nat → Int, KB p F F' A A' → BkG F' A' p ds1 T nn → Ex (d + 2) Hist_keep 35 [some (vR hh), some (vR k2)] [] (CM (sFR m 130 p (mFR m 130 k2)) F' A' L) Q := by
    intro F' A' q1 q2
    have hx := hq F' A' q1 q2
    have e : F' 257 hh = (n : Int) := (q1.1 257 hh hph).trans hn
    have hk42 : mK (sFR m 130 p (mFR m 130 k2)) hh = 4 := hk4
    refine Ex_step (tk_Hist_keep rfl) ?_
    refine Ex_step (tk_Hist_keep rfl) ?_
    refine gCI (tk_Hist_keep rfl) (hk42) ?_
    rw [e]
    refine Ex_step (tk_Hist_keep rfl) ?_
    refine Ex_step (tk_Hist_keep rfl) ?_
    refine pCI (tk_Hist_keep rfl) (hk42) ?_
    refine Ex_step (tk_Hist_keep rfl) ⟨rfl, ?_⟩
    exact hx
  refine Ex_step (tk_Hist_keep rfl) ?_
  refine gCI (tk_Hist_keep rfl) (hk4) ?_
  rw [hn]
  refine Ex_step (tk_Hist_keep rfl) ?_
  refine Ex_step (tk_Hist_keep rfl) ⟨fun h19 => ?_, fun h19 => ?_⟩
  · try simp (disch := omega) only [cmpI, w32_b2i, b2i_0, b2i_1, w32_id, Classical.not_not, not_true_eq_false, not_false_eq_true] at h19
    omega
  · try simp (disch := omega) only [cmpI, w32_b2i, b2i_0, b2i_1, w32_id, Classical.not_not, not_true_eq_false, not_false_eq_true] at h19
    refine Ex_step (tk_Hist_keep rfl) ?_
    refine gCR (tk_Hist_keep rfl) (hk4) (hr256) ?_
    refine Ex_step (tk_Hist_keep rfl) ?_
    refine gCI (tk_Hist_keep rfl) (hk4) ?_
    rw [hn]
    refine lCR (n := n) (tk_Hist_keep rfl) (hA) (w32_id (by omega) (by omega)) (by omega) ?_
    refine Ex_step (tk_Hist_keep rfl) ?_
    refine Ex_cVK (av := [vR k2]) (tk_Hist_keep rfl) mk_Book_copyFrom ⟨rfl, rfl, by decide, rfl, Nat.le_of_ble_eq_true rfl, Nat.le_of_ble_eq_true rfl⟩ (h1.1) (c_bookCopy h1 d1 h2 d2 hk hnn g (fun F' A' q1 q2 => ⟨rfl, ?_⟩))
    exact key F' A' q1 q2
set_option maxRecDepth 100000 in
theorem c_keep0 {n : Nat} (hH : HiW m hh P) (hn : F 257 hh = (n : Int)) (hn8 : n < 8) (h1 : BkW m (P n) ds1) (d1 : BkD (P n) ds1) (h2 : BkW m k2 ds2) (d2 : BkD k2 ds2) (hk : P n + 20 ≤ k2 ∨ k2 + 20 ≤ P n) (hph : hh < P n ∨ P n + 20 ≤ hh) (hnn : nn ≤ 6) (g : BkG F A k2 ds2 T nn) (hq : ∀ F' A' : Nat → Nat → Int, KB (P n) F F' A A' → BkG F' A' (P n) ds1 T nn → Q 0 none (CM (sFR m 130 (P n) (mFR m 130 k2)) (upF F' 257 hh ((n + 1 : Nat) : Int)) A' L)) : Ex (d + 2) Hist_keep 0 [some (vR hh), some (vR k2)] [] (CM m F A L) Q := by
  have hk4 := hH.1
  have h13 := c_keep13 (d := d) (Q := Q) (L := L) hH.1 hH.2.1 ⟨⟨by rw [hH.2.2.1]; decide, by rw [hH.2.2.1]; decide⟩, hH.2.2.2.1, (hH.2.2.2.2 n (by omega)).1⟩ hn hn8 h1 d1 h2 d2 hk hph hnn g hq
  refine Ex_step (tk_Hist_keep rfl) ?_
  refine gCI (tk_Hist_keep rfl) (hk4) ?_
  rw [hn]
  refine Ex_step (tk_Hist_keep rfl) ?_
  refine Ex_step (tk_Hist_keep rfl) ⟨fun h6 => ?_, fun h6 => ?_⟩
  · try simp (disch := omega) only [cmpI, w32_b2i, b2i_0, b2i_1, w32_id, Classical.not_not, not_true_eq_false, not_false_eq_true] at h6
    exact h13
  · try simp (disch := omega) only [cmpI, w32_b2i, b2i_0, b2i_1, w32_id, Classical.not_not, not_true_eq_false, not_false_eq_true] at h6
    omega
set_option maxRecDepth 100000 in
theorem c_keep8 (hH : HiW m hh P) (hn : F 257 hh = 8) (h1 : BkW m (P 0) ds1) (d1 : BkD (P 0) ds1) (h2 : BkW m k2 ds2) (d2 : BkD k2 ds2) (hk : P 0 + 20 ≤ k2 ∨ k2 + 20 ≤ P 0) (hph : hh + 1 < P 0 ∨ P 0 + 20 ≤ hh) (hk2 : k2 + 1 ≠ hh + 1) (hkf : k2 ≠ hh) (hdf : ∀ i, i < 6 → ds2 i ≠ hh) (hnn : nn ≤ 6) (g : BkG F A k2 ds2 T nn) (hq : ∀ (R : Nat → Nat) (F' A' : Nat → Nat → Int), (∀ i, i < 8 → R i = shP P i) → KB (P 0) (upF F 257 hh 7) F' A A' → BkG F' A' (P 0) ds1 T nn → Q 0 none (CM (sFR (sAR m (hh + 1) R) 130 (P 0) (mFR m 130 k2)) (upF F' 257 hh 8) A' L)) : Ex (d + 2) Hist_keep 0 [some (vR hh), some (vR k2)] [] (CM m F A L) Q := by
  have hk4 := hH.1
  have key : ∀ R : Nat → Nat, (∀ i, i < 8 → R i = shP P i) → Ex (d + 2) Hist_keep 13 [some (vR hh), some (vR k2)] [] (CM (sAR m (hh + 1) R) (upF F 257 hh ((8 - 1 : Nat) : Int)) A L) Q := by
    intro R hR
    refine c_keep13 (n := 7) (p := P 0) (m := sAR m (hh + 1) R) (ds1 := ds1) (ds2 := ds2) (T := T) (nn := nn) hH.1 hH.2.1 ⟨⟨?_, ?_⟩, hH.2.2.2.1, ?_⟩ (upF_at _ _ _ _) (by decide) (h1.ar (by omega)) d1 (h2.ar hk2) d2 hk (by omega) hnn ⟨by rw [upF_a _ _ _ hkf]; exact g.1, fun i hi => ?_⟩ (fun F' A' q1 q2 => hq R F' A' hR q1 q2)
    · show 16 ≤ mK m (hh + 1); rw [hH.2.2.1]; decide
    · show mK m (hh + 1) ≤ 19; rw [hH.2.2.1]; decide
    · rw [mAR_at, hR 7 (by decide)]; exact if_neg (by decide)
    · have gi := g.2 i hi
      have := hdf i (by omega)
      exact ⟨by rw [upF_a _ _ _ this]; exact gi.1, by rw [upF_a _ _ _ this]; exact gi.2.1, by rw [upF_a _ _ _ this]; exact gi.2.2.1, gi.2.2.2⟩
  refine Ex_step (tk_Hist_keep rfl) ?_
  refine gCI (tk_Hist_keep rfl) (hk4) ?_
  rw [hn]
  refine Ex_step (tk_Hist_keep rfl) ?_
  refine Ex_step (tk_Hist_keep rfl) ⟨fun h6 => ?_, fun h6 => ?_⟩
  · replace h6 : _ := h6
    first | exact key R hR | exact absurd rfl h6
  · replace h6 : _ := h6
    refine Ex_step (tk_Hist_keep rfl) ?_
    refine Ex_cVK (av := []) (tk_Hist_keep rfl) mk_Hist_forgetOldest ⟨rfl, rfl, by decide, rfl, Nat.le_of_ble_eq_true rfl, Nat.le_of_ble_eq_true rfl⟩ (hk4) (c_forgetOld (n := 8) hH hn (by decide) (fun R hR => ⟨rfl, ?_⟩))
    first | exact key R hR | exact absurd rfl h6
end CKeep
