/-! ===== the reference reads a design ===== -/
def wTP (s : PSt) (j : Nat) (v : Int) : PSt := (pAt s, pFl s, pFa s, pCd s, pOp s, up1 (pT s) j v)
def dsRow (f : Nat → Int) (sz b : Nat) : Nat → Nat → PSt → Nat × PSt
  | 0, k, s => (k, hereP f sz s)
  | r + 1, k, s => if sortC (hereC f sz s) = -1 then (k, hereP f sz s) else dsRow f sz b r (k + 1) (incP (wTP (hereP f sz s) (b + k) (sortC (hereC f sz s))))
def dsRow2 (f : Nat → Int) (sz b rows wide : Nat) (s : PSt) : Nat × PSt := dsRow f sz (b + 3 + 10 * rows) (if rows = 0 then 10 else wide) 0 s
def dsEnd (rows wide : Nat) (p : Nat × PSt) : PSt := if p.1 = 0 ∨ 0 < rows ∧ p.1 < wide then wrongP p.2 1 (pAt p.2 : Nat) else p.2
def dsLoop (f : Nat → Int) (sz b : Nat) : Nat → Nat → Nat → PSt → Nat × Nat × PSt
  | 0, rows, wide, s => (rows, wide, s)
  | r + 1, rows, wide, s => if pFl s = 0 then (if rows + 1 < 10 then (if hereC f sz (dsEnd rows wide (dsRow2 f sz b rows wide s)) = 47 then dsLoop f sz b r (rows + 1) (dsRow2 f sz b rows wide s).1 (incP (hereP f sz (dsEnd rows wide (dsRow2 f sz b rows wide s)))) else (rows + 1, (dsRow2 f sz b rows wide s).1, hereP f sz (dsEnd rows wide (dsRow2 f sz b rows wide s)))) else (rows + 1, (dsRow2 f sz b rows wide s).1, dsEnd rows wide (dsRow2 f sz b rows wide s))) else (rows, wide, s)
def dsFin (b : Nat) (p : Nat × Nat × PSt) : PSt := wTP (wTP (wTP p.2.2 (b + 1) (p.2.1 : Nat)) (b + 2) (p.1 : Nat)) 0 (pT (wTP (wTP p.2.2 (b + 1) (p.2.1 : Nat)) (b + 2) (p.1 : Nat)) 0 + 1)
def designP (f : Nat → Int) (sz nn : Nat) (s : PSt) : PSt := dsFin (2 + 103 * nn) (dsLoop f sz (2 + 103 * nn) 10 0 0 (wTP (numP f sz s) (2 + 103 * nn) (numV f sz s)))
def GK (sz : Nat) (s : PSt) : Prop := G2 sz s ∧ pCd s ≤ 1250
set_option maxRecDepth 100000 in
theorem GK.gd {sz : Nat} {s : PSt} (h : GK sz s) (hsz : sz ≤ 800) : Gd s := by
  obtain ⟨⟨h1, h2, h3, h4⟩, h5⟩ := h
  exact ⟨by omega, h1, by omega, by omega⟩
set_option maxRecDepth 100000 in
theorem GK.put {sz j : Nat} {v : Int} {s : PSt} (h : GK sz s) : GK sz (wTP s j v) := h
set_option maxRecDepth 100000 in
theorem GK.here {f : Nat → Int} {sz : Nat} {s : PSt} (h : GK sz s) : GK sz (hereP f sz s) := ⟨h.1.here, h.2⟩
set_option maxRecDepth 100000 in
theorem GK.inc {sz : Nat} {s : PSt} (h : GK sz s) (h2 : pAt s < sz) : GK sz (incP s) := ⟨h.1.inc h2, h.2⟩
set_option maxRecDepth 100000 in
theorem GK.wrong {sz k : Nat} {p : Int} {s : PSt} (h : GK sz s) (hk : k ≤ 9 ∧ k ≠ 0) : GK sz (wrongP s k p) := by
  refine ⟨h.1.wrong hk, ?_⟩
  unfold wrongP
  split
  · exact h.2
  · exact h.2
set_option maxRecDepth 100000 in
theorem GK.num {f : Nat → Int} {sz : Nat} {s : PSt} (h : GK sz s) : GK sz (numP f sz s) := by
  refine ⟨h.1.num, ?_⟩
  unfold numP wrongP
  split
  · split
    · split
      · exact h.2
      · exact h.2
    · split
      · exact h.2
      · exact h.2
  · exact h.2
set_option maxRecDepth 100000 in
theorem sortC_r (c : Int) : -1 ≤ sortC c ∧ sortC c ≤ 3 := by
  unfold sortC
  split
  · decide
  · split
    · decide
    · split
      · decide
      · split <;> decide
set_option maxRecDepth 100000 in
theorem sortC_c {c : Int} (h : ¬ sortC c = -1) : 0 ≤ c := by
  unfold sortC at h
  split at h
  · omega
  · split at h
    · omega
    · split at h
      · omega
      · split at h
        · omega
        · exact absurd rfl h
set_option maxRecDepth 100000 in
theorem put_T (A : Nat → Nat → Int) (s : PSt) (j : Nat) (v : Int) : up1 (up1 A 4 (pT s)) 4 (up1 (up1 A 4 (pT s) 4) j v) = up1 A 4 (pT (wTP s j v)) := by
  rw [show up1 A 4 (pT s) 4 = pT s from up1_at _ _ _, up1_same]
  rfl
set_option maxRecDepth 100000 in
theorem dsRow_k {f : Nat → Int} {sz b : Nat} : ∀ (r k : Nat) (s : PSt), k ≤ (dsRow f sz b r k s).1 ∧ (dsRow f sz b r k s).1 ≤ k + r
  | 0, k, s => ⟨Nat.le_refl _, Nat.le_refl _⟩
  | r + 1, k, s => by
    unfold dsRow
    split
    · exact ⟨Nat.le_refl _, Nat.le_add_right _ _⟩
    · have := dsRow_k (f := f) (sz := sz) (b := b) r (k + 1) (incP (wTP (hereP f sz s) (b + k) (sortC (hereC f sz s))))
      omega
set_option maxRecDepth 100000 in
theorem GK.row {f : Nat → Int} {sz b : Nat} : ∀ (r k : Nat) (s : PSt), GK sz s → GK sz (dsRow f sz b r k s).2
  | 0, k, s, h => h.here
  | r + 1, k, s, h => by
    unfold dsRow
    split
    · exact h.here
    · next hs => exact GK.row r (k + 1) _ ((h.here.put).inc (bt_ne (k := sk f sz (pAt s)) rfl (sortC_c hs)))
section MDes
variable {d sz n e : Nat} {m : Mem} {I : Nat → Int} {A L : Nat → Nat → Int} {s : PSt} {Q : Nat → Option AV → Mem → Prop}
set_option maxRecDepth 100000 in
theorem f_dsRow (hR : RdW m I A sz) {nn rows wide lim : Nat} (hnn : nn ≤ 5) (hrw : rows ≤ 9) (hw : wide ≤ 10) (hlim : lim = if rows = 0 then 10 else wide) {D z : Int} (hD : D = ((2 + 103 * nn : Nat) : Int)) : ∀ (r k : Nat) (s : PSt), k + r = lim → GK sz s → Ex (d + 3) M_readsDesign 103 [some (vR aM), some (vI D), some (vI (wide : Int)), some (vI (rows : Int)), some (vI z), some (vI ((dsRow (A 2) sz (2 + 103 * nn + 3 + 10 * rows) r k s).1 : Int))] [] (PM m I A L (dsRow (A 2) sz (2 + 103 * nn + 3 + 10 * rows) r k s).2) Q → Ex (d + 3) M_readsDesign 44 [some (vR aM), some (vI D), some (vI (wide : Int)), some (vI (rows : Int)), some (vI z), some (vI (k : Int))] [] (PM m I A L s) Q := by
  have hM := hR.1
  have hsz := hR.2.2.1
  subst hD
  have hl10 : lim ≤ 10 := by rw [hlim]; split <;> omega
  intro r
  induction r with
  | zero =>
    intro k s hk hG h
    have hk10 : k ≤ 10 := by omega
    have hs := sortC_r (hereC (A 2) sz s)
    refine Ex_step (tk_M_readsDesign rfl) ?_
    refine Ex_cV0 (av := []) (tk_M_readsDesign rfl) mk_M_sortHere ⟨rfl, rfl, by decide, rfl, Nat.le_of_ble_eq_true rfl, Nat.le_of_ble_eq_true rfl⟩ (hM.k) (fun _ h => f_sortHere hR (hG.gd hsz).1 h) ?_
    refine Ex_step (tk_M_readsDesign rfl) ?_
    refine Ex_step (tk_M_readsDesign rfl) ⟨fun h49 => ?_, fun h49 => ?_⟩
    · try simp (disch := omega) only [cmpI, w32_b2i, b2i_0, b2i_1, w32_id, Classical.not_not, not_true_eq_false, not_false_eq_true] at h49
      exact h
    · try simp (disch := omega) only [cmpI, w32_b2i, b2i_0, b2i_1, w32_id, Classical.not_not, not_true_eq_false, not_false_eq_true] at h49
      refine Ex_step (tk_M_readsDesign rfl) ?_
      refine Ex_step (tk_M_readsDesign rfl) ?_
      refine Ex_step (tk_M_readsDesign rfl) ⟨fun h55 => ?_, fun h55 => ?_⟩
      · try simp (disch := omega) only [cmpI, w32_b2i, b2i_0, b2i_1, w32_id, Classical.not_not, not_true_eq_false, not_false_eq_true] at h55
        refine Ex_step (tk_M_readsDesign rfl) ?_
        refine Ex_step (tk_M_readsDesign rfl) ⟨fun h64 => ?_, fun h64 => ?_⟩
        · try simp (disch := omega) only [cmpI, w32_b2i, b2i_0, b2i_1, w32_id, Classical.not_not, not_true_eq_false, not_false_eq_true] at h64
          exact h
        · try simp (disch := omega) only [cmpI, w32_b2i, b2i_0, b2i_1, w32_id, Classical.not_not, not_true_eq_false, not_false_eq_true] at h64
          exfalso
          first | (rw [if_pos (by omega)] at hlim; omega) | (rw [if_neg (by omega)] at hlim; omega)
      · try simp (disch := omega) only [cmpI, w32_b2i, b2i_0, b2i_1, w32_id, Classical.not_not, not_true_eq_false, not_false_eq_true] at h55
        refine Ex_step (tk_M_readsDesign rfl) ?_
        refine Ex_step (tk_M_readsDesign rfl) ?_
        refine Ex_step (tk_M_readsDesign rfl) ⟨fun h64 => ?_, fun h64 => ?_⟩
        · try simp (disch := omega) only [cmpI, w32_b2i, b2i_0, b2i_1, w32_id, Classical.not_not, not_true_eq_false, not_false_eq_true] at h64
          exact h
        · try simp (disch := omega) only [cmpI, w32_b2i, b2i_0, b2i_1, w32_id, Classical.not_not, not_true_eq_false, not_false_eq_true] at h64
          exfalso
          first | (rw [if_pos (by omega)] at hlim; omega) | (rw [if_neg (by omega)] at hlim; omega)
  | succ r ih =>
    intro k s hk hG h
    have hk10 : k ≤ 10 := by omega
    have hs := sortC_r (hereC (A 2) sz s)
    have hgo : ¬ sortC (hereC (A 2) sz s) = -1 → Ex (d + 3) M_readsDesign 67 [some (vR aM), some (vI ((2 + 103 * nn : Nat) : Int)), some (vI (wide : Int)), some (vI (rows : Int)), some (vI z), some (vI (k : Int))] [] (PM m I A L (hereP (A 2) sz s)) Q := by
      intro h49
      unfold dsRow at h
      rw [if_neg h49] at h
      have hat := bt_ne (k := sk (A 2) sz (pAt s)) rfl (sortC_c h49)
      refine Ex_step (tk_M_readsDesign rfl) ?_
      refine gMR (tk_M_readsDesign rfl) hM hM.r10 ?_
      refine Ex_step (tk_M_readsDesign rfl) ?_
      refine Ex_step (tk_M_readsDesign rfl) ?_
      refine Ex_step (tk_M_readsDesign rfl) ?_
      refine Ex_step (tk_M_readsDesign rfl) ?_
      refine Ex_step (tk_M_readsDesign rfl) ?_
      refine Ex_step (tk_M_readsDesign rfl) ?_
      refine Ex_step (tk_M_readsDesign rfl) ?_
      refine Ex_step (tk_M_readsDesign rfl) ?_
      refine Ex_step (tk_M_readsDesign rfl) ?_
      refine Ex_step (tk_M_readsDesign rfl) ?_
      refine Ex_cV0 (av := []) (tk_M_readsDesign rfl) mk_M_sortHere ⟨rfl, rfl, by decide, rfl, Nat.le_of_ble_eq_true rfl, Nat.le_of_ble_eq_true rfl⟩ (hM.k) (fun _ h => f_sortHere hR (hG.here.gd hsz).1 h) ?_
      rw [here_here, hereC_here]
      refine tMI (j := 4) (n := 2 + 103 * nn + 3 + 10 * rows + k) (tk_M_readsDesign rfl) (by decide) hM.k4 hM.n4 (by rw [w32_id (by omega) (by omega)]; omega) (by omega) ?_
      rw [put_T]
      refine Ex_step (tk_M_readsDesign rfl) ?_
      refine Ex_step (tk_M_readsDesign rfl) ?_
      refine gMI (tk_M_readsDesign rfl) hM ?_
      refine Ex_step (tk_M_readsDesign rfl) ?_
      refine Ex_step (tk_M_readsDesign rfl) ?_
      refine pMI (tk_M_readsDesign rfl) hM ?_
      refine Ex_step (tk_M_readsDesign rfl) ?_
      refine Ex_step (tk_M_readsDesign rfl) ?_
      rw [show up1 (pI I (hereP (A 2) sz s)) 4 (pI I (hereP (A 2) sz s) 4 + 1) = pI I (incP (wTP (hereP (A 2) sz s) (2 + 103 * nn + 3 + 10 * rows + k) (sortC (hereC (A 2) sz s)))) from inc_at I (wTP (hereP (A 2) sz s) (2 + 103 * nn + 3 + 10 * rows + k) (sortC (hereC (A 2) sz s)))]
      exact ih (k + 1) _ (by omega) ((hG.here.put).inc hat) h
    refine Ex_step (tk_M_readsDesign rfl) ?_
    refine Ex_cV0 (av := []) (tk_M_readsDesign rfl) mk_M_sortHere ⟨rfl, rfl, by decide, rfl, Nat.le_of_ble_eq_true rfl, Nat.le_of_ble_eq_true rfl⟩ (hM.k) (fun _ h => f_sortHere hR (hG.gd hsz).1 h) ?_
    refine Ex_step (tk_M_readsDesign rfl) ?_
    refine Ex_step (tk_M_readsDesign rfl) ⟨fun h49 => ?_, fun h49 => ?_⟩
    · try simp (disch := omega) only [cmpI, w32_b2i, b2i_0, b2i_1, w32_id, Classical.not_not, not_true_eq_false, not_false_eq_true] at h49
      first | (unfold dsRow at h; rw [if_pos h49] at h; exact h) | (exfalso; first | (rw [if_pos (by omega)] at hlim; omega) | (rw [if_neg (by omega)] at hlim; omega))
    · try simp (disch := omega) only [cmpI, w32_b2i, b2i_0, b2i_1, w32_id, Classical.not_not, not_true_eq_false, not_false_eq_true] at h49
      refine Ex_step (tk_M_readsDesign rfl) ?_
      refine Ex_step (tk_M_readsDesign rfl) ?_
      refine Ex_step (tk_M_readsDesign rfl) ⟨fun h55 => ?_, fun h55 => ?_⟩
      · try simp (disch := omega) only [cmpI, w32_b2i, b2i_0, b2i_1, w32_id, Classical.not_not, not_true_eq_false, not_false_eq_true] at h55
        refine Ex_step (tk_M_readsDesign rfl) ?_
        refine Ex_step (tk_M_readsDesign rfl) ⟨fun h64 => ?_, fun h64 => ?_⟩
        · try simp (disch := omega) only [cmpI, w32_b2i, b2i_0, b2i_1, w32_id, Classical.not_not, not_true_eq_false, not_false_eq_true] at h64
          first | (unfold dsRow at h; rw [if_pos h49] at h; exact h) | (exfalso; first | (rw [if_pos (by omega)] at hlim; omega) | (rw [if_neg (by omega)] at hlim; omega))
        · try simp (disch := omega) only [cmpI, w32_b2i, b2i_0, b2i_1, w32_id, Classical.not_not, not_true_eq_false, not_false_eq_true] at h64
          exact hgo h49
      · try simp (disch := omega) only [cmpI, w32_b2i, b2i_0, b2i_1, w32_id, Classical.not_not, not_true_eq_false, not_false_eq_true] at h55
        refine Ex_step (tk_M_readsDesign rfl) ?_
        refine Ex_step (tk_M_readsDesign rfl) ?_
        refine Ex_step (tk_M_readsDesign rfl) ⟨fun h64 => ?_, fun h64 => ?_⟩
        · try simp (disch := omega) only [cmpI, w32_b2i, b2i_0, b2i_1, w32_id, Classical.not_not, not_true_eq_false, not_false_eq_true] at h64
          first | (unfold dsRow at h; rw [if_pos h49] at h; exact h) | (exfalso; first | (rw [if_pos (by omega)] at hlim; omega) | (rw [if_neg (by omega)] at hlim; omega))
        · try simp (disch := omega) only [cmpI, w32_b2i, b2i_0, b2i_1, w32_id, Classical.not_not, not_true_eq_false, not_false_eq_true] at h64
          exact hgo h49
end MDes
