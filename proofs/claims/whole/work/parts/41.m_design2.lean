/-! ===== the reference reads a design: rows, all of it ===== -/
set_option maxRecDepth 100000 in
theorem GK.dend {f : Nat → Int} {sz b rows wide : Nat} {s : PSt} (h : GK sz s) : GK sz (dsEnd rows wide (dsRow2 f sz b rows wide s)) := by
  unfold dsEnd
  split
  · exact (GK.row _ _ _ h).wrong (by decide)
  · exact GK.row _ _ _ h
section MDes2
variable {d sz n e : Nat} {m : Mem} {I : Nat → Int} {A L : Nat → Nat → Int} {s : PSt} {Q : Nat → Option AV → Mem → Prop}
set_option maxRecDepth 100000 in
theorem f_dsFin (hR : RdW m I A sz) {nn rows wide : Nat} (hnn : nn ≤ 5) {D : Int} (hD : D = ((2 + 103 * nn : Nat) : Int)) {l4 l5 : Option AV} (h : Q 0 none (PM m I A L (dsFin (2 + 103 * nn) (rows, wide, s)))) : Ex (d + 3) M_readsDesign 173 [some (vR aM), some (vI D), some (vI (wide : Int)), some (vI (rows : Int)), l4, l5] [] (PM m I A L s) Q := by
  have hM := hR.1
  subst hD
  refine Ex_step (tk_M_readsDesign rfl) ?_
  refine gMR (tk_M_readsDesign rfl) hM hM.r10 ?_
  refine Ex_step (tk_M_readsDesign rfl) ?_
  refine Ex_step (tk_M_readsDesign rfl) ?_
  refine Ex_step (tk_M_readsDesign rfl) ?_
  refine Ex_step (tk_M_readsDesign rfl) ?_
  refine tMI (j := 4) (n := 2 + 103 * nn + 1) (tk_M_readsDesign rfl) (by decide) hM.k4 hM.n4 (by rw [w32_id (by omega) (by omega)]; omega) (by omega) ?_
  rw [put_T]
  refine Ex_step (tk_M_readsDesign rfl) ?_
  refine gMR (tk_M_readsDesign rfl) hM hM.r10 ?_
  refine Ex_step (tk_M_readsDesign rfl) ?_
  refine Ex_step (tk_M_readsDesign rfl) ?_
  refine Ex_step (tk_M_readsDesign rfl) ?_
  refine Ex_step (tk_M_readsDesign rfl) ?_
  refine tMI (j := 4) (n := 2 + 103 * nn + 2) (tk_M_readsDesign rfl) (by decide) hM.k4 hM.n4 (by rw [w32_id (by omega) (by omega)]; omega) (by omega) ?_
  rw [put_T A (wTP s (2 + 103 * nn + 1) (wide : Int))]
  refine Ex_step (tk_M_readsDesign rfl) ?_
  refine gMR (tk_M_readsDesign rfl) hM hM.r10 ?_
  refine Ex_step (tk_M_readsDesign rfl) ?_
  refine Ex_step (tk_M_readsDesign rfl) ?_
  refine lMI (j := 4) (n := 0) (tk_M_readsDesign rfl) (by decide) hM.k4 hM.n4 (rfl) (by decide) ?_
  refine Ex_step (tk_M_readsDesign rfl) ?_
  refine Ex_step (tk_M_readsDesign rfl) ?_
  refine tMI (j := 4) (n := 0) (tk_M_readsDesign rfl) (by decide) hM.k4 hM.n4 (rfl) (by decide) ?_
  rw [put_T A (wTP (wTP s (2 + 103 * nn + 1) (wide : Int)) (2 + 103 * nn + 2) (rows : Int))]
  refine Ex_step (tk_M_readsDesign rfl) ⟨rfl, ?_⟩
  exact h
set_option maxRecDepth 100000 in
theorem f_ds0 (hR : RdW m I A sz) {nn rows wide : Nat} (hnn : nn ≤ 5) (hG : GK sz s) {D : Int} (hD : D = ((2 + 103 * nn : Nat) : Int)) {l5 : Option AV} (h : Q 0 none (PM m I A L (dsFin (2 + 103 * nn) (rows, wide, s)))) : Ex (d + 3) M_readsDesign 29 [some (vR aM), some (vI D), some (vI (wide : Int)), some (vI (rows : Int)), some (vI 0), l5] [] (PM m I A L s) Q := by
  have hM := hR.1
  have hsz := hR.2.2.1
  refine Ex_step (tk_M_readsDesign rfl) ?_
  refine Ex_cV0 (av := []) (tk_M_readsDesign rfl) mk_M_fine ⟨rfl, rfl, by decide, rfl, Nat.le_of_ble_eq_true rfl, Nat.le_of_ble_eq_true rfl⟩ (hM.k) (fun _ h => f_fine hR (hG.gd hsz).2.1 h) ?_
  refine Ex_step (tk_M_readsDesign rfl) ⟨fun h33 => ?_, fun h33 => ?_⟩
  · replace h33 : _ := h33
    exact f_dsFin hR hnn hD h
  · replace h33 : _ := h33
    refine Ex_step (tk_M_readsDesign rfl) ?_
    refine Ex_step (tk_M_readsDesign rfl) ⟨fun h38 => ?_, fun h38 => ?_⟩
    · replace h38 : _ := h38
      exact f_dsFin hR hnn hD h
    · replace h38 : _ := h38
      exact absurd rfl h38
set_option maxRecDepth 100000 in
theorem f_dsLoop (hR : RdW m I A sz) {nn : Nat} (hnn : nn ≤ 5) {D : Int} (hD : D = ((2 + 103 * nn : Nat) : Int)) : ∀ (r rows wide : Nat) (s : PSt) (l5 : Option AV), rows + (r + 1) = 10 → wide ≤ 10 → GK sz s → Q 0 none (PM m I A L (dsFin (2 + 103 * nn) (dsLoop (A 2) sz (2 + 103 * nn) (r + 1) rows wide s))) → Ex (d + 3) M_readsDesign 29 [some (vR aM), some (vI D), some (vI (wide : Int)), some (vI (rows : Int)), some (vI 1), l5] [] (PM m I A L s) Q := by
  have hM := hR.1
  have hsz := hR.2.2.1
  intro r
  induction r using Nat.strongRecOn with
  | _ r ih =>
    intro rows wide s l5 hr hw hG h
    unfold dsLoop at h
    have hk : (dsRow2 (A 2) sz (2 + 103 * nn) rows wide s).1 ≤ 10 ∧ ((0 < rows) → (dsRow2 (A 2) sz (2 + 103 * nn) rows wide s).1 ≤ wide) := by
      have hX : (if rows = 0 then 10 else wide) ≤ 10 ∧ (0 < rows → (if rows = 0 then 10 else wide) ≤ wide) := by
        split
        · exact ⟨by omega, fun z => by omega⟩
        · exact ⟨by omega, fun z => by omega⟩
      have := (dsRow_k (f := A 2) (sz := sz) (b := 2 + 103 * nn + 3 + 10 * rows) (if rows = 0 then 10 else wide) 0 s).2
      unfold dsRow2
      exact ⟨by omega, fun z => by have := hX.2 z; omega⟩
    have hGr : GK sz (dsRow2 (A 2) sz (2 + 103 * nn) rows wide s).2 := GK.row _ _ _ hG
    have hGe : GK sz (dsEnd rows wide (dsRow2 (A 2) sz (2 + 103 * nn) rows wide s)) := GK.dend hG
    have hr47 := hereC_range hR (dsEnd rows wide (dsRow2 (A 2) sz (2 + 103 * nn) rows wide s))
    by_cases h0 : pFl s = 0
    · rw [if_pos h0] at h
      have h127 : Ex (d + 3) M_readsDesign 127 [some (vR aM), some (vI D), some (vI (wide : Int)), some (vI (rows : Int)), some (vI 1), some (vI ((dsRow2 (A 2) sz (2 + 103 * nn) rows wide s).1 : Int))] [] (PM m I A L (dsEnd rows wide (dsRow2 (A 2) sz (2 + 103 * nn) rows wide s))) Q := by
        have hA : ∀ s2 : PSt, GK sz s2 → Q 0 none (PM m I A L (dsFin (2 + 103 * nn) (rows + 1, (dsRow2 (A 2) sz (2 + 103 * nn) rows wide s).1, s2))) → Ex (d + 3) M_readsDesign 153 [some (vR aM), some (vI D), some (vI ((dsRow2 (A 2) sz (2 + 103 * nn) rows wide s).1 : Int)), some (vI ((rows + 1 : Nat) : Int)), some (vI 1), some (vI ((dsRow2 (A 2) sz (2 + 103 * nn) rows wide s).1 : Int))] [vI 0] (PM m I A L s2) Q := by
          intro s2 hG2 h
          refine Ex_step (tk_M_readsDesign rfl) ?_
          refine Ex_step (tk_M_readsDesign rfl) ?_
          refine Ex_step (tk_M_readsDesign rfl) ⟨fun h157 => ?_, fun h157 => ?_⟩
          · replace h157 : _ := h157
            refine Ex_step (tk_M_readsDesign rfl) ?_
            exact f_ds0 hR hnn hG2 hD h
          · replace h157 : _ := h157
            exact absurd rfl h157
        have hB : rows + 1 < 10 → hereC (A 2) sz (dsEnd rows wide (dsRow2 (A 2) sz (2 + 103 * nn) rows wide s)) = 47 → Q 0 none (PM m I A L (dsFin (2 + 103 * nn) (dsLoop (A 2) sz (2 + 103 * nn) r (rows + 1) (dsRow2 (A 2) sz (2 + 103 * nn) rows wide s).1 (incP (hereP (A 2) sz (dsEnd rows wide (dsRow2 (A 2) sz (2 + 103 * nn) rows wide s))))))) → Ex (d + 3) M_readsDesign 153 [some (vR aM), some (vI D), some (vI ((dsRow2 (A 2) sz (2 + 103 * nn) rows wide s).1 : Int)), some (vI ((rows + 1 : Nat) : Int)), some (vI 1), some (vI ((dsRow2 (A 2) sz (2 + 103 * nn) rows wide s).1 : Int))] [vI 1] (PM m I A L (hereP (A 2) sz (dsEnd rows wide (dsRow2 (A 2) sz (2 + 103 * nn) rows wide s)))) Q := by
          intro h9 hc h
          obtain ⟨r, rfl⟩ : ∃ r1, r = r1 + 1 := ⟨r - 1, by omega⟩
          have hG3 := (hGe.here (f := A 2)).inc (bt_ne hc (by decide))
          refine Ex_step (tk_M_readsDesign rfl) ?_
          refine Ex_step (tk_M_readsDesign rfl) ?_
          refine Ex_step (tk_M_readsDesign rfl) ⟨fun h157 => ?_, fun h157 => ?_⟩
          · replace h157 : _ := h157
            exact absurd (show w32 1 = 0 from h157) (by decide)
          · replace h157 : _ := h157
            refine Ex_step (tk_M_readsDesign rfl) ?_
            refine Ex_step (tk_M_readsDesign rfl) ?_
            refine gMI (tk_M_readsDesign rfl) hM ?_
            refine Ex_step (tk_M_readsDesign rfl) ?_
            refine Ex_step (tk_M_readsDesign rfl) ?_
            refine pMI (tk_M_readsDesign rfl) hM ?_
            refine Ex_step (tk_M_readsDesign rfl) ?_
            rw [inc_at]
            exact ih r (by omega) (rows + 1) _ _ _ (by omega) hk.1 hG3 h
        refine Ex_step (tk_M_readsDesign rfl) ?_
        refine Ex_step (tk_M_readsDesign rfl) ?_
        refine Ex_step (tk_M_readsDesign rfl) ?_
        refine Ex_step (tk_M_readsDesign rfl) ?_
        refine Ex_step (tk_M_readsDesign rfl) ?_
        refine Ex_step (tk_M_readsDesign rfl) ⟨fun h136 => ?_, fun h136 => ?_⟩
        · try simp (disch := omega) only [cmpI, w32_b2i, b2i_0, b2i_1, w32_id, Classical.not_not, not_true_eq_false, not_false_eq_true] at h136
          first | (rw [if_neg (show ¬ rows + 1 < 10 by omega)] at h; have hfin := hA _ hGe h) | (rw [if_neg h145] at h; have hfin := hA _ hGe.here h)
          refine Ex_step (tk_M_readsDesign rfl) ?_
          exact hfin
        · try simp (disch := omega) only [cmpI, w32_b2i, b2i_0, b2i_1, w32_id, Classical.not_not, not_true_eq_false, not_false_eq_true] at h136
          rw [if_pos (show rows + 1 < 10 by omega)] at h
          refine Ex_step (tk_M_readsDesign rfl) ?_
          refine Ex_cV0 (av := []) (tk_M_readsDesign rfl) mk_M_here ⟨rfl, rfl, by decide, rfl, Nat.le_of_ble_eq_true rfl, Nat.le_of_ble_eq_true rfl⟩ (hM.k) (fun _ h => f_here hR (hGe.gd hsz).1 h) ?_
          refine Ex_step (tk_M_readsDesign rfl) ?_
          refine Ex_step (tk_M_readsDesign rfl) ⟨fun h145 => ?_, fun h145 => ?_⟩
          · try simp (disch := omega) only [cmpI, w32_b2i, b2i_0, b2i_1, w32_id, Classical.not_not, not_true_eq_false, not_false_eq_true] at h145
            first | (rw [if_neg (show ¬ rows + 1 < 10 by omega)] at h; have hfin := hA _ hGe h) | (rw [if_neg h145] at h; have hfin := hA _ hGe.here h)
            refine Ex_step (tk_M_readsDesign rfl) ?_
            exact hfin
          · try simp (disch := omega) only [cmpI, w32_b2i, b2i_0, b2i_1, w32_id, Classical.not_not, not_true_eq_false, not_false_eq_true] at h145
            rw [if_pos h145] at h
            have hfin := hB (by omega) h145 h
            refine Ex_step (tk_M_readsDesign rfl) ?_
            refine Ex_step (tk_M_readsDesign rfl) ?_
            exact hfin
      have h103 : Ex (d + 3) M_readsDesign 103 [some (vR aM), some (vI D), some (vI (wide : Int)), some (vI (rows : Int)), some (vI 1), some (vI ((dsRow2 (A 2) sz (2 + 103 * nn) rows wide s).1 : Int))] [] (PM m I A L (dsRow2 (A 2) sz (2 + 103 * nn) rows wide s).2) Q := by
        clear h ih
        refine Ex_step (tk_M_readsDesign rfl) ?_
        refine Ex_step (tk_M_readsDesign rfl) ⟨fun h105 => ?_, fun h105 => ?_⟩
        · try simp (disch := omega) only [cmpI, w32_b2i, b2i_0, b2i_1, w32_id, Classical.not_not, not_true_eq_false, not_false_eq_true] at h105
          refine Ex_step (tk_M_readsDesign rfl) ?_
          refine Ex_step (tk_M_readsDesign rfl) ?_
          refine Ex_step (tk_M_readsDesign rfl) ?_
          refine gMI (tk_M_readsDesign rfl) hM ?_
          refine Ex_cV0 (av := [vI 1, vI (pI I (dsRow2 (A 2) sz (2 + 103 * nn) rows wide s).2 4)]) (tk_M_readsDesign rfl) mk_M_wrong ⟨rfl, rfl, by decide, rfl, Nat.le_of_ble_eq_true rfl, Nat.le_of_ble_eq_true rfl⟩ (hM.k) (fun _ h => f_wrong (k := 1) (p := ((pAt (dsRow2 (A 2) sz (2 + 103 * nn) rows wide s).2 : Nat) : Int)) hR (hGr.gd hsz).2.1 h) ?_
          first | (rw [show dsEnd rows wide (dsRow2 (A 2) sz (2 + 103 * nn) rows wide s) = (dsRow2 (A 2) sz (2 + 103 * nn) rows wide s).2 from if_neg (by omega)] at h127; exact h127) | (rw [show dsEnd rows wide (dsRow2 (A 2) sz (2 + 103 * nn) rows wide s) = wrongP (dsRow2 (A 2) sz (2 + 103 * nn) rows wide s).2 1 ((pAt (dsRow2 (A 2) sz (2 + 103 * nn) rows wide s).2 : Nat) : Int) from if_pos (by omega)] at h127; exact h127)
        · try simp (disch := omega) only [cmpI, w32_b2i, b2i_0, b2i_1, w32_id, Classical.not_not, not_true_eq_false, not_false_eq_true] at h105
          refine Ex_step (tk_M_readsDesign rfl) ?_
          refine Ex_step (tk_M_readsDesign rfl) ⟨fun h109 => ?_, fun h109 => ?_⟩
          · try simp (disch := omega) only [cmpI, w32_b2i, b2i_0, b2i_1, w32_id, Classical.not_not, not_true_eq_false, not_false_eq_true] at h109
            first | (rw [show dsEnd rows wide (dsRow2 (A 2) sz (2 + 103 * nn) rows wide s) = (dsRow2 (A 2) sz (2 + 103 * nn) rows wide s).2 from if_neg (by omega)] at h127; exact h127) | (rw [show dsEnd rows wide (dsRow2 (A 2) sz (2 + 103 * nn) rows wide s) = wrongP (dsRow2 (A 2) sz (2 + 103 * nn) rows wide s).2 1 ((pAt (dsRow2 (A 2) sz (2 + 103 * nn) rows wide s).2 : Nat) : Int) from if_pos (by omega)] at h127; exact h127)
          · try simp (disch := omega) only [cmpI, w32_b2i, b2i_0, b2i_1, w32_id, Classical.not_not, not_true_eq_false, not_false_eq_true] at h109
            refine Ex_step (tk_M_readsDesign rfl) ?_
            refine Ex_step (tk_M_readsDesign rfl) ?_
            refine Ex_step (tk_M_readsDesign rfl) ⟨fun h115 => ?_, fun h115 => ?_⟩
            · try simp (disch := omega) only [cmpI, w32_b2i, b2i_0, b2i_1, w32_id, Classical.not_not, not_true_eq_false, not_false_eq_true] at h115
              first | (rw [show dsEnd rows wide (dsRow2 (A 2) sz (2 + 103 * nn) rows wide s) = (dsRow2 (A 2) sz (2 + 103 * nn) rows wide s).2 from if_neg (by omega)] at h127; exact h127) | (rw [show dsEnd rows wide (dsRow2 (A 2) sz (2 + 103 * nn) rows wide s) = wrongP (dsRow2 (A 2) sz (2 + 103 * nn) rows wide s).2 1 ((pAt (dsRow2 (A 2) sz (2 + 103 * nn) rows wide s).2 : Nat) : Int) from if_pos (by omega)] at h127; exact h127)
            · try simp (disch := omega) only [cmpI, w32_b2i, b2i_0, b2i_1, w32_id, Classical.not_not, not_true_eq_false, not_false_eq_true] at h115
              refine Ex_step (tk_M_readsDesign rfl) ?_
              refine Ex_step (tk_M_readsDesign rfl) ?_
              refine Ex_step (tk_M_readsDesign rfl) ?_
              refine gMI (tk_M_readsDesign rfl) hM ?_
              refine Ex_cV0 (av := [vI 1, vI (pI I (dsRow2 (A 2) sz (2 + 103 * nn) rows wide s).2 4)]) (tk_M_readsDesign rfl) mk_M_wrong ⟨rfl, rfl, by decide, rfl, Nat.le_of_ble_eq_true rfl, Nat.le_of_ble_eq_true rfl⟩ (hM.k) (fun _ h => f_wrong (k := 1) (p := ((pAt (dsRow2 (A 2) sz (2 + 103 * nn) rows wide s).2 : Nat) : Int)) hR (hGr.gd hsz).2.1 h) ?_
              first | (rw [show dsEnd rows wide (dsRow2 (A 2) sz (2 + 103 * nn) rows wide s) = (dsRow2 (A 2) sz (2 + 103 * nn) rows wide s).2 from if_neg (by omega)] at h127; exact h127) | (rw [show dsEnd rows wide (dsRow2 (A 2) sz (2 + 103 * nn) rows wide s) = wrongP (dsRow2 (A 2) sz (2 + 103 * nn) rows wide s).2 1 ((pAt (dsRow2 (A 2) sz (2 + 103 * nn) rows wide s).2 : Nat) : Int) from if_pos (by omega)] at h127; exact h127)
      have h36 : Ex (d + 3) M_readsDesign 36 [some (vR aM), some (vI D), some (vI (wide : Int)), some (vI (rows : Int)), some (vI 1), l5] [] (PM m I A L s) Q := by
        clear h ih
        refine Ex_step (tk_M_readsDesign rfl) ?_
        refine Ex_step (tk_M_readsDesign rfl) ⟨fun h38 => ?_, fun h38 => ?_⟩
        · replace h38 : _ := h38
          exact absurd (show w32 1 = 0 from h38) (by decide)
        · replace h38 : _ := h38
          refine Ex_step (tk_M_readsDesign rfl) ?_
          refine Ex_step (tk_M_readsDesign rfl) ?_
          exact f_dsRow hR hnn (show rows ≤ 9 by omega) hw rfl hD (if rows = 0 then 10 else wide) 0 s (by omega) hG h103
      clear h ih
      refine Ex_step (tk_M_readsDesign rfl) ?_
      refine Ex_cV0 (av := []) (tk_M_readsDesign rfl) mk_M_fine ⟨rfl, rfl, by decide, rfl, Nat.le_of_ble_eq_true rfl, Nat.le_of_ble_eq_true rfl⟩ (hM.k) (fun _ h => f_fine hR (hG.gd hsz).2.1 h) ?_
      refine Ex_step (tk_M_readsDesign rfl) ⟨fun h33 => ?_, fun h33 => ?_⟩
      · try simp (disch := omega) only [cmpI, w32_b2i, b2i_0, b2i_1, w32_id, Classical.not_not, not_true_eq_false, not_false_eq_true] at h33
        exact absurd h0 h33
      · try simp (disch := omega) only [cmpI, w32_b2i, b2i_0, b2i_1, w32_id, Classical.not_not, not_true_eq_false, not_false_eq_true] at h33
        exact h36
    · rw [if_neg h0] at h
      refine Ex_step (tk_M_readsDesign rfl) ?_
      refine Ex_cV0 (av := []) (tk_M_readsDesign rfl) mk_M_fine ⟨rfl, rfl, by decide, rfl, Nat.le_of_ble_eq_true rfl, Nat.le_of_ble_eq_true rfl⟩ (hM.k) (fun _ h => f_fine hR (hG.gd hsz).2.1 h) ?_
      refine Ex_step (tk_M_readsDesign rfl) ⟨fun h33 => ?_, fun h33 => ?_⟩
      · try simp (disch := omega) only [cmpI, w32_b2i, b2i_0, b2i_1, w32_id, Classical.not_not, not_true_eq_false, not_false_eq_true] at h33
        exact f_dsFin hR hnn hD h
      · try simp (disch := omega) only [cmpI, w32_b2i, b2i_0, b2i_1, w32_id, Classical.not_not, not_true_eq_false, not_false_eq_true] at h33
        exact absurd h33 h0
set_option maxRecDepth 100000 in
theorem f_readsDesign (hR : RdW m I A sz) {nn : Nat} (hnn : nn ≤ 5) (hN : pT s 0 = (nn : Int)) (hG : GK sz s) (h : Q 0 none (PM m I A L (designP (A 2) sz nn s))) : Ex (d + 3) M_readsDesign 0 [some (vR aM), none, none, none, none, none] [] (PM m I A L s) Q := by
  have hM := hR.1
  have hsz := hR.2.2.1
  have hD : 2 + 103 * (up1 A 4 (pT s) 4 0) = ((2 + 103 * nn : Nat) : Int) := by
    rw [show up1 A 4 (pT s) 4 = pT s from up1_at _ _ _, hN]
    omega
  refine Ex_step (tk_M_readsDesign rfl) ?_
  refine Ex_step (tk_M_readsDesign rfl) ?_
  refine Ex_step (tk_M_readsDesign rfl) ?_
  refine gMR (tk_M_readsDesign rfl) hM hM.r10 ?_
  refine Ex_step (tk_M_readsDesign rfl) ?_
  refine lMI (j := 4) (n := 0) (tk_M_readsDesign rfl) (by decide) hM.k4 hM.n4 (rfl) (by decide) ?_
  refine Ex_step (tk_M_readsDesign rfl) ?_
  refine Ex_step (tk_M_readsDesign rfl) ?_
  show Ex (d + 3) M_readsDesign 11 _ [vI (2 + 103 * up1 A 4 (pT s) 4 0)] _ Q
  rw [hD]
  refine Ex_step (tk_M_readsDesign rfl) ?_
  refine Ex_step (tk_M_readsDesign rfl) ?_
  refine Ex_step (tk_M_readsDesign rfl) ?_
  refine Ex_step (tk_M_readsDesign rfl) ?_
  refine Ex_step (tk_M_readsDesign rfl) ?_
  refine Ex_step (tk_M_readsDesign rfl) ?_
  refine gMR (tk_M_readsDesign rfl) hM hM.r10 ?_
  refine Ex_step (tk_M_readsDesign rfl) ?_
  refine Ex_step (tk_M_readsDesign rfl) ?_
  refine Ex_cV0 (av := []) (tk_M_readsDesign rfl) mk_M_number ⟨rfl, rfl, by decide, rfl, Nat.le_of_ble_eq_true rfl, Nat.le_of_ble_eq_true rfl⟩ (hM.k) (fun _ h => f_number hR (hG.gd hsz) h) ?_
  refine tMI (j := 4) (n := 2 + 103 * nn) (tk_M_readsDesign rfl) (by decide) hM.k4 hM.n4 (by rw [w32_id (by omega) (by omega)]) (by omega) ?_
  rw [show up1 A 4 (pT (numP (A 2) sz s)) = up1 A 4 (pT (numP (A 2) sz s)) from rfl, put_T A (numP (A 2) sz s)]
  refine Ex_step (tk_M_readsDesign rfl) ?_
  refine Ex_step (tk_M_readsDesign rfl) ?_
  exact f_dsLoop hR hnn rfl 9 0 0 _ none (by omega) (by omega) hG.num.put h
end MDes2
