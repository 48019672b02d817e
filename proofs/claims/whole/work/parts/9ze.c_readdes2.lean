/-! ===== the class: a design is read, from its word on ===== -/
set_option maxRecDepth 100000 in
theorem designP_no {f : Nat → Int} {sz nn : Nat} {s : PSt} (h : pFl (numP f sz s) ≠ 0) : pFl (mustP f sz 59 (designP f sz nn s)) = pFl (numP f sz s) ∧ pFa (mustP f sz 59 (designP f sz nn s)) = pFa (numP f sz s) := by
  unfold designP
  rw [dsLoop_no (show pFl (wTP (numP f sz s) (2 + 103 * nn) (numV f sz s)) ≠ 0 from h) 10]
  rw [must_no (show pFl (dsFin (2 + 103 * nn) (0, 0, wTP (numP f sz s) (2 + 103 * nn) (numV f sz s))) ≠ 0 from h)]
  exact ⟨rfl, rfl⟩
/-- how a line ends that tells a design -/
def LnO (s t : PSt) (rr sz k : Nat) (ds : Nat → Nat) (nn : Nat) (F' A' : Nat → Nat → Int) : Prop := (pFl t ≠ 0 ∧ pFl t ≤ 9 ∧ ∃ q, ScF F' (rr + 1) sz q (pFl t) (pFa t)) ∨ (pFl t = 0 ∧ ScF F' (rr + 1) sz (pAt t) 0 (-1) ∧ pAt t ≤ sz ∧ TxN F' A' k ds (pT t) (nn + 1) ∧ ∀ j, j = 1 ∨ 620 ≤ j → pT t j = pT s j)
section CReadDes
variable {d tr tp sz rr k nn p : Nat} {ds : Nat → Nat} {m : Mem} {F A L : Nat → Nat → Int} {Q : Nat → Option AV → Mem → Prop} {s : PSt}
set_option maxRecDepth 100000 in
theorem c_des113 {a : Nat} {mo row : Int} (hk2 : mK m k = 2) (hn : nn ≤ 6) (hF : F 129 k = (nn : Int)) (h : Q 0 none (CM m (upF F 129 k ((nn : Int) + 1)) A L)) : Ex d TR_readDesign 113 [some (vR tr), some (vR k), some (vR a), some (vI mo), some (vI row)] [] (CM m F A L) Q := by
  refine Ex_step (tk_TR_readDesign rfl) ?_
  refine Ex_step (tk_TR_readDesign rfl) ?_
  refine gCI (tk_TR_readDesign rfl) (hk2) ?_
  rw [hF]
  refine Ex_step (tk_TR_readDesign rfl) ?_
  refine Ex_step (tk_TR_readDesign rfl) ?_
  refine pCI (tk_TR_readDesign rfl) (hk2) ?_
  refine Ex_step (tk_TR_readDesign rfl) ⟨rfl, ?_⟩
  exact h
set_option maxRecDepth 100000 in
theorem c_readDesign (hk10 : mK m tr = 10) (hr640 : mFR m 640 tr = rr + 1) (hSW : ScW m (rr + 1) tp) (hBW : BkW m k ds) (hBD : BkD k ds) (hkr : k + 20 ≤ rr) (h100 : 100 ≤ k) (htp : tp < k) (hsz : sz ≤ 800) (hf : byts (A tp)) (hC : CLow m F A L) (hS : ScF F (rr + 1) sz p 0 (-1)) (hp : p ≤ sz) (hps : sk (A tp) sz p = p) (hw : wdP (A tp) sz 0 p) (h0 : pFl s = 0) (hat : pAt s = p) (hT : TxN F A k ds (pT s) nn) (h : ∀ F' A' : Nat → Nat → Int, KX k rr F F' A A' → LnO s (mustP (A tp) sz 59 (if nn = 6 then wrongP (tkS (A tp) sz 0 s) 3 (pAt s : Nat) else designP (A tp) sz nn (tkS (A tp) sz 0 s))) rr sz k ds nn F' A' → Q 0 none (CM m F' A' L)) : Ex (d + 6) TR_readDesign 0 [some (vR tr), some (vR k), none, none, none] [] (CM m F A L) Q := by
  have hk8 := hSW.1
  have hk2 := hBW.1
  have hr128 := hBW.2.1
  have hn6 := hT.1
  have h129 := hT.2.2.1.1
  have hkk := (tk_hit (f := A tp) (sz := sz) (s := s) (p := p) (w := 0) h0 (by rw [hat]) (by rw [hps]; exact hw)).2
  rw [hps, show wn 0 = 6 from rfl] at hkk
  rw [hkk] at h
  by_cases h6 : nn = 6
  · rw [if_pos h6, show wrongP (wAtP s (p + 6)) 3 (pAt s : Nat) = wFlP (wAtP s (p + 6)) 3 (pAt s : Nat) from if_pos h0, must_no (show pFl (wFlP (wAtP s (p + 6)) 3 (pAt s : Nat)) ≠ 0 by show (3 : Nat) ≠ 0; decide)] at h
    have hx := h _ A ((KX.s k rr F A 515 3).tr (KX.s k rr _ A 516 (p : Int))) (Or.inl ⟨by show (3 : Nat) ≠ 0; decide, by show (3 : Nat) ≤ 9; decide, p, ⟨by rw [upF_f _ _ _ (by decide), upF_f _ _ _ (by decide)]; exact hS.1, by rw [upF_f _ _ _ (by decide), upF_f _ _ _ (by decide)]; exact hS.2.1, by rw [upF_f _ _ _ (by decide), upF_at]; rfl, by rw [upF_at]; show (p : Int) = (pAt s : Nat); rw [hat]⟩⟩)
    refine Ex_step (tk_TR_readDesign rfl) ?_
    refine gCI (tk_TR_readDesign rfl) (hk2) ?_
    rw [h129]
    refine Ex_step (tk_TR_readDesign rfl) ?_
    refine Ex_step (tk_TR_readDesign rfl) ⟨fun h6 => ?_, fun h6 => ?_⟩
    · try simp (disch := omega) only [cmpI, w32_b2i, b2i_0, b2i_1, w32_id, Classical.not_not, not_true_eq_false, not_false_eq_true] at h6
      omega
    · try simp (disch := omega) only [cmpI, w32_b2i, b2i_0, b2i_1, w32_id, Classical.not_not, not_true_eq_false, not_false_eq_true] at h6
      refine Ex_step (tk_TR_readDesign rfl) ?_
      refine gCR (tk_TR_readDesign rfl) (hk10) (hr640) ?_
      refine Ex_step (tk_TR_readDesign rfl) ?_
      refine Ex_cV0 (av := [vI ((3 : Nat) : Int)]) (tk_TR_readDesign rfl) mk_Scan_fail ⟨rfl, rfl, by decide, rfl, Nat.le_of_ble_eq_true rfl, Nat.le_of_ble_eq_true rfl⟩ (hk8) (fun _ h => c_fail hk8 hS (by decide) h) ?_
      refine Ex_step (tk_TR_readDesign rfl) ⟨rfl, ?_⟩
      exact hx
  · rw [if_neg h6] at h
    have hn5 : nn < 6 := by omega
    have hdn := hBD.1 nn hn5
    have hDW := (hBW.2.2.2.2 nn hn5).2
    have hk3 := hDW.1
    have hpl : p + 6 ≤ sz := by
      have z := bt_lt (hw.1 5 (by decide)) (show wg 0 5 ≠ -1 by decide)
      omega
    have hS1 := hS.at_ (p + 6)
    have k1 := KX.s k rr F A 514 ((p + 6 : Nat) : Int)
    have h129a : upF F 514 (rr + 1) ((p + 6 : Nat) : Int) 129 k = (nn : Int) := (upF_f _ _ _ (by decide)).trans h129
    have key : ∀ F1 : Nat → Nat → Int, ScF F1 (rr + 1) sz (p + 6) 0 (-1) → (∀ f j, j ≠ rr + 1 → F1 f j = F f j) → Ex (d + 6) TR_readDesign 27 [some (vR tr), some (vR k), none, none, none] [vI 1] (CM m F1 A L) Q := by
      intro F1 hS1 hF1
      have hsk := sk_sz (f := A tp) hpl
      have hlook := fun (Q1 : Nat → Option AV → Mem → Prop) => c_look (d := d + 4) (L := L) (Q := Q1) (fl := 0) (pl := -1) hSW hsz hf (sz + 1) (p + 6) F1 (by omega) (by omega) hS1
      have hS2 := hS1.at_ (sk (A tp) sz (p + 6))
      have hF2 : ∀ f j, j ≠ rr + 1 → upF F1 514 (rr + 1) ((sk (A tp) sz (p + 6) : Nat) : Int) f j = F f j := fun f j q => (upF_a _ _ _ q).trans (hF1 f j q)
      have hbr := bt_range hf hsz (sk (A tp) sz (p + 6))
      have hhc : hereC (A tp) sz (wAtP s (p + 6)) = bt (A tp) sz (sk (A tp) sz (p + 6)) := rfl
      generalize upF F1 514 (rr + 1) ((sk (A tp) sz (p + 6) : Nat) : Int) = F2 at *
      have e129 : F2 129 k = (nn : Int) := (hF2 129 k (by omega)).trans h129
      have kF2 : KX k rr F F2 A A := ⟨fun f j _ _ q => hF2 f j q, fun _ _ _ _ => rfl⟩
      by_cases hd : dgt (bt (A tp) sz (sk (A tp) sz (p + 6)))
      · have hdb : b2i (dgt (bt (A tp) sz (sk (A tp) sz (p + 6)))) = 1 := if_pos hd
        have hnr := nmV_rg (A tp) sz (sz + 1) (sk (A tp) sz (p + 6)) 0 (by omega) (by omega)
        have eN : ∀ n : Int, numV (A tp) sz (wAtP s (p + 6)) = n → nmV (A tp) sz (sk (A tp) sz (p + 6)) 0 = n := fun n z => by
          rw [← z]
          unfold numV
          rw [if_pos (show pFl (wAtP s (p + 6)) = 0 from h0), hhc, if_pos hd]
          rfl
        have h65 : ∀ (n : Int) (F3 : Nat → Nat → Int) (q fl : Nat) (pl : Int), fl ≤ 9 → ScF F3 (rr + 1) sz q fl pl → (∀ f j, j ≠ rr + 1 → F3 f j = F f j) → (∀ (A2 : Nat → Nat → Int), (∀ j, j ≠ ds nn + 1 → j ≠ ds nn + 2 → A2 j = A j) → DB A2 (ds nn) (fun _ _ => 0) → Ex (d + 6) TR_readDesign 90 [some (vR tr), some (vR k), some (vR (ds nn)), some (vI (if fl = 0 then 1 else 0)), some (vI 0)] [] (CM m (upF (upF (upF F3 192 (ds nn) n) 193 (ds nn) 0) 194 (ds nn) 0) A2 L) Q) → Ex (d + 6) TR_readDesign 68 [some (vR tr), some (vR k), some (vR (ds nn)), none, none] [vI n, vR (ds nn)] (CM m F3 A L) Q := by
          intro n F3 q fl pl hfl hS3 hF3 hx
          have hS4 : ScF (upF (upF (upF F3 192 (ds nn) n) 193 (ds nn) 0) 194 (ds nn) 0) (rr + 1) sz q fl pl := hS3.k (fun f => by rw [upF_a _ _ _ (by omega), upF_a _ _ _ (by omega), upF_a _ _ _ (by omega)])
          have hbg := fun (Q1 : Nat → Option AV → Mem → Prop) => c_begin (d := d + 3) (F := F3) (A := A) (L := L) (Q := Q1) hDW (n := n)
          have hfd := fun (Q1 : Nat → Option AV → Mem → Prop) (A2 : Nat → Nat → Int) => c_failed (d := d + 5) (A := A2) (L := L) (Q := Q1) hk8 hS4 hfl
          by_cases z : fl = 0
          · rw [if_pos z] at hx
            refine Ex_cVK (av := [vI n]) (tk_TR_readDesign rfl) mk_Des_begin ⟨rfl, rfl, by decide, rfl, Nat.le_of_ble_eq_true rfl, Nat.le_of_ble_eq_true rfl⟩ (hk3) (hbg _ (fun A2 k2 k3 => ⟨rfl, ?_⟩))
            refine Ex_step (tk_TR_readDesign rfl) ?_
            refine gCR (tk_TR_readDesign rfl) (hk10) (hr640) ?_
            refine Ex_cV0 (av := []) (tk_TR_readDesign rfl) mk_Scan_failed ⟨rfl, rfl, by decide, rfl, Nat.le_of_ble_eq_true rfl, Nat.le_of_ble_eq_true rfl⟩ (hk8) (fun _ h => hfd _ A2 h) ?_
            refine Ex_step (tk_TR_readDesign rfl) ⟨fun h78 => ?_, fun h78 => ?_⟩
            · try simp (disch := omega) only [cmpI, w32_b2i, b2i_0, b2i_1, w32_id, Classical.not_not, not_true_eq_false, not_false_eq_true] at h78
              exact absurd z h78
            · try simp (disch := omega) only [cmpI, w32_b2i, b2i_0, b2i_1, w32_id, Classical.not_not, not_true_eq_false, not_false_eq_true] at h78
              refine Ex_step (tk_TR_readDesign rfl) ?_
              refine Ex_step (tk_TR_readDesign rfl) ?_
              refine Ex_step (tk_TR_readDesign rfl) ?_
              refine Ex_step (tk_TR_readDesign rfl) ?_
              refine Ex_step (tk_TR_readDesign rfl) ?_
              exact hx A2 k2 k3
          · rw [if_neg z] at hx
            refine Ex_cVK (av := [vI n]) (tk_TR_readDesign rfl) mk_Des_begin ⟨rfl, rfl, by decide, rfl, Nat.le_of_ble_eq_true rfl, Nat.le_of_ble_eq_true rfl⟩ (hk3) (hbg _ (fun A2 k2 k3 => ⟨rfl, ?_⟩))
            refine Ex_step (tk_TR_readDesign rfl) ?_
            refine gCR (tk_TR_readDesign rfl) (hk10) (hr640) ?_
            refine Ex_cV0 (av := []) (tk_TR_readDesign rfl) mk_Scan_failed ⟨rfl, rfl, by decide, rfl, Nat.le_of_ble_eq_true rfl, Nat.le_of_ble_eq_true rfl⟩ (hk8) (fun _ h => hfd _ A2 h) ?_
            refine Ex_step (tk_TR_readDesign rfl) ⟨fun h78 => ?_, fun h78 => ?_⟩
            · try simp (disch := omega) only [cmpI, w32_b2i, b2i_0, b2i_1, w32_id, Classical.not_not, not_true_eq_false, not_false_eq_true] at h78
              refine Ex_step (tk_TR_readDesign rfl) ?_
              refine Ex_step (tk_TR_readDesign rfl) ?_
              refine Ex_step (tk_TR_readDesign rfl) ?_
              refine Ex_step (tk_TR_readDesign rfl) ?_
              exact hx A2 k2 k3
            · try simp (disch := omega) only [cmpI, w32_b2i, b2i_0, b2i_1, w32_id, Classical.not_not, not_true_eq_false, not_false_eq_true] at h78
              exact absurd h78 z
        have hno : 9999 < nmV (A tp) sz (sk (A tp) sz (p + 6)) 0 → Ex (d + 6) TR_readDesign 68 [some (vR tr), some (vR k), some (vR (ds nn)), none, none] [vI 0, vR (ds nn)] (CM m (upF (upF F2 515 (rr + 1) 2) 516 (rr + 1) ((sk (A tp) sz (p + 6) : Nat) : Int)) A L) Q := by
          intro z
          have eP : numP (A tp) sz (wAtP s (p + 6)) = wFlP (wAtP (wAtP s (p + 6)) (nmE (A tp) sz (sk (A tp) sz (p + 6)))) 2 (sk (A tp) sz (p + 6) : Nat) := by
            unfold numP
            rw [if_pos (show pFl (wAtP s (p + 6)) = 0 from h0), hhc, if_pos hd]
            exact if_pos z
          have hz := designP_no (f := A tp) (sz := sz) (nn := nn) (s := wAtP s (p + 6)) (by rw [eP]; show (2 : Nat) ≠ 0; decide)
          rw [eP] at hz
          have hz1 : pFl (mustP (A tp) sz 59 (designP (A tp) sz nn (wAtP s (p + 6)))) = 2 := hz.1
          have hz2 : pFa (mustP (A tp) sz 59 (designP (A tp) sz nn (wAtP s (p + 6)))) = (sk (A tp) sz (p + 6) : Nat) := hz.2
          have hS3 : ScF (upF (upF F2 515 (rr + 1) 2) 516 (rr + 1) ((sk (A tp) sz (p + 6) : Nat) : Int)) (rr + 1) sz (sk (A tp) sz (p + 6)) 2 ((sk (A tp) sz (p + 6) : Nat) : Int) := ⟨by rw [upF_f _ _ _ (by decide), upF_f _ _ _ (by decide)]; exact hS2.1, by rw [upF_f _ _ _ (by decide), upF_f _ _ _ (by decide)]; exact hS2.2.1, by rw [upF_f _ _ _ (by decide), upF_at]; rfl, upF_at _ _ _ _⟩
          have kF3 : ∀ f j, j ≠ rr + 1 → upF (upF F2 515 (rr + 1) 2) 516 (rr + 1) ((sk (A tp) sz (p + 6) : Nat) : Int) f j = F f j := fun f j q => by rw [upF_a _ _ _ q, upF_a _ _ _ q]; exact hF2 f j q
          generalize upF (upF F2 515 (rr + 1) 2) 516 (rr + 1) ((sk (A tp) sz (p + 6) : Nat) : Int) = F3 at *
          refine h65 0 F3 _ 2 _ (by decide) hS3 kF3 (fun A2 k2 k3 => ?_)
          refine c_des0 (row := 0) (by decide) (c_des113 hk2 hn6 (by rw [upF_a _ _ _ (by omega), upF_a _ _ _ (by omega), upF_a _ _ _ (by omega), kF3 _ _ (by omega)]; exact h129) (h _ A2 ?_ (Or.inl ?_)))
          · refine ((((KX.tr (F' := F3) (A' := A) ⟨fun f j _ _ q => kF3 f j q, fun _ _ _ _ => rfl⟩ (KX.r F3 k2 (by omega) (by omega))).tr (KX.b _ A2 192 0 (by omega))).tr (KX.b _ A2 193 0 (by omega))).tr (KX.b _ A2 194 0 (by omega))).tr (KX.b _ A2 129 _ (by omega))
          · rw [hz1, hz2]
            exact ⟨by decide, by decide, _, hS3.k (fun f => by rw [upF_a _ _ _ (by omega), upF_a _ _ _ (by omega), upF_a _ _ _ (by omega), upF_a _ _ _ (by omega)])⟩
        have hyes : ¬ 9999 < nmV (A tp) sz (sk (A tp) sz (p + 6)) 0 → Ex (d + 6) TR_readDesign 68 [some (vR tr), some (vR k), some (vR (ds nn)), none, none] [vI (nmV (A tp) sz (sk (A tp) sz (p + 6)) 0), vR (ds nn)] (CM m (upF F2 514 (rr + 1) ((nmE (A tp) sz (sk (A tp) sz (p + 6)) : Nat) : Int)) A L) Q := by
          intro z
          have hnl := nmE_le (A tp) sz (sz + 1) (sk (A tp) sz (p + 6)) (by omega)
          have eP : numP (A tp) sz (wAtP s (p + 6)) = wAtP (wAtP s (p + 6)) (nmE (A tp) sz (sk (A tp) sz (p + 6))) := by
            unfold numP
            rw [if_pos (show pFl (wAtP s (p + 6)) = 0 from h0), hhc, if_pos hd]
            exact if_neg z
          have eV := (eN _ rfl)
          have hS3 := hS2.at_ (nmE (A tp) sz (sk (A tp) sz (p + 6)))
          have kF3 : ∀ f j, j ≠ rr + 1 → upF F2 514 (rr + 1) ((nmE (A tp) sz (sk (A tp) sz (p + 6)) : Nat) : Int) f j = F f j := fun f j q => by rw [upF_a _ _ _ q]; exact hF2 f j q
          generalize upF F2 514 (rr + 1) ((nmE (A tp) sz (sk (A tp) sz (p + 6)) : Nat) : Int) = F3 at *
          have hbD : 2 + 103 * nn = bD nn := rfl
          have hz0 := hT.2.2.2.2
          unfold designP at h
          rw [eP, ← eV, hbD] at h
          generalize nmV (A tp) sz (sk (A tp) sz (p + 6)) 0 = n at *
          refine h65 n F3 _ 0 _ (by decide) hS3 kF3 (fun A2 k2 k3 => ?_)
          have hT1 : ∀ j, j ≠ bD nn → pT (wTP (wAtP (wAtP s (p + 6)) (nmE (A tp) sz (sk (A tp) sz (p + 6)))) (bD nn) n) j = pT s j := fun j q => up1_ne _ _ q
          have hT2 : pT (wTP (wAtP (wAtP s (p + 6)) (nmE (A tp) sz (sk (A tp) sz (p + 6)))) (bD nn) n) (bD nn) = n := up1_at _ _ _
          have hA2 : pAt (wTP (wAtP (wAtP s (p + 6)) (nmE (A tp) sz (sk (A tp) sz (p + 6)))) (bD nn) n) = nmE (A tp) sz (sk (A tp) sz (p + 6)) := rfl
          have hF0 : pFl (wTP (wAtP (wAtP s (p + 6)) (nmE (A tp) sz (sk (A tp) sz (p + 6)))) (bD nn) n) = 0 := h0
          generalize wTP (wAtP (wAtP s (p + 6)) (nmE (A tp) sz (sk (A tp) sz (p + 6)))) (bD nn) n = s1 at *
          refine c_desLoop (d := d + 3) (A0 := A) (b := bD nn) hk10 hr640 hSW hDW (by omega) (by omega) (by omega) hsz hf (by omega) 9 0 0 _ A2 s1 (nmE (A tp) sz (sk (A tp) sz (p + 6))) rfl (fun z => absurd rfl z) (by decide) hF0 (hS3.k (fun f => by rw [upF_a _ _ _ (by omega), upF_a _ _ _ (by omega), upF_a _ _ _ (by omega)])) (upF_at _ _ _ _) ((upF_f _ _ _ (by decide)).trans (upF_at _ _ _ _)) (by omega) (by rw [hA2]) (k3.e ?_) (fun i hi => ?_) (k2 tp (by omega) (by omega)) (fun F' A' mo row ho => ?_)
          · funext X Y
            exact (if_neg (show ¬ ((0 ≤ X ∧ X < ((0 : Nat) : Int)) ∧ 0 ≤ Y ∧ Y < ((0 : Nat) : Int)) by omega)).symm
          · rw [hT1 _ (by omega), hz0 _ (by omega) (by omega)]
            decide
          · have kX3 : KX k rr F (upF (upF (upF F3 192 (ds nn) n) 193 (ds nn) 0) 194 (ds nn) 0) A A2 := (((KX.tr (F' := F3) (A' := A) ⟨fun f j _ _ q => kF3 f j q, fun _ _ _ _ => rfl⟩ (KX.r F3 k2 (by omega) (by omega))).tr (KX.b _ A2 192 n (by omega))).tr (KX.b _ A2 193 0 (by omega))).tr (KX.b _ A2 194 0 (by omega))
            have k4 := ho.1
            have e1 : F' 129 k = (nn : Int) := by rw [k4.1 129 k (by omega) (by omega), upF_a _ _ _ (by omega), upF_a _ _ _ (by omega), upF_a _ _ _ (by omega), kF3 _ _ (by omega)]; exact h129
            refine c_des113 hk2 hn6 e1 (h _ A' ((kX3.tr (k4.t (by omega) (by omega))).tr (KX.b _ A' 129 _ (by omega))) ?_)
            generalize mustP (A tp) sz 59 (dsFin (bD nn) (dsLoop (A tp) sz (bD nn) (9 + 1) 0 0 s1)) = t at *
            rcases ho.2 with ⟨z1, z2, q, z3⟩ | ⟨z1, z2, z3, z4, z5, z6, z7, z8, z9, z10, z11⟩
            · exact Or.inl ⟨z1, z2, q, z3.k (fun f => upF_a _ _ _ (by omega))⟩
            · refine Or.inr ⟨z1, z2.k (fun f => upF_a _ _ _ (by omega)), z3, ?_, fun j hj => (z10 j (by omega) (by omega)).trans (hT1 j (by omega))⟩
              have e192 : F' 192 (ds nn) = pT t (bD nn) := by rw [k4.2.2, upF_f _ _ _ (by decide), upF_f _ _ _ (by decide), upF_at, z10 (bD nn) (by omega) (Or.inl (Nat.le_refl _)), hT2]
              refine hT.add (c := rr + 1) hn5 hBD (by omega) (fun f j y1 y2 => ?_) (fun j y1 y2 => (k4.2.1 j y1 y2).trans (k2 j y1 y2)) e192 ?_ z4 z5 z6 z7 z8 z9 (fun j y1 y2 => (z10 j y1 (by omega)).trans (hT1 j (by omega))) (z11.trans (congrArg (· + 1) (hT1 0 (by omega))))
              · rw [k4.1 f j y1 y2, upF_a _ _ _ y2, upF_a _ _ _ y2, upF_a _ _ _ y2]
                exact kF3 f j y1
              · rw [z10 (bD nn) (by omega) (Or.inl (Nat.le_refl _)), hT2]
                omega
        refine Ex_step (tk_TR_readDesign rfl) ?_
        refine Ex_step (tk_TR_readDesign rfl) ?_
        refine gCR (tk_TR_readDesign rfl) (hk10) (hr640) ?_
        refine Ex_cV0 (av := []) (tk_TR_readDesign rfl) mk_Scan_look ⟨rfl, rfl, by decide, rfl, Nat.le_of_ble_eq_true rfl, Nat.le_of_ble_eq_true rfl⟩ (hk8) (fun _ h => hlook _ h) ?_
        refine Ex_cS0 (av := [vI (bt (A tp) sz (sk (A tp) sz (p + 6)))]) (tk_TR_readDesign rfl) mk_Scan_isDigit ⟨rfl, by decide, rfl, rfl, rfl, Nat.le_of_ble_eq_true rfl, Nat.le_of_ble_eq_true rfl⟩ (fun _ h => c_isDigit hbr h) ?_
        refine Ex_step (tk_TR_readDesign rfl) ⟨fun h38 => ?_, fun h38 => ?_⟩
        · try simp (disch := omega) only [cmpI, w32_b2i, b2i_0, b2i_1, w32_id, Classical.not_not, not_true_eq_false, not_false_eq_true] at h38
          refine Ex_step (tk_TR_readDesign rfl) ?_
          refine gCR (tk_TR_readDesign rfl) (hk2) (hr128) ?_
          refine Ex_step (tk_TR_readDesign rfl) ?_
          refine gCI (tk_TR_readDesign rfl) (hk2) ?_
          rw [e129]
          refine lCR (n := nn) (tk_TR_readDesign rfl) (⟨⟨by rw [hBW.2.2.1]; decide, by rw [hBW.2.2.1]; decide⟩, hBW.2.2.2.1, (hBW.2.2.2.2 nn hn5).1⟩) (w32_id (by omega) (by omega)) (by omega) ?_
          refine Ex_step (tk_TR_readDesign rfl) ?_
          refine Ex_step (tk_TR_readDesign rfl) ?_
          refine Ex_step (tk_TR_readDesign rfl) ?_
          refine gCR (tk_TR_readDesign rfl) (hk10) (hr640) ?_
          refine Ex_cVK (av := []) (tk_TR_readDesign rfl) mk_Scan_takeNumber ⟨rfl, rfl, by decide, rfl, Nat.le_of_ble_eq_true rfl, Nat.le_of_ble_eq_true rfl⟩ hk8 (c_takeNum hSW hS2 hsz hf (by omega) rfl (fun z => ⟨rfl, ?_⟩) (fun z => ⟨rfl, ?_⟩))
          · exact hno z
          · exact hyes z
        · try simp (disch := omega) only [cmpI, w32_b2i, b2i_0, b2i_1, w32_id, Classical.not_not, not_true_eq_false, not_false_eq_true] at h38
          exact absurd hd h38
      · have eP : numP (A tp) sz (wAtP s (p + 6)) = wFlP (hereP (A tp) sz (wAtP s (p + 6))) 1 (sk (A tp) sz (p + 6) : Nat) := by
          unfold numP
          rw [if_pos (show pFl (wAtP s (p + 6)) = 0 from h0), hhc, if_neg hd]
          exact if_pos h0
        have hz := designP_no (f := A tp) (sz := sz) (nn := nn) (s := wAtP s (p + 6)) (by rw [eP]; show (1 : Nat) ≠ 0; decide)
        rw [eP] at hz
        have hz1 : pFl (mustP (A tp) sz 59 (designP (A tp) sz nn (wAtP s (p + 6)))) = 1 := hz.1
        have hz2 : pFa (mustP (A tp) sz 59 (designP (A tp) sz nn (wAtP s (p + 6)))) = (sk (A tp) sz (p + 6) : Nat) := hz.2
        have hx := h _ A ((kF2.tr (KX.s k rr F2 A 515 1)).tr (KX.s k rr _ A 516 ((sk (A tp) sz (p + 6) : Nat) : Int))) (Or.inl (by
          rw [hz1, hz2]
          exact ⟨by decide, by decide, sk (A tp) sz (p + 6), ⟨by rw [upF_f _ _ _ (by decide), upF_f _ _ _ (by decide)]; exact hS2.1, by rw [upF_f _ _ _ (by decide), upF_f _ _ _ (by decide)]; exact hS2.2.1, by rw [upF_f _ _ _ (by decide), upF_at]; rfl, upF_at _ _ _ _⟩⟩))
        refine Ex_step (tk_TR_readDesign rfl) ?_
        refine Ex_step (tk_TR_readDesign rfl) ?_
        refine gCR (tk_TR_readDesign rfl) (hk10) (hr640) ?_
        refine Ex_cV0 (av := []) (tk_TR_readDesign rfl) mk_Scan_look ⟨rfl, rfl, by decide, rfl, Nat.le_of_ble_eq_true rfl, Nat.le_of_ble_eq_true rfl⟩ (hk8) (fun _ h => hlook _ h) ?_
        refine Ex_cS0 (av := [vI (bt (A tp) sz (sk (A tp) sz (p + 6)))]) (tk_TR_readDesign rfl) mk_Scan_isDigit ⟨rfl, by decide, rfl, rfl, rfl, Nat.le_of_ble_eq_true rfl, Nat.le_of_ble_eq_true rfl⟩ (fun _ h => c_isDigit hbr h) ?_
        refine Ex_step (tk_TR_readDesign rfl) ⟨fun h38 => ?_, fun h38 => ?_⟩
        · try simp (disch := omega) only [cmpI, w32_b2i, b2i_0, b2i_1, w32_id, Classical.not_not, not_true_eq_false, not_false_eq_true] at h38
          exact absurd h38 hd
        · try simp (disch := omega) only [cmpI, w32_b2i, b2i_0, b2i_1, w32_id, Classical.not_not, not_true_eq_false, not_false_eq_true] at h38
          refine Ex_step (tk_TR_readDesign rfl) ?_
          refine gCR (tk_TR_readDesign rfl) (hk10) (hr640) ?_
          refine Ex_step (tk_TR_readDesign rfl) ?_
          refine Ex_cV0 (av := [vI ((1 : Nat) : Int)]) (tk_TR_readDesign rfl) mk_Scan_fail ⟨rfl, rfl, by decide, rfl, Nat.le_of_ble_eq_true rfl, Nat.le_of_ble_eq_true rfl⟩ (hk8) (fun _ h => c_fail hk8 hS2 (by decide) h) ?_
          refine Ex_step (tk_TR_readDesign rfl) ⟨rfl, ?_⟩
          exact hx
    refine Ex_step (tk_TR_readDesign rfl) ?_
    refine gCI (tk_TR_readDesign rfl) (hk2) ?_
    rw [h129]
    refine Ex_step (tk_TR_readDesign rfl) ?_
    refine Ex_step (tk_TR_readDesign rfl) ⟨fun h6 => ?_, fun h6 => ?_⟩
    · try simp (disch := omega) only [cmpI, w32_b2i, b2i_0, b2i_1, w32_id, Classical.not_not, not_true_eq_false, not_false_eq_true] at h6
      refine Ex_step (tk_TR_readDesign rfl) ?_
      refine gCR (tk_TR_readDesign rfl) (hk10) (hr640) ?_
      refine Ex_step (tk_TR_readDesign rfl) ?_
      refine Ex_cVK (av := [vR 4]) (tk_TR_readDesign rfl) mk_Scan_takesWord ⟨rfl, rfl, by decide, rfl, Nat.le_of_ble_eq_true rfl, Nat.le_of_ble_eq_true rfl⟩ hk8 (c_takesW hSW hS hsz hp hf (hC 0 (by decide)) (fun _ => ⟨rfl, ?_⟩) (fun z => absurd hw z))
      exact key _ hS1 (fun f j q => upF_a _ _ _ q)
    · try simp (disch := omega) only [cmpI, w32_b2i, b2i_0, b2i_1, w32_id, Classical.not_not, not_true_eq_false, not_false_eq_true] at h6
      omega
end CReadDes
