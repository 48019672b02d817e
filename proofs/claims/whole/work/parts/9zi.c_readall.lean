/-! ===== the class: a whole text is read ===== -/
set_option maxRecDepth 100000 in
theorem sFR_ne (m : Mem) {f0 a0 b f a : Nat} (h : ¬ (f = f0 ∧ a = a0)) : mFR (sFR m f0 a0 b) f a = mFR m f a := if_neg h
set_option maxRecDepth 100000 in
theorem sFR_at (m : Mem) (f a b : Nat) : mFR (sFR m f a b) f a = b := if_pos ⟨rfl, rfl⟩
section CReadAll
variable {d tr tp sz rr k : Nat} {ds : Nat → Nat} {Q : Nat → Option AV → Mem → Prop}
set_option maxRecDepth 100000 in
theorem c_ri119 {m : Mem} {F A L : Nat → Nat → Int} {part : Nat} {t : PSt} (hk10 : mK m tr = 10) (hr640 : mFR m 640 tr = rr + 1) (hk8 : mK m (rr + 1) = 8) (hp : part ≤ 1000) (hsz : sz ≤ 800) (hF : FlO F rr sz t) (h : Ex (d + 9) TR_readInto 119 [some (vR tr), some (vR k), some (vR tp), some (vI (sz : Int)), some (vI ((part : Int) + 1))] [] (CM m F A L) Q) : Ex (d + 9) TR_readInto 113 [some (vR tr), some (vR k), some (vR tp), some (vI (sz : Int)), some (vI (part : Int))] [] (CM m F A L) Q := by
  obtain ⟨f1, f2, q, f3⟩ := hF
  refine Ex_step (tk_TR_readInto rfl) ?_
  refine Ex_step (tk_TR_readInto rfl) ?_
  refine Ex_step (tk_TR_readInto rfl) ?_
  refine Ex_step (tk_TR_readInto rfl) ?_
  refine Ex_step (tk_TR_readInto rfl) ⟨fun h25 => ?_, fun h25 => ?_⟩
  · try simp (disch := omega) only [cmpI, w32_b2i, b2i_0, b2i_1, w32_id, Classical.not_not, not_true_eq_false, not_false_eq_true] at h25
    exact h
  · try simp (disch := omega) only [cmpI, w32_b2i, b2i_0, b2i_1, w32_id, Classical.not_not, not_true_eq_false, not_false_eq_true] at h25
    refine Ex_step (tk_TR_readInto rfl) ?_
    refine gCR (tk_TR_readInto rfl) (hk10) (hr640) ?_
    refine Ex_cV0 (av := []) (tk_TR_readInto rfl) mk_Scan_failed ⟨rfl, rfl, by decide, rfl, Nat.le_of_ble_eq_true rfl, Nat.le_of_ble_eq_true rfl⟩ (hk8) (fun _ h => c_failed hk8 f3 f2 h) ?_
    refine Ex_step (tk_TR_readInto rfl) ⟨fun h35 => ?_, fun h35 => ?_⟩
    · try simp (disch := omega) only [cmpI, w32_b2i, b2i_0, b2i_1, w32_id, Classical.not_not, not_true_eq_false, not_false_eq_true] at h35
      exact h
    · try simp (disch := omega) only [cmpI, w32_b2i, b2i_0, b2i_1, w32_id, Classical.not_not, not_true_eq_false, not_false_eq_true] at h35
      omega
set_option maxRecDepth 100000 in
theorem c_riLoop (hN : TRN tr rr tp k ds) (hsz : sz ≤ 800) : ∀ (r : Nat) (m : Mem) (F A L : Nat → Nat → Int) (s : PSt) (nn part : Nat), sz + 2 - pAt s ≤ r → part ≤ pAt s → TRW m tr rr tp k ds → 387 ≤ 100 + mN m → CLow m F A L → byts (A tp) → TIn m F A rr sz k ds s nn → (∀ (m' : Mem) (F' A' L' : Nat → Nat → Int) (pa : Int), KW k rr m m' F F' A A' L L' → TxO m' F' A' rr sz k ds (tlP (A tp) sz r s) → Ex (d + 9) TR_readInto 119 [some (vR tr), some (vR k), some (vR tp), some (vI (sz : Int)), some (vI pa)] [] (CM m' F' A' L') Q) → Ex (d + 9) TR_readInto 22 [some (vR tr), some (vR k), some (vR tp), some (vI (sz : Int)), some (vI (part : Int))] [] (CM m F A L) Q := by
  intro r
  induction r with
  | zero =>
    intro m F A L s nn part hr _ _ _ _ _ hI _
    have := hI.2.2.1
    omega
  | succ r ih =>
    intro m F A L s nn part hr hpa hW h387 hC hf hI h
    obtain ⟨i0, i1, i2, i3, i4, i5, i6⟩ := hI
    obtain ⟨n1, n2, n3, n4, n5, n6, n7⟩ := id hN
    have hk10 := hW.1
    have hr640 := hW.2.1
    have hSW := hW.2.2.2.2.1
    have hk8 := hSW.1
    have hsk := sk_sz (f := A tp) i2
    have hlook := fun (Q1 : Nat → Option AV → Mem → Prop) => c_look (d := d + 7) (L := L) (Q := Q1) (fl := 0) (pl := -1) hSW hsz hf (sz + 1) (pAt s) F (by omega) (by omega) i1
    have hS1 := i1.at_ (sk (A tp) sz (pAt s))
    have kx1 : KX k rr F (upF F 514 (rr + 1) ((sk (A tp) sz (pAt s) : Nat) : Int)) A A := KX.s k rr F A 514 _
    have hC1 : CLow m (upF F 514 (rr + 1) ((sk (A tp) sz (pAt s) : Nat) : Int)) A L := hC.k (fun j hj => upF_a _ _ _ (by omega)) (fun j hj => rfl)
    have hT1 : TxN (upF F 514 (rr + 1) ((sk (A tp) sz (pAt s) : Nat) : Int)) A k ds (pT s) nn := i3.k n1 (fun f j y1 y2 => upF_a _ _ _ (by omega)) (fun _ _ _ => rfl) (fun _ _ _ => rfl)
    have hbr := bt_range hf hsz (sk (A tp) sz (pAt s))
    have hLI : LI sz (hereP (A tp) sz s) := ⟨i6.1.here, i6.2⟩
    have hln := line_ok (f := A tp) hLI i0 hsz
    have hfd := fun (Q1 : Nat → Option AV → Mem → Prop) => c_failed (d := d + 8) (A := A) (L := L) (Q := Q1) hk8 i1 (by decide)
    have eT : tlP (A tp) sz (r + 1) s = if hereC (A tp) sz s = -1 then hereP (A tp) sz s else tlP (A tp) sz r (lineP (A tp) sz (hereP (A tp) sz s)) := by
      rw [tlP]
      exact if_pos i0
    have hhc : hereC (A tp) sz s = bt (A tp) sz (sk (A tp) sz (pAt s)) := rfl
    have hss : sk (A tp) sz (sk (A tp) sz (pAt s)) = sk (A tp) sz (pAt s) := sk_sk (A tp) sz (sz + 1) _ (by omega)
    rw [hhc] at eT
    generalize upF F 514 (rr + 1) ((sk (A tp) sz (pAt s) : Nat) : Int) = F1 at *
    by_cases hEnd : bt (A tp) sz (sk (A tp) sz (pAt s)) = -1
    · rw [eT, if_pos hEnd] at h
      have hx := fun pa => h m F1 A L pa (kx1.w m L) (Or.inr ⟨i0, ⟨_, hS1⟩, nn, hT1, i4⟩)
      refine Ex_step (tk_TR_readInto rfl) ?_
      refine Ex_step (tk_TR_readInto rfl) ?_
      refine Ex_step (tk_TR_readInto rfl) ⟨fun h25 => ?_, fun h25 => ?_⟩
      · try simp (disch := omega) only [cmpI, w32_b2i, b2i_0, b2i_1, w32_id, Classical.not_not, not_true_eq_false, not_false_eq_true] at h25
        all_goals first | exact hx _ | omega | exact absurd i0 (by omega)
      · try simp (disch := omega) only [cmpI, w32_b2i, b2i_0, b2i_1, w32_id, Classical.not_not, not_true_eq_false, not_false_eq_true] at h25
        refine Ex_step (tk_TR_readInto rfl) ?_
        refine gCR (tk_TR_readInto rfl) (hk10) (hr640) ?_
        refine Ex_cV0 (av := []) (tk_TR_readInto rfl) mk_Scan_failed ⟨rfl, rfl, by decide, rfl, Nat.le_of_ble_eq_true rfl, Nat.le_of_ble_eq_true rfl⟩ (hk8) (fun _ h => hfd _ h) ?_
        refine Ex_step (tk_TR_readInto rfl) ⟨fun h35 => ?_, fun h35 => ?_⟩
        · try simp (disch := omega) only [cmpI, w32_b2i, b2i_0, b2i_1, w32_id, Classical.not_not, not_true_eq_false, not_false_eq_true] at h35
          all_goals first | exact hx _ | omega | exact absurd i0 (by omega)
        · try simp (disch := omega) only [cmpI, w32_b2i, b2i_0, b2i_1, w32_id, Classical.not_not, not_true_eq_false, not_false_eq_true] at h35
          refine Ex_step (tk_TR_readInto rfl) ?_
          refine gCR (tk_TR_readInto rfl) (hk10) (hr640) ?_
          refine Ex_cV0 (av := []) (tk_TR_readInto rfl) mk_Scan_look ⟨rfl, rfl, by decide, rfl, Nat.le_of_ble_eq_true rfl, Nat.le_of_ble_eq_true rfl⟩ (hk8) (fun _ h => hlook _ h) ?_
          refine Ex_step (tk_TR_readInto rfl) ?_
          refine Ex_step (tk_TR_readInto rfl) ⟨fun h46 => ?_, fun h46 => ?_⟩
          · try simp (disch := omega) only [cmpI, w32_b2i, b2i_0, b2i_1, w32_id, Classical.not_not, not_true_eq_false, not_false_eq_true] at h46
            exact absurd hEnd (by omega)
          · try simp (disch := omega) only [cmpI, w32_b2i, b2i_0, b2i_1, w32_id, Classical.not_not, not_true_eq_false, not_false_eq_true] at h46
            refine Ex_step (tk_TR_readInto rfl) ?_
            all_goals first | exact hx _ | omega | exact absurd i0 (by omega)
    · rw [eT, if_neg hEnd] at h
      have hp0 : pAt (hereP (A tp) sz s) = sk (A tp) sz (pAt s) := rfl
      have hp1 : pT (hereP (A tp) sz s) = pT s := rfl
      have hp2 : pFl (hereP (A tp) sz s) = 0 := i0
      have hhh : hereP (A tp) sz (hereP (A tp) sz s) = hereP (A tp) sz s := here_here _ _ _
      have eL : lineP (A tp) sz (hereP (A tp) sz s) = lnT (A tp) sz (hereP (A tp) sz s) := by
        unfold lineP lnT
        rw [hhh]
      rw [eL] at h hln
      generalize hereP (A tp) sz s = s1 at *
      rw [← hp1] at hT1 i4 i5
      have z52 := c_line (d := d) (Q := Q) (part := part) hN hsz hW h387 hC1 hf hS1 hsk.2 hss hp0 hp2 hhh hT1 i4 i5 hLI hln.1 (fun m' F' A' L' kw0 ho => by
        have kw := (kx1.w m L).tr kw0
        have hW' := hW.w hN h387 kw
        rcases ho with ho | ⟨n2, ho⟩
        · refine c_ri119 hW'.1 hW'.2.1 hW'.2.2.2.2.1.1 (by omega) hsz ho (h m' F' A' L' _ kw (Or.inl ?_))
          rw [tl_no ho.1]
          exact ho
        · have hg := hln.2 ho.1
          have eA : A' tp = A tp := kw.2.2.2.2.1 tp (by omega) (by omega) (by omega) (by omega)
          have z := ih m' F' A' L' (lnT (A tp) sz s1) n2 (part + 1) (by omega) (by omega) hW' (by have := kw.1.1; omega) (hC.w (by omega) (by omega) kw) (by rw [eA]; exact hf) ho (fun m2 F2 A2 L2 pa k2 o2 => h m2 F2 A2 L2 pa (kw.tr k2) (by rw [eA] at o2; exact o2))
          refine Ex_step (tk_TR_readInto rfl) ?_
          refine Ex_step (tk_TR_readInto rfl) ?_
          exact z
          )
      refine Ex_step (tk_TR_readInto rfl) ?_
      refine Ex_step (tk_TR_readInto rfl) ?_
      refine Ex_step (tk_TR_readInto rfl) ⟨fun h25 => ?_, fun h25 => ?_⟩
      · try simp (disch := omega) only [cmpI, w32_b2i, b2i_0, b2i_1, w32_id, Classical.not_not, not_true_eq_false, not_false_eq_true] at h25
        all_goals first | omega | exact absurd i0 (by omega)
      · try simp (disch := omega) only [cmpI, w32_b2i, b2i_0, b2i_1, w32_id, Classical.not_not, not_true_eq_false, not_false_eq_true] at h25
        refine Ex_step (tk_TR_readInto rfl) ?_
        refine gCR (tk_TR_readInto rfl) (hk10) (hr640) ?_
        refine Ex_cV0 (av := []) (tk_TR_readInto rfl) mk_Scan_failed ⟨rfl, rfl, by decide, rfl, Nat.le_of_ble_eq_true rfl, Nat.le_of_ble_eq_true rfl⟩ (hk8) (fun _ h => hfd _ h) ?_
        refine Ex_step (tk_TR_readInto rfl) ⟨fun h35 => ?_, fun h35 => ?_⟩
        · try simp (disch := omega) only [cmpI, w32_b2i, b2i_0, b2i_1, w32_id, Classical.not_not, not_true_eq_false, not_false_eq_true] at h35
          all_goals first | omega | exact absurd i0 (by omega)
        · try simp (disch := omega) only [cmpI, w32_b2i, b2i_0, b2i_1, w32_id, Classical.not_not, not_true_eq_false, not_false_eq_true] at h35
          refine Ex_step (tk_TR_readInto rfl) ?_
          refine gCR (tk_TR_readInto rfl) (hk10) (hr640) ?_
          refine Ex_cV0 (av := []) (tk_TR_readInto rfl) mk_Scan_look ⟨rfl, rfl, by decide, rfl, Nat.le_of_ble_eq_true rfl, Nat.le_of_ble_eq_true rfl⟩ (hk8) (fun _ h => hlook _ h) ?_
          refine Ex_step (tk_TR_readInto rfl) ?_
          refine Ex_step (tk_TR_readInto rfl) ⟨fun h46 => ?_, fun h46 => ?_⟩
          · try simp (disch := omega) only [cmpI, w32_b2i, b2i_0, b2i_1, w32_id, Classical.not_not, not_true_eq_false, not_false_eq_true] at h46
            exact z52
          · try simp (disch := omega) only [cmpI, w32_b2i, b2i_0, b2i_1, w32_id, Classical.not_not, not_true_eq_false, not_false_eq_true] at h46
            exact absurd h46 (by omega)
set_option maxRecDepth 100000 in
theorem c_scBegin {m : Mem} {F A L : Nat → Nat → Int} {c : Nat} (hk8 : mK m c = 8) (hI : IA m tp 800) (hsz : sz ≤ 800) (h : Q 0 none (CM (sFR m 512 c tp) (upF (upF (upF (upF F 513 c (sz : Int)) 514 c 0) 515 c 0) 516 c (-1)) A L)) : Ex d Scan_begin 0 [some (vR c), some (vR tp), some (vI (sz : Int))] [] (CM m F A L) Q := by
  have hk8' : mK (sFR m 512 c tp) c = 8 := hk8
  have hI' : IA (sFR m 512 c tp) tp 800 := hI
  have hw : w32 (sz : Int) = (sz : Int) := w32_id (by omega) (by omega)
  have e1 : (if w32 ((800 : Nat) : Int) < w32 (sz : Int) then ((800 : Nat) : Int) else (sz : Int)) = (sz : Int) := by
    rw [hw, show w32 ((800 : Nat) : Int) = 800 from rfl]
    split <;> omega
  have e2 : (if w32 (sz : Int) < w32 (0 : Int) then (0 : Int) else (sz : Int)) = (sz : Int) := by
    rw [hw, show w32 (0 : Int) = 0 from rfl]
    exact if_neg (by omega)
  have e3 : (if w32 (0 : Int) < w32 (sz : Int) then (sz : Int) else 0) = (sz : Int) := by
    rw [hw, show w32 (0 : Int) = 0 from rfl]
    split <;> omega
  have hx : Ex d Scan_begin 16 [some (vR c), some (vR tp), some (vI (sz : Int))] [vI (sz : Int), vR c] (CM (sFR m 512 c tp) F A L) Q := by
    refine pCI (tk_Scan_begin rfl) (hk8') ?_
    refine Ex_step (tk_Scan_begin rfl) ?_
    refine Ex_step (tk_Scan_begin rfl) ?_
    refine pCI (tk_Scan_begin rfl) (hk8') ?_
    refine Ex_step (tk_Scan_begin rfl) ?_
    refine Ex_step (tk_Scan_begin rfl) ?_
    refine pCI (tk_Scan_begin rfl) (hk8') ?_
    refine Ex_step (tk_Scan_begin rfl) ?_
    refine Ex_step (tk_Scan_begin rfl) ?_
    refine pCI (tk_Scan_begin rfl) (hk8') ?_
    refine Ex_step (tk_Scan_begin rfl) ⟨rfl, ?_⟩
    exact h
  refine Ex_step (tk_Scan_begin rfl) ?_
  refine Ex_step (tk_Scan_begin rfl) ?_
  refine pCR (tk_Scan_begin rfl) (hk8) ?_
  refine Ex_step (tk_Scan_begin rfl) ?_
  refine Ex_step (tk_Scan_begin rfl) ?_
  refine Ex_step (tk_Scan_begin rfl) ?_
  refine Ex_step (tk_Scan_begin rfl) ?_
  refine lenC (tk_Scan_begin rfl) hI' ?_
  refine Ex_min (tk_Scan_begin rfl) rfl (Nat.le_of_ble_eq_true rfl) ?_
  rw [e1]
  refine Ex_max (tk_Scan_begin rfl) rfl (Nat.le_of_ble_eq_true rfl) ?_
  first | rw [e2] | rw [e3]
  exact hx
set_option maxRecDepth 100000 in
/-- the text of sz bytes on the tape is read into book k -/
theorem c_readInto {m : Mem} {F A L : Nat → Nat → Int} {T : Nat → Int} (hN : TRN tr rr tp k ds) (hsz : sz ≤ 800) (hW : TRW (sFR m 512 (rr + 1) tp) tr rr tp k ds) (h387 : 387 ≤ 100 + mN m) (hC : CLow m F A L) (hf : byts (A tp)) (h : ∀ (m' : Mem) (F' A' L' : Nat → Nat → Int), KW k rr (sFR (sFR m 512 (rr + 1) tp) 130 k 0) m' F F' A A' L L' → TxO m' F' A' rr sz k ds (tlP (A tp) sz (sz + 3) (s0P (cpK 1920 (fun _ => 0) T))) → Q 0 (some (vR (rr + 1))) (CM m' F' A' L')) : Ex (d + 9) TR_readInto 0 [some (vR tr), some (vR k), some (vR tp), some (vI (sz : Int)), none] [] (CM m F A L) Q := by
  obtain ⟨n1, n2, n3, n4, n5, n6, n7⟩ := id hN
  obtain ⟨hk10, hr640, hr641, hRR, hSW, hBW⟩ := id hW
  have hk8 : mK m (rr + 1) = 8 := hSW.1
  have hr640' : mFR m 640 tr = rr + 1 := by
    have z : mFR (sFR m 512 (rr + 1) tp) 640 tr = mFR m 640 tr := sFR_ne _ (fun z => absurd z.1 (by decide))
    exact z.symm.trans hr640
  have hk2 := hBW.1
  have hz : ∀ j, j < 1920 → pT (s0P (cpK 1920 (fun _ => 0) T)) j = 0 := fun j hj => if_pos hj
  have hW1 : TRW (sFR (sFR m 512 (rr + 1) tp) 130 k 0) tr rr tp k ds := by
    have e : ∀ f a, ¬ (f = 130 ∧ a = k) → mFR (sFR (sFR m 512 (rr + 1) tp) 130 k 0) f a = mFR (sFR m 512 (rr + 1) tp) f a := fun f a q => if_neg q
    obtain ⟨r1, r2, r3, r4, r5, r6⟩ := hRR
    obtain ⟨s1, s2, s3⟩ := hSW
    obtain ⟨b1, b2, b3, b4, b5⟩ := hBW
    refine ⟨hk10, (e _ _ (by omega)).trans hr640, (e _ _ (by omega)).trans hr641, ⟨r1, (e _ _ (by omega)).trans r2, (e _ _ (by omega)).trans r3, r4, (e _ _ (by omega)).trans r5, r6⟩, ⟨s1, (e _ _ (by omega)).trans s2, s3⟩, b1, (e _ _ (by omega)).trans b2, b3, b4, fun i hi => ?_⟩
    obtain ⟨c1, c2, c3, c4, c5, c6, c7⟩ := b5 i hi
    exact ⟨c1, c2, c3, (e _ _ (by omega)).trans c4, (e _ _ (by omega)).trans c5, c6, c7⟩
  have hkx : KX k rr F (upF (upF (upF (upF (upF F 513 (rr + 1) (sz : Int)) 514 (rr + 1) 0) 515 (rr + 1) 0) 516 (rr + 1) (-1)) 129 k 0) A A := ((((KX.s k rr F A 513 (sz : Int)).tr (KX.s k rr _ A 514 0)).tr (KX.s k rr _ A 515 0)).tr (KX.s k rr _ A 516 (-1))).tr (KX.b _ A 129 0 (by omega))
  have hScF : ScF (upF (upF (upF (upF (upF F 513 (rr + 1) (sz : Int)) 514 (rr + 1) 0) 515 (rr + 1) 0) 516 (rr + 1) (-1)) 129 k 0) (rr + 1) sz 0 0 (-1) := by
    refine ScF.k (F := upF (upF (upF (upF F 513 (rr + 1) (sz : Int)) 514 (rr + 1) 0) 515 (rr + 1) 0) 516 (rr + 1) (-1)) ⟨?_, ?_, ?_, upF_at _ _ _ _⟩ (fun f => upF_a _ _ _ (by omega))
    · rw [upF_f _ _ _ (by decide), upF_f _ _ _ (by decide), upF_f _ _ _ (by decide), upF_at]
    · rw [upF_f _ _ _ (by decide), upF_f _ _ _ (by decide), upF_at]; rfl
    · rw [upF_f _ _ _ (by decide), upF_at]; rfl
  have h129 : upF (upF (upF (upF (upF F 513 (rr + 1) (sz : Int)) 514 (rr + 1) 0) 515 (rr + 1) 0) 516 (rr + 1) (-1)) 129 k 0 129 k = 0 := upF_at _ _ _ _
  have hsb := fun (Q1 : Nat → Option AV → Mem → Prop) => c_scBegin (d := d + 8) (m := m) (F := F) (A := A) (L := L) (Q := Q1) hk8 hSW.2.2 hsz
  have hk2' : mK (sFR m 512 (rr + 1) tp) k = 2 := hk2
  have z22 : Ex (d + 9) TR_readInto 22 [some (vR tr), some (vR k), some (vR tp), some (vI (sz : Int)), some (vI ((0 : Nat) : Int))] [] (CM (sFR (sFR m 512 (rr + 1) tp) 130 k 0) (upF (upF (upF (upF (upF F 513 (rr + 1) (sz : Int)) 514 (rr + 1) 0) 515 (rr + 1) 0) 516 (rr + 1) (-1)) 129 k 0) A L) Q := by
    have kw0 := hkx.w (sFR (sFR m 512 (rr + 1) tp) 130 k 0) L
    have hC0 : CLow (sFR (sFR m 512 (rr + 1) tp) 130 k 0) F A L := fun w hw => by
      have hb : cwA w + 1 < 100 := by unfold cwA; split <;> (try split) <;> omega
      obtain ⟨t1, t2, t3, t4, t5, t6, t7⟩ := hC w hw
      refine ⟨t1, ?_, t3, t4, t5, t6, t7⟩
      have e1 : mFR (sFR (sFR m 512 (rr + 1) tp) 130 k 0) 1280 (cwA w) = mFR (sFR m 512 (rr + 1) tp) 1280 (cwA w) := sFR_ne _ (fun z => absurd z.1 (by decide))
      have e2 : mFR (sFR m 512 (rr + 1) tp) 1280 (cwA w) = mFR m 1280 (cwA w) := sFR_ne _ (fun z => absurd z.1 (by decide))
      exact e1.trans (e2.trans t2)
    generalize upF (upF (upF (upF (upF F 513 (rr + 1) (sz : Int)) 514 (rr + 1) 0) 515 (rr + 1) 0) 516 (rr + 1) (-1)) 129 k 0 = F1 at *
    have e130 : mFR (sFR (sFR m 512 (rr + 1) tp) 130 k 0) 130 k = 0 := if_pos ⟨rfl, rfl⟩
    have h387' : 387 ≤ 100 + mN (sFR (sFR m 512 (rr + 1) tp) 130 k 0) := h387
    generalize sFR (sFR m 512 (rr + 1) tp) 130 k 0 = m1 at *
    have hs0 : pAt (s0P (cpK 1920 (fun _ => 0) T)) = 0 := rfl
    have hs1 : pFl (s0P (cpK 1920 (fun _ => 0) T)) = 0 := rfl
    refine c_riLoop hN hsz (sz + 3) m1 F1 A L (s0P (cpK 1920 (fun _ => 0) T)) 0 0 (by omega) (Nat.zero_le _) hW1 h387' (hC0.w (by omega) (by omega) kw0) hf ⟨hs1, by rw [hs0]; exact hScF, Nat.zero_le _, ⟨Nat.zero_le _, hz 0 (by decide), ⟨h129, fun i hi => absurd hi (Nat.not_lt_zero _)⟩, fun dd hd => absurd hd (Nat.not_lt_zero _), fun j _ q => hz j (by omega)⟩, Or.inl ⟨e130, hz 1 (by decide)⟩, fun _ j _ q => hz j q, s0_LI sz T⟩ (fun m' F' A' L' pa kw ho => ?_)
    have hW' := hW1.w hN h387' (kw0.tr kw)
    have hk10 := hW'.1
    have hr640 := hW'.2.1
    have hx := h m' F' A' L' (kw0.tr kw) ho
    refine Ex_step (tk_TR_readInto rfl) ?_
    refine gCR (tk_TR_readInto rfl) (hk10) (hr640) ?_
    refine Ex_step (tk_TR_readInto rfl) ⟨rfl, ?_⟩
    exact hx
  refine Ex_step (tk_TR_readInto rfl) ?_
  refine gCR (tk_TR_readInto rfl) (hk10) (hr640') ?_
  refine Ex_step (tk_TR_readInto rfl) ?_
  refine Ex_step (tk_TR_readInto rfl) ?_
  refine Ex_cV0 (av := [vR tp, vI (sz : Int)]) (tk_TR_readInto rfl) mk_Scan_begin ⟨rfl, rfl, by decide, rfl, Nat.le_of_ble_eq_true rfl, Nat.le_of_ble_eq_true rfl⟩ (hk8) (fun _ h => hsb _ h) ?_
  refine Ex_step (tk_TR_readInto rfl) ?_
  refine Ex_step (tk_TR_readInto rfl) ?_
  refine pCI (tk_TR_readInto rfl) (hk2') ?_
  refine Ex_step (tk_TR_readInto rfl) ?_
  refine Ex_step (tk_TR_readInto rfl) ?_
  refine pCR (tk_TR_readInto rfl) (hk2') ?_
  refine Ex_step (tk_TR_readInto rfl) ?_
  refine Ex_step (tk_TR_readInto rfl) ?_
  exact z22
end CReadAll
