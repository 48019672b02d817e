/-! ===== the class: a text is read, line by line ===== -/
/-- between two lines, class and reference -/
def TIn (m : Mem) (F A : Nat → Nat → Int) (rr sz k : Nat) (ds : Nat → Nat) (s : PSt) (nn : Nat) : Prop := pFl s = 0 ∧ ScF F (rr + 1) sz (pAt s) 0 (-1) ∧ pAt s ≤ sz ∧ TxN F A k ds (pT s) nn ∧ RuC m A (mFR m 130 k) (pT s) ∧ (pT s 1 = 0 → ∀ j, 620 ≤ j → j < 1920 → pT s j = 0) ∧ LI sz s
def FlO (F : Nat → Nat → Int) (rr sz : Nat) (t : PSt) : Prop := pFl t ≠ 0 ∧ pFl t ≤ 9 ∧ ∃ q, ScF F (rr + 1) sz q (pFl t) (pFa t)
/-- a text is read: how it ends -/
def TxO (m : Mem) (F A : Nat → Nat → Int) (rr sz k : Nat) (ds : Nat → Nat) (t : PSt) : Prop := FlO F rr sz t ∨ (pFl t = 0 ∧ (∃ q, ScF F (rr + 1) sz q 0 (-1)) ∧ ∃ nn, TxN F A k ds (pT t) nn ∧ RuC m A (mFR m 130 k) (pT t))
def LnN (m' : Mem) (F' A' : Nat → Nat → Int) (rr sz k : Nat) (ds : Nat → Nat) (t : PSt) : Prop := FlO F' rr sz t ∨ ∃ n2, TIn m' F' A' rr sz k ds t n2
/-- the line of the reference -/
noncomputable def lnT (f : Nat → Int) (sz : Nat) (s : PSt) : PSt := mustP f sz 59 (lineM f sz s)
set_option maxRecDepth 100000 in
theorem ruA_K {m : Mem} {k n : Nat} (hk : k < 100 + mN m) : mK (sFR (alloc (alloc m 6 0 1) 13 n n) 384 (100 + mN m) (100 + mN (alloc m 6 0 1))) k = mK m k := by
  have e1 : mN (alloc m 6 0 1) = mN m + 1 := rfl
  show (if k = 100 + mN (alloc m 6 0 1) then 13 else if k = 100 + mN m then 6 else mK m k) = mK m k
  rw [if_neg (by omega), if_neg (by omega)]
section CReadInto
variable {d tr tp sz rr k nn p part : Nat} {ds : Nat → Nat} {Q : Nat → Option AV → Mem → Prop} {m : Mem} {F A L : Nat → Nat → Int} {s : PSt}
set_option maxRecDepth 100000 in
theorem c_riFail (hW : TRW m tr rr tp k ds) (hS : ScF F (rr + 1) sz p 0 (-1)) (h1 : pFl (lnT (A tp) sz s) = 1) (h2 : pFa (lnT (A tp) sz s) = (p : Nat)) (hend : ∀ (m' : Mem) (F' A' L' : Nat → Nat → Int), KW k rr m m' F F' A A' L L' → LnN m' F' A' rr sz k ds (lnT (A tp) sz s) → Ex (d + 9) TR_readInto 113 [some (vR tr), some (vR k), some (vR tp), some (vI (sz : Int)), some (vI (part : Int))] [] (CM m' F' A' L') Q) : Ex (d + 9) TR_readInto 105 [some (vR tr), some (vR k), some (vR tp), some (vI (sz : Int)), some (vI (part : Int))] [] (CM m F A L) Q := by
  obtain ⟨hk10, hr640, hr641, hRR, hSW, hBW⟩ := hW
  have hk8 := hSW.1
  have z := hend m _ A L (((KX.s k rr F A 515 1).tr (KX.s k rr _ A 516 (p : Int))).w m L) (Or.inl ⟨by rw [h1]; decide, by rw [h1]; decide, p, by
    rw [h1, h2]
    exact ⟨by rw [upF_f _ _ _ (by decide), upF_f _ _ _ (by decide)]; exact hS.1, by rw [upF_f _ _ _ (by decide), upF_f _ _ _ (by decide)]; exact hS.2.1, by rw [upF_f _ _ _ (by decide), upF_at]; rfl, upF_at _ _ _ _⟩⟩)
  refine Ex_step (tk_TR_readInto rfl) ?_
  refine gCR (tk_TR_readInto rfl) (hk10) (hr640) ?_
  refine Ex_step (tk_TR_readInto rfl) ?_
  refine Ex_cV0 (av := [vI ((1 : Nat) : Int)]) (tk_TR_readInto rfl) mk_Scan_fail ⟨rfl, rfl, by decide, rfl, Nat.le_of_ble_eq_true rfl, Nat.le_of_ble_eq_true rfl⟩ (hk8) (fun _ h => c_fail hk8 hS (by decide) h) ?_
  exact z
set_option maxRecDepth 100000 in
theorem c_riDes (hN : TRN tr rr tp k ds) (hsz : sz ≤ 800) (hW : TRW m tr rr tp k ds) (hC : CLow m F A L) (hf : byts (A tp)) (hS : ScF F (rr + 1) sz p 0 (-1)) (hp : p ≤ sz) (hps : sk (A tp) sz p = p) (hat : pAt s = p) (h0 : pFl s = 0) (hT : TxN F A k ds (pT s) nn) (hR : RuC m A (mFR m 130 k) (pT s)) (hz : pT s 1 = 0 → ∀ j, 620 ≤ j → j < 1920 → pT s j = 0) (hLI : LI sz (lnT (A tp) sz s)) (hw : wdP (A tp) sz 0 p) (hend : ∀ (m' : Mem) (F' A' L' : Nat → Nat → Int), KW k rr m m' F F' A A' L L' → LnN m' F' A' rr sz k ds (lnT (A tp) sz s) → Ex (d + 9) TR_readInto 113 [some (vR tr), some (vR k), some (vR tp), some (vI (sz : Int)), some (vI (part : Int))] [] (CM m' F' A' L') Q) : Ex (d + 9) TR_readInto 66 [some (vR tr), some (vR k), some (vR tp), some (vI (sz : Int)), some (vI (part : Int))] [vR k, vR tr] (CM m F A L) Q := by
  obtain ⟨n1, n2, n3, n4, n5, n6, n7⟩ := hN
  obtain ⟨hk10, hr640, hr641, hRR, hSW, hBW⟩ := hW
  have hkk := tk_hit (f := A tp) (sz := sz) (s := s) (p := p) (w := 0) h0 (by rw [hat]) (by rw [hps]; exact hw)
  have eM : lineM (A tp) sz s = if nn = 6 then wrongP (tkS (A tp) sz 0 s) 3 (pAt s : Nat) else designP (A tp) sz nn (tkS (A tp) sz 0 s) := by
    unfold lineM
    rw [if_pos hkk.1]
    have e0 : pT (tkS (A tp) sz 0 s) 0 = (nn : Int) := by rw [hkk.2]; exact hT.2.1
    rw [e0]
    by_cases z : nn = 6
    · rw [if_pos z, if_pos (by omega)]
    · rw [if_neg z, if_neg (by omega)]
      rfl
  have hrd := fun (Q1 : Nat → Option AV → Mem → Prop) => c_readDesign (d := d + 2) (Q := Q1) hk10 hr640 hSW hBW n1 (by omega) (by omega) n6 hsz hf hC hS hp hps hw h0 hat hT
  rw [← eM] at hrd
  have eL : mustP (A tp) sz 59 (lineM (A tp) sz s) = lnT (A tp) sz s := rfl
  rw [eL] at hrd
  generalize lnT (A tp) sz s = t at *
  refine Ex_cVK (av := [vR k]) (tk_TR_readInto rfl) mk_TR_readDesign ⟨rfl, rfl, by decide, rfl, Nat.le_of_ble_eq_true rfl, Nat.le_of_ble_eq_true rfl⟩ (hk10) (hrd _ (fun F2 A2 k2 ho => ⟨rfl, ?_⟩))
  refine Ex_step (tk_TR_readInto rfl) ?_
  refine hend m F2 A2 L (k2.w m L) ?_
  rcases ho with ho | ⟨o1, o2, o3, o4, o5⟩
  · exact Or.inl ho
  · refine Or.inr ⟨nn + 1, o1, o2, o3, o4, hR.w (by omega) n7 (k2.w m L) o5, fun z j y1 y2 => ?_, hLI⟩
    rw [o5 j (Or.inr y1)]
    rw [o5 1 (Or.inl rfl)] at z
    exact hz z j y1 y2
set_option maxRecDepth 100000 in
/-- a rule is read -/
theorem c_riRule (hN : TRN tr rr tp k ds) (hsz : sz ≤ 800) (hW : TRW m tr rr tp k ds) (h387 : 387 ≤ 100 + mN m) (hC : CLow m F A L) (hf : byts (A tp)) (hS : ScF F (rr + 1) sz (p + 4) 0 (-1)) (hp : p + 4 ≤ sz) (h0 : pFl s = 0) (hT : TxN F A k ds (pT s) nn) (hu : mFR m 130 k = 0) (h1 : pT s 1 = 0) (hz : ∀ j, 620 ≤ j → j < 1920 → pT s j = 0) (hLs : LI sz s) (eM : lineM (A tp) sz s = ps (A tp) sz psN 9 (wTP (wAtP s (p + 4)) 1 1)) (hLI : LI sz (lnT (A tp) sz s)) (hend : ∀ (m' : Mem) (F' A' L' : Nat → Nat → Int), KW k rr m m' F F' A A' L L' → LnN m' F' A' rr sz k ds (lnT (A tp) sz s) → Ex (d + 9) TR_readInto 113 [some (vR tr), some (vR k), some (vR tp), some (vI (sz : Int)), some (vI (part : Int))] [] (CM m' F' A' L') Q) : Ex (d + 9) TR_readInto 96 [some (vR tr), some (vR k), some (vR tp), some (vI (sz : Int)), some (vI (part : Int))] [vR rr, vR k] (CM m F A L) Q := by
  obtain ⟨n1, n2, n3, n4, n5, n6, n7⟩ := hN
  obtain ⟨hk10, hr640, hr641, hRR, hSW, hBW⟩ := hW
  have hk8 := hSW.1
  have hk2 := hBW.1
  have hk7 := hRR.1
  have hRl : RlW m rr tp sz F A L := ⟨hRR, hSW, hsz, hf, hC, by omega, by omega, by omega⟩
  have hg2 : G2 sz (wTP (wAtP s (p + 4)) 1 1) := by
    have z := hLs.1.1
    exact ⟨z.1, z.2.1, by show p + 4 ≤ sz + 1; omega, fun q => ⟨(z.2.2.2 q).1, hp⟩⟩
  have hcd : pCd s = 0 := by
    rcases hLs.2.2.2 with z | z
    · exact z.2
    · rw [h1] at z; cases z
  have hop : pOp s = 0 := hLs.2.1
  have hps := (ps_ok (A tp) sz psN 9 _ hg2).1
  have eW : ∀ j, j ≠ 1 → pT (wTP (wAtP s (p + 4)) 1 1) j = pT s j := fun j hj => up1_ne _ _ hj
  have eW1 : pT (wTP (wAtP s (p + 4)) 1 1) 1 = 1 := by
    show up1 (pT s) 1 1 1 = 1
    exact up1_at _ _ _
  have eWc : pCd (wTP (wAtP s (p + 4)) 1 1) = 0 := hcd
  have rg := fun (Q1 : Nat → Option AV → Mem → Prop) => rg_rule (d := d) (Q := Q1) (s := wTP (wAtP s (p + 4)) 1 1) (p := p + 4) hRl (by omega) (by omega) hp h0 hg2 rfl hop hcd
  rw [← eM] at rg hps
  have eL : mustP (A tp) sz 59 (lineM (A tp) sz s) = lnT (A tp) sz s := rfl
  have eP : pT (mustP (A tp) sz 59 (lineM (A tp) sz s)) = pT (lineM (A tp) sz s) := must_pT
  have eC : pCd (mustP (A tp) sz 59 (lineM (A tp) sz s)) = pCd (lineM (A tp) sz s) := Kp.must.2.1
  rw [eL] at rg eP eC
  generalize wTP (wAtP s (p + 4)) 1 1 = s2 at *
  generalize lnT (A tp) sz s = t at *
  have hT2 : ∀ j, j ≠ 1 → j < 620 → pT t j = pT s j := fun j y1 y2 => by rw [eP, hps.2.2.2.1 j (by omega), eW j y1]
  have hT21 : pT t 1 = 1 := by rw [eP, hps.2.2.2.1 1 (by omega), eW1]
  have hTz : pT t (620 + pCd t) = 0 := by
    have hc := hLI.1.2
    rw [eP, hps.2.2.2.2 _ (by omega), eW _ (by omega)]
    exact hz _ (by omega) (by omega)
  refine Ex_cVK (av := []) (tk_TR_readInto rfl) mk_RR_readRule ⟨rfl, rfl, by decide, rfl, Nat.le_of_ble_eq_true rfl, Nat.le_of_ble_eq_true rfl⟩ hk7 (c_readRule hRl hS (rg _ (fun hfl => ?_) (fun hfl F3 A3 ts cs no k3 hD hTk hwf hcs hl8 => ?_)))
  · intro F3 A3 p3 cs pl no br at_ cm k3 hD
    refine ⟨rfl, ?_⟩
    have e130 : sFR m 130 k 0 = m := by
      show (mN m, mZ m, mK m, mLen m, mFI m, (fun f a => if f = 130 ∧ a = k then 0 else mFR m f a), mAI m, mAL m, mAR m) = m
      have : (fun f a => if f = 130 ∧ a = k then 0 else mFR m f a) = mFR m := by
        funext f a
        by_cases z : f = 130 ∧ a = k
        · rw [if_pos z, z.1, z.2]; exact hu.symm
        · rw [if_neg z]
      rw [this]
      rfl
    have z := hend (sFR m 130 k 0) F3 A3 L (by rw [e130]; exact (k3.x).w m L) (Or.inl ⟨hfl, hLI.1.1.1, p3, hD.1⟩)
    refine pCR (tk_TR_readInto rfl) (hk2) ?_
    refine Ex_step (tk_TR_readInto rfl) ?_
    exact z
  · refine ⟨rfl, ?_⟩
    obtain ⟨F4, A4, L4, e4, q1, q2, q3, q4⟩ := ruM_put m F3 A3 L rr k cs.length
    rw [e4]
    have hrk := ruW_K (m := m) (k := k) (n := cs.length)
    have hkM : mK (sFR (alloc (alloc m 6 0 1) 13 cs.length cs.length) 384 (100 + mN m) (100 + mN (alloc m 6 0 1))) k = 2 := (ruA_K (by omega)).trans hk2
    have e5 : mN (ruW m k cs.length) = mN m + 1 + 1 := rfl
    have e6 : mZ (ruW m k cs.length) = mZ m + 1 + cs.length := rfl
    have kx3 := k3.x (k := k)
    have kw : KW k rr m (ruW m k cs.length) F F4 A A4 L L4 := by
      refine ⟨⟨by omega, ?_, ?_⟩, hrk.1, hrk.2.1, fun f j y1 y2 y3 y4 => (q1 f j y1).trans (kx3.1 f j y2 y3 y4), fun j y1 y2 y3 y4 => (q2 j y1).trans (kx3.2 j y2 y3 y4), q3, by omega⟩
      · rw [hrk.2.2, hu, e5]
        unfold bN
        rw [if_neg (by omega), if_pos rfl]
        omega
      · rw [hrk.2.2, hu, e6]
        unfold bN
        rw [if_neg (by omega), if_pos rfl]
        omega
    have hlen : ts.length = cs.length := by rw [← hcs, List.length_reverse, List.length_map]
    have hrC : RuC (ruW m k cs.length) A4 (100 + mN m) (pT t) := by
      refine Or.inr ⟨by omega, by omega, hT21, ts, by rw [hlen]; exact ruW_R (by omega), by omega, ?_, encU_T (by have := hLI.1.2; omega) hTz hTk, wfr_t hwf⟩
      rw [q4]
      have hst := hD.2.1
      rw [← hcs, ← List.append_nil (ts.map cod).reverse] at hst
      refine encC_c (encC_of ts 0 [] rfl hst).1 (fun j _ y2 => ?_)
      show (if 0 ≤ j ∧ j < 0 + cs.length then A3 (rr + 3) (0 + (j - 0)) else 0) = A3 (rr + 3) j
      rw [if_pos (by omega)]
      exact congrArg (A3 (rr + 3)) (by omega)
    have z := hend (ruW m k cs.length) F4 A4 L4 kw (Or.inr ⟨nn, hfl, hD.1.k (fun f => q1 f _ (by omega)), (hLI.1.1.2.2.2 hfl).2, hT.k n1 (fun f j y1 y2 => by rw [q1 f j (by omega), k3.1 f j (by omega) (by omega)]) (fun j y1 y2 => by rw [q2 j (by omega), k3.2 j (by omega) (by omega)]) hT2, by rw [hrk.2.2]; exact hrC, fun z => absurd (hT21.symm.trans z) (by decide), hLI⟩)
    refine pCR (tk_TR_readInto rfl) (hkM) ?_
    refine Ex_step (tk_TR_readInto rfl) ?_
    exact z
set_option maxRecDepth 100000 in
theorem c_riSec (hN : TRN tr rr tp k ds) (hsz : sz ≤ 800) (hW : TRW m tr rr tp k ds) (h387 : 387 ≤ 100 + mN m) (hC : CLow m F A L) (hf : byts (A tp)) (hS : ScF F (rr + 1) sz p 0 (-1)) (hp : p ≤ sz) (hps : sk (A tp) sz p = p) (hat : pAt s = p) (h0 : pFl s = 0) (hhh : hereP (A tp) sz s = s) (hT : TxN F A k ds (pT s) nn) (hR : RuC m A (mFR m 130 k) (pT s)) (hz : pT s 1 = 0 → ∀ j, 620 ≤ j → j < 1920 → pT s j = 0) (hLs : LI sz s) (hLI : LI sz (lnT (A tp) sz s)) (hw : ¬ wdP (A tp) sz 0 p) (hend : ∀ (m' : Mem) (F' A' L' : Nat → Nat → Int), KW k rr m m' F F' A A' L L' → LnN m' F' A' rr sz k ds (lnT (A tp) sz s) → Ex (d + 9) TR_readInto 113 [some (vR tr), some (vR k), some (vR tp), some (vI (sz : Int)), some (vI (part : Int))] [] (CM m' F' A' L') Q) : Ex (d + 9) TR_readInto 72 [some (vR tr), some (vR k), some (vR tp), some (vI (sz : Int)), some (vI (part : Int))] [] (CM m F A L) Q := by
  have hkk := tk_miss (f := A tp) (sz := sz) (s := s) (p := p) (w := 0) h0 (by rw [hat]) (by rw [hps]; exact hw)
  rw [hhh] at hkk
  have eM : lineM (A tp) sz s = if pT s 1 = 0 then (if tkB (A tp) sz 1 s = 1 then ps (A tp) sz psN 9 (wTP (tkS (A tp) sz 1 s) 1 1) else wrongP (tkS (A tp) sz 1 s) 1 (pAt s : Nat)) else wrongP s 1 (pAt s : Nat) := by
    unfold lineM
    rw [if_neg hkk.1, hkk.2]
  have hFl : lineM (A tp) sz s = wrongP s 1 (pAt s : Nat) → pFl (lnT (A tp) sz s) = 1 ∧ pFa (lnT (A tp) sz s) = (p : Nat) := by
    intro e
    have e2 : lnT (A tp) sz s = wFlP s 1 (pAt s : Nat) := by
      unfold lnT
      rw [e, show wrongP s 1 (pAt s : Nat) = wFlP s 1 (pAt s : Nat) from if_pos h0]
      exact must_no (show (1 : Nat) ≠ 0 by decide)
    rw [e2, hat]
    exact ⟨rfl, rfl⟩
  have hk10 := hW.1
  have hr640 := hW.2.1
  have hr641 := hW.2.2.1
  have hSW := hW.2.2.2.2.1
  have hk8 := hSW.1
  have hk2 := hW.2.2.2.2.2.1
  by_cases hu : mFR m 130 k = 0
  · have e1 : pT s 1 = 0 := by
      rcases hR with z | z
      · exact z.2
      · have := z.1; omega
    rw [if_pos e1] at eM
    by_cases hwr : wdP (A tp) sz 1 p
    · have hk1 := tk_hit (f := A tp) (sz := sz) (s := s) (p := p) (w := 1) h0 (by rw [hat]) (by rw [hps]; exact hwr)
      rw [hps, show wn 1 = 4 from rfl] at hk1
      rw [if_pos hk1.1, hk1.2] at eM
      have hpl : p + 4 ≤ sz := by
        have z := bt_lt (hwr.1 3 (by decide)) (show wg 1 3 ≠ -1 by decide)
        omega
      have n4 := hN.2.2.2.1
      have n3 := hN.2.2.1
      have n2 := hN.2.1
      have z96 := c_riRule (d := d) (Q := Q) (part := part) hN hsz hW h387 (hC.k (F' := upF F 514 (rr + 1) ((p + 4 : Nat) : Int)) (A' := A) (L' := L) (fun j hj => upF_a _ _ _ (by omega)) (fun j hj => rfl)) hf (hS.at_ (p + 4)) hpl h0 (hT.k hN.1 (fun f j y1 y2 => upF_a _ _ _ (by omega)) (fun _ _ _ => rfl) (fun _ _ _ => rfl)) hu e1 (hz e1) hLs eM hLI (fun m' F' A' L' kw => hend m' F' A' L' (((KX.s k rr F A 514 _).w m L).tr kw))
      have z88 : Ex (d + 9) TR_readInto 88 [some (vR tr), some (vR k), some (vR tp), some (vI (sz : Int)), some (vI (part : Int))] [vI 1] (CM m (upF F 514 (rr + 1) ((p + 4 : Nat) : Int)) A L) Q := by
        refine Ex_step (tk_TR_readInto rfl) ⟨fun h88 => ?_, fun h88 => ?_⟩
        · replace h88 : _ := h88
          exact absurd (show w32 1 = w32 0 from h88) (by decide)
        · replace h88 : _ := h88
          refine Ex_step (tk_TR_readInto rfl) ?_
          refine Ex_step (tk_TR_readInto rfl) ?_
          refine gCR (tk_TR_readInto rfl) (hk10) (hr641) ?_
          exact z96
      refine Ex_step (tk_TR_readInto rfl) ?_
      refine gCR (tk_TR_readInto rfl) (hk2) (hu) ?_
      refine Ex_step (tk_TR_readInto rfl) ⟨by decide, fun h76 => ?_, fun h76 => ?_⟩
      · exact absurd rfl h76
      · refine Ex_step (tk_TR_readInto rfl) ?_
        refine gCR (tk_TR_readInto rfl) (hk10) (hr640) ?_
        refine Ex_step (tk_TR_readInto rfl) ?_
        refine Ex_cVK (av := [vR 6]) (tk_TR_readInto rfl) mk_Scan_takesWord ⟨rfl, rfl, by decide, rfl, Nat.le_of_ble_eq_true rfl, Nat.le_of_ble_eq_true rfl⟩ hk8 (c_takesW hSW hS hsz hp hf (hC 1 (by decide)) (fun _ => ⟨rfl, ?_⟩) (fun z => absurd hwr z))
        exact z88
    · have hk1 := tk_miss (f := A tp) (sz := sz) (s := s) (p := p) (w := 1) h0 (by rw [hat]) (by rw [hps]; exact hwr)
      rw [hhh] at hk1
      rw [if_neg hk1.1, hk1.2] at eM
      have z105 := c_riFail (d := d) (Q := Q) (part := part) hW hS (hFl eM).1 (hFl eM).2 hend
      have htw := fun (Q1 : Nat → Option AV → Mem → Prop) (hx : Q1 0 (some (vI 0)) (CM m F A L)) => c_takesW (d := d + 3) (Q := Q1) hSW hS hsz hp hf (hC 1 (by decide)) (fun z => absurd z hwr) (fun _ => hx)
      refine Ex_step (tk_TR_readInto rfl) ?_
      refine gCR (tk_TR_readInto rfl) (hk2) (hu) ?_
      refine Ex_step (tk_TR_readInto rfl) ⟨by decide, fun h76 => ?_, fun h76 => ?_⟩
      · exact z105
      · refine Ex_step (tk_TR_readInto rfl) ?_
        refine gCR (tk_TR_readInto rfl) (hk10) (hr640) ?_
        refine Ex_step (tk_TR_readInto rfl) ?_
        refine Ex_cV0 (av := [vR 6]) (tk_TR_readInto rfl) mk_Scan_takesWord ⟨rfl, rfl, by decide, rfl, Nat.le_of_ble_eq_true rfl, Nat.le_of_ble_eq_true rfl⟩ (hk8) (fun _ h => htw _ h) ?_
        refine Ex_step (tk_TR_readInto rfl) ⟨fun h88 => ?_, fun h88 => ?_⟩
        · replace h88 : _ := h88
          exact z105
        · replace h88 : _ := h88
          exact absurd rfl h88
  · have e1 : ¬ pT s 1 = 0 := by
      rcases hR with z | z
      · exact absurd z.1 hu
      · rw [z.2.2.1]; decide
    have h99 : mFR m 130 k ≠ 99 := by
      rcases hR with z | z
      · exact absurd z.1 hu
      · have := z.1; omega
    rw [if_neg e1] at eM
    have z105 := c_riFail (d := d) (Q := Q) (part := part) hW hS (hFl eM).1 (hFl eM).2 hend
    refine Ex_step (tk_TR_readInto rfl) ?_
    refine gCR (tk_TR_readInto rfl) (hk2) (rfl) ?_
    refine Ex_step (tk_TR_readInto rfl) ⟨h99, fun h76 => ?_, fun h76 => ?_⟩
    · exact z105
    · exact absurd h76 hu
set_option maxRecDepth 100000 in
theorem c_line (hN : TRN tr rr tp k ds) (hsz : sz ≤ 800) (hW : TRW m tr rr tp k ds) (h387 : 387 ≤ 100 + mN m) (hC : CLow m F A L) (hf : byts (A tp)) (hS : ScF F (rr + 1) sz p 0 (-1)) (hp : p ≤ sz) (hps : sk (A tp) sz p = p) (hat : pAt s = p) (h0 : pFl s = 0) (hhh : hereP (A tp) sz s = s) (hT : TxN F A k ds (pT s) nn) (hR : RuC m A (mFR m 130 k) (pT s)) (hz : pT s 1 = 0 → ∀ j, 620 ≤ j → j < 1920 → pT s j = 0) (hLs : LI sz s) (hLI : LI sz (lnT (A tp) sz s)) (hend : ∀ (m' : Mem) (F' A' L' : Nat → Nat → Int), KW k rr m m' F F' A A' L L' → LnN m' F' A' rr sz k ds (lnT (A tp) sz s) → Ex (d + 9) TR_readInto 113 [some (vR tr), some (vR k), some (vR tp), some (vI (sz : Int)), some (vI (part : Int))] [] (CM m' F' A' L') Q) : Ex (d + 9) TR_readInto 52 [some (vR tr), some (vR k), some (vR tp), some (vI (sz : Int)), some (vI (part : Int))] [] (CM m F A L) Q := by
  have hk10 := hW.1
  have hr640 := hW.2.1
  have hSW := hW.2.2.2.2.1
  have hk8 := hSW.1
  have z72 := fun hw => c_riSec (d := d) (Q := Q) (part := part) hN hsz hW h387 hC hf hS hp hps hat h0 hhh hT hR hz hLs hLI hw hend
  have z66 := fun hw => c_riDes (d := d) (Q := Q) (part := part) hN hsz hW hC hf hS hp hps hat h0 hT hR hz hLI hw hend
  have z61 : ∀ u : Int, (u = 1 ∧ wordAt (A tp) sz p (wn 0) (wg 0) ∨ u = 0 ∧ ¬ wordAt (A tp) sz p (wn 0) (wg 0)) → Ex (d + 9) TR_readInto 61 [some (vR tr), some (vR k), some (vR tp), some (vI (sz : Int)), some (vI (part : Int))] [vI u] (CM m F A L) Q := by
    intro u hu
    refine Ex_step (tk_TR_readInto rfl) ⟨fun h61 => ?_, fun h61 => ?_⟩
    · try simp (disch := omega) only [cmpI, w32_b2i, b2i_0, b2i_1, w32_id, Classical.not_not, not_true_eq_false, not_false_eq_true] at h61
      exact z72 (hu.elim (fun z => absurd z.1 (by omega)) (fun z => z.2))
    · try simp (disch := omega) only [cmpI, w32_b2i, b2i_0, b2i_1, w32_id, Classical.not_not, not_true_eq_false, not_false_eq_true] at h61
      refine Ex_step (tk_TR_readInto rfl) ?_
      refine Ex_step (tk_TR_readInto rfl) ?_
      exact z66 (hu.elim (fun z => z.2) (fun z => absurd z.1 (by omega)))
  refine Ex_step (tk_TR_readInto rfl) ?_
  refine gCR (tk_TR_readInto rfl) (hk10) (hr640) ?_
  refine Ex_step (tk_TR_readInto rfl) ?_
  refine Ex_cVK (av := [vR 4]) (tk_TR_readInto rfl) mk_Scan_seesWord ⟨rfl, rfl, by decide, rfl, Nat.le_of_ble_eq_true rfl, Nat.le_of_ble_eq_true rfl⟩ (hk8) (c_sees hSW hS hsz hp hf (hC 0 (by decide)) (fun u hu => ⟨rfl, ?_⟩))
  exact z61 u hu
end CReadInto
