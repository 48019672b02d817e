/-! ===== the reference's reader: place, fault, its place, codes, open ones, what is told ===== -/
abbrev PSt : Type := Nat × Nat × Int × Nat × Nat × (Nat → Int)
def pAt (s : PSt) : Nat := s.1
def pFl (s : PSt) : Nat := s.2.1
def pFa (s : PSt) : Int := s.2.2.1
def pCd (s : PSt) : Nat := s.2.2.2.1
def pOp (s : PSt) : Nat := s.2.2.2.2.1
def pT (s : PSt) : Nat → Int := s.2.2.2.2.2
def wAtP (s : PSt) (a : Nat) : PSt := (a, pFl s, pFa s, pCd s, pOp s, pT s)
def wFlP (s : PSt) (k : Nat) (p : Int) : PSt := (pAt s, k, p, pCd s, pOp s, pT s)
def wOpP (s : PSt) (a : Nat) : PSt := (pAt s, pFl s, pFa s, pCd s, a, pT s)
def wCdP (s : PSt) (a : Nat) (T : Nat → Int) : PSt := (pAt s, pFl s, pFa s, a, pOp s, T)
def pI (I : Nat → Int) (s : PSt) : Nat → Int := fun k => if k = 4 then (pAt s : Int) else if k = 6 then (pFl s : Int) else if k = 7 then pFa s else if k = 13 then (pCd s : Int) else if k = 14 then (pOp s : Int) else I k
def PM (m : Mem) (I : Nat → Int) (A L : Nat → Nat → Int) (s : PSt) : Mem := MS m (pI I s) (up1 A 4 (pT s)) L
set_option maxRecDepth 100000 in
theorem pI_at (I : Nat → Int) (s : PSt) (a : Nat) {x : Int} (hx : x = (a : Int)) : up1 (pI I s) 4 x = pI I (wAtP s a) := by
  subst hx
  funext k
  unfold up1 pI
  by_cases h : k = 4
  · rw [if_pos h, if_pos h]; rfl
  · rw [if_neg h, if_neg h, if_neg h]; rfl
set_option maxRecDepth 100000 in
theorem pI_fl (I : Nat → Int) (s : PSt) (a : Nat) (p : Int) {x : Int} (hx : x = (a : Int)) : up1 (up1 (pI I s) 6 x) 7 p = pI I (wFlP s a p) := by
  subst hx
  funext k
  unfold up1 pI
  by_cases h : k = 7
  · subst h; rfl
  · rw [if_neg h]
    by_cases h6 : k = 6
    · subst h6; rfl
    · rw [if_neg h6, if_neg h6, if_neg h, if_neg h6, if_neg h]; rfl
set_option maxRecDepth 100000 in
theorem pI_op (I : Nat → Int) (s : PSt) (a : Nat) {x : Int} (hx : x = (a : Int)) : up1 (pI I s) 14 x = pI I (wOpP s a) := by
  subst hx
  funext k
  unfold up1 pI
  by_cases h : k = 14
  · subst h; rfl
  · rw [if_neg h, if_neg h, if_neg h]; rfl
set_option maxRecDepth 100000 in
theorem pI_cd (I : Nat → Int) (s : PSt) (a : Nat) (T : Nat → Int) {x : Int} (hx : x = (a : Int)) : up1 (pI I s) 13 x = pI I (wCdP s a T) := by
  subst hx
  funext k
  unfold up1 pI
  by_cases h : k = 13
  · subst h; rfl
  · rw [if_neg h, if_neg h, if_neg h]; rfl
/-- the state's numbers are of a size -/
def Gd (s : PSt) : Prop := pAt s ≤ 9000 ∧ pFl s ≤ 9 ∧ pOp s ≤ 9 ∧ pCd s ≤ 1290
/-- what a reader has at hand -/
def RdW (m : Mem) (I : Nat → Int) (A : Nat → Nat → Int) (sz : Nat) : Prop := MW m ∧ I 3 = (sz : Int) ∧ sz ≤ 800 ∧ byts (A 2)
def hereP (f : Nat → Int) (sz : Nat) (s : PSt) : PSt := wAtP s (sk f sz (pAt s))
def hereC (f : Nat → Int) (sz : Nat) (s : PSt) : Int := bt f sz (sk f sz (pAt s))
def wrongP (s : PSt) (k : Nat) (p : Int) : PSt := if pFl s = 0 then wFlP s k p else s
def mustP (f : Nat → Int) (sz : Nat) (c : Int) (s : PSt) : PSt := if pFl s = 0 then (if hereC f sz s = c then wAtP s (sk f sz (pAt s) + 1) else wrongP (hereP f sz s) 1 (sk f sz (pAt s) : Nat)) else s
def tellsP (c : Int) (s : PSt) : PSt := if pFl s = 0 then wCdP s (pCd s + 1) (up1 (pT s) (620 + pCd s) c) else s
def opensP (p : Int) (s : PSt) : PSt := wOpP (if pOp s = 4 then wrongP s 4 p else s) (pOp s + 1)
section MParse
variable {d sz : Nat} {m : Mem} {I : Nat → Int} {A L : Nat → Nat → Int} {s : PSt} {Q : Nat → Option AV → Mem → Prop}
set_option maxRecDepth 100000 in
theorem f_here (hR : RdW m I A sz) (hp : pAt s ≤ 9000) (h : Q 0 (some (vI (hereC (A 2) sz s))) (PM m I A L (hereP (A 2) sz s))) : Ex (d + 1) M_here 0 [some (vR aM)] [] (PM m I A L s) Q := by
  refine e_here (A := up1 A 4 (pT s)) hR.1 hR.2.2.1 hR.2.2.2 (sz + 1) (pAt s) (pI I s) (by omega) (by omega) hR.2.1 rfl ?_
  rw [pI_at I s _ rfl]
  exact h
set_option maxRecDepth 100000 in
theorem f_fine (hR : RdW m I A sz) (hp : pFl s ≤ 9) (h : Q 0 (some (vI (b2i (pFl s = 0)))) (PM m I A L s)) : Ex d M_fine 0 [some (vR aM)] [] (PM m I A L s) Q := by
  refine e_fine hR.1 (show 0 ≤ (pFl s : Int) ∧ (pFl s : Int) ≤ 9 by omega) ?_
  rw [show b2i (pI I s 6 = 0) = b2i (pFl s = 0) from b2i_congr (show (pFl s : Int) = 0 ↔ pFl s = 0 by omega)]
  exact h
set_option maxRecDepth 100000 in
theorem f_wrong {k : Nat} {p : Int} (hR : RdW m I A sz) (hp : pFl s ≤ 9) (h : Q 0 none (PM m I A L (wrongP s k p))) : Ex d M_wrong 0 [some (vR aM), some (vI (k : Int)), some (vI p)] [] (PM m I A L s) Q := by
  refine e_wrong hR.1 (show 0 ≤ (pFl s : Int) ∧ (pFl s : Int) ≤ 9 by omega) ?_
  unfold wrongP at h
  by_cases h0 : pFl s = 0
  · rw [if_pos (show pI I s 6 = 0 from (by show (pFl s : Int) = 0; omega)), pI_fl I s k p rfl]
    rw [if_pos h0] at h
    exact h
  · rw [if_neg (show ¬ pI I s 6 = 0 from (by show ¬ (pFl s : Int) = 0; omega))]
    rw [if_neg h0] at h
    exact h
set_option maxRecDepth 100000 in
theorem f_byteAt {k : Nat} {i : Int} (hR : RdW m I A sz) (hi : i = (k : Int)) (hk : k ≤ 100000) (h : Q 0 (some (vI (bt (A 2) sz k))) (PM m I A L s)) : Ex d M_byteAt 0 [some (vR aM), some (vI i)] [] (PM m I A L s) Q := e_byteAt hR.1 hR.2.1 hR.2.2.1 hi hk h
set_option maxRecDepth 100000 in
theorem hereC_range (hR : RdW m I A sz) (s : PSt) : -1 ≤ hereC (A 2) sz s ∧ hereC (A 2) sz s ≤ 255 := bt_range hR.2.2.2 hR.2.2.1 _
set_option maxRecDepth 100000 in
theorem sk_le (f : Nat → Int) (sz : Nat) : ∀ n k, sz - k < n → k ≤ sk f sz k ∧ (sk f sz k ≤ k ∨ sk f sz k ≤ sz)
  | 0, k, h => by omega
  | n + 1, k, h => by
    rw [sk_eq]
    split
    · next q =>
      have := sk_le f sz n (k + 1) (by omega)
      omega
    · omega
set_option maxRecDepth 100000 in
theorem sk_bd (f : Nat → Int) {sz k b : Nat} (h1 : k ≤ b) (h2 : sz ≤ b) : sk f sz k ≤ b := by
  have := sk_le f sz (sz + 1) k (by omega)
  omega
set_option maxRecDepth 100000 in
theorem f_must {c : Nat} (hc : c ≤ 255) (hR : RdW m I A sz) (hG : Gd s) (h : Q 0 none (PM m I A L (mustP (A 2) sz (c : Int) s))) : Ex (d + 2) M_must 0 [some (vR aM), some (vI (c : Int))] [] (PM m I A L s) Q := by
  have hM := hR.1
  have hr := hereC_range hR s
  have hb := sk_bd (A 2) hG.1 (show sz ≤ 9000 by have := hR.2.2.1; omega)
  unfold mustP at h
  refine Ex_step (tk_M_must rfl) ?_
  refine Ex_cV0 (av := []) (tk_M_must rfl) mk_M_fine ⟨rfl, rfl, by decide, rfl, Nat.le_of_ble_eq_true rfl, Nat.le_of_ble_eq_true rfl⟩ (hM.k) (fun _ h => f_fine hR hG.2.1 h) ?_
  refine Ex_step (tk_M_must rfl) ⟨fun h4 => ?_, fun h4 => ?_⟩
  · try simp (disch := omega) only [cmpI, w32_b2i, b2i_0, b2i_1, w32_id, Classical.not_not, not_true_eq_false, not_false_eq_true] at h4
    rw [if_pos h4] at h
    refine Ex_step (tk_M_must rfl) ?_
    refine Ex_cV0 (av := []) (tk_M_must rfl) mk_M_here ⟨rfl, rfl, by decide, rfl, Nat.le_of_ble_eq_true rfl, Nat.le_of_ble_eq_true rfl⟩ (hM.k) (fun _ h => f_here hR hG.1 h) ?_
    refine Ex_step (tk_M_must rfl) ?_
    refine Ex_step (tk_M_must rfl) ⟨fun h13 => ?_, fun h13 => ?_⟩
    · try simp (disch := omega) only [cmpI, w32_b2i, b2i_0, b2i_1, w32_id, Classical.not_not, not_true_eq_false, not_false_eq_true] at h13
      rw [if_neg h13] at h
      refine Ex_step (tk_M_must rfl) ?_
      refine Ex_step (tk_M_must rfl) ?_
      refine Ex_step (tk_M_must rfl) ?_
      refine gMI (tk_M_must rfl) hM ?_
      refine Ex_cV0 (av := [vI 1, vI (pI I (hereP (A 2) sz s) 4)]) (tk_M_must rfl) mk_M_wrong ⟨rfl, rfl, by decide, rfl, Nat.le_of_ble_eq_true rfl, Nat.le_of_ble_eq_true rfl⟩ (hM.k) (fun _ h => f_wrong (k := 1) hR hG.2.1 h) ?_
      refine Ex_step (tk_M_must rfl) ⟨rfl, ?_⟩
      exact h
    · try simp (disch := omega) only [cmpI, w32_b2i, b2i_0, b2i_1, w32_id, Classical.not_not, not_true_eq_false, not_false_eq_true] at h13
      rw [if_pos h13] at h
      refine Ex_step (tk_M_must rfl) ?_
      refine Ex_step (tk_M_must rfl) ?_
      refine gMI (tk_M_must rfl) hM ?_
      refine Ex_step (tk_M_must rfl) ?_
      refine Ex_step (tk_M_must rfl) ?_
      refine pMI (tk_M_must rfl) hM ?_
      rw [pI_at _ _ (sk (A 2) sz (pAt s) + 1) (by show ((sk (A 2) sz (pAt s) : Nat) : Int) + 1 = _; omega)]
      refine Ex_step (tk_M_must rfl) ?_
      refine Ex_step (tk_M_must rfl) ⟨rfl, ?_⟩
      exact h
  · try simp (disch := omega) only [cmpI, w32_b2i, b2i_0, b2i_1, w32_id, Classical.not_not, not_true_eq_false, not_false_eq_true] at h4
    rw [if_neg h4] at h
    refine Ex_step (tk_M_must rfl) ⟨rfl, ?_⟩
    exact h
set_option maxRecDepth 100000 in
theorem f_tells {c : Int} (hR : RdW m I A sz) (hG : Gd s) (h : Q 0 none (PM m I A L (tellsP c s))) : Ex (d + 1) M_tells 0 [some (vR aM), some (vI c)] [] (PM m I A L s) Q := by
  have hM := hR.1
  have h9 := hG.2.2.2
  unfold tellsP at h
  refine Ex_step (tk_M_tells rfl) ?_
  refine Ex_cV0 (av := []) (tk_M_tells rfl) mk_M_fine ⟨rfl, rfl, by decide, rfl, Nat.le_of_ble_eq_true rfl, Nat.le_of_ble_eq_true rfl⟩ (hM.k) (fun _ h => f_fine hR hG.2.1 h) ?_
  refine Ex_step (tk_M_tells rfl) ⟨fun h4 => ?_, fun h4 => ?_⟩
  · try simp (disch := omega) only [cmpI, w32_b2i, b2i_0, b2i_1, w32_id, Classical.not_not, not_true_eq_false, not_false_eq_true] at h4
    rw [if_pos h4] at h
    refine Ex_step (tk_M_tells rfl) ?_
    refine gMR (tk_M_tells rfl) hM hM.r10 ?_
    refine Ex_step (tk_M_tells rfl) ?_
    refine Ex_step (tk_M_tells rfl) ?_
    refine gMI (tk_M_tells rfl) hM ?_
    refine Ex_step (tk_M_tells rfl) ?_
    refine Ex_step (tk_M_tells rfl) ?_
    refine tMI (j := 4) (n := 620 + pCd s) (tk_M_tells rfl) (by decide) hM.k4 hM.n4 (by show w32 (620 + (pCd s : Int)) = _; rw [w32_id (by omega) (by omega)]; omega) (by omega) ?_
    refine Ex_step (tk_M_tells rfl) ?_
    refine Ex_step (tk_M_tells rfl) ?_
    refine gMI (tk_M_tells rfl) hM ?_
    refine Ex_step (tk_M_tells rfl) ?_
    refine Ex_step (tk_M_tells rfl) ?_
    refine pMI (tk_M_tells rfl) hM ?_
    rw [pI_cd _ _ (pCd s + 1) (up1 (pT s) (620 + pCd s) c) (by show (pCd s : Int) + 1 = _; omega), show up1 A 4 (pT s) 4 = pT s from up1_at _ _ _, up1_same]
    refine Ex_step (tk_M_tells rfl) ⟨rfl, ?_⟩
    exact h
  · try simp (disch := omega) only [cmpI, w32_b2i, b2i_0, b2i_1, w32_id, Classical.not_not, not_true_eq_false, not_false_eq_true] at h4
    rw [if_neg h4] at h
    refine Ex_step (tk_M_tells rfl) ⟨rfl, ?_⟩
    exact h
set_option maxRecDepth 100000 in
theorem f_opens {p : Int} (hR : RdW m I A sz) (hG : Gd s) (h : Q 0 none (PM m I A L (opensP p s))) : Ex (d + 1) M_opens 0 [some (vR aM), some (vI p)] [] (PM m I A L s) Q := by
  have hM := hR.1
  have h9 := hG.2.2.1
  unfold opensP at h
  have hw : ∀ s2 : PSt, pOp s2 = pOp s → Q 0 none (PM m I A L (wOpP s2 (pOp s + 1))) → Ex (d + 1) M_opens 14 [some (vR aM), some (vI p)] [] (PM m I A L s2) Q := by
    intro s2 he h
    refine Ex_step (tk_M_opens rfl) ?_
    refine Ex_step (tk_M_opens rfl) ?_
    refine gMI (tk_M_opens rfl) hM ?_
    refine Ex_step (tk_M_opens rfl) ?_
    refine Ex_step (tk_M_opens rfl) ?_
    refine pMI (tk_M_opens rfl) hM ?_
    refine Ex_step (tk_M_opens rfl) ⟨rfl, ?_⟩
    rw [pI_op _ _ (pOp s + 1) (by show (pOp s2 : Int) + 1 = _; omega)]
    exact h
  refine Ex_step (tk_M_opens rfl) ?_
  refine gMI (tk_M_opens rfl) hM ?_
  refine Ex_step (tk_M_opens rfl) ?_
  refine Ex_step (tk_M_opens rfl) ⟨fun h5 => ?_, fun h5 => ?_⟩
  · replace h5 : _ := h5
    simp only [cmpI] at h5
    rw [show w32 (pI I s 14) = (pOp s : Int) from w32_id (by show -2147483648 ≤ (pOp s : Int); omega) (by show (pOp s : Int) ≤ 2147483647; omega), show w32 4 = 4 by decide] at h5
    first | (rw [if_neg (by omega)] at h; exact hw s rfl h) | (rw [if_pos (by omega)] at h; exact hw _ (by unfold wrongP; split <;> rfl) h)
  · replace h5 : _ := h5
    simp only [cmpI] at h5
    rw [show w32 (pI I s 14) = (pOp s : Int) from w32_id (by show -2147483648 ≤ (pOp s : Int); omega) (by show (pOp s : Int) ≤ 2147483647; omega), show w32 4 = 4 by decide] at h5
    refine Ex_step (tk_M_opens rfl) ?_
    refine Ex_step (tk_M_opens rfl) ?_
    refine Ex_step (tk_M_opens rfl) ?_
    refine Ex_cV0 (av := [vI 4, vI p]) (tk_M_opens rfl) mk_M_wrong ⟨rfl, rfl, by decide, rfl, Nat.le_of_ble_eq_true rfl, Nat.le_of_ble_eq_true rfl⟩ (hM.k) (fun _ h => f_wrong (k := 4) hR hG.2.1 h) ?_
    first | (rw [if_neg (by omega)] at h; exact hw s rfl h) | (rw [if_pos (by omega)] at h; exact hw _ (by unfold wrongP; split <;> rfl) h)
end MParse
