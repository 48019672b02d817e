/-! ===== the reference's parser as a function ===== -/
def WT : Nat → List Nat
  | 0 => [100, 101, 115, 105, 103, 110]
  | 1 => [114, 117, 108, 101]
  | 2 => [110, 111, 116]
  | 3 => [97, 108, 105, 107, 101]
  | 4 => [102, 114, 101, 101, 100, 111, 109]
  | 5 => [112, 114, 105, 111, 114]
  | 6 => [100, 97, 114, 107]
  | 7 => [97, 103, 101]
  | 8 => [97, 110, 100]
  | 9 => [111, 114]
  | _ => []
def wn (w : Nat) : Nat := (WT w).length
def wg (w : Nat) (j : Nat) : Int := ((WT w).getD j 0 : Nat)
noncomputable def tkB (f : Nat → Int) (sz w : Nat) (s : PSt) : Int := takesB f sz (wn w) (wg w) s
noncomputable def tkS (f : Nat → Int) (sz w : Nat) (s : PSt) : PSt := takesP f sz (wn w) (wg w) s
def incP (s : PSt) : PSt := wAtP s (pAt s + 1)
def shutP (s : PSt) : PSt := wOpP s (pOp s - 1)
noncomputable def askL (f : Nat → Int) (sz : Nat) : List Nat → PSt → PSt × Int
  | [], s => (s, -1)
  | k :: t, s => if tkB f sz (3 + k) s = 1 then (tkS f sz (3 + k) s, (k : Int)) else askL f sz t (tkS f sz (3 + k) s)
noncomputable def askP (f : Nat → Int) (sz : Nat) (s : PSt) : PSt × Int := askL f sz [0, 1, 2, 3, 4] s
def tellNum (f : Nat → Int) (sz : Nat) (s : PSt) : PSt := tellsP (numV f sz s) (tellsP 1 (numP f sz s))
def tellAsk (k : Int) (s : PSt) : PSt := tellsP k (tellsP 2 s)
section MPars
variable (f : Nat → Int) (sz : Nat) (r : Nat → PSt → PSt)
noncomputable def unitP (s : PSt) : PSt := if pFl s = 0 then (if hereC f sz s = 40 then shutP (mustP f sz 41 (r 4 (incP (opensP (sk f sz (pAt s) : Nat) (hereP f sz s))))) else if dgt (hereC f sz s) then tellNum f sz (hereP f sz s) else if (askP f sz (hereP f sz s)).2 = -1 then tellNum f sz (askP f sz (hereP f sz s)).1 else tellAsk (askP f sz (hereP f sz s)).2 (askP f sz (hereP f sz s)).1) else s
def prodL (s : PSt) : PSt := if pFl s = 0 then (if hereC f sz s = 42 then r 1 (tellsP 5 (r 0 (incP (hereP f sz s)))) else hereP f sz s) else s
def sumL (s : PSt) : PSt := if pFl s = 0 then (if hereC f sz s = 43 ∨ hereC f sz s = 45 then r 3 (tellsP (if hereC f sz s = 43 then 3 else 4) (r 2 (incP (hereP f sz s)))) else hereP f sz s) else s
def signC (c : Int) : Int := if c = 60 then 6 else if c = 61 then 7 else if c = 62 then 8 else 0
def signP (s : PSt) : PSt := incP (if signC (hereC f sz s) = 0 then wrongP (hereP f sz s) 1 (sk f sz (pAt s) : Nat) else hereP f sz s)
def factE (s : PSt) : PSt := if pFl s = 0 then tellsP (signC (hereC f sz s)) (r 4 (signP f sz s)) else s
noncomputable def factP (s : PSt) : PSt := if pFl s = 0 then (if tkB f sz 2 (hereP f sz s) = 1 then shutP (tellsP 11 (r 5 (opensP (sk f sz (pAt s) : Nat) (tkS f sz 2 (hereP f sz s))))) else factE f sz r (r 4 (tkS f sz 2 (hereP f sz s)))) else s
noncomputable def factsL (s : PSt) : PSt := if tkB f sz 8 s = 1 then r 6 (tellsP 9 (r 5 (tkS f sz 8 s))) else tkS f sz 8 s
noncomputable def testL (s : PSt) : PSt := if tkB f sz 9 s = 1 then r 8 (tellsP 10 (r 7 (tkS f sz 9 s))) else tkS f sz 9 s
noncomputable def stepP : Nat → PSt → PSt
  | 0, s => unitP f sz r s
  | 1, s => prodL f sz r s
  | 2, s => r 1 (r 0 s)
  | 3, s => sumL f sz r s
  | 4, s => r 3 (r 2 s)
  | 5, s => factP f sz r s
  | 6, s => factsL f sz r s
  | 7, s => r 6 (r 5 s)
  | 8, s => testL f sz r s
  | 9, s => r 8 (r 7 s)
  | _, s => s
noncomputable def ps : Nat → Nat → PSt → PSt
  | 0, _, s => s
  | n + 1, q, s => stepP f sz (ps n) q s
end MPars
/-! ===== bounds ===== -/
def Bk (k : Int) (s t : PSt) : Prop := pAt s ≤ pAt t ∧ pCd s ≤ pCd t ∧ (2 * (pCd t : Int) + 3 * (pAt s : Int) ≤ 2 * (pCd s : Int) + 3 * (pAt t : Int) + k) ∧ (∀ j, j < 620 + pCd s → pT t j = pT s j) ∧ (∀ j, 620 + pCd t ≤ j → pT t j = pT s j)
def G2 (sz : Nat) (s : PSt) : Prop := pFl s ≤ 9 ∧ pOp s ≤ 5 ∧ pAt s ≤ sz + 1 ∧ (pFl s = 0 → pOp s ≤ 4 ∧ pAt s ≤ sz)
set_option maxRecDepth 100000 in
theorem Bk.tr {k l : Int} {s t u : PSt} (h1 : Bk k s t) (h2 : Bk l t u) : Bk (k + l) s u := by
  obtain ⟨a1, a2, a3, a4, a5⟩ := h1
  obtain ⟨b1, b2, b3, b4, b5⟩ := h2
  refine ⟨by omega, by omega, by omega, fun j hj => ?_, fun j hj => ?_⟩
  · rw [b4 j (by omega), a4 j hj]
  · rw [b5 j hj, a5 j (by omega)]
set_option maxRecDepth 100000 in
theorem Bk.wk {k l : Int} {s t : PSt} (h : Bk k s t) (hk : k ≤ l) : Bk l s t := ⟨h.1, h.2.1, by have := h.2.2.1; omega, h.2.2.2⟩
set_option maxRecDepth 100000 in
theorem Bk.rf (s : PSt) : Bk 0 s s := ⟨Nat.le_refl _, Nat.le_refl _, by omega, fun _ _ => rfl, fun _ _ => rfl⟩
set_option maxRecDepth 100000 in
theorem Bk.at_ {s : PSt} {a : Nat} (h : pAt s ≤ a) : Bk (3 * (pAt s : Int) - 3 * (a : Int)) s (wAtP s a) := ⟨h, Nat.le_refl _, (by show 2 * (pCd s : Int) + _ ≤ 2 * (pCd s : Int) + 3 * (a : Int) + _; omega), fun _ _ => rfl, fun _ _ => rfl⟩
set_option maxRecDepth 100000 in
theorem Bk.fl {s : PSt} {a : Nat} {p : Int} : Bk 0 s (wFlP s a p) := ⟨Nat.le_refl _, Nat.le_refl _, (by show 2 * (pCd s : Int) + _ ≤ 2 * (pCd s : Int) + 3 * (pAt s : Int) + _; omega), fun _ _ => rfl, fun _ _ => rfl⟩
set_option maxRecDepth 100000 in
theorem Bk.op {s : PSt} {a : Nat} : Bk 0 s (wOpP s a) := ⟨Nat.le_refl _, Nat.le_refl _, (by show 2 * (pCd s : Int) + _ ≤ 2 * (pCd s : Int) + 3 * (pAt s : Int) + _; omega), fun _ _ => rfl, fun _ _ => rfl⟩
set_option maxRecDepth 100000 in
theorem Bk.wrong {s : PSt} {a : Nat} {p : Int} : Bk 0 s (wrongP s a p) := by
  unfold wrongP
  split
  · exact Bk.fl
  · exact Bk.rf s
set_option maxRecDepth 100000 in
theorem Bk.tells {c : Int} {s : PSt} : Bk 2 s (tellsP c s) := by
  unfold tellsP
  split
  · refine ⟨Nat.le_refl _, Nat.le_succ _, ?_, fun j hj => ?_, fun j hj => ?_⟩
    · show 2 * ((pCd s + 1 : Nat) : Int) + 3 * (pAt s : Int) ≤ 2 * (pCd s : Int) + 3 * (pAt s : Int) + 2
      omega
    · exact if_neg (by omega)
    · have : 620 + (pCd s + 1) ≤ j := hj
      exact if_neg (by omega)
  · exact (Bk.rf s).wk (by omega)
set_option maxRecDepth 100000 in
theorem Bk.opens {p : Int} {s : PSt} : Bk 0 s (opensP p s) := by
  unfold opensP
  split
  · exact Bk.wrong.tr Bk.op
  · exact Bk.op
set_option maxRecDepth 100000 in
theorem Bk.here {f : Nat → Int} {sz : Nat} {s : PSt} : Bk 0 s (hereP f sz s) := (Bk.at_ (sk_le f sz (sz + 1) (pAt s) (by omega)).1).wk (by have := (sk_le f sz (sz + 1) (pAt s) (by omega)).1; omega)
set_option maxRecDepth 100000 in
theorem Bk.inc {s : PSt} : Bk (-3) s (incP s) := (Bk.at_ (Nat.le_succ _)).wk (by omega)
set_option maxRecDepth 100000 in
theorem Bk.must {f : Nat → Int} {sz : Nat} {c : Int} {s : PSt} : Bk 0 s (mustP f sz c s) := by
  have hk := (sk_le f sz (sz + 1) (pAt s) (by omega)).1
  unfold mustP
  split
  · split
    · exact (Bk.at_ (by omega)).wk (by omega)
    · exact Bk.here.tr Bk.wrong
  · exact Bk.rf s
set_option maxRecDepth 100000 in
theorem nmE_le (f : Nat → Int) (sz : Nat) : ∀ n k, sz - k < n → k ≤ nmE f sz k ∧ (nmE f sz k ≤ k ∨ nmE f sz k ≤ sz)
  | 0, k, h => by omega
  | n + 1, k, h => by
    rw [nmE]
    split
    · next q =>
      have := nmE_le f sz n (k + 1) (by omega)
      omega
    · omega
set_option maxRecDepth 100000 in
theorem Bk.num {f : Nat → Int} {sz : Nat} {s : PSt} : Bk 0 s (numP f sz s) := by
  have hk := (sk_le f sz (sz + 1) (pAt s) (by omega)).1
  have he := (nmE_le f sz (sz + 1) (sk f sz (pAt s)) (by omega)).1
  unfold numP
  split
  · split
    · have h1 : Bk 0 s (wAtP s (nmE f sz (sk f sz (pAt s)))) := (Bk.at_ (by omega)).wk (by omega)
      split
      · exact h1.tr Bk.fl
      · exact h1
    · exact Bk.here.tr Bk.wrong
  · exact Bk.rf s
set_option maxRecDepth 100000 in
theorem Bk.num2 {f : Nat → Int} {sz : Nat} {s : PSt} (h0 : pFl s = 0) (h1 : pFl (numP f sz s) = 0) : Bk (-3) s (numP f sz s) := by
  have hk := (sk_le f sz (sz + 1) (pAt s) (by omega)).1
  unfold numP at h1 ⊢
  rw [if_pos h0] at h1 ⊢
  split at h1
  · next hd =>
    rw [if_pos hd]
    have he := (nmE_le f sz (sz + 1) (sk f sz (pAt s) + 1) (by omega)).1
    rw [← nmE_go hd] at he
    split at h1
    · cases h1
    · next hv =>
      rw [if_neg hv]
      exact (Bk.at_ (by omega)).wk (by omega)
  · exfalso
    unfold wrongP at h1
    rw [if_pos (show pFl (hereP f sz s) = 0 from h0)] at h1
    cases h1
set_option maxRecDepth 100000 in
theorem tells_no {c : Int} {s : PSt} (h : pFl s ≠ 0) : tellsP c s = s := if_neg h
set_option maxRecDepth 100000 in
theorem tells_fl {c : Int} {s : PSt} : pFl (tellsP c s) = pFl s := by
  unfold tellsP
  split <;> rfl
set_option maxRecDepth 100000 in
theorem tells_op {c : Int} {s : PSt} : pOp (tellsP c s) = pOp s := by
  unfold tellsP
  split <;> rfl
set_option maxRecDepth 100000 in
theorem tells_at {c : Int} {s : PSt} : pAt (tellsP c s) = pAt s := by
  unfold tellsP
  split <;> rfl
set_option maxRecDepth 100000 in
theorem wrong_fl {k : Nat} {p : Int} {s : PSt} (hk : k ≠ 0) : pFl (wrongP s k p) ≠ 0 := by
  unfold wrongP
  split
  · exact hk
  · assumption
set_option maxRecDepth 100000 in
theorem Bk.tellN {f : Nat → Int} {sz : Nat} {s : PSt} (h0 : pFl s = 0) : Bk 1 s (tellNum f sz s) := by
  unfold tellNum
  by_cases h1 : pFl (numP f sz s) = 0
  · exact (((Bk.num2 h0 h1).tr Bk.tells).tr Bk.tells).wk (by omega)
  · rw [tells_no (by rw [tells_fl]; exact h1), tells_no h1]
    exact Bk.num.wk (by omega)
set_option maxRecDepth 100000 in
theorem Bk.tk {f : Nat → Int} {sz w : Nat} {s : PSt} : Bk 0 s (tkS f sz w s) := by
  have hk := (sk_le f sz (sz + 1) (pAt s) (by omega)).1
  unfold tkS takesP
  split
  · split
    · exact (Bk.at_ (by omega)).wk (by omega)
    · exact Bk.here
  · exact Bk.rf s
set_option maxRecDepth 100000 in
theorem tkB_t {f : Nat → Int} {sz w : Nat} {s : PSt} (h : tkB f sz w s = 1) : pFl s = 0 ∧ wordAt f sz (sk f sz (pAt s)) (wn w) (wg w) := by
  by_cases q : pFl s = 0 ∧ wordAt f sz (sk f sz (pAt s)) (wn w) (wg w)
  · exact q
  · unfold tkB at h
    rw [takesB_f q] at h
    cases h
set_option maxRecDepth 100000 in
theorem tkS_t {f : Nat → Int} {sz w : Nat} {s : PSt} (h : tkB f sz w s = 1) : tkS f sz w s = wAtP s (sk f sz (pAt s) + wn w) := by
  have q := tkB_t h
  unfold tkS takesP
  rw [if_pos q.1, if_pos q.2]
set_option maxRecDepth 100000 in
theorem Bk.tk2 {f : Nat → Int} {sz w : Nat} {s : PSt} (h : tkB f sz w s = 1) : Bk (-3 * (wn w : Int)) s (tkS f sz w s) := by
  have hk := (sk_le f sz (sz + 1) (pAt s) (by omega)).1
  rw [tkS_t h]
  exact (Bk.at_ (by omega)).wk (by omega)
set_option maxRecDepth 100000 in
theorem G2.skp {f : Nat → Int} {sz : Nat} {s : PSt} (h : G2 sz s) : sk f sz (pAt s) ≤ sz + 1 ∧ (pFl s = 0 → sk f sz (pAt s) ≤ sz) := by
  obtain ⟨h1, h2, h3, h4⟩ := h
  have := sk_le f sz (sz + 1) (pAt s) (by omega)
  refine ⟨by omega, fun h0 => ?_⟩
  have := (h4 h0).2
  omega
set_option maxRecDepth 100000 in
theorem G2.here {f : Nat → Int} {sz : Nat} {s : PSt} (h : G2 sz s) : G2 sz (hereP f sz s) := ⟨h.1, h.2.1, (h.skp).1, fun h0 => ⟨(h.2.2.2 h0).1, (h.skp).2 h0⟩⟩
set_option maxRecDepth 100000 in
theorem bt_ne {f : Nat → Int} {sz k : Nat} {c : Int} (h : bt f sz k = c) (hc : 0 ≤ c) : k < sz := by
  unfold bt at h
  split at h
  · assumption
  · omega
set_option maxRecDepth 100000 in
theorem G2.wrong {sz k : Nat} {p : Int} {s : PSt} (h : G2 sz s) (hk : k ≤ 9 ∧ k ≠ 0) : G2 sz (wrongP s k p) := by
  unfold wrongP
  split
  · exact ⟨hk.1, h.2.1, h.2.2.1, fun h0 => absurd h0 hk.2⟩
  · exact h
set_option maxRecDepth 100000 in
theorem G2.tells {sz : Nat} {c : Int} {s : PSt} (h : G2 sz s) : G2 sz (tellsP c s) := by
  unfold tellsP
  split
  · exact h
  · exact h
set_option maxRecDepth 100000 in
theorem G2.opens {sz : Nat} {p : Int} {s : PSt} (h : G2 sz s) (h0 : pFl s = 0) : G2 sz (opensP p s) := by
  have h4 := (h.2.2.2 h0).1
  unfold opensP wrongP
  rw [if_pos h0]
  split
  · next e => exact ⟨(by show (4 : Nat) ≤ 9; omega), (by show pOp s + 1 ≤ 5; omega), h.2.2.1, fun q => by cases q⟩
  · next e => exact ⟨h.1, (by show pOp s + 1 ≤ 5; omega), h.2.2.1, fun q => ⟨(by show pOp s + 1 ≤ 4; omega), (h.2.2.2 q).2⟩⟩
set_option maxRecDepth 100000 in
theorem opens_op {p : Int} {s : PSt} : pOp (opensP p s) = pOp s + 1 := by
  unfold opensP
  split <;> rfl
set_option maxRecDepth 100000 in
theorem opens_at {p : Int} {s : PSt} : pAt (opensP p s) = pAt s := by
  unfold opensP wrongP
  split
  · split <;> rfl
  · rfl
set_option maxRecDepth 100000 in
theorem opens_fl {p : Int} {s : PSt} (h0 : pFl (opensP p s) = 0) : pOp s ≠ 4 := by
  intro h4
  unfold opensP at h0
  rw [if_pos h4] at h0
  exact wrong_fl (by decide) h0
set_option maxRecDepth 100000 in
theorem G2.inc {sz : Nat} {s : PSt} (h : G2 sz s) (h2 : pAt s < sz) : G2 sz (incP s) := ⟨h.1, h.2.1, (by show pAt s + 1 ≤ sz + 1; omega), fun h0 => ⟨(h.2.2.2 h0).1, (by show pAt s + 1 ≤ sz; omega)⟩⟩
set_option maxRecDepth 100000 in
theorem G2.must {f : Nat → Int} {sz : Nat} {c : Int} (hc : 0 ≤ c) {s : PSt} (h : G2 sz s) : G2 sz (mustP f sz c s) := by
  unfold mustP
  split
  · split
    · next h1 =>
      have := bt_ne h1 hc
      exact ⟨h.1, h.2.1, (by show sk f sz (pAt s) + 1 ≤ sz + 1; omega), fun h0 => ⟨(h.2.2.2 h0).1, (by show sk f sz (pAt s) + 1 ≤ sz; omega)⟩⟩
    · exact h.here.wrong (by decide)
  · exact h
set_option maxRecDepth 100000 in
theorem must_op {f : Nat → Int} {sz : Nat} {c : Int} {s : PSt} : pOp (mustP f sz c s) = pOp s := by
  unfold mustP wrongP
  split
  · split
    · rfl
    · split <;> rfl
  · rfl
set_option maxRecDepth 100000 in
theorem must_no {f : Nat → Int} {sz : Nat} {c : Int} {s : PSt} (h : pFl s ≠ 0) : mustP f sz c s = s := if_neg h
set_option maxRecDepth 100000 in
theorem num_op {f : Nat → Int} {sz : Nat} {s : PSt} : pOp (numP f sz s) = pOp s := by
  unfold numP wrongP
  split
  · split
    · split <;> rfl
    · split <;> rfl
  · rfl
set_option maxRecDepth 100000 in
theorem G2.num {f : Nat → Int} {sz : Nat} {s : PSt} (h : G2 sz s) : G2 sz (numP f sz s) := by
  have he := (nmE_le f sz (sz + 1) (sk f sz (pAt s)) (by omega)).2
  have hs := h.skp (f := f)
  unfold numP
  split
  · next h0 =>
    have := hs.2 h0
    split
    · split
      · exact ⟨(by show (2 : Nat) ≤ 9; omega), h.2.1, (by show nmE f sz (sk f sz (pAt s)) ≤ sz + 1; omega), fun q => by cases q⟩
      · exact ⟨h.1, h.2.1, (by show nmE f sz (sk f sz (pAt s)) ≤ sz + 1; omega), fun h0 => ⟨(h.2.2.2 h0).1, (by show nmE f sz (sk f sz (pAt s)) ≤ sz; omega)⟩⟩
    · exact h.here.wrong (by decide)
  · exact h
set_option maxRecDepth 100000 in
theorem wn_le (w : Nat) : wn w ≤ 7 := by
  unfold wn
  match w with
  | 0 | 1 | 2 | 3 | 4 | 5 | 6 | 7 | 8 | 9 => decide
  | _ + 10 => exact Nat.zero_le _
set_option maxRecDepth 100000 in
theorem wn_ge {w : Nat} (h : w < 10) : 2 ≤ wn w := by
  unfold wn
  match w with
  | 0 | 1 | 2 | 3 | 4 | 5 | 6 | 7 | 8 | 9 => decide
  | _ + 10 => omega
set_option maxRecDepth 100000 in
theorem wg_nn (w j : Nat) : 0 ≤ wg w j := Int.natCast_nonneg _
set_option maxRecDepth 100000 in
theorem G2.tk {f : Nat → Int} {sz w : Nat} (hw : w < 10) {s : PSt} (h : G2 sz s) : G2 sz (tkS f sz w s) := by
  have h2 := wn_ge hw
  unfold tkS takesP
  split
  · next h0 =>
    split
    · next hq =>
      have := bt_ne (hq.1 (wn w - 1) (by omega)) (wg_nn w _)
      exact ⟨h.1, h.2.1, (by show sk f sz (pAt s) + wn w ≤ sz + 1; omega), fun h0 => ⟨(h.2.2.2 h0).1, (by show sk f sz (pAt s) + wn w ≤ sz; omega)⟩⟩
    · exact h.here
  · exact h
set_option maxRecDepth 100000 in
theorem tk_op {f : Nat → Int} {sz w : Nat} {s : PSt} : pOp (tkS f sz w s) = pOp s := by
  unfold tkS takesP
  split
  · split <;> rfl
  · rfl
set_option maxRecDepth 100000 in
theorem tk_fl {f : Nat → Int} {sz w : Nat} {s : PSt} : pFl (tkS f sz w s) = pFl s := by
  unfold tkS takesP
  split
  · split <;> rfl
  · rfl
set_option maxRecDepth 100000 in
theorem tk_no {f : Nat → Int} {sz w : Nat} {s : PSt} (h : pFl s ≠ 0) : tkS f sz w s = s := if_neg h
set_option maxRecDepth 100000 in
theorem tkB_no {f : Nat → Int} {sz w : Nat} {s : PSt} (h : pFl s ≠ 0) : ¬ tkB f sz w s = 1 := fun q => h (tkB_t q).1
set_option maxRecDepth 100000 in
theorem askL_ok {f : Nat → Int} {sz : Nat} : ∀ (l : List Nat) (s : PSt), (∀ k, k ∈ l → k < 5) → G2 sz s → Bk 0 s (askL f sz l s).1 ∧ G2 sz (askL f sz l s).1 ∧ pOp (askL f sz l s).1 = pOp s ∧ pFl (askL f sz l s).1 = pFl s ∧ ((askL f sz l s).2 = -1 ∨ 0 ≤ (askL f sz l s).2 ∧ (askL f sz l s).2 < 5 ∧ Bk (-6) s (askL f sz l s).1)
  | [], s, _, h => ⟨Bk.rf s, h, rfl, rfl, Or.inl rfl⟩
  | k :: t, s, hl, h => by
    have hk := hl k (List.mem_cons_self)
    unfold askL
    split
    · next hq =>
      have := wn_ge (show 3 + k < 10 by omega)
      exact ⟨Bk.tk, h.tk (by omega), tk_op, tk_fl, Or.inr ⟨by show (0 : Int) ≤ (k : Int); omega, by show (k : Int) < 5; omega, (Bk.tk2 hq).wk (by omega)⟩⟩
    · have ih := askL_ok (f := f) t (tkS f sz (3 + k) s) (fun j hj => hl j (List.mem_cons_of_mem _ hj)) (h.tk (by omega))
      refine ⟨(Bk.tk.tr ih.1).wk (by omega), ih.2.1, by rw [ih.2.2.1, tk_op], by rw [ih.2.2.2.1, tk_fl], ?_⟩
      rcases ih.2.2.2.2 with q | ⟨q1, q2, q3⟩
      · exact Or.inl q
      · exact Or.inr ⟨q1, q2, (Bk.tk.tr q3).wk (by omega)⟩
/-- what a part of the parser leaves -/
def RP (sz : Nat) (k : Int) (s t : PSt) : Prop := Bk k s t ∧ G2 sz t ∧ pOp t = pOp s ∧ (pFl s ≠ 0 → t = s)
def lp (q : Nat) : Int := if q = 1 ∨ q = 3 ∨ q = 6 ∨ q = 8 then 0 else 1
set_option maxRecDepth 100000 in
theorem RP.rf {sz : Nat} {s : PSt} (h : G2 sz s) {k : Int} (hk : 0 ≤ k) : RP sz k s s := ⟨(Bk.rf s).wk hk, h, rfl, fun _ => rfl⟩
set_option maxRecDepth 100000 in
theorem RP.mk {sz : Nat} {k l : Int} {s t : PSt} (h0 : pFl s = 0) (b : Bk l s t) (hl : l ≤ k) (g : G2 sz t) (o : pOp t = pOp s) : RP sz k s t := ⟨b.wk hl, g, o, fun q => absurd h0 q⟩
set_option maxRecDepth 100000 in
theorem RP.tr {sz : Nat} {k l : Int} {s t u : PSt} (h1 : RP sz k s t) (h2 : RP sz l t u) : RP sz (k + l) s u := ⟨h1.1.tr h2.1, h2.2.1, by rw [h2.2.2.1, h1.2.2.1], fun q => by rw [h2.2.2.2 (by rw [h1.2.2.2 q]; exact q), h1.2.2.2 q]⟩
set_option maxRecDepth 100000 in
theorem G2.shut {sz : Nat} {s t : PSt} (hs : G2 sz s) (h0 : pFl s = 0) (h : G2 sz t) (ho : pOp t = pOp s + 1) : G2 sz (shutP t) ∧ pOp (shutP t) = pOp s := by
  have h4 := (hs.2.2.2 h0).1
  have e : pOp (shutP t) = pOp s := by show pOp t - 1 = _; omega
  exact ⟨⟨h.1, by rw [e]; omega, h.2.2.1, fun q => ⟨by rw [e]; exact h4, (h.2.2.2 q).2⟩⟩, e⟩
set_option maxRecDepth 100000 in
theorem Bk.shut {t : PSt} : Bk 0 t (shutP t) := Bk.op
set_option maxRecDepth 100000 in
theorem signC_0 {c : Int} (h : signC c ≠ 0) : 0 ≤ c := by
  unfold signC at h
  split at h
  · omega
  · split at h
    · omega
    · split at h
      · omega
      · exact absurd rfl h
set_option maxRecDepth 100000 in
theorem sign_ok {f : Nat → Int} {sz : Nat} {s : PSt} (h : G2 sz s) (h0 : pFl s = 0) : Bk (-3) s (signP f sz s) ∧ G2 sz (signP f sz s) ∧ pOp (signP f sz s) = pOp s := by
  have hk := (h.skp (f := f)).2 h0
  unfold signP
  split
  · refine ⟨((Bk.here.tr Bk.wrong).tr Bk.inc).wk (by omega), ?_, ?_⟩
    · rw [show wrongP (hereP f sz s) 1 ((sk f sz (pAt s) : Nat) : Int) = wFlP (hereP f sz s) 1 ((sk f sz (pAt s) : Nat) : Int) from if_pos h0]
      exact ⟨(by show (1 : Nat) ≤ 9; omega), h.2.1, (by show sk f sz (pAt s) + 1 ≤ sz + 1; omega), fun q => by cases q⟩
    · unfold wrongP
      split <;> rfl
  · next hs =>
    have := bt_ne (k := sk f sz (pAt s)) rfl (signC_0 hs)
    exact ⟨(Bk.here.tr Bk.inc).wk (by omega), h.here.inc this, rfl⟩
set_option maxRecDepth 100000 in
theorem tellNum_ok {f : Nat → Int} {sz : Nat} {s : PSt} (h : G2 sz s) (h0 : pFl s = 0) : Bk 1 s (tellNum f sz s) ∧ G2 sz (tellNum f sz s) ∧ pOp (tellNum f sz s) = pOp s := ⟨Bk.tellN h0, h.num.tells.tells, by unfold tellNum; rw [tells_op, tells_op, num_op]⟩
set_option maxRecDepth 100000 in
theorem ps_ok (f : Nat → Int) (sz : Nat) : ∀ (n q : Nat) (s : PSt), G2 sz s → RP sz (lp q) s (ps f sz n q s) := by
  intro n
  induction n with
  | zero =>
    intro q s h
    exact RP.rf h (by unfold lp; split <;> omega)
  | succ n ih =>
    intro q s h
    have hno : pFl s ≠ 0 → ∀ k, k < 10 → ps f sz n k s = s := fun q k hk => (ih k s h).2.2.2 q
    match q with
    | 0 =>
      show RP sz 1 s (unitP f sz (ps f sz n) s)
      unfold unitP
      by_cases h0 : pFl s = 0
      · rw [if_pos h0]
        split
        · next hc =>
          have hat : sk f sz (pAt s) < sz := bt_ne hc (by decide)
          have g1 : G2 sz (opensP (sk f sz (pAt s) : Nat) (hereP f sz s)) := h.here.opens h0
          have g2 := g1.inc (by rw [opens_at]; exact hat)
          have i := ih 4 _ g2
          have g4 := (i.2.1.must (f := f) (c := 41) (by decide))
          have o4 : pOp (mustP f sz 41 (ps f sz n 4 (incP (opensP (sk f sz (pAt s) : Nat) (hereP f sz s))))) = pOp s + 1 := by
            rw [must_op, i.2.2.1]
            exact opens_op
          have g5 := G2.shut h h0 g4 o4
          exact RP.mk h0 (((((Bk.here.tr Bk.opens).tr Bk.inc).tr i.1).tr Bk.must).tr Bk.shut) (by show (0 : Int) + 0 + -3 + 1 + 0 + 0 ≤ 1; decide) g5.1 g5.2
        · split
          · have := tellNum_ok (f := f) (h.here (f := f)) h0
            exact RP.mk h0 (Bk.here.tr this.1) (by omega) this.2.1 this.2.2
          · have a := askL_ok (f := f) [0, 1, 2, 3, 4] (hereP f sz s) (by decide) h.here
            split
            · have := tellNum_ok (f := f) a.2.1 (by rw [a.2.2.2.1]; exact h0)
              exact RP.mk h0 ((Bk.here.tr a.1).tr this.1) (by omega) this.2.1 (this.2.2.trans a.2.2.1)
            · next hne =>
              rcases a.2.2.2.2 with q | q
              · exact absurd q hne
              · exact RP.mk h0 (((Bk.here.tr q.2.2).tr Bk.tells).tr Bk.tells) (by decide) a.2.1.tells.tells (by unfold tellAsk; rw [tells_op, tells_op]; exact a.2.2.1)
      · rw [if_neg h0]
        exact RP.rf h (by decide)
    | 1 =>
      show RP sz 0 s (prodL f sz (ps f sz n) s)
      unfold prodL
      by_cases h0 : pFl s = 0
      · rw [if_pos h0]
        split
        · next hc =>
          have hat : sk f sz (pAt s) < sz := bt_ne hc (by decide)
          have i := ih 0 _ (h.here.inc hat)
          have j := ih 1 _ (i.2.1.tells (c := 5))
          exact RP.mk h0 ((((Bk.here.tr Bk.inc).tr i.1).tr Bk.tells).tr j.1) (by decide) j.2.1 (by rw [j.2.2.1, tells_op, i.2.2.1]; rfl)
        · exact RP.mk h0 Bk.here (by decide) h.here rfl
      · rw [if_neg h0]
        exact RP.rf h (by decide)
    | 2 =>
      have i := ih 0 s h
      exact i.tr (ih 1 _ i.2.1)
    | 3 =>
      show RP sz 0 s (sumL f sz (ps f sz n) s)
      unfold sumL
      by_cases h0 : pFl s = 0
      · rw [if_pos h0]
        split
        · next hc =>
          have hat : sk f sz (pAt s) < sz := hc.elim (fun z => bt_ne z (by decide)) (fun z => bt_ne z (by decide))
          have i := ih 2 _ (h.here.inc hat)
          have j := ih 3 _ (i.2.1.tells (c := if hereC f sz s = 43 then 3 else 4))
          exact RP.mk h0 ((((Bk.here.tr Bk.inc).tr i.1).tr Bk.tells).tr j.1) (by decide) j.2.1 (by rw [j.2.2.1, tells_op, i.2.2.1]; rfl)
        · exact RP.mk h0 Bk.here (by decide) h.here rfl
      · rw [if_neg h0]
        exact RP.rf h (by decide)
    | 4 =>
      have i := ih 2 s h
      exact i.tr (ih 3 _ i.2.1)
    | 5 =>
      show RP sz 1 s (factP f sz (ps f sz n) s)
      unfold factP
      by_cases h0 : pFl s = 0
      · rw [if_pos h0]
        split
        · next hc =>
          have g1 : G2 sz (tkS f sz 2 (hereP f sz s)) := h.here.tk (by decide)
          have i := ih 5 _ (g1.opens (p := (sk f sz (pAt s) : Nat)) (by rw [tk_fl]; exact h0))
          have g5 := G2.shut h h0 (i.2.1.tells (c := 11)) (by rw [tells_op, i.2.2.1, opens_op, tk_op]; rfl)
          exact RP.mk h0 (((((Bk.here.tr (Bk.tk2 hc)).tr Bk.opens).tr i.1).tr Bk.tells).tr Bk.shut) (by decide) g5.1 g5.2
        · have g1 : G2 sz (tkS f sz 2 (hereP f sz s)) := h.here.tk (by decide)
          have i := ih 4 _ g1
          have b1 := (Bk.here (f := f) (sz := sz) (s := s)).tr (Bk.tk.tr i.1)
          have o1 : pOp (ps f sz n 4 (tkS f sz 2 (hereP f sz s))) = pOp s := by rw [i.2.2.1, tk_op]; rfl
          unfold factE
          split
          · next h1 =>
            have sg := sign_ok (f := f) i.2.1 h1
            have j := ih 4 _ sg.2.1
            exact RP.mk h0 (((b1.tr sg.1).tr j.1).tr Bk.tells) (by decide) j.2.1.tells (by rw [tells_op, j.2.2.1, sg.2.2, o1])
          · exact RP.mk h0 b1 (by decide) i.2.1 o1
      · rw [if_neg h0]
        exact RP.rf h (by decide)
    | 6 =>
      show RP sz 0 s (factsL f sz (ps f sz n) s)
      unfold factsL
      by_cases h0 : pFl s = 0
      · split
        · next hc =>
          have i := ih 5 _ (h.tk (f := f) (w := 8) (by decide))
          have j := ih 6 _ (i.2.1.tells (c := 9))
          exact RP.mk h0 ((((Bk.tk2 hc).tr i.1).tr Bk.tells).tr j.1) (by decide) j.2.1 (by rw [j.2.2.1, tells_op, i.2.2.1, tk_op])
        · exact RP.mk h0 Bk.tk (by decide) (h.tk (by decide)) tk_op
      · rw [if_neg (tkB_no h0), tk_no h0]
        exact RP.rf h (by decide)
    | 7 =>
      have i := ih 5 s h
      exact i.tr (ih 6 _ i.2.1)
    | 8 =>
      show RP sz 0 s (testL f sz (ps f sz n) s)
      unfold testL
      by_cases h0 : pFl s = 0
      · split
        · next hc =>
          have i := ih 7 _ (h.tk (f := f) (w := 9) (by decide))
          have j := ih 8 _ (i.2.1.tells (c := 10))
          exact RP.mk h0 ((((Bk.tk2 hc).tr i.1).tr Bk.tells).tr j.1) (by decide) j.2.1 (by rw [j.2.2.1, tells_op, i.2.2.1, tk_op])
        · exact RP.mk h0 Bk.tk (by decide) (h.tk (by decide)) tk_op
      · rw [if_neg (tkB_no h0), tk_no h0]
        exact RP.rf h (by decide)
    | 9 =>
      have i := ih 7 s h
      exact i.tr (ih 8 _ i.2.1)
    | q + 10 => exact RP.rf h (by unfold lp; split <;> omega)
