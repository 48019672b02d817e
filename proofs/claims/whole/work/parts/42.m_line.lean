/-! ===== the reference reads a line ===== -/
noncomputable def psN : Nat := Classical.choose (⟨9700, Nat.le_refl _⟩ : ∃ n : Nat, 9700 ≤ n)
set_option maxRecDepth 100000 in
theorem psN_ge : 9700 ≤ psN := Classical.choose_spec (⟨9700, Nat.le_refl _⟩ : ∃ n : Nat, 9700 ≤ n)
noncomputable def lineM (f : Nat → Int) (sz : Nat) (s : PSt) : PSt := if tkB f sz 0 s = 1 then (if pT (tkS f sz 0 s) 0 = 6 then wrongP (tkS f sz 0 s) 3 (pAt s : Nat) else designP f sz (pT (tkS f sz 0 s) 0).toNat (tkS f sz 0 s)) else (if pT (tkS f sz 0 s) 1 = 0 then (if tkB f sz 1 (tkS f sz 0 s) = 1 then ps f sz psN 9 (wTP (tkS f sz 1 (tkS f sz 0 s)) 1 1) else wrongP (tkS f sz 1 (tkS f sz 0 s)) 1 (pAt s : Nat)) else wrongP (tkS f sz 0 s) 1 (pAt s : Nat))
noncomputable def lineP (f : Nat → Int) (sz : Nat) (s : PSt) : PSt := mustP f sz 59 (lineM f sz (hereP f sz s))
/-- between lines -/
def LI (sz : Nat) (s : PSt) : Prop := GK sz s ∧ pOp s = 0 ∧ (∃ nn : Nat, nn ≤ 6 ∧ pT s 0 = (nn : Int)) ∧ (pT s 1 = 0 ∧ pCd s = 0 ∨ pT s 1 = 1)
def Kp (s t : PSt) : Prop := pAt s ≤ pAt t ∧ pCd t = pCd s ∧ pOp t = pOp s ∧ ∀ j, j < 2 → pT t j = pT s j
set_option maxRecDepth 100000 in
theorem Kp.rf (s : PSt) : Kp s s := ⟨Nat.le_refl _, rfl, rfl, fun _ _ => rfl⟩
set_option maxRecDepth 100000 in
theorem Kp.tr {s t u : PSt} (h : Kp s t) (g : Kp t u) : Kp s u := ⟨Nat.le_trans h.1 g.1, g.2.1.trans h.2.1, g.2.2.1.trans h.2.2.1, fun j hj => (g.2.2.2 j hj).trans (h.2.2.2 j hj)⟩
set_option maxRecDepth 100000 in
theorem Kp.at_ {s : PSt} {a : Nat} (h : pAt s ≤ a) : Kp s (wAtP s a) := ⟨h, rfl, rfl, fun _ _ => rfl⟩
set_option maxRecDepth 100000 in
theorem Kp.fl {s : PSt} {a : Nat} {p : Int} : Kp s (wFlP s a p) := ⟨Nat.le_refl _, rfl, rfl, fun _ _ => rfl⟩
set_option maxRecDepth 100000 in
theorem Kp.wrong {s : PSt} {a : Nat} {p : Int} : Kp s (wrongP s a p) := by
  unfold wrongP
  split
  · exact Kp.fl
  · exact Kp.rf s
set_option maxRecDepth 100000 in
theorem Kp.here {f : Nat → Int} {sz : Nat} {s : PSt} : Kp s (hereP f sz s) := Kp.at_ (sk_le f sz (sz + 1) (pAt s) (by omega)).1
set_option maxRecDepth 100000 in
theorem Kp.inc {s : PSt} : Kp s (incP s) := Kp.at_ (Nat.le_succ _)
set_option maxRecDepth 100000 in
theorem Kp.put {s : PSt} {j : Nat} {v : Int} (h : 2 ≤ j) : Kp s (wTP s j v) := ⟨Nat.le_refl _, rfl, rfl, fun i hi => up1_ne _ _ (by omega)⟩
set_option maxRecDepth 100000 in
theorem Kp.tk {f : Nat → Int} {sz w : Nat} {s : PSt} : Kp s (tkS f sz w s) := by
  have hk := (sk_le f sz (sz + 1) (pAt s) (by omega)).1
  unfold tkS takesP
  split
  · split
    · exact Kp.at_ (by omega)
    · exact Kp.here
  · exact Kp.rf s
set_option maxRecDepth 100000 in
theorem Kp.num {f : Nat → Int} {sz : Nat} {s : PSt} : Kp s (numP f sz s) := by
  have hk := (sk_le f sz (sz + 1) (pAt s) (by omega)).1
  have he := (nmE_le f sz (sz + 1) (sk f sz (pAt s)) (by omega)).1
  unfold numP
  split
  · split
    · have h1 : Kp s (wAtP s (nmE f sz (sk f sz (pAt s)))) := Kp.at_ (by omega)
      split
      · exact h1.tr Kp.fl
      · exact h1
    · exact Kp.here.tr Kp.wrong
  · exact Kp.rf s
set_option maxRecDepth 100000 in
theorem Kp.must {f : Nat → Int} {sz : Nat} {c : Int} {s : PSt} : Kp s (mustP f sz c s) := by
  have hk := (sk_le f sz (sz + 1) (pAt s) (by omega)).1
  unfold mustP
  split
  · split
    · exact Kp.at_ (by omega)
    · exact Kp.here.tr Kp.wrong
  · exact Kp.rf s
set_option maxRecDepth 100000 in
theorem Kp.row {f : Nat → Int} {sz b : Nat} (hb : 2 ≤ b) : ∀ (r k : Nat) (s : PSt), Kp s (dsRow f sz b r k s).2
  | 0, k, s => Kp.here
  | r + 1, k, s => by
    unfold dsRow
    split
    · exact Kp.here
    · exact ((Kp.here.tr (Kp.put (by omega))).tr Kp.inc).tr (Kp.row hb r (k + 1) _)
set_option maxRecDepth 100000 in
theorem Kp.dend {f : Nat → Int} {sz b rows wide : Nat} (hb : 2 ≤ b) {s : PSt} : Kp s (dsEnd rows wide (dsRow2 f sz b rows wide s)) := by
  unfold dsEnd
  split
  · exact (Kp.row (by omega) _ _ _).tr Kp.wrong
  · exact Kp.row (by omega) _ _ _
set_option maxRecDepth 100000 in
theorem dsLoop_ok {f : Nat → Int} {sz b : Nat} (hb : 2 ≤ b) : ∀ (r rows wide : Nat) (s : PSt), GK sz s → Kp s (dsLoop f sz b r rows wide s).2.2 ∧ GK sz (dsLoop f sz b r rows wide s).2.2
  | 0, rows, wide, s, h => ⟨Kp.rf s, h⟩
  | r + 1, rows, wide, s, h => by
    have g := h.dend (f := f) (b := b) (rows := rows) (wide := wide)
    unfold dsLoop
    split
    · split
      · split
        · next hc =>
          have ih := dsLoop_ok (f := f) hb r (rows + 1) (dsRow2 f sz b rows wide s).1 (incP (hereP f sz (dsEnd rows wide (dsRow2 f sz b rows wide s)))) ((g.here).inc (bt_ne hc (by decide)))
          exact ⟨(((Kp.dend hb).tr Kp.here).tr Kp.inc).tr ih.1, ih.2⟩
        · exact ⟨(Kp.dend hb).tr Kp.here, g.here⟩
      · exact ⟨Kp.dend hb, g⟩
    · exact ⟨Kp.rf s, h⟩
set_option maxRecDepth 100000 in
theorem wTP_T (s : PSt) (j : Nat) (v : Int) : pT (wTP s j v) = up1 (pT s) j v := rfl
set_option maxRecDepth 100000 in
theorem dsFin_ok {sz b : Nat} (hb : 2 ≤ b) {p : Nat × Nat × PSt} {s : PSt} (k : Kp s p.2.2) (g : GK sz p.2.2) : GK sz (dsFin b p) ∧ pAt s ≤ pAt (dsFin b p) ∧ pCd (dsFin b p) = pCd s ∧ pOp (dsFin b p) = pOp s ∧ pT (dsFin b p) 0 = pT s 0 + 1 ∧ pT (dsFin b p) 1 = pT s 1 := by
  have k3 : Kp s (wTP (wTP p.2.2 (b + 1) (p.2.1 : Nat)) (b + 2) (p.1 : Nat)) := (k.tr (Kp.put (by omega))).tr (Kp.put (by omega))
  have h0 := k3.2.2.2 0 (by decide)
  have h1 := k3.2.2.2 1 (by decide)
  have g3 : GK sz (wTP (wTP p.2.2 (b + 1) (p.2.1 : Nat)) (b + 2) (p.1 : Nat)) := GK.put (GK.put g)
  unfold dsFin
  generalize wTP (wTP p.2.2 (b + 1) (p.2.1 : Nat)) (b + 2) (p.1 : Nat) = u at k3 h0 h1 g3 ⊢
  refine ⟨g3.put, k3.1, k3.2.1, k3.2.2.1, ?_, ?_⟩
  · rw [wTP_T, up1_at, h0]
  · rw [wTP_T, up1_ne _ _ (by decide), h1]
set_option maxRecDepth 100000 in
theorem design_ok {f : Nat → Int} {sz nn : Nat} {s : PSt} (h : GK sz s) (h0 : pT s 0 = (nn : Int)) : GK sz (designP f sz nn s) ∧ pAt s ≤ pAt (designP f sz nn s) ∧ pCd (designP f sz nn s) = pCd s ∧ pOp (designP f sz nn s) = pOp s ∧ pT (designP f sz nn s) 0 = ((nn + 1 : Nat) : Int) ∧ pT (designP f sz nn s) 1 = pT s 1 := by
  have a := fun r => dsLoop_ok (f := f) (b := 2 + 103 * nn) (by omega) r 0 0 _ ((h.num (f := f)).put (j := 2 + 103 * nn) (v := numV f sz s))
  have k1 : ∀ r, Kp s (dsLoop f sz (2 + 103 * nn) r 0 0 (wTP (numP f sz s) (2 + 103 * nn) (numV f sz s))).2.2 := fun r => (Kp.num.tr (Kp.put (by omega))).tr (a r).1
  have z := fun r => dsFin_ok (sz := sz) (b := 2 + 103 * nn) (by omega) (k1 r) (a r).2
  unfold designP
  obtain ⟨z1, z2, z3, z4, z5, z6⟩ := z 10
  exact ⟨z1, z2, z3, z4, by rw [z5, h0]; omega, z6⟩
set_option maxRecDepth 100000 in
theorem lineM_ok {f : Nat → Int} {sz : Nat} {s : PSt} (h : LI sz s) (h0 : pFl s = 0) (hsz : sz ≤ 800) : LI sz (lineM f sz s) ∧ pAt s ≤ pAt (lineM f sz s) := by
  obtain ⟨hG, hO, ⟨nn, hn6, hN⟩, hC⟩ := h
  have hT : GK sz (tkS f sz 0 s) := ⟨hG.1.tk (by decide), by rw [(Kp.tk (f := f) (sz := sz) (w := 0) (s := s)).2.1]; exact hG.2⟩
  have kT := Kp.tk (f := f) (sz := sz) (w := 0) (s := s)
  have n0 := kT.2.2.2 0 (by decide)
  have n1 := kT.2.2.2 1 (by decide)
  have hw : ∀ (k : Nat) (p : Int) (t : PSt), (k ≤ 9 ∧ k ≠ 0) → GK sz t → Kp s t → LI sz (wrongP t k p) ∧ pAt s ≤ pAt (wrongP t k p) := by
    intro k p t hk g kk
    have k2 := kk.tr (Kp.wrong (a := k) (p := p))
    refine ⟨⟨g.wrong hk, by rw [k2.2.2.1]; exact hO, ⟨nn, hn6, by rw [k2.2.2.2 0 (by decide)]; exact hN⟩, ?_⟩, k2.1⟩
    rw [k2.2.1, k2.2.2.2 1 (by decide)]
    exact hC
  unfold lineM
  split
  · split
    · exact hw 3 _ _ (by decide) hT kT
    · next h6 =>
      rw [n0, hN] at h6 ⊢
      have dk := design_ok (f := f) hT (n0.trans hN)
      rw [show ((nn : Int)).toNat = nn from rfl]
      refine ⟨⟨dk.1, by rw [dk.2.2.2.1, kT.2.2.1]; exact hO, ⟨nn + 1, by omega, dk.2.2.2.2.1⟩, ?_⟩, Nat.le_trans kT.1 dk.2.1⟩
      rw [dk.2.2.1, dk.2.2.2.2.2, kT.2.1, n1]
      exact hC
  · split
    · next hz =>
      have hT2 : GK sz (tkS f sz 1 (tkS f sz 0 s)) := ⟨hT.1.tk (by decide), by rw [(Kp.tk (f := f) (sz := sz) (w := 1) (s := tkS f sz 0 s)).2.1]; exact hT.2⟩
      have kT2 := kT.tr (Kp.tk (f := f) (sz := sz) (w := 1) (s := tkS f sz 0 s))
      split
      · have i := ps_ok f sz psN 9 (wTP (tkS f sz 1 (tkS f sz 0 s)) 1 1) hT2.1
        have hc0 : pCd s = 0 := by
          rw [n1] at hz
          rcases hC with q | q
          · exact q.2
          · rw [hz] at q; cases q
        generalize ps f sz psN 9 (wTP (tkS f sz 1 (tkS f sz 0 s)) 1 1) = t at i
        have e1 : pCd (wTP (tkS f sz 1 (tkS f sz 0 s)) 1 1) = 0 := kT2.2.1.trans hc0
        have e2 : pOp (wTP (tkS f sz 1 (tkS f sz 0 s)) 1 1) = 0 := kT2.2.2.1.trans hO
        have e3 : pAt s ≤ pAt (wTP (tkS f sz 1 (tkS f sz 0 s)) 1 1) := kT2.1
        have hb := i.1.2.2.1
        have hl : lp 9 = 1 := rfl
        have hat := i.2.1.2.2.1
        rw [e1, hl] at hb
        refine ⟨⟨⟨i.2.1, by omega⟩, by rw [i.2.2.1]; exact e2, ⟨nn, hn6, ?_⟩, Or.inr ?_⟩, Nat.le_trans e3 i.1.1⟩
        · rw [i.1.2.2.2.1 0 (by omega)]
          rw [wTP_T, up1_ne _ _ (by decide), kT2.2.2.2 0 (by decide)]
          exact hN
        · rw [i.1.2.2.2.1 1 (by omega), wTP_T, up1_at]
      · exact hw 1 _ _ (by decide) hT2 kT2
    · exact hw 1 _ _ (by decide) hT kT
set_option maxRecDepth 100000 in
theorem line_ok {f : Nat → Int} {sz : Nat} {s : PSt} (h : LI sz s) (h0 : pFl s = 0) (hsz : sz ≤ 800) : LI sz (lineP f sz s) ∧ (pFl (lineP f sz s) = 0 → pAt s < pAt (lineP f sz s)) := by
  have hh : LI sz (hereP f sz s) := ⟨h.1.here, h.2⟩
  have a := lineM_ok (f := f) hh h0 hsz
  have k0 := (Kp.here (f := f) (sz := sz) (s := s)).1
  have km := Kp.must (f := f) (sz := sz) (c := 59) (s := lineM f sz (hereP f sz s))
  unfold lineP
  generalize lineM f sz (hereP f sz s) = t at a km
  refine ⟨⟨⟨a.1.1.1.must (by decide), by rw [km.2.1]; exact a.1.1.2⟩, by rw [km.2.2.1]; exact a.1.2.1, ?_, ?_⟩, fun hf => ?_⟩
  · obtain ⟨nn, q1, q2⟩ := a.1.2.2.1
    exact ⟨nn, q1, by rw [km.2.2.2 0 (by decide)]; exact q2⟩
  · rw [km.2.1, km.2.2.2 1 (by decide)]
    exact a.1.2.2.2
  · have hk := (sk_le f sz (sz + 1) (pAt t) (by omega)).1
    have a2 := a.2
    unfold mustP at hf ⊢
    split at hf
    · next hq =>
      rw [if_pos hq]
      split at hf
      · next hc =>
        rw [if_pos hc]
        show pAt s < sk f sz (pAt t) + 1
        omega
      · exact absurd hf (wrong_fl (by decide))
    · next hq => exact absurd hf hq
