/-! ===== the class: a row is read ===== -/
set_option maxRecDepth 100000 in
theorem dsRow_at {f : Nat → Int} {sz b : Nat} : ∀ (r k : Nat) (s : PSt), sk f sz (pAt (dsRow f sz b r k s).2) = pAt (dsRow f sz b r k s).2
  | 0, k, s => sk_sk f sz (sz + 1) _ (by omega)
  | r + 1, k, s => by
    unfold dsRow
    split
    · exact sk_sk f sz (sz + 1) _ (by omega)
    · exact dsRow_at r (k + 1) _
/-- what reading a design leaves -/
def KD (a c : Nat) (F F' A A' : Nat → Nat → Int) : Prop := (∀ fl j, j ≠ c → j ≠ a → F' fl j = F fl j) ∧ (∀ j, j ≠ a + 1 → j ≠ a + 2 → A' j = A j) ∧ F' 192 a = F 192 a
set_option maxRecDepth 100000 in
theorem KD.tr {a c : Nat} {F F' F2 A A' A2 : Nat → Nat → Int} (h : KD a c F F' A A') (g : KD a c F' F2 A' A2) : KD a c F F2 A A2 := ⟨fun f j q1 q2 => (g.1 f j q1 q2).trans (h.1 f j q1 q2), fun j q1 q2 => (g.2.1 j q1 q2).trans (h.2.1 j q1 q2), g.2.2.trans h.2.2⟩
/-- a row is read: how it ends -/
def RwO (D : Nat × PSt) (hc : Int) (y w a c sz b : Nat) (g : Int → Int → Int) (F F' A A' : Nat → Nat → Int) (v : Int) : Prop := KD a c F F' A A' ∧ ((v = 0 ∧ ((D.1 = 0 ∨ 0 < y ∧ D.1 < w) ∨ ¬ (hc = 47 ∧ y + 1 < 10) ∧ hc ≠ 59) ∧ ∃ q, ScF F' c sz q 1 (pAt D.2 : Nat)) ∨ (¬ (D.1 = 0 ∨ 0 < y ∧ D.1 < w) ∧ (v = 1 ∧ hc = 47 ∧ y + 1 < 10 ∨ v = 0 ∧ hc = 59) ∧ ScF F' c sz (pAt D.2 + 1) 0 (-1) ∧ pAt D.2 < sz ∧ F' 193 a = (D.1 : Int) ∧ F' 194 a = ((y + 1 : Nat) : Int) ∧ DB A' a (rowG g (pT D.2) b y 0 D.1)))
section CReadRow
variable {d tr c tp sz a b y w : Nat} {m : Mem} {F A L : Nat → Nat → Int} {Q : Nat → Option AV → Mem → Prop} {g : Int → Int → Int} {s : PSt} {p : Nat}
set_option maxRecDepth 100000 in
theorem c_readRow (hk10 : mK m tr = 10) (hr640 : mFR m 640 tr = c) (hSW : ScW m c tp) (hDW : DW m a) (hac : a ≠ c) (ht1 : tp ≠ a + 1) (ht2 : tp ≠ a + 2) (hsz : sz ≤ 800) (hf : byts (A tp)) (hy : y < 10) (hw10 : w ≤ 10) (hwy : y ≠ 0 → 0 < w) (hS : ScF F c sz p 0 (-1)) (hF : F 194 a = (y : Int)) (hFw : F 193 a = (w : Int)) (hp : p ≤ sz) (he : sk (A tp) sz p = sk (A tp) sz (pAt s)) (hB : DB A a g)
    (h : ∀ (v : Int) (F' A' : Nat → Nat → Int), RwO (dsRow (A tp) sz b (if y = 0 then 10 else w) 0 s) (hereC (A tp) sz (dsRow (A tp) sz b (if y = 0 then 10 else w) 0 s).2) y w a c sz b g F F' A A' v → Q 0 (some (vI v)) (CM m F' A' L)) : Ex (d + 2) TR_readRow 0 [some (vR tr), some (vR a), none, none, none, none, none, none] [] (CM m F A L) Q := by
  have hrk := dsRow_k (f := A tp) (sz := sz) (b := b) (if y = 0 then 10 else w) 0 s
  have hra := dsRow_at (f := A tp) (sz := sz) (b := b) (if y = 0 then 10 else w) 0 s
  have key : ∀ (fi : Int) (lim : Nat), (fi = 1 ∧ y = 0 ∧ lim = 10 ∨ fi = 0 ∧ y ≠ 0 ∧ lim = w) → Ex (d + 2) TR_readRow 30 [some (vR tr), some (vR a), some (vI fi), some (vI (lim : Int)), some (vI ((0 : Nat) : Int)), none, none, none] [] (CM m F A L) Q := by
    intro fi lim hfl
    have hlim : (if y = 0 then 10 else w) = lim := by split <;> omega
    rw [hlim] at h hrk hra
    have hl10 : lim ≤ 10 := by omega
    refine c_cells (A0 := A) (b := b) hk10 hr640 hSW hDW hac ht1 ht2 hsz hf hy hl10 lim 0 F A g s p (by omega) hS hF hp he hB rfl (fun F' A' p' q1 q2 q3 q4 q5 q6 => ?_)
    generalize dsRow (A tp) sz b lim 0 s = D at *
    have hsk' : sk (A tp) sz p' = pAt D.2 := q5.trans hra
    have hat : A' tp = A tp := q3 tp ht1 ht2
    have hhc : hereC (A tp) sz D.2 = bt (A tp) sz (sk (A tp) sz p') := by unfold hereC; rw [q5]
    rw [hhc] at h
    have hF' : F' 194 a = (y : Int) := (q2 194 a hac).trans hF
    have hkk : ∀ (F2 : Nat → Nat → Int), (∀ fl j, j ≠ c → j ≠ a → F2 fl j = F' fl j) → F2 192 a = F' 192 a → KD a c F F2 A A' := fun F2 z1 z2 => ⟨fun fl j y1 y2 => (z1 fl j y1 y2).trans (q2 fl j y1), q3, z2.trans (q2 192 a hac)⟩
    refine c_rowEnd (fi := fi) (lim := lim) (k := D.1) (p := p') (by omega) hk10 hr640 hSW hDW hac hsz (by rw [hat]; exact hf) hy hl10 (by omega) q1 hF' q4 (fun hb => ?_) (fun hk hm => ?_) (fun hk hm => ?_)
    · rw [hat] at hb ⊢
      refine h 0 _ A' ⟨(hkk _ (fun fl j y1 y2 => by rw [upF_a _ _ _ y1, upF_a _ _ _ y1, upF_a _ _ _ y1]) (by rw [upF_a _ _ _ hac, upF_a _ _ _ hac, upF_a _ _ _ hac])), Or.inl ⟨rfl, by omega, pAt D.2, ?_⟩⟩
      rw [hsk']
      have z := q1.at_ (pAt D.2)
      exact ⟨by rw [upF_f _ _ _ (by decide), upF_f _ _ _ (by decide)]; exact z.1, by rw [upF_f _ _ _ (by decide), upF_f _ _ _ (by decide)]; exact z.2.1, by rw [upF_f _ _ _ (by decide), upF_at]; rfl, upF_at _ _ _ _⟩
    all_goals
      rw [hat] at hm ⊢
      have hlt : pAt D.2 < sz := by
        rw [← hsk']
        first | exact bt_lt hm.1 (by decide) | exact bt_lt hm (by decide)
      refine h _ _ A' ⟨(hkk _ (fun fl j y1 y2 => by rw [upF_a _ _ _ y2, upF_a _ _ _ y2, upF_a _ _ _ y1, upF_a _ _ _ y1]) (by rw [upF_f _ _ _ (by decide), upF_f _ _ _ (by decide), upF_a _ _ _ hac, upF_a _ _ _ hac])), Or.inr ⟨by omega, by omega, ?_, hlt, ?_, ?_, q6⟩⟩
      · rw [hsk']
        have z := (q1.at_ (pAt D.2)).at_ (pAt D.2 + 1)
        exact z.k (fun f => by rw [upF_a _ _ _ hac.symm, upF_a _ _ _ hac.symm])
      · rw [upF_f _ _ _ (by decide), upF_at]
      · rw [upF_at]
        omega
  refine c_row0 hDW.1 (by omega) hF hFw (fun z => ?_) (fun z => ?_)
  · exact key 1 10 (by omega)
  · exact key 0 w (by omega)
end CReadRow
