/-! ===== the class: a design is read ===== -/
/-- what reading a text leaves: a book's own cells, the reader's own -/
def KX (k rr : Nat) (F F' A A' : Nat → Nat → Int) : Prop := (∀ f j, j < k ∨ k + 20 ≤ j → j ≠ rr → j ≠ rr + 1 → F' f j = F f j) ∧ ∀ j, j < k ∨ k + 20 ≤ j → j ≠ rr + 3 → j ≠ rr + 4 → A' j = A j
set_option maxRecDepth 100000 in
theorem KX.rf (k rr : Nat) (F A : Nat → Nat → Int) : KX k rr F F A A := ⟨fun _ _ _ _ _ => rfl, fun _ _ _ _ => rfl⟩
set_option maxRecDepth 100000 in
theorem KX.tr {k rr : Nat} {F F' F2 A A' A2 : Nat → Nat → Int} (h : KX k rr F F' A A') (g : KX k rr F' F2 A' A2) : KX k rr F F2 A A2 := ⟨fun f j q1 q2 q3 => (g.1 f j q1 q2 q3).trans (h.1 f j q1 q2 q3), fun j q1 q2 q3 => (g.2 j q1 q2 q3).trans (h.2 j q1 q2 q3)⟩
set_option maxRecDepth 100000 in
theorem KD.t {k rr a : Nat} {F F' A A' : Nat → Nat → Int} (h : KD a (rr + 1) F F' A A') (h1 : k ≤ a) (h2 : a + 3 ≤ k + 20) : KX k rr F F' A A' := ⟨fun f j q1 q2 q3 => h.1 f j q3 (by omega), fun j q1 q2 q3 => h.2.1 j (by omega) (by omega)⟩
set_option maxRecDepth 100000 in
theorem KX.s (k rr : Nat) (F A : Nat → Nat → Int) (f : Nat) (v : Int) : KX k rr F (upF F f (rr + 1) v) A A := ⟨fun _ _ _ _ q => upF_a _ _ _ q, fun _ _ _ _ => rfl⟩
set_option maxRecDepth 100000 in
theorem KX.b {k rr : Nat} (F A : Nat → Nat → Int) (f : Nat) {a : Nat} (v : Int) (h : k ≤ a ∧ a < k + 20) : KX k rr F (upF F f a v) A A := ⟨fun _ j q1 _ _ => upF_a _ _ _ (by omega), fun _ _ _ _ => rfl⟩
set_option maxRecDepth 100000 in
theorem KX.r {k rr a : Nat} (F : Nat → Nat → Int) {A A' : Nat → Nat → Int} (h : ∀ j, j ≠ a + 1 → j ≠ a + 2 → A' j = A j) (h1 : k ≤ a) (h2 : a + 3 ≤ k + 20) : KX k rr F F A A' := ⟨fun _ _ _ _ _ => rfl, fun j q1 _ _ => h j (by omega) (by omega)⟩
/-- the designs read so far -/
def TxN (F A : Nat → Nat → Int) (k : Nat) (ds : Nat → Nat) (T : Nat → Int) (nn : Nat) : Prop := nn ≤ 6 ∧ T 0 = (nn : Int) ∧ BkG F A k ds T nn ∧ (∀ dd, dd < nn → DsW T dd) ∧ ∀ j, bD nn ≤ j → j < 620 → T j = 0
set_option maxRecDepth 100000 in
theorem srt_gR (T : Nat → Int) (dd : Nat) : gR T (bD dd) (T (bD dd + 1)) (T (bD dd + 2)) = srt T dd := by
  funext X Y
  unfold gR srt
  by_cases z : (0 ≤ X ∧ X < T (bD dd + 1)) ∧ 0 ≤ Y ∧ Y < T (bD dd + 2)
  · rw [if_pos z, if_pos (show inG T dd X Y by unfold inG; omega)]
  · rw [if_neg z, if_neg (show ¬ inG T dd X Y by unfold inG; omega)]
set_option maxRecDepth 100000 in
theorem srt_e {T T' : Nat → Int} {dd : Nat} (hD : DsW T dd) (hT : ∀ j, bD dd ≤ j → j < bD dd + 103 → T' j = T j) : srt T' dd = srt T dd := by
  have h1 := hD.2.1
  have h2 := hD.2.2.1
  rw [← srt_gR, ← srt_gR, hT (bD dd + 1) (by omega) (by omega), hT (bD dd + 2) (by omega) (by omega)]
  exact gR_e (by omega) (by omega) (fun k hk => (hT _ (by omega) (by omega)).symm)
set_option maxRecDepth 100000 in
theorem DsW.e {T T' : Nat → Int} {dd : Nat} (hD : DsW T dd) (hT : ∀ j, bD dd ≤ j → j < bD dd + 103 → T' j = T j) : DsW T' dd := by
  obtain ⟨h1, h2, h3, h4⟩ := hD
  refine ⟨?_, ?_, ?_, fun k hk => ?_⟩
  · rw [hT _ (by omega) (by omega)]; exact h1
  · rw [hT _ (by omega) (by omega)]; exact h2
  · rw [hT _ (by omega) (by omega)]; exact h3
  · rw [hT _ (by omega) (by omega)]; exact h4 k hk
set_option maxRecDepth 100000 in
/-- the row of designs and the book, one design more -/
theorem TxN.add {F F' A A' : Nat → Nat → Int} {k c nn : Nat} {ds : Nat → Nat} {T T' : Nat → Int} (h : TxN F A k ds T nn) (hn : nn < 6) (hk : BkD k ds) (hc : c < k ∨ k + 20 ≤ c) (kF : ∀ f j, j ≠ c → j ≠ ds nn → F' f j = F f j) (kA : ∀ j, j ≠ ds nn + 1 → j ≠ ds nn + 2 → A' j = A j) (h192 : F' 192 (ds nn) = T' (bD nn)) (hday : 0 ≤ T' (bD nn) ∧ T' (bD nn) ≤ 9999) (h193 : F' 193 (ds nn) = T' (bD nn + 1)) (h194 : F' 194 (ds nn) = T' (bD nn + 2)) (b1 : 1 ≤ T' (bD nn + 1) ∧ T' (bD nn + 1) ≤ 10) (b2 : 1 ≤ T' (bD nn + 2) ∧ T' (bD nn + 2) ≤ 10) (hB : DB A' (ds nn) (gR T' (bD nn) (T' (bD nn + 1)) (T' (bD nn + 2)))) (hV : VC T' (bD nn)) (hT : ∀ j, j ≠ 0 → j < bD nn ∨ bD nn + 103 ≤ j → T' j = T j) (hT0 : T' 0 = T 0 + 1) : TxN (upF F' 129 k ((nn : Int) + 1)) A' k ds T' (nn + 1) := by
  obtain ⟨h1, h2, h3, h4, h5⟩ := h
  have hnn := hk.1 nn hn
  have bnn : bD nn = 2 + 103 * nn := rfl
  have bnn1 : bD (nn + 1) = 2 + 103 * (nn + 1) := rfl
  refine ⟨by omega, by rw [hT0, h2]; omega, ⟨by rw [upF_at]; omega, fun i hi => ?_⟩, fun dd hd => ?_, fun j q1 q2 => ?_⟩
  · have hki := hk.1 i (by omega)
    have bni : bD i = 2 + 103 * i := rfl
    have e : ∀ f, upF F' 129 k ((nn : Int) + 1) f (ds i) = F' f (ds i) := fun f => upF_a _ _ _ (by omega)
    by_cases z : i = nn
    · subst z
      rw [e]
      refine ⟨h192, ?_, ?_, ?_⟩
      · rw [e]; exact h193
      · rw [e]; exact h194
      · rw [← srt_gR]; exact hB
    · have hdj := hk.2 i nn (by omega) hn z
      have g := h3.2 i (by omega)
      have hW := h4 i (by omega)
      have eT : ∀ j, bD i ≤ j → j < bD i + 103 → T' j = T j := fun j y1 y2 => hT j (by omega) (by omega)
      have e2 : ∀ f, F' f (ds i) = F f (ds i) := fun f => kF f _ (by omega) (by omega)
      rw [e, e2, eT _ (by omega) (by omega), eT (bD i + 1) (by omega) (by omega), eT (bD i + 2) (by omega) (by omega), srt_e hW eT]
      refine ⟨g.1, ?_, ?_, ?_⟩
      · rw [e, e2]; exact g.2.1
      · rw [e, e2]; exact g.2.2.1
      · intro y hy j hj
        rw [kA (ds i + 1) (by omega) (by omega), kA (ds i + 2) (by omega) (by omega)]
        exact g.2.2.2 y hy j hj
  · have bnd_ : bD dd = 2 + 103 * dd := rfl
    by_cases z : dd = nn
    · subst z
      exact ⟨hday, b1, b2, hV⟩
    · exact (h4 dd (by omega)).e (fun j y1 y2 => hT j (by omega) (by omega))
  · rw [hT j (by omega) (by omega)]
    exact h5 j (by omega) q2
