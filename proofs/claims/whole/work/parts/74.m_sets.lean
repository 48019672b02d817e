/-! ===== the reference: what hangs together, all of it ===== -/
section MFlood2
variable {d dd nn : Nat} {i : Int} {m : Mem} {I : Nat → Int} {A L : Nat → Nat → Int} {Q : Nat → Option AV → Mem → Prop}
set_option maxRecDepth 100000 in
theorem f_floodN {dk : Prop} [Decidable dk] (hM : MW m) (hN : NowW (A 3) nn) (hd : dd < nn) (hi : i = (dd : Int)) {x y : Int} {s : FSt} (hF : FI (A 3) dd s) (hx : 0 ≤ x ∧ x ≤ 9) (hy : 0 ≤ y ∧ y ≤ 9) {f : Int} {l4 l6 : Option AV} (h : ∀ (q : Nat → Int) (l9 l10 l11 : Option AV), FQ q (flN (A 3) dd dk x y 9 s) → Ex (d + 3) M_floods 237 [some (vR aM), some (vI i), some (vI f), some (vI ((flN (A 3) dd dk x y 9 s).2.2 : Int)), l4, some (vI (b2i dk)), l6, some (vI x), some (vI y), l9, l10, l11] [] (MS m I (F2 21 22 A (flN (A 3) dd dk x y 9 s).1 q) L) Q) : ∀ (r c : Nat) (q : Nat → Int) (l10 l11 : Option AV), c + r = 9 → FQ q (flN (A 3) dd dk x y c s) → Ex (d + 3) M_floods 114 [some (vR aM), some (vI i), some (vI f), some (vI ((flN (A 3) dd dk x y c s).2.2 : Int)), l4, some (vI (b2i dk)), l6, some (vI x), some (vI y), some (vI (c : Int)), l10, l11] [] (MS m I (F2 21 22 A (flN (A 3) dd dk x y c s).1 q) L) Q := by
  intro r
  induction r with
  | zero =>
    intro c q l10 l11 hc hq
    have : c = 9 := by omega
    subst this
    refine Ex_step (tk_M_floods rfl) ?_
    refine Ex_step (tk_M_floods rfl) ?_
    refine Ex_step (tk_M_floods rfl) ⟨fun h118 => ?_, fun h118 => ?_⟩
    · replace h118 : _ := h118
      exact h q _ _ _ hq
    · replace h118 : _ := h118
      exact absurd (show w32 9 ≤ w32 9 from Int.le_refl _) h118
  | succ r ih =>
    intro c q l10 l11 hc hq
    have h231 : ∀ (q : Nat → Int) (l10 l11 : Option AV), FQ q (flC (A 3) dd dk x y c (flN (A 3) dd dk x y c s)) → Ex (d + 3) M_floods 231 [some (vR aM), some (vI i), some (vI f), some (vI ((flC (A 3) dd dk x y c (flN (A 3) dd dk x y c s)).2.2 : Int)), l4, some (vI (b2i dk)), l6, some (vI x), some (vI y), some (vI (c : Int)), l10, l11] [] (MS m I (F2 21 22 A (flC (A 3) dd dk x y c (flN (A 3) dd dk x y c s)).1 q) L) Q := by
      intro q l10 l11 hq
      have hnx := ih (c + 1) q l10 l11 (by omega) hq
      refine Ex_step (tk_M_floods rfl) ?_
      refine Ex_step (tk_M_floods rfl) ?_
      exact hnx
    refine Ex_step (tk_M_floods rfl) ?_
    refine Ex_step (tk_M_floods rfl) ?_
    refine Ex_step (tk_M_floods rfl) ⟨fun h118 => ?_, fun h118 => ?_⟩
    · try simp (disch := omega) only [cmpI, w32_b2i, b2i_0, b2i_1, w32_id, Classical.not_not, not_true_eq_false, not_false_eq_true] at h118
      omega
    · try simp (disch := omega) only [cmpI, w32_b2i, b2i_0, b2i_1, w32_id, Classical.not_not, not_true_eq_false, not_false_eq_true] at h118
      exact f_floodC hM hN hd hi (flN_I (hN.2.2.2 dd hd) c hF) hq hx hy (by omega) h231
set_option maxRecDepth 100000 in
theorem f_floodQ {dk : Prop} [Decidable dk] (hM : MW m) (hN : NowW (A 3) nn) (hd : dd < nn) (hi : i = (dd : Int)) {f0 : Int} : ∀ (f k : Nat) (b : Bool) (s : FSt) (q : Nat → Int) (l7 l8 l9 l10 l11 : Option AV), FI (A 3) dd s → FQ q s → 101 ≤ f + k → k ≤ 100 → (∀ q : Nat → Int, FQ q (flQ (A 3) dd dk f k b s).2 → Q 0 (some (vI (b2i ((flQ (A 3) dd dk f k b s).1 = true)))) (MS m I (F2 21 22 A (flQ (A 3) dd dk f k b s).2.1 q) L)) → Ex (d + 3) M_floods 37 [some (vR aM), some (vI i), some (vI f0), some (vI (s.2.2 : Int)), some (vI (b2i (b = true))), some (vI (b2i dk)), some (vI (k : Int)), l7, l8, l9, l10, l11] [] (MS m I (F2 21 22 A s.1 q) L) Q := by
  have hn6 := hN.1
  have hW := hN.2.2.2 dd hd
  have hw := hW.2.1
  have hh := hW.2.2.1
  intro f
  induction f with
  | zero => intro k b s q l7 l8 l9 l10 l11 hF hq hf hk; omega
  | succ f ih =>
    intro k b s q l7 l8 l9 l10 l11 hF hq hf hk h
    have hm := hF.2.1
    have hm2 := cB_le s.1 100
    unfold flQ at h
    by_cases hlt : k < s.2.2
    · rw [if_pos hlt] at h
      obtain ⟨⟨⟨g1, g2⟩, g3, g4⟩, g5, g6⟩ := hF.2.2 k hlt
      have hqk := hq k hlt
      have e1 : iRem (s.2.1 k) 10 = s.2.1 k % 10 := iRem_nn (by omega) (by omega) (by omega) (by omega)
      have e2 : iDiv (s.2.1 k) 10 = s.2.1 k / 10 := iDiv_nn (by omega) (by omega) (by omega) (by omega)
      generalize s.2.1 k % 10 = x at *
      generalize s.2.1 k / 10 = y at *
      have h237 : ∀ (q : Nat → Int) (l9 l10 l11 : Option AV), FQ q (flN (A 3) dd dk x y 9 s) → Ex (d + 3) M_floods 237 [some (vR aM), some (vI i), some (vI f0), some (vI ((flN (A 3) dd dk x y 9 s).2.2 : Int)), some (vI (b2i ((b && decide (insP (A 3) dd x y)) = true))), some (vI (b2i dk)), some (vI (k : Int)), some (vI x), some (vI y), l9, l10, l11] [] (MS m I (F2 21 22 A (flN (A 3) dd dk x y 9 s).1 q) L) Q := by
        intro q l9 l10 l11 hq2
        have hnx := ih (k + 1) (b && decide (insP (A 3) dd x y)) (flN (A 3) dd dk x y 9 s) q (some (vI x)) (some (vI y)) l9 l10 l11 (flN_I hW 9 hF) hq2 (by omega) (by omega) h
        refine Ex_step (tk_M_floods rfl) ?_
        refine Ex_step (tk_M_floods rfl) ?_
        exact hnx
      have h109 : ∀ v : Int, v = b2i ((b && decide (insP (A 3) dd x y)) = true) → Ex (d + 3) M_floods 109 [some (vR aM), some (vI i), some (vI f0), some (vI (s.2.2 : Int)), some (vI (b2i (b = true))), some (vI (b2i dk)), some (vI (k : Int)), some (vI x), some (vI y), l9, l10, l11] [vI v] (MS m I (F2 21 22 A s.1 q) L) Q := by
        intro v hv
        subst hv
        have h114 := f_floodN (d := d) (l6 := some (vI (k : Int))) hM hN hd hi hF (x := x) (y := y) (by omega) (by omega) h237 9 0 q l10 l11 (by omega) hq
        refine Ex_step (tk_M_floods rfl) ?_
        refine Ex_step (tk_M_floods rfl) ?_
        refine Ex_step (tk_M_floods rfl) ?_
        exact h114
      refine Ex_step (tk_M_floods rfl) ?_
      refine Ex_step (tk_M_floods rfl) ?_
      refine Ex_step (tk_M_floods rfl) ⟨fun h40 => ?_, fun h40 => ?_⟩
      · try simp (disch := omega) only [cmpI, w32_b2i, b2i_0, b2i_1, w32_id, Classical.not_not, not_true_eq_false, not_false_eq_true] at h40
        omega
      · try simp (disch := omega) only [cmpI, w32_b2i, b2i_0, b2i_1, w32_id, Classical.not_not, not_true_eq_false, not_false_eq_true] at h40
        refine Ex_step (tk_M_floods rfl) ?_
        refine gMR (tk_M_floods rfl) hM hM.r35 ?_
        refine Ex_step (tk_M_floods rfl) ?_
        refine lMI (j := 22) (n := k) (tk_M_floods rfl) (by decide) hM.k22 hM.n22 (w32_id (by omega) (by omega)) (by omega) ?_
        rw [F2_b (by decide), hqk]
        refine Ex_step (tk_M_floods rfl) ?_
        refine Ex_step (tk_M_floods rfl) ⟨by decide, ?_⟩
        rw [e1]
        refine Ex_step (tk_M_floods rfl) ?_
        refine Ex_step (tk_M_floods rfl) ?_
        refine gMR (tk_M_floods rfl) hM hM.r35 ?_
        refine Ex_step (tk_M_floods rfl) ?_
        refine lMI (j := 22) (n := k) (tk_M_floods rfl) (by decide) hM.k22 hM.n22 (w32_id (by omega) (by omega)) (by omega) ?_
        rw [F2_b (by decide), hqk]
        refine Ex_step (tk_M_floods rfl) ?_
        refine Ex_step (tk_M_floods rfl) ⟨by decide, ?_⟩
        rw [e2]
        refine Ex_step (tk_M_floods rfl) ?_
        refine Ex_step (tk_M_floods rfl) ?_
        refine Ex_step (tk_M_floods rfl) ⟨fun h69 => ?_, fun h69 => ?_⟩
        · try simp (disch := omega) only [cmpI, w32_b2i, b2i_0, b2i_1, w32_id, Classical.not_not, not_true_eq_false, not_false_eq_true] at h69
          have hx := h109 0 (b2i_f (by rw [Bool.and_eq_true, decide_eq_true_iff]; intro z; first | exact h69 z.1 | exact h85 z.2.1 | exact h101 z.2.2)).symm
          refine Ex_step (tk_M_floods rfl) ?_
          exact hx
        · try simp (disch := omega) only [cmpI, w32_b2i, b2i_0, b2i_1, w32_id, Classical.not_not, not_true_eq_false, not_false_eq_true] at h69
          refine Ex_step (tk_M_floods rfl) ?_
          refine Ex_step (tk_M_floods rfl) ?_
          refine Ex_step (tk_M_floods rfl) ?_
          refine Ex_step (tk_M_floods rfl) ?_
          refine Ex_cV0 (av := [vI i]) (tk_M_floods rfl) mk_M_wideOf ⟨rfl, rfl, by decide, rfl, Nat.le_of_ble_eq_true rfl, Nat.le_of_ble_eq_true rfl⟩ (hM.k) (fun _ h => f_wideOf (A := F2 21 22 A s.1 q) hM (show dd ≤ 5 by omega) hi h) ?_
          refine Ex_step (tk_M_floods rfl) ?_
          refine Ex_step (tk_M_floods rfl) ?_
          refine Ex_cS0 (av := [vI x, vI 1, vI (A 3 (bD dd + 1) - 2)]) (tk_M_floods rfl) mk_M_in ⟨rfl, by decide, rfl, rfl, rfl, Nat.le_of_ble_eq_true rfl, Nat.le_of_ble_eq_true rfl⟩ (fun _ h => e_in h) ?_
          refine Ex_step (tk_M_floods rfl) ⟨fun h85 => ?_, fun h85 => ?_⟩
          · try simp (disch := omega) only [cmpI, w32_b2i, b2i_0, b2i_1, w32_id, Classical.not_not, not_true_eq_false, not_false_eq_true] at h85
            have hx := h109 0 (b2i_f (by rw [Bool.and_eq_true, decide_eq_true_iff]; intro z; first | exact h69 z.1 | exact h85 z.2.1 | exact h101 z.2.2)).symm
            refine Ex_step (tk_M_floods rfl) ?_
            exact hx
          · try simp (disch := omega) only [cmpI, w32_b2i, b2i_0, b2i_1, w32_id, Classical.not_not, not_true_eq_false, not_false_eq_true] at h85
            refine Ex_step (tk_M_floods rfl) ?_
            refine Ex_step (tk_M_floods rfl) ?_
            refine Ex_step (tk_M_floods rfl) ?_
            refine Ex_step (tk_M_floods rfl) ?_
            refine Ex_cV0 (av := [vI i]) (tk_M_floods rfl) mk_M_highOf ⟨rfl, rfl, by decide, rfl, Nat.le_of_ble_eq_true rfl, Nat.le_of_ble_eq_true rfl⟩ (hM.k) (fun _ h => f_highOf (A := F2 21 22 A s.1 q) hM (show dd ≤ 5 by omega) hi h) ?_
            refine Ex_step (tk_M_floods rfl) ?_
            refine Ex_step (tk_M_floods rfl) ?_
            refine Ex_cS0 (av := [vI y, vI 1, vI (A 3 (bD dd + 2) - 2)]) (tk_M_floods rfl) mk_M_in ⟨rfl, by decide, rfl, rfl, rfl, Nat.le_of_ble_eq_true rfl, Nat.le_of_ble_eq_true rfl⟩ (fun _ h => e_in h) ?_
            refine Ex_step (tk_M_floods rfl) ⟨fun h101 => ?_, fun h101 => ?_⟩
            · try simp (disch := omega) only [cmpI, w32_b2i, b2i_0, b2i_1, w32_id, Classical.not_not, not_true_eq_false, not_false_eq_true] at h101
              have hx := h109 0 (b2i_f (by rw [Bool.and_eq_true, decide_eq_true_iff]; intro z; first | exact h69 z.1 | exact h85 z.2.1 | exact h101 z.2.2)).symm
              refine Ex_step (tk_M_floods rfl) ?_
              exact hx
            · try simp (disch := omega) only [cmpI, w32_b2i, b2i_0, b2i_1, w32_id, Classical.not_not, not_true_eq_false, not_false_eq_true] at h101
              have hx := h109 1 (b2i_t (by rw [Bool.and_eq_true, decide_eq_true_iff]; exact ⟨h69, h85, h101⟩)).symm
              refine Ex_step (tk_M_floods rfl) ?_
              refine Ex_step (tk_M_floods rfl) ?_
              exact hx
    · rw [if_neg hlt] at h
      have hh2 := h q hq
      refine Ex_step (tk_M_floods rfl) ?_
      refine Ex_step (tk_M_floods rfl) ?_
      refine Ex_step (tk_M_floods rfl) ⟨fun h40 => ?_, fun h40 => ?_⟩
      · try simp (disch := omega) only [cmpI, w32_b2i, b2i_0, b2i_1, w32_id, Classical.not_not, not_true_eq_false, not_false_eq_true] at h40
        refine Ex_step (tk_M_floods rfl) ?_
        refine Ex_step (tk_M_floods rfl) ⟨rfl, by first | exact Or.inl rfl | exact Or.inr rfl | exact b2i_01 _ | assumption, ?_⟩
        exact hh2
      · try simp (disch := omega) only [cmpI, w32_b2i, b2i_0, b2i_1, w32_id, Classical.not_not, not_true_eq_false, not_false_eq_true] at h40
        omega
set_option maxRecDepth 100000 in
theorem f_floods {dk : Prop} [Decidable dk] (hM : MW m) (hN : NowW (A 3) nn) (hd : dd < nn) (hi : i = (dd : Int)) {fr : Int} (hfr : 0 ≤ fr ∧ fr ≤ 99) (hin : inG (A 3) dd (fr % 10) (fr / 10)) (hdk : dkP (A 3) dd (fr % 10) (fr / 10) ↔ dk) {be qu : Nat → Int} (hbe : ∀ k, k < 100 → be k = 0 ∨ be k = 1) (hb0 : be fr.toNat = 0) (h : ∀ q : Nat → Int, Q 0 (some (vI (b2i ((flG (A 3) dd dk fr be).1 = true)))) (MS m I (F2 21 22 A (flG (A 3) dd dk fr be).2.1 q) L)) : Ex (d + 3) M_floods 0 [some (vR aM), some (vI i), some (vI fr), none, none, none, none, none, none, none, none, none] [] (MS m I (F2 21 22 A be qu) L) Q := by
  have hn6 := hN.1
  have hW := hN.2.2.2 dd hd
  have e1 : iRem fr 10 = fr % 10 := iRem_nn (by omega) (by omega) (by omega) (by omega)
  have e2 : iDiv fr 10 = fr / 10 := iDiv_nn (by omega) (by omega) (by omega) (by omega)
  have ed : b2i (srt (A 3) dd (fr % 10) (fr / 10) = 1 ∨ srt (A 3) dd (fr % 10) (fr / 10) = 3) = b2i dk := b2i_congr hdk
  have hF : FI (A 3) dd (up1 be fr.toNat 1, fun _ => fr, 1) := by
    refine ⟨fun k hk => ?_, ?_, fun k hk => ⟨hin, hfr.1, hfr.2⟩⟩
    · show up1 be fr.toNat 1 k = 0 ∨ up1 be fr.toNat 1 k = 1
      by_cases e : k = fr.toNat
      · rw [e, up1_at]; exact Or.inr rfl
      · rw [up1_ne _ _ e]; exact hbe k hk
    · show 1 ≤ cB (up1 be fr.toNat 1) 100
      rw [cB_up hb0 (by omega)]
      omega
  have h37 := f_floodQ (d := d) (Q := Q) (I := I) (L := L) (f0 := fr) (dk := dk) hM hN hd hi 101 0 true (up1 be fr.toNat 1, fun _ => fr, 1) (up1 qu 0 fr) none none none none none hF (fun k hk => by
    have hk : k < 1 := hk
    have : k = 0 := by omega
    subst this
    exact up1_at _ _ _) (by omega) (by omega) (fun q _ => h q)
  refine Ex_step (tk_M_floods rfl) ?_
  refine Ex_step (tk_M_floods rfl) ?_
  refine Ex_step (tk_M_floods rfl) ?_
  refine Ex_step (tk_M_floods rfl) ?_
  refine Ex_step (tk_M_floods rfl) ?_
  refine Ex_step (tk_M_floods rfl) ?_
  refine Ex_step (tk_M_floods rfl) ?_
  refine Ex_step (tk_M_floods rfl) ?_
  refine Ex_step (tk_M_floods rfl) ⟨by decide, ?_⟩
  rw [e1]
  refine Ex_step (tk_M_floods rfl) ?_
  refine Ex_step (tk_M_floods rfl) ?_
  refine Ex_step (tk_M_floods rfl) ⟨by decide, ?_⟩
  rw [e2]
  refine Ex_cV0 (av := [vI i, vI (fr % 10), vI (fr / 10)]) (tk_M_floods rfl) mk_M_isDark ⟨rfl, rfl, by decide, rfl, Nat.le_of_ble_eq_true rfl, Nat.le_of_ble_eq_true rfl⟩ (hM.k) (fun _ h => f_isDark (A := F2 21 22 A be qu) hM (show dd ≤ 5 by omega) hi hW (by unfold okI; omega) (by unfold okI; omega) h) ?_
  show Ex (d + 3) M_floods 18 _ [vI (b2i (srt (A 3) dd (fr % 10) (fr / 10) = 1 ∨ srt (A 3) dd (fr % 10) (fr / 10) = 3))] _ Q
  rw [ed]
  refine Ex_step (tk_M_floods rfl) ?_
  refine Ex_step (tk_M_floods rfl) ?_
  refine gMR (tk_M_floods rfl) hM hM.r35 ?_
  refine Ex_step (tk_M_floods rfl) ?_
  refine Ex_step (tk_M_floods rfl) ?_
  refine tMI (j := 22) (n := 0) (tk_M_floods rfl) (by decide) hM.k22 hM.n22 (rfl) (by decide) ?_
  rw [F2_b (by decide), F2_wb (by decide)]
  refine Ex_step (tk_M_floods rfl) ?_
  refine gMR (tk_M_floods rfl) hM hM.r34 ?_
  refine Ex_step (tk_M_floods rfl) ?_
  refine Ex_step (tk_M_floods rfl) ?_
  refine tMZ (j := 21) (n := fr.toNat) (tk_M_floods rfl) (by decide) hM.k21 hM.n21 (by rw [w32_id (by omega) (by omega)]; omega) (by omega) (Or.inr rfl) ?_
  rw [F2_a, F2_wa]
  refine Ex_step (tk_M_floods rfl) ?_
  refine Ex_step (tk_M_floods rfl) ?_
  exact h37
end MFlood2
