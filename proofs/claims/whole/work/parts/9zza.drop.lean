/-! ===== the class: drop, undo ===== -/
set_option maxRecDepth 100000 in
/-- one design more of a row looks as another of another row -/
theorem srt_mv {T T' : Nat → Int} {a a' : Nat} (hD : DsW T a) (h : ∀ k, k < 103 → T' (bD a' + k) = T (bD a + k)) : srt T' a' = srt T a ∧ DsW T' a' := by
  obtain ⟨h0, h1, h2, h3⟩ := hD
  have e0 : T' (bD a') = T (bD a) := h 0 (by decide)
  have e1 : T' (bD a' + 1) = T (bD a + 1) := h 1 (by decide)
  have e2 : T' (bD a' + 2) = T (bD a + 2) := h 2 (by decide)
  refine ⟨?_, ?_, ?_, ?_, fun k hk => ?_⟩
  · funext X Y
    unfold srt
    by_cases q : (0 ≤ X ∧ X ≤ T (bD a + 1) - 1) ∧ 0 ≤ Y ∧ Y ≤ T (bD a + 2) - 1
    · rw [if_pos (show inG T' a' X Y by unfold inG; rw [e1, e2]; exact q), if_pos (show inG T a X Y from q)]
      rw [show bD a' + 3 + (10 * Y.toNat + X.toNat) = bD a' + (3 + (10 * Y.toNat + X.toNat)) by omega, show bD a + 3 + (10 * Y.toNat + X.toNat) = bD a + (3 + (10 * Y.toNat + X.toNat)) by omega]
      exact h _ (by omega)
    · rw [if_neg (show ¬ inG T' a' X Y by unfold inG; rw [e1, e2]; exact q), if_neg (show ¬ inG T a X Y from q)]
  · rw [e0]; exact h0
  · rw [e1]; exact h1
  · rw [e2]; exact h2
  · rw [Nat.add_assoc, h _ (by omega), ← Nat.add_assoc]; exact h3 k hk
set_option maxRecDepth 100000 in
theorem drT_at {T : Nat → Int} {dd nn : Nat} (j : Nat) : drT dd nn T j = if bD dd ≤ j ∧ j < bD (nn - 1) then T (j + 103) else if j = 0 then T 0 - 1 else T j := by
  unfold drT drK up1
  by_cases q : bD dd ≤ j ∧ j < bD (nn - 1)
  · rw [if_pos q, if_pos q, if_neg (by omega)]
  · rw [if_neg q, if_neg q]
section Drop
variable {d : Nat} {m m' : Mem} {F F' A A' L : Nat → Nat → Int} {I I' : Nat → Int} {R : Nat → Nat → Int} {kb kd : Nat} {P : Nat → Nat} {ds ds' : Nat → Nat → Nat} {nn n2 b tp : Nat} {Q : Nat → Option AV → Mem → Prop} {i x y w : Int}
set_option maxRecDepth 100000 in
theorem d_drop (h : DK m F A L I R kb kd P ds nn b tp) (hi : okI i) (hb1 : ¬ (0 ≤ i ∧ i < (nn : Int)) → Q 1 none (alloc (CM m (upF F 707 100 (F 707 100 + 1)) A L) 22 0 6)) (hok : 0 ≤ i ∧ i < (nn : Int) → ∀ (m' : Mem) (F' A' : Nat → Nat → Int) (P' : Nat → Nat) (ds' : Nat → Nat → Nat), DK m' F' A' L (up1 (up1 I 0 0) 12 (remB b : Nat)) (up1 (remA b R) 3 (drT i.toNat nn (R 3))) kb kd P' ds' (nn - 1) (remB b) tp → Out m m' F F' A A' L L → Q 0 (some (vI ((nn - 1 : Nat) : Int))) (CM m' F' A' L)) : Ex (d + 3) DD_drop 0 [some (vR 100), some (vI i)] [] (CM m F A L) Q := by
  have hk11 := h.w.k100
  have hr711 := h.w.r711
  have hr709 := h.y.r709
  have hk4 := h.w.k142
  have hn6 := h.now.1
  have oz := isBk_out h.y.ib
  have z5 : 0 ≤ i ∧ i < (nn : Int) → Ex (d + 3) DD_drop 5 [some (vR 100), some (vI i)] [] (CM m F A L) Q := by
    intro z
    have hok := hok z
    obtain ⟨a, rfl⟩ : ∃ a : Nat, i = (a : Int) := ⟨i.toNat, by omega⟩
    have ha : a < nn := by omega
    have hok : ∀ (m' : Mem) (F' A' : Nat → Nat → Int) (P' : Nat → Nat) (ds' : Nat → Nat → Nat), DK m' F' A' L (up1 (up1 I 0 0) 12 (remB b : Nat)) (up1 (remA b R) 3 (drT a nn (R 3))) kb kd P' ds' (nn - 1) (remB b) tp → Out m m' F F' A A' L L → Q 0 (some (vI ((nn - 1 : Nat) : Int))) (CM m' F' A' L) := hok
    have z16 : ∀ (m1 : Mem) (F1 A1 : Nat → Nat → Int) (P1 : Nat → Nat), DK m1 F1 A1 L (up1 I 12 (remB b : Nat)) (remA b R) kb kd P1 ds nn (remB b) tp → Out m m1 F F1 A A1 L L → Ex (d + 3) DD_drop 16 [some (vR 100), some (vI (a : Int))] [] (CM m1 F1 A1 L) Q := by
      intro m1 F1 A1 P1 h1 o1
      have hBW := h1.y.bw h1.w h1.y.ib
      have hBD := h1.y.bd h1.y.ib
      have hbk := h1.bk
      rw [remA_3] at hbk
      have hrm := fun (Q1 : Nat → Option AV → Mem → Prop) => c_remove (d := d + 2) (A := A1) (L := L) (Q := Q1) (dd := a) hBW hbk.1 hn6 ha
      have hk2 := hBW.1
      have z24 : ∀ Rr : Nat → Nat, (∀ i, i < 6 → Rr i = rmD a nn (ds kb) i) → Ex (d + 3) DD_drop 24 [some (vR 100), some (vI (a : Int))] [] (CM (sAR m1 (kb + 1) Rr) (upF F1 129 kb ((nn - 1 : Nat) : Int)) A1 L) Q := by
        intro Rr hRr
        have hs : SAm m1 (sAR m1 (kb + 1) Rr) := SAm.sR (Or.inr hBW.2.2.1)
        have w2 := h1.w.sa hs h1.n0
        have hk11 := w2.k100
        have hr713 := w2.r713
        have hk5 := w2.ov.1
        have hr709 : mFR (sAR m1 (kb + 1) Rr) 709 100 = kb := h1.y.r709
        have hk2 : mK (sAR m1 (kb + 1) Rr) kb = 2 := hBW.1
        have hfg := fun (Q1 : Nat → Option AV → Mem → Prop) => c_forgetAll (d := d + 2) (F := upF F1 129 kb ((nn - 1 : Nat) : Int)) (A := A1) (L := L) (Q := Q1) w2.ov
        have kF2 : ∀ f j, ¬ (f = 64 ∧ 312 ≤ j ∧ j < 348) → fgF (upF F1 129 kb ((nn - 1 : Nat) : Int)) 310 (fun _ => True) 36 f j = upF F1 129 kb ((nn - 1 : Nat) : Int) f j := fun f j q => fgF_o 36 f j (by omega)
        have hz : ∀ k, k < 36 → fgF (upF F1 129 kb ((nn - 1 : Nat) : Int)) 310 (fun _ => True) 36 64 (310 + 2 + k) = 0 := fun k hk => by rw [fgF_i 36 k hk, if_pos trivial]
        have e129 : fgF (upF F1 129 kb ((nn - 1 : Nat) : Int)) 310 (fun _ => True) 36 129 kb = ((nn - 1 : Nat) : Int) := (kF2 _ _ (by omega)).trans (upF_at _ _ _ _)
        generalize fgF (upF F1 129 kb ((nn - 1 : Nat) : Int)) 310 (fun _ => True) 36 = F2 at *
        have kF3 : ∀ f j, ¬ (f = 64 ∧ 312 ≤ j ∧ j < 348) → ¬ (f = 129 ∧ j = kb) → F2 f j = F1 f j := fun f j q1 q2 => (kF2 f j q1).trans (if_neg q2)
        have e9 : (rmD a nn (ds kb)) = (fun k => if k = kb then rmD a nn (ds kb) else ds k) kb := (if_pos rfl).symm
        have ba : bD a = 2 + 103 * a := rfl
        have bn : bD (nn - 1) = 2 + 103 * (nn - 1) := rfl
        have hmv : ∀ j, j < nn - 1 → ∃ j0, j0 < nn ∧ rmD a nn (ds kb) j = ds kb j0 ∧ ∀ k, k < 103 → drT a nn (R 3) (bD j + k) = R 3 (bD j0 + k) := by
          intro j hj
          have bj : bD j = 2 + 103 * j := rfl
          by_cases q : j < a
          · refine ⟨j, by omega, if_pos q, fun k hk => ?_⟩
            rw [drT_at, if_neg (by omega), if_neg (by omega)]
          · refine ⟨j + 1, by omega, ?_, fun k hk => ?_⟩
            · unfold rmD
              rw [if_neg q, if_pos hj]
            · have bj1 : bD (j + 1) = 2 + 103 * (j + 1) := rfl
              rw [drT_at, if_pos (by omega), show bD j + k + 103 = bD (j + 1) + k by omega]
        have hN' : NowW (drT a nn (R 3)) (nn - 1) := by
          obtain ⟨w1, w2, w3, w4⟩ := h.now
          refine ⟨by omega, ?_, ?_, fun dd hd => ?_⟩
          · rw [drT_at, if_neg (by omega), if_pos rfl, w2]; omega
          · rw [drT_at, if_neg (by omega), if_neg (by omega)]; exact w3
          · obtain ⟨j0, q1, q2, q3⟩ := hmv dd hd
            exact (srt_mv (w4 j0 q1) q3).2
        have hy2 : DKY (sAR m1 (kb + 1) Rr) kb kd P1 (fun k => if k = kb then rmD a nn (ds kb) else ds k) := ⟨h1.y.r709,
          h1.y.r710,
          fun i hi => by
            have z : mAR (sAR m1 (kb + 1) Rr) 143 = mAR m1 143 := if_neg (by omega)
            rw [z]
            exact h1.y.pr i hi,
          fun k hk i hi => by
            by_cases e : k = kb
            · subst e
              rw [mAR_at]
              rw [← e9]
              exact hRr i hi
            · have oo := isBk_far hk h1.y.ib e
              have z : mAR (sAR m1 (kb + 1) Rr) (k + 1) = mAR m1 (k + 1) := if_neg (by omega)
              rw [z]
              have z2 : (if k = kb then rmD a nn (ds kb) else ds k) = ds k := if_neg e
              show mAR m1 (k + 1) i = (if k = kb then rmD a nn (ds kb) else ds k) i
              rw [z2]
              exact h1.y.dr k hk i hi,
          h1.y.ib,
          h1.y.id_,
          h1.y.ip,
          h1.y.n1,
          h1.y.n2,
          h1.y.n3,
          fun k hk => by
            by_cases e : k = kb
            · subst e
              rw [← e9]
              obtain ⟨p1, p2⟩ := h1.y.dp k hk
              have hperm : ∀ i, i < 6 → ∃ i0, i0 < 6 ∧ rmD a nn (ds k) i = ds k i0 ∧ (i < a ∧ i0 = i ∨ a ≤ i ∧ i < nn - 1 ∧ i0 = i + 1 ∨ i = nn - 1 ∧ i0 = a ∨ nn ≤ i ∧ i0 = i) := fun i hi => by
                unfold rmD
                by_cases q1 : i < a
                · exact ⟨i, hi, if_pos q1, Or.inl ⟨q1, rfl⟩⟩
                · rw [if_neg q1]
                  by_cases q2 : i < nn - 1
                  · exact ⟨i + 1, by omega, if_pos q2, by omega⟩
                  · rw [if_neg q2]
                    by_cases q3 : i = nn - 1
                    · exact ⟨a, by omega, if_pos q3, by omega⟩
                    · exact ⟨i, hi, if_neg q3, by omega⟩
              refine ⟨fun i hi => ?_, fun i j hi hj hij => ?_⟩
              · obtain ⟨i0, q1, q2, _⟩ := hperm i hi
                rw [q2]
                exact p1 i0 q1
              · obtain ⟨i0, q1, q2, q3⟩ := hperm i hi
                obtain ⟨j0, q4, q5, q6⟩ := hperm j hj
                rw [q2, q5]
                exact p2 i0 j0 q1 q4 (by omega)
            · have z2 : (if k = kb then rmD a nn (ds kb) else ds k) = ds k := if_neg e
              show (∀ i, i < 6 → ∃ j, j < 6 ∧ (if k = kb then rmD a nn (ds kb) else ds k) i = k + 2 + 3 * j) ∧ ∀ i j, i < 6 → j < 6 → i ≠ j → (if k = kb then rmD a nn (ds kb) else ds k) i ≠ (if k = kb then rmD a nn (ds kb) else ds k) j
              rw [z2]
              exact h1.y.dp k hk⟩
        have hd := h1.now_ (I' := up1 (up1 I 0 0) 12 (remB b : Nat)) (F' := F2) (A' := A1) (T' := drT a nn (R 3)) (n2 := nn - 1) hs hy2 (fun k hk => if_neg hk) (fun _ _ => rfl) (fun f j y1 y2 => kF3 f j y2 (by omega)) (fun _ _ => rfl) hN' (by
            rw [if_pos rfl]
            refine ⟨e129, fun j hj => ?_⟩
            obtain ⟨j0, q1, q2, q3⟩ := hmv j hj
            have gj := hbk.2 j0 q1
            have hdj := hBD.1 j0 (by omega)
            rw [q2, (srt_mv (h.now.2.2.2 j0 q1) q3).1, q3 1 (by decide), q3 2 (by decide), show drT a nn (R 3) (bD j) = R 3 (bD j0) from q3 0 (by decide)]
            exact ⟨(kF3 _ _ (by omega) (by omega)).trans gj.1, (kF3 _ _ (by omega) (by omega)).trans gj.2.1, (kF3 _ _ (by omega) (by omega)).trans gj.2.2.1, gj.2.2.2⟩) (KN.no hz (by omega)) (fun j hj => by
            rw [remA_3, drT_at, if_neg (by omega), if_neg (by omega)]) (fun i hi => by
            rcases hi with rfl | rfl | rfl <;> rfl)
        have o2 : Out m (sAR m1 (kb + 1) Rr) F F2 A A1 L L := ⟨o1.1, fun j q1 q2 => ⟨⟨(o1.2 j q1 q2).1.1, (o1.2 j q1 q2).1.2.1, (if_neg (by omega)).trans (o1.2 j q1 q2).1.2.2.1, (o1.2 j q1 q2).1.2.2.2⟩, fun f => ⟨((o1.2 j q1 q2).2 f).1, (kF3 f j (by omega) (by omega)).trans ((o1.2 j q1 q2).2 f).2⟩⟩⟩
        have hq := hok _ F2 A1 P1 _ hd o2
        refine Ex_step (tk_DD_drop rfl) ?_
        refine gCR (tk_DD_drop rfl) (hk11) (hr713) ?_
        refine Ex_cV0 (av := []) (tk_DD_drop rfl) mk_Ov_forgetAll ⟨rfl, rfl, by decide, rfl, Nat.le_of_ble_eq_true rfl, Nat.le_of_ble_eq_true rfl⟩ (hk5) (fun _ h => hfg _ h) ?_
        refine Ex_step (tk_DD_drop rfl) ?_
        refine gCR (tk_DD_drop rfl) (hk11) (hr709) ?_
        refine gCI (tk_DD_drop rfl) (hk2) ?_
        rw [e129]
        refine Ex_step (tk_DD_drop rfl) ⟨rfl, ?_⟩
        exact hq
      have hk11 := h1.w.k100
      have hr709 := h1.y.r709
      refine Ex_step (tk_DD_drop rfl) ?_
      refine gCR (tk_DD_drop rfl) (hk11) (hr709) ?_
      refine Ex_step (tk_DD_drop rfl) ?_
      refine Ex_cVK (av := [vI (a : Int)]) (tk_DD_drop rfl) mk_Book_remove ⟨rfl, rfl, by decide, rfl, Nat.le_of_ble_eq_true rfl, Nat.le_of_ble_eq_true rfl⟩ (hk2) (hrm _ (fun Rr hRr => ⟨rfl, ?_⟩))
      exact z24 Rr hRr
    have hkp := fun (Q1 : Nat → Option AV → Mem → Prop) => d_keep (d := d) (Q := Q1) h
    refine Ex_step (tk_DD_drop rfl) ?_
    refine gCR (tk_DD_drop rfl) (hk11) (hr711) ?_
    refine Ex_step (tk_DD_drop rfl) ?_
    refine gCR (tk_DD_drop rfl) (hk11) (hr709) ?_
    refine Ex_cVK (av := [vR kb]) (tk_DD_drop rfl) mk_Hist_keep ⟨rfl, rfl, by decide, rfl, Nat.le_of_ble_eq_true rfl, Nat.le_of_ble_eq_true rfl⟩ (hk4) (hkp _ (fun m1 F1 A1 P1 h1 o1 => ⟨rfl, ?_⟩))
    exact z16 m1 F1 A1 P1 h1 o1
  refine Ex_step (tk_DD_drop rfl) ?_
  refine Ex_step (tk_DD_drop rfl) ?_
  refine Ex_cVT (av := [vI i]) (tk_DD_drop rfl) mk_DD_needDesign ⟨rfl, rfl, by decide, rfl, Nat.le_of_ble_eq_true rfl, Nat.le_of_ble_eq_true rfl⟩ hk11 rfl (d_needDesign h hi (fun z => ⟨fun q => absurd q (by decide), fun _ => hb1 z⟩) (fun z => ⟨fun _ => z5 z, fun q => absurd rfl q⟩))
end Drop
