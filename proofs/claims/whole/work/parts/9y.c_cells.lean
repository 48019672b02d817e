/-! ===== the class: the cells of a row ===== -/
section CCells
variable {d tr c tp sz a b lim : Nat} {m : Mem} {A0 L : Nat → Nat → Int} {Q : Nat → Option AV → Mem → Prop}
set_option maxRecDepth 100000 in
theorem dsRow_T {f : Nat → Int} {sz b : Nat} : ∀ (r k : Nat) (s : PSt), (∀ j, j < b + k → pT (dsRow f sz b r k s).2 j = pT s j) ∧ pFl (dsRow f sz b r k s).2 = pFl s
  | 0, k, s => ⟨fun _ _ => rfl, rfl⟩
  | r + 1, k, s => by
    unfold dsRow
    split
    · exact ⟨fun _ _ => rfl, rfl⟩
    · have ih := dsRow_T (f := f) (sz := sz) (b := b) r (k + 1) (incP (wTP (hereP f sz s) (b + k) (sortC (hereC f sz s))))
      refine ⟨fun j hj => ?_, ih.2⟩
      rw [ih.1 j (by omega)]
      exact up1_ne _ _ (by omega)
/-- the cells k to k2 of row y are what the reference has told -/
def rowG (g : Int → Int → Int) (T : Nat → Int) (b y k k2 : Nat) : Int → Int → Int := fun X Y => if Y = (y : Int) ∧ (k : Int) ≤ X ∧ X < (k2 : Int) then T (b + X.toNat) else g X Y
set_option maxRecDepth 100000 in
theorem DB.e {A : Nat → Nat → Int} {a : Nat} {g h : Int → Int → Int} (hB : DB A a g) (e : g = h) : DB A a h := e ▸ hB
set_option maxRecDepth 100000 in
theorem c_cells {l2 l5 l6 l7 : Option AV} {y : Nat} (hk10 : mK m tr = 10) (hr640 : mFR m 640 tr = c) (hSW : ScW m c tp) (hDW : DW m a) (hac : a ≠ c) (ht1 : tp ≠ a + 1) (ht2 : tp ≠ a + 2) (hsz : sz ≤ 800) (hf : byts (A0 tp)) (hy : y < 10) (hlim : lim ≤ 10) : ∀ (r k : Nat) (F A : Nat → Nat → Int) (g : Int → Int → Int) (s : PSt) (p : Nat), k + r = lim → ScF F c sz p 0 (-1) → F 194 a = (y : Int) → p ≤ sz → sk (A0 tp) sz p = sk (A0 tp) sz (pAt s) → DB A a g → A tp = A0 tp → (∀ (F' A' : Nat → Nat → Int) (p' : Nat), ScF F' c sz p' 0 (-1) → (∀ fl j, j ≠ c → F' fl j = F fl j) → (∀ j, j ≠ a + 1 → j ≠ a + 2 → A' j = A j) → p' ≤ sz → sk (A0 tp) sz p' = sk (A0 tp) sz (pAt (dsRow (A0 tp) sz b r k s).2) → DB A' a (rowG g (pT (dsRow (A0 tp) sz b r k s).2) b y k (dsRow (A0 tp) sz b r k s).1) → Ex (d + 2) TR_readRow 83 [some (vR tr), some (vR a), l2, some (vI (lim : Int)), some (vI ((dsRow (A0 tp) sz b r k s).1 : Int)), l5, l6, l7] [] (CM m F' A' L) Q) → Ex (d + 2) TR_readRow 30 [some (vR tr), some (vR a), l2, some (vI (lim : Int)), some (vI (k : Int)), l5, l6, l7] [] (CM m F A L) Q := by
  have hk8 := hSW.1
  have hk3 := hDW.1
  intro r
  induction r with
  | zero =>
    intro k F A g s p hkr hS hF hp he hB hA h
    have h83 := h F A p hS (fun _ _ _ => rfl) (fun _ _ _ => rfl) hp (he.trans (sk_sk (A0 tp) sz (sz + 1) _ (by omega)).symm) (hB.e (by
      funext X Y
      exact (if_neg (show ¬ (Y = (y : Int) ∧ (k : Int) ≤ X ∧ X < (k : Int)) by omega)).symm))
    refine Ex_step (tk_TR_readRow rfl) ?_
    refine Ex_step (tk_TR_readRow rfl) ?_
    refine Ex_step (tk_TR_readRow rfl) ⟨fun h33 => ?_, fun h33 => ?_⟩
    · try simp (disch := omega) only [cmpI, w32_b2i, b2i_0, b2i_1, w32_id, Classical.not_not, not_true_eq_false, not_false_eq_true] at h33
      exact h83
    · try simp (disch := omega) only [cmpI, w32_b2i, b2i_0, b2i_1, w32_id, Classical.not_not, not_true_eq_false, not_false_eq_true] at h33
      omega
  | succ r ih =>
    intro k F A g s p hkr hS hF hp he hB hA h
    have hsk := sk_sz (f := A0 tp) hp
    have hfA : byts (A tp) := by rw [hA]; exact hf
    have hlook := fun (Q1 : Nat → Option AV → Mem → Prop) => c_look (d := d) (L := L) (Q := Q1) (fl := 0) (pl := -1) hSW hsz hfA (sz + 1) p F (by omega) (by omega) hS
    have hS1 := hS.at_ (sk (A0 tp) sz p)
    have hF1 : ∀ fl j, j ≠ c → upF F 514 c ((sk (A0 tp) sz p : Nat) : Int) fl j = F fl j := fun fl j q => upF_a _ _ _ q
    rw [hA] at hlook
    have hss : sk (A0 tp) sz (sk (A0 tp) sz p) = sk (A0 tp) sz p := sk_sk (A0 tp) sz (sz + 1) _ (by omega)
    have hhc : hereC (A0 tp) sz s = bt (A0 tp) sz (sk (A0 tp) sz p) := by unfold hereC; rw [he]
    have hbr := bt_range hf hsz (sk (A0 tp) sz p)
    generalize upF F 514 c ((sk (A0 tp) sz p : Nat) : Int) = F1 at *
    have hlook2 := fun (Q1 : Nat → Option AV → Mem → Prop) => c_look (d := d) (L := L) (Q := Q1) (fl := 0) (pl := -1) hSW hsz hfA (sz + 1) (sk (A0 tp) sz p) F1 (by omega) (by omega) hS1
    have hS2 := hS1.at_ (sk (A0 tp) sz p)
    have hF2 : ∀ fl j, j ≠ c → upF F1 514 c ((sk (A0 tp) sz p : Nat) : Int) fl j = F fl j := fun fl j q => (upF_a _ _ _ q).trans (hF1 fl j q)
    rw [hA, hss] at hlook2
    have hFy : F1 194 a = (y : Int) := (hF1 194 a hac).trans hF
    generalize upF F1 514 c ((sk (A0 tp) sz p : Nat) : Int) = F2 at *
    have hsr := sortC_r (bt (A0 tp) sz (sk (A0 tp) sz p))
    unfold dsRow at h
    rw [hhc] at h
    by_cases hq : sortC (bt (A0 tp) sz (sk (A0 tp) sz p)) = -1
    · rw [if_pos hq] at h
      have h83 := h F1 A _ hS1 hF1 (fun _ _ _ => rfl) (by omega) (by rw [hss]; exact he.trans (sk_sk (A0 tp) sz (sz + 1) _ (by omega)).symm) (hB.e (by
        funext X Y
        exact (if_neg (show ¬ (Y = (y : Int) ∧ (k : Int) ≤ X ∧ X < (k : Int)) by omega)).symm))
      refine Ex_step (tk_TR_readRow rfl) ?_
      refine Ex_step (tk_TR_readRow rfl) ?_
      refine Ex_step (tk_TR_readRow rfl) ⟨fun h33 => ?_, fun h33 => ?_⟩
      · try simp (disch := omega) only [cmpI, w32_b2i, b2i_0, b2i_1, w32_id, Classical.not_not, not_true_eq_false, not_false_eq_true] at h33
        first | exact h83 | omega
      · try simp (disch := omega) only [cmpI, w32_b2i, b2i_0, b2i_1, w32_id, Classical.not_not, not_true_eq_false, not_false_eq_true] at h33
        refine Ex_step (tk_TR_readRow rfl) ?_
        refine gCR (tk_TR_readRow rfl) (hk10) (hr640) ?_
        refine Ex_cV0 (av := []) (tk_TR_readRow rfl) mk_Scan_look ⟨rfl, rfl, by decide, rfl, Nat.le_of_ble_eq_true rfl, Nat.le_of_ble_eq_true rfl⟩ (hk8) (fun _ h => hlook _ h) ?_
        refine Ex_cS0 (av := [vI (bt (A0 tp) sz (sk (A0 tp) sz p))]) (tk_TR_readRow rfl) mk_TR_sortOf ⟨rfl, by decide, rfl, rfl, rfl, Nat.le_of_ble_eq_true rfl, Nat.le_of_ble_eq_true rfl⟩ (fun _ h => c_sortOf hbr h) ?_
        refine Ex_step (tk_TR_readRow rfl) ?_
        refine Ex_step (tk_TR_readRow rfl) ⟨fun h47 => ?_, fun h47 => ?_⟩
        · try simp (disch := omega) only [cmpI, w32_b2i, b2i_0, b2i_1, w32_id, Classical.not_not, not_true_eq_false, not_false_eq_true] at h47
          first | exact h83 | omega
        · try simp (disch := omega) only [cmpI, w32_b2i, b2i_0, b2i_1, w32_id, Classical.not_not, not_true_eq_false, not_false_eq_true] at h47
          exact absurd hq h47
    · rw [if_neg hq] at h
      have hlt : sk (A0 tp) sz p < sz := bt_lt rfl (fun e => hq (by rw [e]; rfl))
      generalize hso : sortC (bt (A0 tp) sz (sk (A0 tp) sz p)) = so at *
      have hput := fun (Q1 : Nat → Option AV → Mem → Prop) => c_put (d := d + 1) (F := F2) (L := L) (Q := Q1) (x := (k : Int)) (y := (y : Int)) (so := so) hDW hB (by omega) (by omega) (by omega)
      have hst := fun (Q1 : Nat → Option AV → Mem → Prop) (A' : Nat → Nat → Int) => c_step (d := d + 1) (Q := Q1) (A := A') (L := L) hk8 hS2 hsz hlt
      have h30 : ∀ A' : Nat → Nat → Int, (∀ j, j ≠ a + 1 → j ≠ a + 2 → A' j = A j) → DB A' a (updF g (k : Int) (y : Int) so) → Ex (d + 2) TR_readRow 30 [some (vR tr), some (vR a), l2, some (vI (lim : Int)), some (vI ((k + 1 : Nat) : Int)), l5, l6, l7] [] (CM m (upF F2 514 c ((sk (A0 tp) sz p + 1 : Nat) : Int)) A' L) Q := by
        intro A' hA' hB'
        refine ih (k + 1) _ A' _ (incP (wTP (hereP (A0 tp) sz s) (b + k) so)) _ (by omega) (hS2.at_ _) ((upF_a _ _ _ hac).trans ((hF2 194 a hac).trans hF)) (by omega) ?_ hB' ((hA' tp ht1 ht2).trans hA) (fun F' A2 p' q1 q2 q3 q4 q5 q6 => ?_)
        · show sk (A0 tp) sz (sk (A0 tp) sz p + 1) = sk (A0 tp) sz (sk (A0 tp) sz (pAt s) + 1)
          rw [he]
        · refine h F' A2 p' q1 (fun fl j q => (q2 fl j q).trans ((upF_a _ _ _ q).trans (hF2 fl j q))) (fun j z1 z2 => (q3 j z1 z2).trans (hA' j z1 z2)) q4 q5 (q6.e ?_)
          have hk1 := (dsRow_k (f := A0 tp) (sz := sz) (b := b) r (k + 1) (incP (wTP (hereP (A0 tp) sz s) (b + k) so))).1
          have hT := (dsRow_T (f := A0 tp) (sz := sz) (b := b) r (k + 1) (incP (wTP (hereP (A0 tp) sz s) (b + k) so))).1 (b + k) (by omega)
          have hT2 : pT (incP (wTP (hereP (A0 tp) sz s) (b + k) so)) (b + k) = so := up1_at _ _ _
          rw [hT2] at hT
          generalize dsRow (A0 tp) sz b r (k + 1) (incP (wTP (hereP (A0 tp) sz s) (b + k) so)) = D at *
          funext X Y
          unfold rowG updF
          by_cases z : Y = (y : Int) ∧ (k : Int) ≤ X ∧ X < (D.1 : Int)
          · rw [if_pos z]
            by_cases z2 : X = (k : Int)
            · rw [if_neg (by omega), if_pos ⟨z2, z.1⟩, z2]
              exact hT.symm
            · rw [if_pos (by omega)]
          · rw [if_neg z, if_neg (by omega), if_neg (by omega)]
      refine Ex_step (tk_TR_readRow rfl) ?_
      refine Ex_step (tk_TR_readRow rfl) ?_
      refine Ex_step (tk_TR_readRow rfl) ⟨fun h33 => ?_, fun h33 => ?_⟩
      · try simp (disch := omega) only [cmpI, w32_b2i, b2i_0, b2i_1, w32_id, Classical.not_not, not_true_eq_false, not_false_eq_true] at h33
        first | omega | exact absurd h47 hq
      · try simp (disch := omega) only [cmpI, w32_b2i, b2i_0, b2i_1, w32_id, Classical.not_not, not_true_eq_false, not_false_eq_true] at h33
        refine Ex_step (tk_TR_readRow rfl) ?_
        refine gCR (tk_TR_readRow rfl) (hk10) (hr640) ?_
        refine Ex_cV0 (av := []) (tk_TR_readRow rfl) mk_Scan_look ⟨rfl, rfl, by decide, rfl, Nat.le_of_ble_eq_true rfl, Nat.le_of_ble_eq_true rfl⟩ (hk8) (fun _ h => hlook _ h) ?_
        refine Ex_cS0 (av := [vI (bt (A0 tp) sz (sk (A0 tp) sz p))]) (tk_TR_readRow rfl) mk_TR_sortOf ⟨rfl, by decide, rfl, rfl, rfl, Nat.le_of_ble_eq_true rfl, Nat.le_of_ble_eq_true rfl⟩ (fun _ h => c_sortOf hbr h) ?_
        rw [hso]
        refine Ex_step (tk_TR_readRow rfl) ?_
        refine Ex_step (tk_TR_readRow rfl) ⟨fun h47 => ?_, fun h47 => ?_⟩
        · try simp (disch := omega) only [cmpI, w32_b2i, b2i_0, b2i_1, w32_id, Classical.not_not, not_true_eq_false, not_false_eq_true] at h47
          first | omega | exact absurd h47 hq
        · try simp (disch := omega) only [cmpI, w32_b2i, b2i_0, b2i_1, w32_id, Classical.not_not, not_true_eq_false, not_false_eq_true] at h47
          refine Ex_step (tk_TR_readRow rfl) ?_
          refine Ex_step (tk_TR_readRow rfl) ?_
          refine Ex_step (tk_TR_readRow rfl) ?_
          refine gCI (tk_TR_readRow rfl) (hk3) ?_
          rw [hFy]
          refine Ex_step (tk_TR_readRow rfl) ?_
          refine gCR (tk_TR_readRow rfl) (hk10) (hr640) ?_
          refine Ex_cV0 (av := []) (tk_TR_readRow rfl) mk_Scan_look ⟨rfl, rfl, by decide, rfl, Nat.le_of_ble_eq_true rfl, Nat.le_of_ble_eq_true rfl⟩ (hk8) (fun _ h => hlook2 _ h) ?_
          refine Ex_cS0 (av := [vI (bt (A0 tp) sz (sk (A0 tp) sz p))]) (tk_TR_readRow rfl) mk_TR_sortOf ⟨rfl, by decide, rfl, rfl, rfl, Nat.le_of_ble_eq_true rfl, Nat.le_of_ble_eq_true rfl⟩ (fun _ h => c_sortOf hbr h) ?_
          rw [hso]
          refine Ex_cVK (av := [vI (k : Int), vI (y : Int), vI so]) (tk_TR_readRow rfl) mk_Des_put ⟨rfl, rfl, by decide, rfl, Nat.le_of_ble_eq_true rfl, Nat.le_of_ble_eq_true rfl⟩ (hk3) (hput _ (fun A' k1 k2 => ⟨rfl, ?_⟩))
          refine Ex_step (tk_TR_readRow rfl) ?_
          refine gCR (tk_TR_readRow rfl) (hk10) (hr640) ?_
          refine Ex_cV0 (av := []) (tk_TR_readRow rfl) mk_Scan_step ⟨rfl, rfl, by decide, rfl, Nat.le_of_ble_eq_true rfl, Nat.le_of_ble_eq_true rfl⟩ (hk8) (fun _ h => hst _ A' h) ?_
          refine Ex_step (tk_TR_readRow rfl) ?_
          refine Ex_step (tk_TR_readRow rfl) ?_
          exact h30 A' k1 k2
end CCells
