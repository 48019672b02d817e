/-! ===== the class: the rows of a design ===== -/
def gR (T : Nat → Int) (b : Nat) (w h : Int) : Int → Int → Int := fun X Y => if (0 ≤ X ∧ X < w) ∧ 0 ≤ Y ∧ Y < h then T (b + 3 + (10 * Y.toNat + X.toNat)) else 0
set_option maxRecDepth 100000 in
theorem gR_row {T T' : Nat → Int} {b y w k : Nat} (hw : w ≤ 10) (hT : ∀ j, j < b + 3 + 10 * y → T' j = T j) (hk : y = 0 ∨ k = w) : rowG (gR T b (w : Int) (y : Int)) T' (b + 3 + 10 * y) y 0 k = gR T' b (k : Int) ((y + 1 : Nat) : Int) := by
  funext X Y
  unfold rowG gR
  by_cases z : Y = (y : Int) ∧ ((0 : Nat) : Int) ≤ X ∧ X < (k : Int)
  · rw [if_pos z, if_pos (by omega)]
    exact congrArg T' (by omega)
  · rw [if_neg z]
    by_cases z2 : (0 ≤ X ∧ X < (w : Int)) ∧ 0 ≤ Y ∧ Y < (y : Int)
    · rw [if_pos z2, if_pos (by omega)]
      exact (hT _ (by omega)).symm
    · rw [if_neg z2, if_neg (by omega)]
set_option maxRecDepth 100000 in
theorem gR_e {T T' : Nat → Int} {b : Nat} {w h : Int} (hw : w ≤ 10) (hh : h ≤ 10) (hT : ∀ k, k < 100 → T' (b + 3 + k) = T (b + 3 + k)) : gR T b w h = gR T' b w h := by
  funext X Y
  unfold gR
  by_cases z : (0 ≤ X ∧ X < w) ∧ 0 ≤ Y ∧ Y < h
  · rw [if_pos z, if_pos z]
    exact (hT _ (by omega)).symm
  · rw [if_neg z, if_neg z]
/-- the cells of a design are sorts -/
def VC (T : Nat → Int) (b : Nat) : Prop := ∀ k, k < 100 → 0 ≤ T (b + 3 + k) ∧ T (b + 3 + k) ≤ 3
set_option maxRecDepth 100000 in
theorem dsRow_V {f : Nat → Int} {sz b b0 : Nat} : ∀ (r k : Nat) (s : PSt), VC (pT s) b0 → VC (pT (dsRow f sz b r k s).2) b0 ∧ ∀ j, j < b ∨ b + k + r ≤ j → pT (dsRow f sz b r k s).2 j = pT s j
  | 0, k, s, h => ⟨h, fun _ _ => rfl⟩
  | r + 1, k, s, h => by
    unfold dsRow
    split
    · exact ⟨h, fun _ _ => rfl⟩
    · next hq =>
      have hsr := sortC_r (hereC f sz s)
      have ih := dsRow_V (f := f) (sz := sz) (b := b) (b0 := b0) r (k + 1) (incP (wTP (hereP f sz s) (b + k) (sortC (hereC f sz s)))) (fun i hi => by
        show 0 ≤ up1 (pT s) (b + k) (sortC (hereC f sz s)) (b0 + 3 + i) ∧ up1 (pT s) (b + k) (sortC (hereC f sz s)) (b0 + 3 + i) ≤ 3
        by_cases z : b0 + 3 + i = b + k
        · rw [z, up1_at]; omega
        · rw [up1_ne _ _ z]; exact h i hi)
      refine ⟨ih.1, fun j hj => ?_⟩
      rw [ih.2 j (by omega)]
      exact up1_ne _ _ (by omega)
set_option maxRecDepth 100000 in
theorem dsLoop_no {f : Nat → Int} {sz b rows wide : Nat} {s : PSt} (h : pFl s ≠ 0) : ∀ r, dsLoop f sz b r rows wide s = (rows, wide, s)
  | 0 => rfl
  | r + 1 => by
    unfold dsLoop
    rw [if_neg h]
set_option maxRecDepth 100000 in
theorem dsFin_T {b : Nat} {p : Nat × Nat × PSt} (hb : 2 ≤ b) : (∀ j, j ≠ b + 1 → j ≠ b + 2 → j ≠ 0 → pT (dsFin b p) j = pT p.2.2 j) ∧ pT (dsFin b p) (b + 1) = (p.2.1 : Int) ∧ pT (dsFin b p) (b + 2) = (p.1 : Int) ∧ pT (dsFin b p) 0 = pT p.2.2 0 + 1 := by
  unfold dsFin
  simp only [wTP_T]
  refine ⟨fun j h1 h2 h0 => ?_, ?_, ?_, ?_⟩
  · rw [up1_ne _ _ h0, up1_ne _ _ h2, up1_ne _ _ h1]
  · rw [up1_ne _ _ (by omega), up1_ne _ _ (by omega), up1_at]
  · rw [up1_ne _ _ (by omega), up1_at]
  · rw [up1_at, up1_ne _ _ (by omega), up1_ne _ _ (by omega)]
/-- a design is read: how it ends; s before its rows, t behind its ';' -/
def DsO (s t : PSt) (b a c sz : Nat) (F F' A A' : Nat → Nat → Int) : Prop := KD a c F F' A A' ∧ ((pFl t ≠ 0 ∧ pFl t ≤ 9 ∧ ∃ q, ScF F' c sz q (pFl t) (pFa t)) ∨ (pFl t = 0 ∧ ScF F' c sz (pAt t) 0 (-1) ∧ pAt t ≤ sz ∧ F' 193 a = pT t (b + 1) ∧ F' 194 a = pT t (b + 2) ∧ (1 ≤ pT t (b + 1) ∧ pT t (b + 1) ≤ 10) ∧ (1 ≤ pT t (b + 2) ∧ pT t (b + 2) ≤ 10) ∧ DB A' a (gR (pT t) b (pT t (b + 1)) (pT t (b + 2))) ∧ VC (pT t) b ∧ (∀ j, j ≠ 0 → j ≤ b ∨ b + 103 ≤ j → pT t j = pT s j) ∧ pT t 0 = pT s 0 + 1))
def DsE (f : Nat → Int) (sz b r rows wide : Nat) (s : PSt) (D : Nat × PSt) : Prop := ∃ t : PSt, dsLoop f sz b (r + 1) rows wide s = (rows + 1, D.1, t) ∧ pFl t = 0 ∧ sk f sz (pAt t) = pAt D.2 ∧ pT t = pT D.2
section CDesLoop
variable {d tr c tp sz a b k : Nat} {m : Mem} {A0 L : Nat → Nat → Int} {Q : Nat → Option AV → Mem → Prop}
set_option maxRecDepth 100000 in
theorem c_des0 {F A : Nat → Nat → Int} {row : Nat} (hr : row ≤ 10) (h : Ex d TR_readDesign 113 [some (vR tr), some (vR k), some (vR a), some (vI 0), some (vI (row : Int))] [] (CM m F A L) Q) : Ex d TR_readDesign 90 [some (vR tr), some (vR k), some (vR a), some (vI 0), some (vI (row : Int))] [] (CM m F A L) Q := by
  refine Ex_step (tk_TR_readDesign rfl) ?_
  refine Ex_step (tk_TR_readDesign rfl) ?_
  refine Ex_step (tk_TR_readDesign rfl) ⟨fun h94 => ?_, fun h94 => ?_⟩
  · try simp (disch := omega) only [cmpI, w32_b2i, b2i_0, b2i_1, w32_id, Classical.not_not, not_true_eq_false, not_false_eq_true] at h94
    exact h
  · try simp (disch := omega) only [cmpI, w32_b2i, b2i_0, b2i_1, w32_id, Classical.not_not, not_true_eq_false, not_false_eq_true] at h94
    refine Ex_step (tk_TR_readDesign rfl) ?_
    refine Ex_step (tk_TR_readDesign rfl) ⟨fun h98 => ?_, fun h98 => ?_⟩
    · try simp (disch := omega) only [cmpI, w32_b2i, b2i_0, b2i_1, w32_id, Classical.not_not, not_true_eq_false, not_false_eq_true] at h98
      exact h
    · try simp (disch := omega) only [cmpI, w32_b2i, b2i_0, b2i_1, w32_id, Classical.not_not, not_true_eq_false, not_false_eq_true] at h98
      all_goals first | exact absurd rfl h98 | omega
set_option maxRecDepth 100000 in
theorem c_desLoop (hk10 : mK m tr = 10) (hr640 : mFR m 640 tr = c) (hSW : ScW m c tp) (hDW : DW m a) (hac : a ≠ c) (ht1 : tp ≠ a + 1) (ht2 : tp ≠ a + 2) (hsz : sz ≤ 800) (hf : byts (A0 tp)) (hb : 2 ≤ b) : ∀ (r rows wide : Nat) (F A : Nat → Nat → Int) (s : PSt) (p : Nat), rows + (r + 1) = 10 → (rows ≠ 0 → 0 < wide) → wide ≤ 10 → pFl s = 0 → ScF F c sz p 0 (-1) → F 194 a = (rows : Int) → F 193 a = (wide : Int) → p ≤ sz → sk (A0 tp) sz p = sk (A0 tp) sz (pAt s) → DB A a (gR (pT s) b (wide : Int) (rows : Int)) → VC (pT s) b → A tp = A0 tp → (∀ (F' A' : Nat → Nat → Int) (mo : Int) (row : Nat), DsO s (mustP (A0 tp) sz 59 (dsFin b (dsLoop (A0 tp) sz b (r + 1) rows wide s))) b a c sz F F' A A' → Ex (d + 3) TR_readDesign 113 [some (vR tr), some (vR k), some (vR a), some (vI mo), some (vI (row : Int))] [] (CM m F' A' L) Q) → Ex (d + 3) TR_readDesign 90 [some (vR tr), some (vR k), some (vR a), some (vI 1), some (vI (rows : Int))] [] (CM m F A L) Q := by
  have hk3 := hDW.1
  intro r
  induction r using Nat.strongRecOn with
  | _ r ih =>
    intro rows wide F A s p hr hrw hw10 h0 hS hF hFw hp he hB hV hA h
    have hfA : byts (A tp) := by rw [hA]; exact hf
    have hrow := fun (Q1 : Nat → Option AV → Mem → Prop) => c_readRow (d := d) (b := b + 3 + 10 * rows) (y := rows) (w := wide) (Q := Q1) (s := s) (L := L) hk10 hr640 hSW hDW hac ht1 ht2 hsz hfA (by omega) hw10 hrw hS hF hFw hp (by rw [hA]; exact he) hB
    rw [hA] at hrow
    have eL : dsLoop (A0 tp) sz b (r + 1) rows wide s = if rows + 1 < 10 then (if hereC (A0 tp) sz (dsEnd rows wide (dsRow (A0 tp) sz (b + 3 + 10 * rows) (if rows = 0 then 10 else wide) 0 s)) = 47 then dsLoop (A0 tp) sz b r (rows + 1) (dsRow (A0 tp) sz (b + 3 + 10 * rows) (if rows = 0 then 10 else wide) 0 s).1 (incP (hereP (A0 tp) sz (dsEnd rows wide (dsRow (A0 tp) sz (b + 3 + 10 * rows) (if rows = 0 then 10 else wide) 0 s)))) else (rows + 1, (dsRow (A0 tp) sz (b + 3 + 10 * rows) (if rows = 0 then 10 else wide) 0 s).1, hereP (A0 tp) sz (dsEnd rows wide (dsRow (A0 tp) sz (b + 3 + 10 * rows) (if rows = 0 then 10 else wide) 0 s)))) else (rows + 1, (dsRow (A0 tp) sz (b + 3 + 10 * rows) (if rows = 0 then 10 else wide) 0 s).1, dsEnd rows wide (dsRow (A0 tp) sz (b + 3 + 10 * rows) (if rows = 0 then 10 else wide) 0 s)) := by
      rw [dsLoop]
      exact if_pos h0
    have hDk := dsRow_k (f := A0 tp) (sz := sz) (b := b + 3 + 10 * rows) (if rows = 0 then 10 else wide) 0 s
    have hDa := dsRow_at (f := A0 tp) (sz := sz) (b := b + 3 + 10 * rows) (if rows = 0 then 10 else wide) 0 s
    have hDT := dsRow_T (f := A0 tp) (sz := sz) (b := b + 3 + 10 * rows) (if rows = 0 then 10 else wide) 0 s
    have hDV := dsRow_V (f := A0 tp) (sz := sz) (b := b + 3 + 10 * rows) (b0 := b) (if rows = 0 then 10 else wide) 0 s hV
    have hlim : rows = 0 ∧ (if rows = 0 then 10 else wide) = 10 ∨ rows ≠ 0 ∧ (if rows = 0 then 10 else wide) = wide := by
      by_cases z : rows = 0
      · exact Or.inl ⟨z, if_pos z⟩
      · exact Or.inr ⟨z, if_neg z⟩
    generalize (if rows = 0 then 10 else wide) = lim at *
    generalize dsRow (A0 tp) sz (b + 3 + 10 * rows) lim 0 s = D at *
    have hhD : hereC (A0 tp) sz D.2 = bt (A0 tp) sz (pAt D.2) := by unfold hereC; rw [hDa]
    have hD0 : pFl D.2 = 0 := hDT.2.trans h0
    have after : ∀ (v : Int) (F' A' : Nat → Nat → Int), RwO D (hereC (A0 tp) sz D.2) rows wide a c sz (b + 3 + 10 * rows) (gR (pT s) b (wide : Int) (rows : Int)) F F' A A' v → Ex (d + 3) TR_readDesign 90 [some (vR tr), some (vR k), some (vR a), some (vI v), some (vI ((rows + 1 : Nat) : Int))] [] (CM m F' A' L) Q := by
      intro v F' A' ho
      obtain ⟨kd, ho⟩ := ho
      have hend : ¬ (D.1 = 0 ∨ 0 < rows ∧ D.1 < wide) → ¬ (hereC (A0 tp) sz D.2 = 47 ∧ rows + 1 < 10) → DsE (A0 tp) sz b r rows wide s D := by
        intro z1 z2
        unfold DsE
        have eE : dsEnd rows wide D = D.2 := if_neg z1
        rw [eL, eE]
        by_cases z3 : rows + 1 < 10
        · rw [if_pos z3, if_neg (fun q => z2 ⟨q, z3⟩)]
          exact ⟨_, rfl, hD0, (congrArg (sk (A0 tp) sz) hDa).trans hDa, rfl⟩
        · rw [if_neg z3]
          exact ⟨_, rfl, hD0, hDa, rfl⟩
      rcases ho with ⟨rfl, hbad, q, hq⟩ | ⟨hfull, hv, q1, q2, q3, q4, q5⟩
      · refine c_des0 (by omega) (h F' A' 0 (rows + 1) ⟨kd, Or.inl ?_⟩)
        have hz : pFl (mustP (A0 tp) sz 59 (dsFin b (dsLoop (A0 tp) sz b (r + 1) rows wide s))) = 1 ∧ pFa (mustP (A0 tp) sz 59 (dsFin b (dsLoop (A0 tp) sz b (r + 1) rows wide s))) = (pAt D.2 : Nat) := by
          by_cases hfull : D.1 = 0 ∨ 0 < rows ∧ D.1 < wide
          · have eE : dsEnd rows wide D = wFlP D.2 1 (pAt D.2 : Nat) := (if_pos hfull).trans (if_pos hD0)
            have hZ : ∃ (r2 w2 : Nat) (t : PSt), dsLoop (A0 tp) sz b (r + 1) rows wide s = (r2, w2, t) ∧ pFl t = 1 ∧ pFa t = (pAt D.2 : Nat) := by
              rw [eL, eE]
              split
              · split
                · exact ⟨_, _, _, dsLoop_no (s := incP (hereP (A0 tp) sz (wFlP D.2 1 (pAt D.2 : Nat)))) (show (1 : Nat) ≠ 0 by decide) r, rfl, rfl⟩
                · exact ⟨_, _, _, rfl, rfl, rfl⟩
              · exact ⟨_, _, _, rfl, rfl, rfl⟩
            obtain ⟨r2, w2, t, e, e1, e2⟩ := hZ
            rw [e, must_no (show pFl (dsFin b (r2, w2, t)) ≠ 0 from fun x => absurd (e1.symm.trans x) (by decide))]
            exact ⟨e1, e2⟩
          · obtain ⟨t, e, e0, e1, e2⟩ := hend hfull (by omega)
            rw [e]
            have z0 : pFl (dsFin b (rows + 1, D.1, t)) = 0 := e0
            have zs : sk (A0 tp) sz (pAt (dsFin b (rows + 1, D.1, t))) = pAt D.2 := e1
            have zc : hereC (A0 tp) sz (dsFin b (rows + 1, D.1, t)) = hereC (A0 tp) sz D.2 := by rw [hhD]; exact congrArg (bt (A0 tp) sz) zs
            unfold mustP
            rw [if_pos z0, if_neg (by rw [zc]; omega), zs, show wrongP (hereP (A0 tp) sz (dsFin b (rows + 1, D.1, t))) 1 (pAt D.2 : Nat) = wFlP (hereP (A0 tp) sz (dsFin b (rows + 1, D.1, t))) 1 (pAt D.2 : Nat) from if_pos z0]
            exact ⟨rfl, rfl⟩
        rw [hz.1, hz.2]
        exact ⟨by decide, by decide, q, hq⟩
      · have hT2 : ∀ j, j < b + 3 + 10 * rows → pT D.2 j = pT s j := fun j hj => hDV.2 j (Or.inl hj)
        have hT3 : ∀ j, j ≤ b ∨ b + 103 ≤ j → pT D.2 j = pT s j := fun j hj => hDV.2 j (by omega)
        have hB' := q5.e (gR_row (k := D.1) hw10 hT2 (by omega))
        rcases hv with ⟨rfl, h47, h10⟩ | ⟨rfl, h59⟩
        · have eE : dsEnd rows wide D = D.2 := if_neg hfull
          rw [eE, if_pos h10, if_pos h47] at eL
          rw [eL] at h
          cases r with
          | zero => omega
          | succ r =>
            refine ih r (by omega) (rows + 1) D.1 F' A' (incP (hereP (A0 tp) sz D.2)) (pAt D.2 + 1) (by omega) (by omega) (by omega) hD0 q1 q4 q3 (by omega) ?_ hB' hDV.1 ((kd.2.1 tp ht1 ht2).trans hA) (fun F2 A2 mo row ho => h F2 A2 mo row ⟨kd.tr ho.1, ?_⟩)
            · show sk (A0 tp) sz (pAt D.2 + 1) = sk (A0 tp) sz (sk (A0 tp) sz (pAt D.2) + 1)
              rw [hDa]
            · rcases ho.2 with z | ⟨z1, z2, z3, z4, z5, z6, z7, z8, z9, z10, z11⟩
              · exact Or.inl z
              · exact Or.inr ⟨z1, z2, z3, z4, z5, z6, z7, z8, z9, fun j y1 y2 => (z10 j y1 y2).trans (hT3 j y2), z11.trans (congrArg (· + 1) (hT3 0 (by omega)))⟩
        · obtain ⟨t, e, e0, e1, e2⟩ := hend hfull (by omega)
          refine c_des0 (by omega) (h F' A' 0 (rows + 1) ⟨kd, Or.inr ?_⟩)
          rw [e]
          have z0 : pFl (dsFin b (rows + 1, D.1, t)) = 0 := e0
          have zs : sk (A0 tp) sz (pAt (dsFin b (rows + 1, D.1, t))) = pAt D.2 := e1
          have zc : hereC (A0 tp) sz (dsFin b (rows + 1, D.1, t)) = hereC (A0 tp) sz D.2 := by rw [hhD]; exact congrArg (bt (A0 tp) sz) zs
          have em : mustP (A0 tp) sz 59 (dsFin b (rows + 1, D.1, t)) = wAtP (dsFin b (rows + 1, D.1, t)) (pAt D.2 + 1) := by
            unfold mustP
            rw [if_pos z0, if_pos (by rw [zc]; exact h59), zs]
          rw [em]
          have ft := dsFin_T (b := b) (p := (rows + 1, D.1, t)) hb
          have ft1 : ∀ j, j ≠ b + 1 → j ≠ b + 2 → j ≠ 0 → pT (dsFin b (rows + 1, D.1, t)) j = pT D.2 j := fun j y1 y2 y3 => (ft.1 j y1 y2 y3).trans (congrFun e2 j)
          have ft2 : pT (wAtP (dsFin b (rows + 1, D.1, t)) (pAt D.2 + 1)) (b + 1) = (D.1 : Int) := ft.2.1
          have ft3 : pT (wAtP (dsFin b (rows + 1, D.1, t)) (pAt D.2 + 1)) (b + 2) = ((rows + 1 : Nat) : Int) := ft.2.2.1
          rw [ft2, ft3]
          refine ⟨z0, q1, q2, q3, q4, by omega, by omega, hB'.e (gR_e (by omega) (by omega) (fun i _ => ft1 _ (by omega) (by omega) (by omega))), fun i hi => ?_, fun j y1 y2 => (ft1 j (by omega) (by omega) y1).trans (hT3 j y2), ft.2.2.2.trans (congrArg (· + 1) ((congrFun e2 0).trans (hT3 0 (by omega))))⟩
          show 0 ≤ pT (dsFin b (rows + 1, D.1, t)) (b + 3 + i) ∧ pT (dsFin b (rows + 1, D.1, t)) (b + 3 + i) ≤ 3
          rw [ft1 _ (by omega) (by omega) (by omega)]
          exact hDV.1 i hi
    refine Ex_step (tk_TR_readDesign rfl) ?_
    refine Ex_step (tk_TR_readDesign rfl) ?_
    refine Ex_step (tk_TR_readDesign rfl) ⟨fun h94 => ?_, fun h94 => ?_⟩
    · replace h94 : _ := h94
      first | exact absurd (show w32 (rows : Int) ≥ w32 10 from h94) (by rw [w32_id (by omega) (by omega), show w32 10 = 10 from rfl]; omega) | exact absurd (show w32 1 = w32 0 from h98) (by decide)
    · replace h94 : _ := h94
      refine Ex_step (tk_TR_readDesign rfl) ?_
      refine Ex_step (tk_TR_readDesign rfl) ⟨fun h98 => ?_, fun h98 => ?_⟩
      · replace h98 : _ := h98
        first | exact absurd (show w32 (rows : Int) ≥ w32 10 from h94) (by rw [w32_id (by omega) (by omega), show w32 10 = 10 from rfl]; omega) | exact absurd (show w32 1 = w32 0 from h98) (by decide)
      · replace h98 : _ := h98
        refine Ex_step (tk_TR_readDesign rfl) ?_
        refine Ex_step (tk_TR_readDesign rfl) ?_
        refine Ex_cVK (av := [vR a]) (tk_TR_readDesign rfl) mk_TR_readRow ⟨rfl, rfl, by decide, rfl, Nat.le_of_ble_eq_true rfl, Nat.le_of_ble_eq_true rfl⟩ (hk10) (hrow _ (fun v F' A' ho => ⟨rfl, ?_⟩))
        refine Ex_step (tk_TR_readDesign rfl) ?_
        refine Ex_step (tk_TR_readDesign rfl) ?_
        refine Ex_step (tk_TR_readDesign rfl) ?_
        exact after v F' A' ho
end CDesLoop
