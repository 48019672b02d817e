/-! ===== the class: one laid over the other ===== -/
section CLay
variable {d a b o t : Nat} {dx dy w h : Int} {f : Int → Int → Int} {m : Mem} {F A L : Nat → Nat → Int} {Q : Nat → Option AV → Mem → Prop}
set_option maxRecDepth 100000 in
theorem c_turnTo (hO : OW m o) (r322 : mFR m 322 o = b) (hB : DW m b) (hob : b + 3 ≤ o ∨ o + 43 ≤ b) (hG : DG F A b w h f) (hF : FG w h f) (ht : t < 8) (hq : ∀ A' : Nat → Nat → Int, (∀ j, j ≠ o + 39 → j ≠ o + 40 → j ≠ o + 42 → A' j = A j) → DB A' (o + 38) (tf w h f t) → DotR A' o (tf w h f t) → Q 0 none (CM m (upF (upF F 193 (o + 38) (tW w h t)) 194 (o + 38) (tH w h t)) A' L)) : Ex (d + 3) Ov_turnTo 0 [some (vR o), some (vI (t : Int)), none] [] (CM m F A L) Q := by
  have hk5 := hO.1
  have hr323 := hO.2.1
  have hD := hO.2.2.1
  have hr325 := hO.2.2.2.2.2.1
  have hr322 := r322
  generalize hFe : upF (upF F 193 (o + 38) (tW w h t)) 194 (o + 38) (tH w h t) = F1 at *
  have gf := (tf_FG hF t).b
  generalize hge : tf w h f t = g at *
  have hloop : ∀ (A1 : Nat → Nat → Int), (∀ j, j ≠ o + 38 + 1 → j ≠ o + 38 + 2 → A1 j = A j) → DB A1 (o + 38) g → ∀ (r y : Nat) (A' : Nat → Nat → Int), y + r = 10 → (∀ j, j ≠ o + 42 → A' j = A1 j) → (∀ y2 : Nat, y2 < y → RowI (A' (o + 42) y2) (fun x => g x (y2 : Int) = 2)) → Ex (d + 3) Ov_turnTo 14 [some (vR o), some (vI (t : Int)), some (vI (y : Int))] [] (CM m F1 A' L) Q := by
    intro A1 q1 q2 r
    induction r with
    | zero =>
      intro y A' hy k1 k2
      have : y = 10 := by omega
      subst this
      have hx := hq A' (fun j h1 h2 h3 => (k1 j h3).trans (q1 j h1 h2)) (fun y hy i hi => by rw [k1 (o + 38 + 1) (by omega), k1 (o + 38 + 2) (by omega)]; exact q2 y hy i hi) k2
      refine Ex_step (tk_Ov_turnTo rfl) ?_
      refine Ex_step (tk_Ov_turnTo rfl) ?_
      refine Ex_step (tk_Ov_turnTo rfl) ⟨fun h17 => ?_, fun h17 => ?_⟩
      · replace h17 : _ := h17
        refine Ex_step (tk_Ov_turnTo rfl) ⟨rfl, ?_⟩
        exact hx
      · replace h17 : _ := h17
        exact absurd (show w32 10 ≤ w32 10 from Int.le_refl _) h17
    | succ r ih =>
      intro y A' hy k1 k2
      have b1 := DB_dk q2 (y := y) (by omega)
      have b2 := DB_as q2 (y := y) (by omega)
      have rs : RowI (iAnd (A1 (o + 38 + 2) y) (iXor (A1 (o + 38 + 1) y) (-1))) (fun x => g x (y : Int) = 2) := RowI_c (RowI_and b2 (RowI_not b1)) (fun x => by have := (gf x (y : Int)).1; omega)
      have hnx := ih (y + 1) (up1 A' (o + 42) (up1 (A' (o + 42)) y (iAnd (A1 (o + 38 + 2) y) (iXor (A1 (o + 38 + 1) y) (-1))))) (by omega) (fun j hj => by rw [up1_ne _ _ hj]; exact k1 j hj) (fun y2 hy2 => by
        rw [up1_at]
        by_cases q : y2 = y
        · rw [q, up1_at]; exact rs
        · rw [up1_ne _ _ q]; exact k2 y2 (by omega))
      refine Ex_step (tk_Ov_turnTo rfl) ?_
      refine Ex_step (tk_Ov_turnTo rfl) ?_
      refine Ex_step (tk_Ov_turnTo rfl) ⟨fun h17 => ?_, fun h17 => ?_⟩
      · try simp (disch := omega) only [cmpI, w32_b2i, b2i_0, b2i_1, w32_id, Classical.not_not, not_true_eq_false, not_false_eq_true] at h17
        omega
      · try simp (disch := omega) only [cmpI, w32_b2i, b2i_0, b2i_1, w32_id, Classical.not_not, not_true_eq_false, not_false_eq_true] at h17
        refine Ex_step (tk_Ov_turnTo rfl) ?_
        refine gCR (tk_Ov_turnTo rfl) (hk5) (hr325) ?_
        refine Ex_step (tk_Ov_turnTo rfl) ?_
        refine Ex_step (tk_Ov_turnTo rfl) ?_
        refine gCR (tk_Ov_turnTo rfl) (hk5) (hr323) ?_
        refine gCR (tk_Ov_turnTo rfl) (hD.1) (hD.2.2.2.1) ?_
        refine Ex_step (tk_Ov_turnTo rfl) ?_
        refine lCI (n := y) (tk_Ov_turnTo rfl) (hD.2.2.2.2.2) (w32_id (by omega) (by omega)) (by omega) ?_
        rw [k1 (o + 38 + 2) (by omega)]
        refine Ex_step (tk_Ov_turnTo rfl) ?_
        refine gCR (tk_Ov_turnTo rfl) (hk5) (hr323) ?_
        refine gCR (tk_Ov_turnTo rfl) (hD.1) (hD.2.2.1) ?_
        refine Ex_step (tk_Ov_turnTo rfl) ?_
        refine lCI (n := y) (tk_Ov_turnTo rfl) (hD.2.2.2.2.1) (w32_id (by omega) (by omega)) (by omega) ?_
        rw [k1 (o + 38 + 1) (by omega)]
        refine Ex_step (tk_Ov_turnTo rfl) ?_
        refine Ex_step (tk_Ov_turnTo rfl) ?_
        refine Ex_step (tk_Ov_turnTo rfl) ?_
        refine tCI (n := y) (tk_Ov_turnTo rfl) (hO.2.2.2.2.2.2.1) (w32_id (by omega) (by omega)) (by omega) ?_
        refine Ex_step (tk_Ov_turnTo rfl) ?_
        refine Ex_step (tk_Ov_turnTo rfl) ?_
        exact hnx
  refine Ex_step (tk_Ov_turnTo rfl) ?_
  refine gCR (tk_Ov_turnTo rfl) (hk5) (hr323) ?_
  refine Ex_step (tk_Ov_turnTo rfl) ?_
  refine gCR (tk_Ov_turnTo rfl) (hk5) (hr322) ?_
  refine Ex_step (tk_Ov_turnTo rfl) ?_
  refine Ex_cVK (av := [vR b, vI (t : Int)]) (tk_Ov_turnTo rfl) mk_Des_copyTurned ⟨rfl, rfl, by decide, rfl, Nat.le_of_ble_eq_true rfl, Nat.le_of_ble_eq_true rfl⟩ (hD.1) (c_copyTurned (t := t) hD hB (by omega) hG hF ht (fun A1 q1 q2 => ⟨rfl, ?_⟩))
  refine Ex_step (tk_Ov_turnTo rfl) ?_
  refine Ex_step (tk_Ov_turnTo rfl) ?_
  rw [hge] at q2
  rw [hFe]
  exact hloop A1 q1 q2 10 0 A1 (by omega) (fun _ _ => rfl) (fun y2 h => absurd h (Nat.not_lt_zero y2))
abbrev pB (fa g : Int → Int → Int) (dx dy x y : Int) : Prop := fa x y = 1 ∧ (g (x - dx) (y - dy) = 1 ∨ g (x - dx) (y - dy) = 3)
abbrev pP (fa g : Int → Int → Int) (dx dy x y : Int) : Prop := (fa x y = 1 ∧ g (x - dx) (y - dy) = 2) ∨ ((fa x y = 2 ∨ fa x y = 3) ∧ (g (x - dx) (y - dy) = 1 ∨ g (x - dx) (y - dy) = 3))
set_option maxRecDepth 100000 in
theorem c_layR {wa ha tw th : Int} {fa g : Int → Int → Int} (hO : OW m o) (r321 : mFR m 321 o = a) (hA : DW m a) (ga : DG F A a wa ha fa) (fga : FG wa ha fa) (gt : DG F A (o + 38) tw th g) (fgt : FG tw th g) (hS : SolR A o fa) (hDo : DotR A o g) (hdx : -20 ≤ dx ∧ dx ≤ 20) (hdy : -20 ≤ dy ∧ dy ≤ 20) {y u v : Int} (hy : (0 ≤ y ∧ y < ha) ∧ 0 ≤ y - dy ∧ y - dy < th) {e : Int} {l7 l8 : Option AV} (hq : ∀ l7 l8 : Option AV, Ex (d + 1) Ov_lay 121 [some (vR o), some (vI dx), some (vI dy), some (vI (u + sI (fun x => oI (pB fa g dx dy x y)) 0 10)), some (vI (v + sI (fun x => oI (pP fa g dx dy x y)) 0 10)), some (vI e), some (vI y), l7, l8] [] (CM m F A L) Q) : Ex (d + 1) Ov_lay 40 [some (vR o), some (vI dx), some (vI dy), some (vI u), some (vI v), some (vI e), some (vI y), l7, l8] [] (CM m F A L) Q := by
  have hk5 := hO.1
  have hr321 := r321
  have hr323 := hO.2.1
  have hD := hO.2.2.1
  have hr324 := hO.2.2.2.1
  have hr325 := hO.2.2.2.2.2.1
  have s1 := fga.1
  have s2 := fgt.1
  have na := fun x z => fga.b x z
  have ng := fun x z => fgt.b x z
  have b1 := DB_dk gt.2.2 (y := (y - dy).toNat) (by omega)
  have b2 := hDo (y - dy).toNat (by omega)
  have b3 := hS y.toNat (by omega)
  have b4 := DB_as ga.2.2 (y := y.toNat) (by omega)
  rw [show (((y - dy).toNat : Nat) : Int) = y - dy by omega] at b1 b2
  rw [show ((y.toNat : Nat) : Int) = y by omega] at b3 b4
  have h89 : ∀ (v1 v2 : Int), RowI v1 (fun x => 0 ≤ x ∧ (g (x - dx) (y - dy) = 1 ∨ g (x - dx) (y - dy) = 3)) → RowI v2 (fun x => 0 ≤ x ∧ g (x - dx) (y - dy) = 2) → ∀ l8 : Option AV, Ex (d + 1) Ov_lay 87 [some (vR o), some (vI dx), some (vI dy), some (vI (u + sI (fun x => oI (pB fa g dx dy x y)) 0 10)), some (vI v), some (vI e), some (vI y), some (vI v1), l8] [vI v2] (CM m F A L) Q := by
    intro v1 v2 q1 q2 l8
    have n2 : ((bc (u32 (iOr (iAnd (A (o + 41) y.toNat) v2) (iAnd (A (a + 2) y.toNat) v1))) 32 : Nat) : Int) = sI (fun x => oI (pP fa g dx dy x y)) 0 10 := by
      have rr : RowI (iOr (iAnd (A (o + 41) y.toNat) v2) (iAnd (A (a + 2) y.toNat) v1)) (fun x => pP fa g dx dy x y) := RowI_c (RowI_or (RowI_and b3 q2) (RowI_and b4 q1)) (fun x => by have := (na x y).2; omega)
      rw [RowI_n rr]
      exact row_10 (fun x z => ((na x y).2 (by unfold pP at z; omega)).1)
    have hx := hq (some (vI v1)) (some (vI v2))
    rw [← n2] at hx
    refine Ex_step (tk_Ov_lay rfl) ?_
    refine Ex_step (tk_Ov_lay rfl) ?_
    refine Ex_step (tk_Ov_lay rfl) ?_
    refine gCR (tk_Ov_lay rfl) (hk5) (hr324) ?_
    refine Ex_step (tk_Ov_lay rfl) ?_
    refine lCI (n := y.toNat) (tk_Ov_lay rfl) (hO.2.2.2.2.1) (by rw [w32_id (by omega) (by omega)]; omega) (by omega) ?_
    refine Ex_step (tk_Ov_lay rfl) ?_
    refine Ex_step (tk_Ov_lay rfl) ?_
    refine Ex_step (tk_Ov_lay rfl) ?_
    refine gCR (tk_Ov_lay rfl) (hk5) (hr321) ?_
    refine gCR (tk_Ov_lay rfl) (hA.1) (hA.2.2.2.1) ?_
    refine Ex_step (tk_Ov_lay rfl) ?_
    refine lCI (n := y.toNat) (tk_Ov_lay rfl) (hA.2.2.2.2.2) (by rw [w32_id (by omega) (by omega)]; omega) (by omega) ?_
    refine Ex_step (tk_Ov_lay rfl) ?_
    refine Ex_step (tk_Ov_lay rfl) ?_
    refine Ex_step (tk_Ov_lay rfl) ?_
    refine Ex_cS0 (av := [vI (iOr (iAnd (A (o + 41) y.toNat) v2) (iAnd (A (a + 2) y.toNat) v1))]) (tk_Ov_lay rfl) mk_Int_bitCount ⟨rfl, by decide, rfl, rfl, rfl, Nat.le_of_ble_eq_true rfl, Nat.le_of_ble_eq_true rfl⟩ (fun _ h => e_bitI h) ?_
    refine Ex_step (tk_Ov_lay rfl) ?_
    refine Ex_step (tk_Ov_lay rfl) ?_
    exact hx
  have h56 : ∀ (v1 : Int), RowI v1 (fun x => 0 ≤ x ∧ (g (x - dx) (y - dy) = 1 ∨ g (x - dx) (y - dy) = 3)) → Ex (d + 1) Ov_lay 56 [some (vR o), some (vI dx), some (vI dy), some (vI u), some (vI v), some (vI e), some (vI y), l7, l8] [vI v1] (CM m F A L) Q := by
    intro v1 q1
    have n1 : ((bc (u32 (iAnd (A (o + 41) y.toNat) v1)) 32 : Nat) : Int) = sI (fun x => oI (pB fa g dx dy x y)) 0 10 := by
      have rr : RowI (iAnd (A (o + 41) y.toNat) v1) (fun x => pB fa g dx dy x y) := RowI_c (RowI_and b3 q1) (fun x => by have := (na x y).2; omega)
      rw [RowI_n rr]
      exact row_10 (fun x z => ((na x y).2 (by unfold pB at z; omega)).1)
    rw [← n1] at h89
    refine Ex_step (tk_Ov_lay rfl) ?_
    refine Ex_step (tk_Ov_lay rfl) ?_
    refine Ex_step (tk_Ov_lay rfl) ?_
    refine gCR (tk_Ov_lay rfl) (hk5) (hr324) ?_
    refine Ex_step (tk_Ov_lay rfl) ?_
    refine lCI (n := y.toNat) (tk_Ov_lay rfl) (hO.2.2.2.2.1) (by rw [w32_id (by omega) (by omega)]; omega) (by omega) ?_
    refine Ex_step (tk_Ov_lay rfl) ?_
    refine Ex_step (tk_Ov_lay rfl) ?_
    refine Ex_cS0 (av := [vI (iAnd (A (o + 41) y.toNat) v1)]) (tk_Ov_lay rfl) mk_Int_bitCount ⟨rfl, by decide, rfl, rfl, rfl, Nat.le_of_ble_eq_true rfl, Nat.le_of_ble_eq_true rfl⟩ (fun _ h => e_bitI h) ?_
    refine Ex_step (tk_Ov_lay rfl) ?_
    refine Ex_step (tk_Ov_lay rfl) ?_
    refine Ex_step (tk_Ov_lay rfl) ?_
    refine gCR (tk_Ov_lay rfl) (hk5) (hr325) ?_
    refine Ex_step (tk_Ov_lay rfl) ?_
    refine Ex_step (tk_Ov_lay rfl) ?_
    refine Ex_step (tk_Ov_lay rfl) ?_
    refine lCI (n := (y - dy).toNat) (tk_Ov_lay rfl) (hO.2.2.2.2.2.2.1) (by rw [w32_id (by omega) (by omega)]; omega) (by omega) ?_
    refine Ex_step (tk_Ov_lay rfl) ?_
    refine Ex_cSK (av := [vI (A (o + 42) (y - dy).toNat), vI dx]) (tk_Ov_lay rfl) mk_Ov_shifted ⟨rfl, by decide, rfl, rfl, rfl, Nat.le_of_ble_eq_true rfl, Nat.le_of_ble_eq_true rfl⟩ (c_shifted b2 (fun x z => ((ng x (y - dy)).2 (by omega)).1) hdx (fun v2 q2 => ⟨rfl, ?_⟩))
    exact h89 v1 v2 q1 q2 _
  refine Ex_step (tk_Ov_lay rfl) ?_
  refine gCR (tk_Ov_lay rfl) (hk5) (hr323) ?_
  refine gCR (tk_Ov_lay rfl) (hD.1) (hD.2.2.1) ?_
  refine Ex_step (tk_Ov_lay rfl) ?_
  refine Ex_step (tk_Ov_lay rfl) ?_
  refine Ex_step (tk_Ov_lay rfl) ?_
  refine lCI (n := (y - dy).toNat) (tk_Ov_lay rfl) (hD.2.2.2.2.1) (by rw [w32_id (by omega) (by omega)]; omega) (by omega) ?_
  refine Ex_step (tk_Ov_lay rfl) ?_
  refine Ex_cSK (av := [vI (A (o + 38 + 1) (y - dy).toNat), vI dx]) (tk_Ov_lay rfl) mk_Ov_shifted ⟨rfl, by decide, rfl, rfl, rfl, Nat.le_of_ble_eq_true rfl, Nat.le_of_ble_eq_true rfl⟩ (c_shifted b1 (fun x z => ((ng x (y - dy)).2 (by omega)).1) hdx (fun v1 q1 => ⟨rfl, ?_⟩))
  exact h56 v1 q1
end CLay
