/-! ===== the reference: freedom ===== -/
section MFree
variable {d dd : Nat} {i : Int} {m : Mem} {I : Nat → Int} {A L : Nat → Nat → Int} {Q : Nat → Option AV → Mem → Prop}
set_option maxRecDepth 100000 in
theorem cntS_b {T : Nat → Int} {dd : Nat} (h : DsW T dd) (so : Int) : 0 ≤ cntS T dd so ∧ cntS T dd so ≤ 100 := by
  have hw := h.2.1
  have hh := h.2.2.1
  have := cntA_b T dd so (w := (T (bD dd + 1)).toNat) (by omega) (T (bD dd + 2)).toNat
  unfold cntS
  omega
set_option maxRecDepth 100000 in
theorem iDiv_nn {x y : Int} (hx : 0 ≤ x) (hx2 : x ≤ 2147483647) (hy : 1 ≤ y) (hy2 : y ≤ 2147483647) : iDiv x y = x / y := by
  have h1 : 0 ≤ x / y := Int.ediv_nonneg hx (by omega)
  have h2 : x / y ≤ x := Int.ediv_le_self y hx
  have ex : (Int32.ofInt x).toInt = x := w32_id (by omega) (by omega)
  have ey : (Int32.ofInt y).toInt = y := w32_id (by omega) (by omega)
  unfold iDiv
  rw [Int32.toInt_div, ex, ey, Int.tdiv_eq_ediv_of_nonneg hx, Int.bmod_eq_of_le (by omega) (by omega)]
set_option maxRecDepth 100000 in
theorem f_freedomOf (hM : MW m) (hd : dd ≤ 5) (hi : i = (dd : Int)) (hW : DsW (A 3) dd) (h : Q 0 (some (vI (1000 * (cntS (A 3) dd 0 + cntS (A 3) dd 1) / (A 3 (bD dd + 1) * A 3 (bD dd + 2))))) (MS m I A L)) : Ex (d + 3) M_freedomOf 0 [some (vR aM), some (vI i)] [] (MS m I A L) Q := by
  have hw := hW.2.1
  have hh := hW.2.2.1
  have c0 := cntS_b hW 0
  have c1 := cntS_b hW 1
  have p1 : 1 ≤ A 3 (bD dd + 1) * A 3 (bD dd + 2) := Int.mul_pos (by omega) (by omega)
  have p2 : A 3 (bD dd + 1) * A 3 (bD dd + 2) ≤ 100 := Int.le_trans (Int.mul_le_mul hw.2 hh.2 (by omega) (by decide)) (by decide)
  have e : iDiv (1000 * (cntS (A 3) dd 0 + cntS (A 3) dd 1)) (A 3 (bD dd + 1) * A 3 (bD dd + 2)) = 1000 * (cntS (A 3) dd 0 + cntS (A 3) dd 1) / (A 3 (bD dd + 1) * A 3 (bD dd + 2)) := iDiv_nn (by omega) (by omega) p1 (by omega)
  refine Ex_step (tk_M_freedomOf rfl) ?_
  refine Ex_step (tk_M_freedomOf rfl) ?_
  refine Ex_step (tk_M_freedomOf rfl) ?_
  refine Ex_step (tk_M_freedomOf rfl) ?_
  refine Ex_cV0 (av := [vI i, vI 0]) (tk_M_freedomOf rfl) mk_M_countOf ⟨rfl, rfl, by decide, rfl, Nat.le_of_ble_eq_true rfl, Nat.le_of_ble_eq_true rfl⟩ (hM.k) (fun _ h => f_countOf hM hd hi hW (by decide) h) ?_
  refine Ex_step (tk_M_freedomOf rfl) ?_
  refine Ex_step (tk_M_freedomOf rfl) ?_
  refine Ex_step (tk_M_freedomOf rfl) ?_
  refine Ex_cV0 (av := [vI i, vI 1]) (tk_M_freedomOf rfl) mk_M_countOf ⟨rfl, rfl, by decide, rfl, Nat.le_of_ble_eq_true rfl, Nat.le_of_ble_eq_true rfl⟩ (hM.k) (fun _ h => f_countOf hM hd hi hW (by decide) h) ?_
  refine Ex_step (tk_M_freedomOf rfl) ?_
  refine Ex_step (tk_M_freedomOf rfl) ?_
  refine Ex_step (tk_M_freedomOf rfl) ?_
  refine Ex_step (tk_M_freedomOf rfl) ?_
  refine Ex_cV0 (av := [vI i]) (tk_M_freedomOf rfl) mk_M_wideOf ⟨rfl, rfl, by decide, rfl, Nat.le_of_ble_eq_true rfl, Nat.le_of_ble_eq_true rfl⟩ (hM.k) (fun _ h => f_wideOf hM hd hi h) ?_
  refine Ex_step (tk_M_freedomOf rfl) ?_
  refine Ex_step (tk_M_freedomOf rfl) ?_
  refine Ex_cV0 (av := [vI i]) (tk_M_freedomOf rfl) mk_M_highOf ⟨rfl, rfl, by decide, rfl, Nat.le_of_ble_eq_true rfl, Nat.le_of_ble_eq_true rfl⟩ (hM.k) (fun _ h => f_highOf hM hd hi h) ?_
  refine Ex_step (tk_M_freedomOf rfl) ?_
  refine Ex_step (tk_M_freedomOf rfl) ⟨by rw [w32_id (by omega) (by omega)]; omega, ?_⟩
  refine Ex_step (tk_M_freedomOf rfl) ⟨rfl, ?_⟩
  rw [e]
  exact h
end MFree
