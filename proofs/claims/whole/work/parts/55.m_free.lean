/-! ===== the reference: freedom ===== -/
section MFree
variable {d dd : Nat} {i : Int} {m : Mem} {I : Nat → Int} {A L : Nat → Nat → Int} {Q : Nat → Option AV → Mem → Prop}
set_option maxRecDepth 100000 in
theorem cntS_b {T : Nat → Int} {dd : Nat} (h : DsW T dd) (so : Int) : 0 ≤ cntS T dd so ∧ cntS T dd so ≤ 100 := by
  have hw := h.2.1
  have hh := h.2.2.1
  have := cntA_b T dd so (w := (T (bD dd + 1)).toNat) (by omega) (T (bD dd + 2)).toNat
  unfold cntS
  omega
end MFree
