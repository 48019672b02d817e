/-! ===== the class: a row of a design is read ===== -/
section CRow
variable {d rr tp sz p : Nat} {m : Mem} {F A L : Nat → Nat → Int} {Q : Nat → Option AV → Mem → Prop}
set_option maxRecDepth 100000 in
theorem c_sortOf {c : Int} (hc : -1 ≤ c ∧ c ≤ 255) (h : Q 0 (some (vI (sortC c))) m) : Ex d TR_sortOf 0 [some (vI c)] [] m Q := by
  have e : w32 c = c := w32_id (by omega) (by omega)
  refine Ex_step (tk_TR_sortOf rfl) ?_
  refine Ex_step (tk_TR_sortOf rfl) ?_
  show Ex d TR_sortOf (lsw [35, 46, 46, 44, 111, 48, 116, 50] 52 (w32 c)) _ _ _ Q
  rw [e]
  by_cases q : c = 35 ∨ c = 46 ∨ c = 111 ∨ c = 116
  · rcases q with rfl | rfl | rfl | rfl
    · show Ex d TR_sortOf 46 _ [] _ Q
      refine Ex_step (tk_TR_sortOf rfl) ?_
      refine Ex_step (tk_TR_sortOf rfl) ⟨rfl, ?_⟩
      exact h
    · show Ex d TR_sortOf 44 _ [] _ Q
      refine Ex_step (tk_TR_sortOf rfl) ?_
      refine Ex_step (tk_TR_sortOf rfl) ⟨rfl, ?_⟩
      exact h
    · show Ex d TR_sortOf 48 _ [] _ Q
      refine Ex_step (tk_TR_sortOf rfl) ?_
      refine Ex_step (tk_TR_sortOf rfl) ⟨rfl, ?_⟩
      exact h
    · show Ex d TR_sortOf 50 _ [] _ Q
      refine Ex_step (tk_TR_sortOf rfl) ?_
      refine Ex_step (tk_TR_sortOf rfl) ⟨rfl, ?_⟩
      exact h
  · rw [show lsw [35, 46, 46, 44, 111, 48, 116, 50] 52 c = 52 by
      unfold lsw
      rw [if_neg (by omega)]
      unfold lsw
      rw [if_neg (by omega)]
      unfold lsw
      rw [if_neg (by omega)]
      unfold lsw
      rw [if_neg (by omega)]
      rfl]
    rw [show sortC c = -1 by unfold sortC; rw [if_neg (by omega), if_neg (by omega), if_neg (by omega), if_neg (by omega)]] at h
    refine Ex_step (tk_TR_sortOf rfl) ?_
    refine Ex_step (tk_TR_sortOf rfl) ⟨rfl, ?_⟩
    exact h
end CRow
