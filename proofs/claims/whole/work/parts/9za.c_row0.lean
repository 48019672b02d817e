/-! ===== the class: a row's begin ===== -/
section CRow0
variable {d tr a y w : Nat} {m : Mem} {F A L : Nat → Nat → Int} {Q : Nat → Option AV → Mem → Prop}
set_option maxRecDepth 100000 in
theorem c_row0 (hk3 : mK m a = 3) (hy : y ≤ 10) (hF : F 194 a = (y : Int)) (hw : F 193 a = (w : Int)) (h1 : y = 0 → Ex d TR_readRow 30 [some (vR tr), some (vR a), some (vI 1), some (vI ((10 : Nat) : Int)), some (vI ((0 : Nat) : Int)), none, none, none] [] (CM m F A L) Q) (h2 : y ≠ 0 → Ex d TR_readRow 30 [some (vR tr), some (vR a), some (vI 0), some (vI (w : Int)), some (vI ((0 : Nat) : Int)), none, none, none] [] (CM m F A L) Q) : Ex d TR_readRow 0 [some (vR tr), some (vR a), none, none, none, none, none, none] [] (CM m F A L) Q := by
  have hwy : w32 (y : Int) = (y : Int) := w32_id (by omega) (by omega)
  have h0w : w32 (0 : Int) = 0 := rfl
  refine Ex_step (tk_TR_readRow rfl) ?_
  refine gCI (tk_TR_readRow rfl) (hk3) ?_
  rw [hF]
  refine Ex_step (tk_TR_readRow rfl) ⟨fun h4 => ?_, fun h4 => ?_⟩
  · replace h4 : _ := h4
    refine Ex_step (tk_TR_readRow rfl) ?_
    refine Ex_step (tk_TR_readRow rfl) ?_
    refine Ex_step (tk_TR_readRow rfl) ?_
    refine Ex_step (tk_TR_readRow rfl) ⟨fun h14 => ?_, fun h14 => ?_⟩
    · replace h14 : _ := h14
      refine Ex_step (tk_TR_readRow rfl) ?_
      refine gCI (tk_TR_readRow rfl) (hk3) ?_
      try rw [hw]
      refine Ex_step (tk_TR_readRow rfl) ?_
      refine Ex_step (tk_TR_readRow rfl) ?_
      refine Ex_step (tk_TR_readRow rfl) ?_
      first | exact h1 (by have e : w32 (y : Int) = w32 0 := Classical.not_not.mp h4; omega) | exact h2 (by have e : ¬ w32 (y : Int) = w32 0 := h4; omega) | exact absurd (show w32 1 = w32 0 from h14) (by decide) | exact absurd rfl h14
    · replace h14 : _ := h14
      refine Ex_step (tk_TR_readRow rfl) ?_
      refine Ex_step (tk_TR_readRow rfl) ?_
      try rw [hw]
      refine Ex_step (tk_TR_readRow rfl) ?_
      refine Ex_step (tk_TR_readRow rfl) ?_
      refine Ex_step (tk_TR_readRow rfl) ?_
      first | exact h1 (by have e : w32 (y : Int) = w32 0 := Classical.not_not.mp h4; omega) | exact h2 (by have e : ¬ w32 (y : Int) = w32 0 := h4; omega) | exact absurd (show w32 1 = w32 0 from h14) (by decide) | exact absurd rfl h14
  · replace h4 : _ := h4
    refine Ex_step (tk_TR_readRow rfl) ?_
    refine Ex_step (tk_TR_readRow rfl) ?_
    refine Ex_step (tk_TR_readRow rfl) ?_
    refine Ex_step (tk_TR_readRow rfl) ?_
    refine Ex_step (tk_TR_readRow rfl) ⟨fun h14 => ?_, fun h14 => ?_⟩
    · replace h14 : _ := h14
      refine Ex_step (tk_TR_readRow rfl) ?_
      refine gCI (tk_TR_readRow rfl) (hk3) ?_
      try rw [hw]
      refine Ex_step (tk_TR_readRow rfl) ?_
      refine Ex_step (tk_TR_readRow rfl) ?_
      refine Ex_step (tk_TR_readRow rfl) ?_
      first | exact h1 (by have e : w32 (y : Int) = w32 0 := Classical.not_not.mp h4; omega) | exact h2 (by have e : ¬ w32 (y : Int) = w32 0 := h4; omega) | exact absurd (show w32 1 = w32 0 from h14) (by decide) | exact absurd rfl h14
    · replace h14 : _ := h14
      refine Ex_step (tk_TR_readRow rfl) ?_
      refine Ex_step (tk_TR_readRow rfl) ?_
      try rw [hw]
      refine Ex_step (tk_TR_readRow rfl) ?_
      refine Ex_step (tk_TR_readRow rfl) ?_
      refine Ex_step (tk_TR_readRow rfl) ?_
      first | exact h1 (by have e : w32 (y : Int) = w32 0 := Classical.not_not.mp h4; omega) | exact h2 (by have e : ¬ w32 (y : Int) = w32 0 := h4; omega) | exact absurd (show w32 1 = w32 0 from h14) (by decide) | exact absurd rfl h14
end CRow0
