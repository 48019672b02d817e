/-! ===== the law: its loop ===== -/
section LoopL
variable {d sn : Nat} {S : Nat → Int} {Q : Nat → Option AV → Mem → Prop}
set_option maxRecDepth 100000 in
theorem LV.mono {k : Nat} {M : Mem} {I : Nat → Int} {R : Nat → Nat → Int} (h : LV sn S k M I R) : LV sn S (k + 1) M I R := by
  obtain ⟨h1, h2, h3, h4, h5, h6, h7, h8⟩ := h
  exact ⟨h1, h2, h3, h4, h5, h6, by omega, by omega⟩
set_option maxRecDepth 100000 in
theorem lLen {y pc nx z : Nat} {rs : List Nat} {c0 : Int} {ls : Ls} {r : List AV} {M : Mem} {S : Nat → Int} (hk : okE y pc (.arraylength, nx, rs, c0)) (h1 : mK M 1 = 13 ∧ mLen M 1 = z ∧ mAI M 1 = S) (h : Ex d y nx ls (vI (z : Int) :: r) M Q) : Ex d y pc ls (vR 1 :: r) M Q := by
  refine Ex_step hk ⟨Or.inl h1.1, ?_⟩
  rw [h1.2.1]
  exact h
set_option maxRecDepth 100000 in
theorem law_sw {k i : Nat} {M : Mem} {I : Nat → Int} {R : Nat → Nat → Int} {l5 l6 : Option AV} (x : Int) (h : LV sn S k M I R) (hS : ∀ j, okI (S j)) (hi : i + 7 ≤ sn) (hsn : sn ≤ 3584) (hn : Nxt d sn S k i Q) : Ex (d + 58) Law_law (tsw 0 17 [1145, 128, 201, 257, 270, 362, 430, 486, 499, 555, 623, 703, 821, 901, 969, 1037, 1093, 1106, 1120] x) [some (vR 1), some (vR 100), some (vR 362), some (vR 386), some (vI (i : Int)), l5, l6] [] M Q := by
  by_cases q : x < 0 ∨ 17 < x
  · have et : tsw 0 17 [1145, 128, 201, 257, 270, 362, 430, 486, 499, 555, 623, 703, 821, 901, 969, 1037, 1093, 1106, 1120] x = 1145 := if_pos q
    rw [et]
    exact hn M I R l5 l6 h.mono
  · have e : ∃ n : Nat, x = (n : Int) ∧ n < 18 := ⟨x.toNat, by omega, by omega⟩
    obtain ⟨n, rfl, hlt⟩ := e
    have et : tsw 0 17 [1145, 128, 201, 257, 270, 362, 430, 486, 499, 555, 623, 703, 821, 901, 969, 1037, 1093, 1106, 1120] (n : Int) = [1145, 128, 201, 257, 270, 362, 430, 486, 499, 555, 623, 703, 821, 901, 969, 1037, 1093, 1106, 1120].getD (n + 1) 0 := by
      unfold tsw
      rw [if_neg q, show ((n : Int) - 0).toNat = n by omega]
    rw [et]
    have hc : n = 0 ∨ n = 1 ∨ n = 2 ∨ n = 3 ∨ n = 4 ∨ n = 5 ∨ n = 6 ∨ n = 7 ∨ n = 8 ∨ n = 9 ∨ n = 10 ∨ n = 11 ∨ n = 12 ∨ n = 13 ∨ n = 14 ∨ n = 15 ∨ n = 16 ∨ n = 17 := by omega
    rcases hc with rfl | rfl | rfl | rfl | rfl | rfl | rfl | rfl | rfl | rfl | rfl | rfl | rfl | rfl | rfl | rfl | rfl | rfl
    · exact op_feed h hi hsn hn
    · exact op_text h hS hi hsn hn
    · exact op_fault h hn
    · exact op_paint h hS hi hsn hn
    · exact op_day h hS hi hsn hn
    · exact op_drop h hS hi hsn hn
    · exact op_undo h hn
    · exact op_told h hS hi hsn hn
    · exact op_of h hS hi hsn hn
    · exact op_cell h hS hi hsn hn
    · exact op_over h hS hi hsn hn
    · exact op_best h hS hi hsn hn
    · exact op_prior h hS hi hsn hn
    · exact op_infringes h hS hi hsn hn
    · exact op_nearest h hS hi hsn hn
    · exact op_groups h hn
    · exact op_print h hn
    · exact op_status h hS hi hsn hn
set_option maxRecDepth 100000 in
theorem law_body {k i : Nat} {M : Mem} {I : Nat → Int} {R : Nat → Nat → Int} {l5 l6 : Option AV} (h : LV sn S k M I R) (hS : ∀ j, okI (S j)) (hi : i ≤ sn) (hsn : sn ≤ 3584) (hend : Q 0 (some (vI 1)) M) (hn : i + 7 ≤ sn → Nxt d sn S k i Q) : Ex (d + 58) Law_law 23 [some (vR 1), some (vR 100), some (vR 362), some (vR 386), some (vI (i : Int)), l5, l6] [] M Q := by
  have h6 := h.2.2.2.2.2.1
  have w1 : w32 (i : Int) = (i : Int) := w32_id (by omega) (by omega)
  have w2 : w32 ((sn : Int) - 7) = (sn : Int) - 7 := w32_id (by omega) (by omega)
  refine Ex_step (tk_Law_law rfl) ?_
  refine Ex_step (tk_Law_law rfl) ?_
  refine lLen (tk_Law_law rfl) h6 ?_
  refine Ex_step (tk_Law_law rfl) ?_
  refine Ex_step (tk_Law_law rfl) ?_
  refine Ex_step (tk_Law_law rfl) ⟨fun h30 => ?_, fun h30 => ?_⟩
  · replace h30 : _ := h30
    refine Ex_step (tk_Law_law rfl) ?_
    refine Ex_step (tk_Law_law rfl) ⟨rfl, by first | exact Or.inl rfl | exact Or.inr rfl | exact b2i_01 _ | assumption, ?_⟩
    exact hend
  · replace h30 : _ := h30
    refine Ex_step (tk_Law_law rfl) ?_
    refine Ex_step (tk_Law_law rfl) ?_
    refine lCS (n := i) (tk_Law_law rfl) h6 w1 (by have z : ¬ w32 ((sn : Int) - 7) < w32 (i : Int) := h30; omega) ?_
    refine Ex_step (tk_Law_law rfl) ?_
    refine Ex_step (tk_Law_law rfl) ?_
    refine Ex_step (tk_Law_law rfl) ?_
    exact law_sw (w32 (iAnd (S i) 31)) h hS (by have z : ¬ w32 ((sn : Int) - 7) < w32 (i : Int) := h30; omega) hsn (hn (by have z : ¬ w32 ((sn : Int) - 7) < w32 (i : Int) := h30; omega))
set_option maxRecDepth 100000 in
theorem law_loop (hS : ∀ j, okI (S j)) (hsn : sn ≤ 3584) (hend : ∀ (k : Nat) (M : Mem) (I : Nat → Int) (R : Nat → Nat → Int), LV sn S k M I R → k ≤ 512 → Q 0 (some (vI 1)) M) : ∀ (n k : Nat) (M : Mem) (I : Nat → Int) (R : Nat → Nat → Int) (l5 l6 : Option AV), LV sn S k M I R → 7 * k ≤ sn → sn ≤ 7 * k + n → Ex (d + 58) Law_law 23 [some (vR 1), some (vR 100), some (vR 362), some (vR 386), some (vI ((7 * k : Nat) : Int)), l5, l6] [] M Q := by
  intro n
  induction n with
  | zero =>
    intro k M I R l5 l6 h hk hn
    exact law_body h hS hk hsn (hend k M I R h (by omega)) (fun c => absurd c (by omega))
  | succ n ih =>
    intro k M I R l5 l6 h hk hn
    refine law_body h hS hk hsn (hend k M I R h (by omega)) (fun c => ?_)
    intro M' I' R' l5' l6' h'
    have z := ih (k + 1) M' I' R' l5' l6' h' (by omega) (by omega)
    refine Ex_step (tk_Law_law rfl) ?_
    refine Ex_step (tk_Law_law rfl) ?_
    exact z
end LoopL
