/-! ===== the class: words of a rule ===== -/
abbrev wdP (f : Nat → Int) (sz w p : Nat) : Prop := wordAt f sz p (wn w) (wg w)
section CWords
variable {d rr tp sz p fl : Nat} {pc_ : Int} {m : Mem} {F A L : Nat → Nat → Int} {Q : Nat → Option AV → Mem → Prop}
set_option maxRecDepth 100000 in
theorem c_takeFact (hk7 : mK m rr = 7) (hr448 : mFR m 448 rr = rr + 1) (hW : ScW m (rr + 1) tp) (hS : ScF F (rr + 1) sz p fl pc_) (hsz : sz ≤ 800) (hp : p ≤ sz) (hf : byts (A tp)) (hC : CLow m F A L) (h3 : wdP (A tp) sz 3 p → Q 0 (some (vI (-1))) (CM m (upF F 514 (rr + 1) ((p + wn 3 : Nat) : Int)) A L)) (h4 : ¬ wdP (A tp) sz 3 p → wdP (A tp) sz 4 p → Q 0 (some (vI (-2))) (CM m (upF F 514 (rr + 1) ((p + wn 4 : Nat) : Int)) A L)) (h5 : ¬ wdP (A tp) sz 3 p → ¬ wdP (A tp) sz 4 p → wdP (A tp) sz 5 p → Q 0 (some (vI (-3))) (CM m (upF F 514 (rr + 1) ((p + wn 5 : Nat) : Int)) A L)) (h6 : ¬ wdP (A tp) sz 3 p → ¬ wdP (A tp) sz 4 p → ¬ wdP (A tp) sz 5 p → wdP (A tp) sz 6 p → Q 0 (some (vI (-4))) (CM m (upF F 514 (rr + 1) ((p + wn 6 : Nat) : Int)) A L)) (h7 : ¬ wdP (A tp) sz 3 p → ¬ wdP (A tp) sz 4 p → ¬ wdP (A tp) sz 5 p → ¬ wdP (A tp) sz 6 p → wdP (A tp) sz 7 p → Q 0 (some (vI (-5))) (CM m (upF F 514 (rr + 1) ((p + wn 7 : Nat) : Int)) A L)) (h0 : ¬ wdP (A tp) sz 3 p → ¬ wdP (A tp) sz 4 p → ¬ wdP (A tp) sz 5 p → ¬ wdP (A tp) sz 6 p → ¬ wdP (A tp) sz 7 p → Q 0 (some (vI 0)) (CM m F A L)) : Ex (d + 6) RR_takeFact 0 [some (vR rr)] [] (CM m F A L) Q := by
  have hk8 := hW.1
  have y7 : ¬ wdP (A tp) sz 3 p → ¬ wdP (A tp) sz 4 p → ¬ wdP (A tp) sz 5 p → ¬ wdP (A tp) sz 6 p → wdP (A tp) sz 7 p → Ex (d + 6) RR_takeFact 68 [some (vR rr)] [vI 1] (CM m (upF F 514 (rr + 1) ((p + wn 7 : Nat) : Int)) A L) Q := by
    intro n3 n4 n5 n6 hw
    have hx := h7 n3 n4 n5 n6 hw
    refine Ex_step (tk_RR_takeFact rfl) ⟨fun h68 => ?_, fun h68 => ?_⟩
    · replace h68 : _ := h68
      exact absurd (show w32 1 = w32 0 from h68) (by decide)
    · replace h68 : _ := h68
      refine Ex_step (tk_RR_takeFact rfl) ?_
      refine Ex_step (tk_RR_takeFact rfl) ?_
      refine Ex_step (tk_RR_takeFact rfl) ⟨rfl, ?_⟩
      exact hx
  have z7 : ¬ wdP (A tp) sz 3 p → ¬ wdP (A tp) sz 4 p → ¬ wdP (A tp) sz 5 p → ¬ wdP (A tp) sz 6 p → ¬ wdP (A tp) sz 7 p → Ex (d + 6) RR_takeFact 68 [some (vR rr)] [vI 0] (CM m F A L) Q := by
    intro n3 n4 n5 n6 hw
    have hx := h0 n3 n4 n5 n6 hw
    refine Ex_step (tk_RR_takeFact rfl) ⟨fun h68 => ?_, fun h68 => ?_⟩
    · replace h68 : _ := h68
      refine Ex_step (tk_RR_takeFact rfl) ?_
      refine Ex_step (tk_RR_takeFact rfl) ⟨rfl, ?_⟩
      exact hx
    · replace h68 : _ := h68
      exact absurd rfl h68
  have g7 : ¬ wdP (A tp) sz 3 p → ¬ wdP (A tp) sz 4 p → ¬ wdP (A tp) sz 5 p → ¬ wdP (A tp) sz 6 p → Ex (d + 6) RR_takeFact 59 [some (vR rr)] [] (CM m F A L) Q := by
    intro n3 n4 n5 n6
    refine Ex_step (tk_RR_takeFact rfl) ?_
    refine gCR (tk_RR_takeFact rfl) (hk7) (hr448) ?_
    refine Ex_step (tk_RR_takeFact rfl) ?_
    refine Ex_cVK (av := [vR 18]) (tk_RR_takeFact rfl) mk_Scan_takesWord ⟨rfl, rfl, by decide, rfl, Nat.le_of_ble_eq_true rfl, Nat.le_of_ble_eq_true rfl⟩ hk8 (c_takesW hW hS hsz hp hf (hC 7 (by decide)) (fun hw => ⟨rfl, ?_⟩) (fun hw => ⟨rfl, ?_⟩))
    · exact y7 n3 n4 n5 n6 hw
    · exact z7 n3 n4 n5 n6 hw
  have y6 : ¬ wdP (A tp) sz 3 p → ¬ wdP (A tp) sz 4 p → ¬ wdP (A tp) sz 5 p → wdP (A tp) sz 6 p → Ex (d + 6) RR_takeFact 53 [some (vR rr)] [vI 1] (CM m (upF F 514 (rr + 1) ((p + wn 6 : Nat) : Int)) A L) Q := by
    intro n3 n4 n5 hw
    have hx := h6 n3 n4 n5 hw
    refine Ex_step (tk_RR_takeFact rfl) ⟨fun h53 => ?_, fun h53 => ?_⟩
    · replace h53 : _ := h53
      exact absurd (show w32 1 = w32 0 from h53) (by decide)
    · replace h53 : _ := h53
      refine Ex_step (tk_RR_takeFact rfl) ?_
      refine Ex_step (tk_RR_takeFact rfl) ⟨rfl, ?_⟩
      exact hx
  have z6 : ¬ wdP (A tp) sz 3 p → ¬ wdP (A tp) sz 4 p → ¬ wdP (A tp) sz 5 p → ¬ wdP (A tp) sz 6 p → Ex (d + 6) RR_takeFact 53 [some (vR rr)] [vI 0] (CM m F A L) Q := by
    intro n3 n4 n5 hw
    have hx := g7 n3 n4 n5 hw
    refine Ex_step (tk_RR_takeFact rfl) ⟨fun h53 => ?_, fun h53 => ?_⟩
    · replace h53 : _ := h53
      exact hx
    · replace h53 : _ := h53
      exact absurd rfl h53
  have g6 : ¬ wdP (A tp) sz 3 p → ¬ wdP (A tp) sz 4 p → ¬ wdP (A tp) sz 5 p → Ex (d + 6) RR_takeFact 44 [some (vR rr)] [] (CM m F A L) Q := by
    intro n3 n4 n5
    refine Ex_step (tk_RR_takeFact rfl) ?_
    refine gCR (tk_RR_takeFact rfl) (hk7) (hr448) ?_
    refine Ex_step (tk_RR_takeFact rfl) ?_
    refine Ex_cVK (av := [vR 16]) (tk_RR_takeFact rfl) mk_Scan_takesWord ⟨rfl, rfl, by decide, rfl, Nat.le_of_ble_eq_true rfl, Nat.le_of_ble_eq_true rfl⟩ hk8 (c_takesW hW hS hsz hp hf (hC 6 (by decide)) (fun hw => ⟨rfl, ?_⟩) (fun hw => ⟨rfl, ?_⟩))
    · exact y6 n3 n4 n5 hw
    · exact z6 n3 n4 n5 hw
  have y5 : ¬ wdP (A tp) sz 3 p → ¬ wdP (A tp) sz 4 p → wdP (A tp) sz 5 p → Ex (d + 6) RR_takeFact 38 [some (vR rr)] [vI 1] (CM m (upF F 514 (rr + 1) ((p + wn 5 : Nat) : Int)) A L) Q := by
    intro n3 n4 hw
    have hx := h5 n3 n4 hw
    refine Ex_step (tk_RR_takeFact rfl) ⟨fun h38 => ?_, fun h38 => ?_⟩
    · replace h38 : _ := h38
      exact absurd (show w32 1 = w32 0 from h38) (by decide)
    · replace h38 : _ := h38
      refine Ex_step (tk_RR_takeFact rfl) ?_
      refine Ex_step (tk_RR_takeFact rfl) ⟨rfl, ?_⟩
      exact hx
  have z5 : ¬ wdP (A tp) sz 3 p → ¬ wdP (A tp) sz 4 p → ¬ wdP (A tp) sz 5 p → Ex (d + 6) RR_takeFact 38 [some (vR rr)] [vI 0] (CM m F A L) Q := by
    intro n3 n4 hw
    have hx := g6 n3 n4 hw
    refine Ex_step (tk_RR_takeFact rfl) ⟨fun h38 => ?_, fun h38 => ?_⟩
    · replace h38 : _ := h38
      exact hx
    · replace h38 : _ := h38
      exact absurd rfl h38
  have g5 : ¬ wdP (A tp) sz 3 p → ¬ wdP (A tp) sz 4 p → Ex (d + 6) RR_takeFact 29 [some (vR rr)] [] (CM m F A L) Q := by
    intro n3 n4
    refine Ex_step (tk_RR_takeFact rfl) ?_
    refine gCR (tk_RR_takeFact rfl) (hk7) (hr448) ?_
    refine Ex_step (tk_RR_takeFact rfl) ?_
    refine Ex_cVK (av := [vR 14]) (tk_RR_takeFact rfl) mk_Scan_takesWord ⟨rfl, rfl, by decide, rfl, Nat.le_of_ble_eq_true rfl, Nat.le_of_ble_eq_true rfl⟩ hk8 (c_takesW hW hS hsz hp hf (hC 5 (by decide)) (fun hw => ⟨rfl, ?_⟩) (fun hw => ⟨rfl, ?_⟩))
    · exact y5 n3 n4 hw
    · exact z5 n3 n4 hw
  have y4 : ¬ wdP (A tp) sz 3 p → wdP (A tp) sz 4 p → Ex (d + 6) RR_takeFact 23 [some (vR rr)] [vI 1] (CM m (upF F 514 (rr + 1) ((p + wn 4 : Nat) : Int)) A L) Q := by
    intro n3 hw
    have hx := h4 n3 hw
    refine Ex_step (tk_RR_takeFact rfl) ⟨fun h23 => ?_, fun h23 => ?_⟩
    · replace h23 : _ := h23
      exact absurd (show w32 1 = w32 0 from h23) (by decide)
    · replace h23 : _ := h23
      refine Ex_step (tk_RR_takeFact rfl) ?_
      refine Ex_step (tk_RR_takeFact rfl) ⟨rfl, ?_⟩
      exact hx
  have z4 : ¬ wdP (A tp) sz 3 p → ¬ wdP (A tp) sz 4 p → Ex (d + 6) RR_takeFact 23 [some (vR rr)] [vI 0] (CM m F A L) Q := by
    intro n3 hw
    have hx := g5 n3 hw
    refine Ex_step (tk_RR_takeFact rfl) ⟨fun h23 => ?_, fun h23 => ?_⟩
    · replace h23 : _ := h23
      exact hx
    · replace h23 : _ := h23
      exact absurd rfl h23
  have g4 : ¬ wdP (A tp) sz 3 p → Ex (d + 6) RR_takeFact 14 [some (vR rr)] [] (CM m F A L) Q := by
    intro n3
    refine Ex_step (tk_RR_takeFact rfl) ?_
    refine gCR (tk_RR_takeFact rfl) (hk7) (hr448) ?_
    refine Ex_step (tk_RR_takeFact rfl) ?_
    refine Ex_cVK (av := [vR 12]) (tk_RR_takeFact rfl) mk_Scan_takesWord ⟨rfl, rfl, by decide, rfl, Nat.le_of_ble_eq_true rfl, Nat.le_of_ble_eq_true rfl⟩ hk8 (c_takesW hW hS hsz hp hf (hC 4 (by decide)) (fun hw => ⟨rfl, ?_⟩) (fun hw => ⟨rfl, ?_⟩))
    · exact y4 n3 hw
    · exact z4 n3 hw
  have y3 : wdP (A tp) sz 3 p → Ex (d + 6) RR_takeFact 9 [some (vR rr)] [vI 1] (CM m (upF F 514 (rr + 1) ((p + wn 3 : Nat) : Int)) A L) Q := by
    intro  hw
    have hx := h3  hw
    refine Ex_step (tk_RR_takeFact rfl) ⟨fun h9 => ?_, fun h9 => ?_⟩
    · replace h9 : _ := h9
      exact absurd (show w32 1 = w32 0 from h9) (by decide)
    · replace h9 : _ := h9
      refine Ex_step (tk_RR_takeFact rfl) ?_
      refine Ex_step (tk_RR_takeFact rfl) ⟨rfl, ?_⟩
      exact hx
  have z3 : ¬ wdP (A tp) sz 3 p → Ex (d + 6) RR_takeFact 9 [some (vR rr)] [vI 0] (CM m F A L) Q := by
    intro  hw
    have hx := g4  hw
    refine Ex_step (tk_RR_takeFact rfl) ⟨fun h9 => ?_, fun h9 => ?_⟩
    · replace h9 : _ := h9
      exact hx
    · replace h9 : _ := h9
      exact absurd rfl h9
  have g3 : Ex (d + 6) RR_takeFact 0 [some (vR rr)] [] (CM m F A L) Q := by
    refine Ex_step (tk_RR_takeFact rfl) ?_
    refine gCR (tk_RR_takeFact rfl) (hk7) (hr448) ?_
    refine Ex_step (tk_RR_takeFact rfl) ?_
    refine Ex_cVK (av := [vR 10]) (tk_RR_takeFact rfl) mk_Scan_takesWord ⟨rfl, rfl, by decide, rfl, Nat.le_of_ble_eq_true rfl, Nat.le_of_ble_eq_true rfl⟩ hk8 (c_takesW hW hS hsz hp hf (hC 3 (by decide)) (fun hw => ⟨rfl, ?_⟩) (fun hw => ⟨rfl, ?_⟩))
    · exact y3  hw
    · exact z3  hw
  exact g3
set_option maxRecDepth 100000 in
theorem c_takeJoint (hk7 : mK m rr = 7) (hr448 : mFR m 448 rr = rr + 1) (hW : ScW m (rr + 1) tp) (hS : ScF F (rr + 1) sz p fl pc_) (hsz : sz ≤ 800) (hp : p ≤ sz) (hf : byts (A tp)) (hC : CLow m F A L) (h9 : wdP (A tp) sz 9 p → Q 0 (some (vI (-11))) (CM m (upF F 514 (rr + 1) ((p + wn 9 : Nat) : Int)) A L)) (h8 : ¬ wdP (A tp) sz 9 p → wdP (A tp) sz 8 p → Q 0 (some (vI (-12))) (CM m (upF F 514 (rr + 1) ((p + wn 8 : Nat) : Int)) A L)) (h0 : ¬ wdP (A tp) sz 9 p → ¬ wdP (A tp) sz 8 p → Q 0 (some (vI 0)) (CM m F A L)) : Ex (d + 6) RR_takeJoint 0 [some (vR rr)] [] (CM m F A L) Q := by
  have hk8 := hW.1
  have y8 : ¬ wdP (A tp) sz 9 p → wdP (A tp) sz 8 p → Ex (d + 6) RR_takeJoint 24 [some (vR rr)] [vI 1] (CM m (upF F 514 (rr + 1) ((p + wn 8 : Nat) : Int)) A L) Q := by
    intro n9 hw
    have hx := h8 n9 hw
    refine Ex_step (tk_RR_takeJoint rfl) ⟨fun h24 => ?_, fun h24 => ?_⟩
    · replace h24 : _ := h24
      exact absurd (show w32 1 = w32 0 from h24) (by decide)
    · replace h24 : _ := h24
      refine Ex_step (tk_RR_takeJoint rfl) ?_
      refine Ex_step (tk_RR_takeJoint rfl) ?_
      refine Ex_step (tk_RR_takeJoint rfl) ⟨rfl, ?_⟩
      exact hx
  have z8 : ¬ wdP (A tp) sz 9 p → ¬ wdP (A tp) sz 8 p → Ex (d + 6) RR_takeJoint 24 [some (vR rr)] [vI 0] (CM m F A L) Q := by
    intro n9 hw
    have hx := h0 n9 hw
    refine Ex_step (tk_RR_takeJoint rfl) ⟨fun h24 => ?_, fun h24 => ?_⟩
    · replace h24 : _ := h24
      refine Ex_step (tk_RR_takeJoint rfl) ?_
      refine Ex_step (tk_RR_takeJoint rfl) ⟨rfl, ?_⟩
      exact hx
    · replace h24 : _ := h24
      exact absurd rfl h24
  have g8 : ¬ wdP (A tp) sz 9 p → Ex (d + 6) RR_takeJoint 15 [some (vR rr)] [] (CM m F A L) Q := by
    intro n9
    refine Ex_step (tk_RR_takeJoint rfl) ?_
    refine gCR (tk_RR_takeJoint rfl) (hk7) (hr448) ?_
    refine Ex_step (tk_RR_takeJoint rfl) ?_
    refine Ex_cVK (av := [vR 22]) (tk_RR_takeJoint rfl) mk_Scan_takesWord ⟨rfl, rfl, by decide, rfl, Nat.le_of_ble_eq_true rfl, Nat.le_of_ble_eq_true rfl⟩ hk8 (c_takesW hW hS hsz hp hf (hC 8 (by decide)) (fun hw => ⟨rfl, ?_⟩) (fun hw => ⟨rfl, ?_⟩))
    · exact y8 n9 hw
    · exact z8 n9 hw
  have y9 : wdP (A tp) sz 9 p → Ex (d + 6) RR_takeJoint 9 [some (vR rr)] [vI 1] (CM m (upF F 514 (rr + 1) ((p + wn 9 : Nat) : Int)) A L) Q := by
    intro  hw
    have hx := h9  hw
    refine Ex_step (tk_RR_takeJoint rfl) ⟨fun h9 => ?_, fun h9 => ?_⟩
    · replace h9 : _ := h9
      exact absurd (show w32 1 = w32 0 from h9) (by decide)
    · replace h9 : _ := h9
      refine Ex_step (tk_RR_takeJoint rfl) ?_
      refine Ex_step (tk_RR_takeJoint rfl) ⟨rfl, ?_⟩
      exact hx
  have z9 : ¬ wdP (A tp) sz 9 p → Ex (d + 6) RR_takeJoint 9 [some (vR rr)] [vI 0] (CM m F A L) Q := by
    intro  hw
    have hx := g8  hw
    refine Ex_step (tk_RR_takeJoint rfl) ⟨fun h9 => ?_, fun h9 => ?_⟩
    · replace h9 : _ := h9
      exact hx
    · replace h9 : _ := h9
      exact absurd rfl h9
  have g9 : Ex (d + 6) RR_takeJoint 0 [some (vR rr)] [] (CM m F A L) Q := by
    refine Ex_step (tk_RR_takeJoint rfl) ?_
    refine gCR (tk_RR_takeJoint rfl) (hk7) (hr448) ?_
    refine Ex_step (tk_RR_takeJoint rfl) ?_
    refine Ex_cVK (av := [vR 20]) (tk_RR_takeJoint rfl) mk_Scan_takesWord ⟨rfl, rfl, by decide, rfl, Nat.le_of_ble_eq_true rfl, Nat.le_of_ble_eq_true rfl⟩ hk8 (c_takesW hW hS hsz hp hf (hC 9 (by decide)) (fun hw => ⟨rfl, ?_⟩) (fun hw => ⟨rfl, ?_⟩))
    · exact y9  hw
    · exact z9  hw
  exact g9
end CWords
