/-! ===== the class: a whole rule is read as the reference reads it ===== -/
section CReadRule
variable {d rr tp sz p : Nat} {m : Mem} {F A L : Nat → Nat → Int} {Q : Nat → Option AV → Mem → Prop} {s : PSt}
set_option maxRecDepth 100000 in
theorem rg_rule (hR : RlW m rr tp sz F A L) (hN : rr + 4 < 100 + mN m) (hp1 : 1 ≤ p) (hp : p ≤ sz) (h0 : pFl s = 0) (hg : G2 sz s) (he : sk (A tp) sz p = sk (A tp) sz (pAt s)) (hop : pOp s = 0) (hcd : pCd s = 0) (hE : pFl (mustP (A tp) sz 59 (ps (A tp) sz psN 9 s)) ≠ 0 → RE m rr sz F A L Q (pFl (mustP (A tp) sz 59 (ps (A tp) sz psN 9 s))) (pFa (mustP (A tp) sz 59 (ps (A tp) sz psN 9 s)))) (hQ : pFl (mustP (A tp) sz 59 (ps (A tp) sz psN 9 s)) = 0 → ∀ (F' A' : Nat → Nat → Int) (ts : List Tok) (cs : List Int) (no : Nat), KQ rr F F' A A' → RD F' A' rr sz (pAt (mustP (A tp) sz 59 (ps (A tp) sz psN 9 s))) 0 (-1) cs [] no 0 0 1 → TokE (mustP (A tp) sz 59 (ps (A tp) sz psN 9 s)) ts → wfr ts [] [true] → (ts.map cod).reverse = cs → cs.length < 800 → Q 0 (some (vR (100 + mN m))) (ruM m F' A' L rr cs.length)) : RG d m rr sz F A L Q 1 p [] [] 0 0 1 0 := by
  have hsz := hR.2.2.1
  have hfu := psN_ge
  refine (sim_all (d := d) (Q := Q) hR psN).2.2.2.2.2 s [] [] p [] [] ⟨h0, hg, hp, he, ?_, rfl, rfl, ?_, fun x hx => by cases hx⟩ (fun x r e => by cases e) (Nat.le_refl _) (Nat.le_refl _) hop (by omega) (fun z => ?_) (fun ts2 p2 cs2 X2 no2 h2 x2 k2 k3 => ?_)
  · show 620 = 620 + pCd s
    omega
  · show 0 + 0 + 0 + 1 ≤ p
    omega
  · rw [must_no z] at hE
    exact hE z
  · generalize ps (A tp) sz psN 9 s = t1 at *
    have hx2 := x2.2
    have hp2 := h2.2.2.1
    have hl2 : cs2.length + X2.length + 0 + 1 ≤ p2 := h2.2.2.2.2.2.2.2.1
    have he2 : sk (A tp) sz (pAt t1) = sk (A tp) sz p2 := h2.2.2.2.1.symm
    have hsk2 := sk_sz (f := A tp) hp2
    have hhc : hereC (A tp) sz t1 = bt (A tp) sz (sk (A tp) sz p2) := by unfold hereC; rw [he2]
    have hll : (X2 ++ []).length = X2.length := by rw [List.append_nil]
    have hX0 : ∀ x ∈ X2, (0 : Int) ≤ bnd x := fun x hx => by have := x2.1 x hx; omega
    have hP0 : HdB [] 0 := fun x r e => by cases e
    by_cases h59 : bt (A tp) sz (sk (A tp) sz p2) = 59
    · have hlt := bt_lt h59 (by decide)
      have em : mustP (A tp) sz 59 t1 = incP (hereP (A tp) sz t1) := by
        unfold mustP
        rw [if_pos h2.1, if_pos (by rw [hhc]; exact h59)]
        rfl
      rw [em] at hQ
      have s1 := h2.sign hlt (c := -10) (by decide)
      have hlr : (X2.reverse ++ cs2).length = X2.length + cs2.length := by rw [List.length_append, List.length_reverse]
      refine rl_Z hR hN hp2 h2.2.2.2.2.2.2.2.2 (by omega) (by omega) h59 (relP_all hX0 hP0) (relC_all hX0 hP0 cs2) (by omega) (fun F' A' k hD => ?_)
      refine hQ h2.1 F' A' ts2 _ no2 k ?_ s1.2.2.2.2.1 s1.2.2.2.2.2.1 s1.2.2.2.2.2.2.1 (by omega)
      rw [show pAt (incP (hereP (A tp) sz t1)) = sk (A tp) sz p2 + 1 from congrArg (· + 1) he2]
      exact hD
    · have em : mustP (A tp) sz 59 t1 = wFlP (hereP (A tp) sz t1) 1 (sk (A tp) sz p2 : Nat) := by
        unfold mustP
        rw [if_pos h2.1, if_neg (by rw [hhc]; exact h59), he2]
        exact if_pos h2.1
      rw [em] at hE
      have hk2 : bt (A tp) sz (sk (A tp) sz p2) ≠ 42 ∧ bt (A tp) sz (sk (A tp) sz p2) ≠ 43 ∧ bt (A tp) sz (sk (A tp) sz p2) ≠ 45 := k2
      refine rl_S hR hp2 (Or.inr rfl) (by omega) h2.2.2.2.2.2.2.2.2 (by omega) (by omega) (fun q => h59 q.1) (by omega) (fun q => q.2.elim k3.2 k3.1) (fun q1 q2 => absurd ?_ q2) (fun _ => hE (show (1 : Nat) ≠ 0 by decide))
      refine ⟨?_, Or.inl rfl⟩
      unfold sgn at q1 ⊢
      unfold isCmp
      omega
set_option maxRecDepth 100000 in
theorem c_readRule (hR : RlW m rr tp sz F A L) (hS : ScF F (rr + 1) sz p 0 (-1)) (hG : RG d m rr sz F A L Q 1 p [] [] 0 0 1 0) : Ex (d + 8) RR_readRule 0 [some (vR rr), none, none, none] [] (CM m F A L) Q := by
  have hk7 := hR.1.1
  refine Ex_step (tk_RR_readRule rfl) ?_
  refine Ex_cVK (av := []) (tk_RR_readRule rfl) mk_RR_begin ⟨rfl, rfl, by decide, rfl, Nat.le_of_ble_eq_true rfl, Nat.le_of_ble_eq_true rfl⟩ (hk7) (c_rrBegin hR.1 (fun F' k hr => ⟨rfl, ?_⟩))
  refine Ex_step (tk_RR_readRule rfl) ?_
  refine Ex_step (tk_RR_readRule rfl) ?_
  refine Ex_step (tk_RR_readRule rfl) ?_
  refine Ex_step (tk_RR_readRule rfl) ?_
  exact hG F' A 0 none k.q ⟨hS.k (fun f => k.1 f _ (by omega)), hr⟩ (by omega)
end CReadRule
