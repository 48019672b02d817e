/-! ===== readRule's loop against the reference's parser: a fact; all together ===== -/
section Sim10
variable {d rr tp sz n : Nat} {m : Mem} {F0 A0 L : Nat → Nat → Int} {Q : Nat → Option AV → Mem → Prop}
set_option maxRecDepth 100000 in
theorem sim5 (hR : RlW m rr tp sz F0 A0 L) (g5 : SFa d m rr tp sz F0 A0 L Q n) (g4 : SA d m rr tp sz F0 A0 L Q n 4 5 3 5 2 e3) : SFa d m rr tp sz F0 A0 L Q (n + 1) := by
  intro s ts ty p cs P h hH hL hty hfu hF hK
  have h0 := h.1
  have he : sk (A0 tp) sz (pAt s) = sk (A0 tp) sz p := h.2.2.2.1.symm
  have hp := h.2.2.1
  have hsz := hR.2.2.1
  have hop := (h.2.1.2.2.2 h0).1
  have hsk := sk_sz (f := A0 tp) (h.2.1.2.2.2 h0).2
  have h0h : pFl (hereP (A0 tp) sz s) = 0 := h0
  have hss : sk (A0 tp) sz (pAt (hereP (A0 tp) sz s)) = sk (A0 tp) sz p := (sk_sk (A0 tp) sz (sz + 1) _ (by omega)).trans he
  by_cases hz : wdP (A0 tp) sz 2 (sk (A0 tp) sz p)
  · have hk := tk_hit h0h hss hz
    have hk2 : tkS (A0 tp) sz 2 (hereP (A0 tp) sz s) = wAtP s (sk (A0 tp) sz p + 3) := hk.2
    have s1 : SiS (A0 tp) sz (wAtP s (sk (A0 tp) sz p + 3)) ts ty (sk (A0 tp) sz p + 3) cs [] (-13 :: P) := h.word (w := 2) (by decide) hz (by decide)
    have e : ps (A0 tp) sz (n + 1) 5 s = shutP (tellsP 11 (ps (A0 tp) sz n 5 (opensP (sk (A0 tp) sz p : Nat) (wAtP s (sk (A0 tp) sz p + 3))))) := by
      show factP _ _ _ s = _
      unfold factP
      rw [if_pos h0, if_pos hk.1, hk2, he]
    rw [e] at hF hK
    refine rl_N hR hp (by omega) (by omega) hz (fun z => ?_) (fun z => ?_)
    · have eo : opensP (sk (A0 tp) sz p : Nat) (wAtP s (sk (A0 tp) sz p + 3)) = wOpP (wAtP s (sk (A0 tp) sz p + 3)) (pOp s + 1) := by
        unfold opensP
        rw [if_neg (show ¬ pOp (wAtP s (sk (A0 tp) sz p + 3)) = 4 by show ¬ pOp s = 4; omega)]
        rfl
      rw [eo] at hF hK
      have s2 := s1.op (k := pOp s + 1) (by omega)
      have r := ps_ok (A0 tp) sz n 5 _ s2.2.1
      have ro : pOp (ps (A0 tp) sz n 5 (wOpP (wAtP s (sk (A0 tp) sz p + 3)) (pOp s + 1))) = pOp s + 1 := r.2.2.1
      refine g5 _ ts ty _ _ (-13 :: P) s2 (HdB.c (by decide)) ?_ (Nat.le_succ_of_le hty) ?_ (fun z => ?_) (fun ts2 p2 cs2 X2 no2 h2 x2 k2 _ => ?_)
      · show P.length + 1 ≤ 2 + (pOp s + 1)
        omega
      · show 12 * (sz + 3 - (sk (A0 tp) sz p + 3)) + 5 + 1 ≤ n
        omega
      · rw [tells_no z] at hF
        exact hF z
      · have x2 : XB 3 (7 - (pOp s + 1)) X2 := x2
        have t2 := h2.tell (k := 11) (by decide) rfl (ty2 := true :: ty) ⟨⟨ty, rfl⟩, rfl⟩
        rw [show X2 ++ -13 :: P = (X2 ++ [-13]) ++ P by rw [List.append_assoc]; rfl]
        refine hK _ p2 cs2 (X2 ++ [-13]) no2 (t2.op (k := pOp (tellsP 11 (ps (A0 tp) sz n 5 (wOpP (wAtP s (sk (A0 tp) sz p + 3)) (pOp s + 1)))) - 1) ?_) (x2.snoc (by decide) (by omega) (by decide)) k2 trivial
        rw [tells_op, ro]
        omega
    · have g1 : G2 sz (opensP (sk (A0 tp) sz p : Nat) (wAtP s (sk (A0 tp) sz p + 3))) := s1.2.1.opens h0
      have eo : opensP (sk (A0 tp) sz p : Nat) (wAtP s (sk (A0 tp) sz p + 3)) = wOpP (wFlP (wAtP s (sk (A0 tp) sz p + 3)) 4 (sk (A0 tp) sz p : Nat)) (pOp s + 1) := by
        unfold opensP
        rw [if_pos (show pOp (wAtP s (sk (A0 tp) sz p + 3)) = 4 by show pOp s = 4; omega), show wrongP (wAtP s (sk (A0 tp) sz p + 3)) 4 ((sk (A0 tp) sz p : Nat) : Int) = _ from if_pos h0]
        rfl
      rw [eo] at hF g1
      have n4 : pFl (wOpP (wFlP (wAtP s (sk (A0 tp) sz p + 3)) 4 (sk (A0 tp) sz p : Nat)) (pOp s + 1)) ≠ 0 := by show (4 : Nat) ≠ 0; decide
      rw [(ps_ok (A0 tp) sz n 5 _ g1).2.2.2 n4, tells_no n4] at hF
      exact hF n4
  · have hk := tk_miss h0h hss hz
    rw [hereH] at hk
    have hh := h.here
    have r := ps_ok (A0 tp) sz n 4 _ hh.2.1
    have e : ps (A0 tp) sz (n + 1) 5 s = factE (A0 tp) sz (ps (A0 tp) sz n) (ps (A0 tp) sz n 4 (hereP (A0 tp) sz s)) := by
      show factP _ _ _ s = _
      unfold factP
      rw [if_pos h0, if_neg hk.1, hk.2]
    rw [e] at hF hK
    have ra : sk (A0 tp) sz (pAt s) ≤ pAt (ps (A0 tp) sz n 4 (hereP (A0 tp) sz s)) := r.1.1
    have ro : pOp (ps (A0 tp) sz n 4 (hereP (A0 tp) sz s)) = pOp s := r.2.2.1
    refine g4 _ ts ty p cs P (pOp s) 0 1 0 hh (hH.wk (by decide)) ?_ hty rfl (Or.inr rfl) (fun z => hz z.2) (Or.inl rfl) ?_ (fun z => ?_) (fun ts2 p2 cs2 X2 h2 x2 k2 => ?_)
    · show P.length ≤ 3 + 3 * pOp s
      omega
    · show 12 * (sz + 3 - sk (A0 tp) sz (pAt s)) + 4 + 1 ≤ n
      omega
    · rw [show factE (A0 tp) sz (ps (A0 tp) sz n) (ps (A0 tp) sz n 4 (hereP (A0 tp) sz s)) = ps (A0 tp) sz n 4 (hereP (A0 tp) sz s) from if_neg z] at hF
      exact hF z
    · generalize ps (A0 tp) sz n 4 (hereP (A0 tp) sz s) = t1 at *
      have hx2 := x2.2
      have hp2 := h2.2.2.1
      have hl2 := h2.2.2.2.2.2.2.2.1
      have he2 : sk (A0 tp) sz (pAt t1) = sk (A0 tp) sz p2 := h2.2.2.2.1.symm
      have hll : (X2 ++ P).length = X2.length + P.length := List.length_append
      have hhc : hereC (A0 tp) sz t1 = bt (A0 tp) sz (sk (A0 tp) sz p2) := by unfold hereC; rw [he2]
      have ef : factE (A0 tp) sz (ps (A0 tp) sz n) t1 = tellsP (signC (bt (A0 tp) sz (sk (A0 tp) sz p2))) (ps (A0 tp) sz n 4 (signP (A0 tp) sz t1)) := by
        unfold factE
        rw [if_pos h2.1, hhc]
      rw [ef] at hF hK
      have hk2 : bt (A0 tp) sz (sk (A0 tp) sz p2) ≠ 42 ∧ bt (A0 tp) sz (sk (A0 tp) sz p2) ≠ 43 ∧ bt (A0 tp) sz (sk (A0 tp) sz p2) ≠ 45 := k2
      have hsk2 := sk_sz (f := A0 tp) (h2.2.1.2.2.2 h2.1).2
      have key : ∀ (k : Nat) (c w : Int), bt (A0 tp) sz (sk (A0 tp) sz p2) = c → (c = 60 ∧ k = 6 ∨ c = 61 ∧ k = 7 ∨ c = 62 ∧ k = 8) → w = cod (k, 0) → RG d m rr sz F0 A0 L Q 0 p2 cs2 (X2 ++ P) (pOp s) 0 0 0 := by
        intro k c w hc hck hw
        have hlt := bt_lt hc (by omega)
        have hk3 : k = 6 ∨ k = 7 ∨ k = 8 := by omega
        have hws : sgn c = w := by
          rw [hw]
          rcases hck with ⟨rfl, rfl⟩ | ⟨rfl, rfl⟩ | ⟨rfl, rfl⟩ <;> decide
        have hsc : signC c = (k : Int) := by
          rcases hck with ⟨rfl, rfl⟩ | ⟨rfl, rfl⟩ | ⟨rfl, rfl⟩ <;> decide
        have hwb : bnd w = 4 := by
          rw [hw]
          rcases hk3 with rfl | rfl | rfl <;> decide
        have hwr : -100 ≤ w ∧ w ≤ 10000 := by
          rw [hw]
          rcases hk3 with rfl | rfl | rfl <;> decide
        have es : signP (A0 tp) sz t1 = incP (hereP (A0 tp) sz t1) := by
          unfold signP
          rw [if_neg (by rw [hhc, hc, hsc]; omega)]
        rw [hc, hsc, es] at hF hK
        have s1 := h2.sign hlt hwr
        have r2 := ps_ok (A0 tp) sz n 4 _ s1.2.1
        refine rl_cmp hR h2 (by omega) hc (by omega) hws (fun x hx => by have := x2.1 x hx; rw [hwb]; omega) (by rw [hwb]; exact hH) ?_
        refine g4 _ ts2 (false :: ty) _ _ (w :: P) (pOp s) 0 0 1 s1 (HdB.c (by rw [hwb]; decide)) ?_ (Nat.succ_le_succ hty) ?_ (Or.inl rfl) (fun z => absurd z.1 (by decide)) (Or.inr rfl) ?_ (fun z => ?_) (fun ts3 p3 cs3 X3 h3 x3 k3 => ?_)
        · show P.length + 1 ≤ 3 + 3 * pOp t1
          omega
        · show pOp s + 0 = pOp t1
          omega
        · show 12 * (sz + 3 - (sk (A0 tp) sz (pAt t1) + 1)) + 4 + 1 ≤ n
          omega
        · rw [tells_no z] at hF
          exact hF z
        · have t2 := h3.tell (k := k) (by omega) hw.symm (ty2 := true :: ty) (by rcases hk3 with rfl | rfl | rfl <;> exact ⟨ty, rfl, rfl⟩)
          rw [show X3 ++ w :: P = (X3 ++ [w]) ++ P by rw [List.append_assoc]; rfl]
          exact hK _ p3 cs3 (X3 ++ [w]) (pOp s) t2 (x3.snoc (by decide) (by omega) (by rw [hwb]; decide)) k3 trivial
      by_cases c0 : bt (A0 tp) sz (sk (A0 tp) sz p2) = 60
      · exact key 6 60 _ c0 (by omega) rfl
      by_cases c1 : bt (A0 tp) sz (sk (A0 tp) sz p2) = 61
      · exact key 7 61 _ c1 (by omega) rfl
      by_cases c2 : bt (A0 tp) sz (sk (A0 tp) sz p2) = 62
      · exact key 8 62 _ c2 (by omega) rfl
      have hs0 : signC (bt (A0 tp) sz (sk (A0 tp) sz p2)) = 0 := by
        unfold signC
        rw [if_neg c0, if_neg c1, if_neg c2]
      have hg0 : sgn (bt (A0 tp) sz (sk (A0 tp) sz p2)) = 0 := by
        unfold sgn
        rw [if_neg c0, if_neg c1, if_neg c2, if_neg hk2.2.1, if_neg hk2.2.2, if_neg hk2.1]
      have es : signP (A0 tp) sz t1 = incP (wFlP (hereP (A0 tp) sz t1) 1 (sk (A0 tp) sz p2 : Nat)) := by
        unfold signP
        rw [if_pos (by rw [hhc]; exact hs0), he2, show wrongP (hereP (A0 tp) sz t1) 1 ((sk (A0 tp) sz p2 : Nat) : Int) = _ from if_pos h2.1]
      have g1 := (sign_ok (f := A0 tp) h2.2.1 h2.1).2.1
      rw [es] at g1
      have n1 : pFl (incP (wFlP (hereP (A0 tp) sz t1) 1 (sk (A0 tp) sz p2 : Nat))) ≠ 0 := by show (1 : Nat) ≠ 0; decide
      rw [es, (ps_ok (A0 tp) sz n 4 _ g1).2.2.2 n1, tells_no n1] at hF
      exact rl_S hR hp2 (Or.inl rfl) (by omega) h2.2.2.2.2.2.2.2.2 (by omega) (by omega) (by omega) (by omega) (by omega) (fun q => absurd hg0 q) (fun _ => hF n1)
set_option maxRecDepth 100000 in
/-- all the parts -/
theorem sim_all (hR : RlW m rr tp sz F0 A0 L) : ∀ n, (SA d m rr tp sz F0 A0 L Q n 0 7 5 7 0 eT ∧ SB d m rr tp sz F0 A0 L Q n 1 6 4 6 1 eT e1 ∧ SA d m rr tp sz F0 A0 L Q n 2 6 4 6 1 e1 ∧ SB d m rr tp sz F0 A0 L Q n 3 5 3 5 2 e1 e3 ∧ SA d m rr tp sz F0 A0 L Q n 4 5 3 5 2 e3) ∧ SFa d m rr tp sz F0 A0 L Q n ∧ SL d m rr tp sz F0 A0 L Q n 6 1 2 8 w5 (w6 tp sz A0) ∧ SV d m rr tp sz F0 A0 L Q n 7 1 2 8 (w6 tp sz A0) ∧ SL d m rr tp sz F0 A0 L Q n 8 0 1 9 (w6 tp sz A0) (w8 tp sz A0) ∧ SV d m rr tp sz F0 A0 L Q n 9 0 1 9 (w8 tp sz A0) := by
  intro n
  induction n with
  | zero =>
    refine ⟨⟨?_, ?_, ?_, ?_, ?_⟩, ?_, ?_, ?_, ?_, ?_⟩
    · intro s ts ty p cs P no br at_ cm h hH hL hty hno hat hw hcm hfu; omega
    · intro s ts ty p cs X P no br cm h hX hE hH hL hty hno hcm hfu; omega
    · intro s ts ty p cs P no br at_ cm h hH hL hty hno hat hw hcm hfu; omega
    · intro s ts ty p cs X P no br cm h hX hE hH hL hty hno hcm hfu; omega
    · intro s ts ty p cs P no br at_ cm h hH hL hty hno hat hw hcm hfu; omega
    · intro s ts ty p cs P h hH hL hty hfu; omega
    · intro s ts ty p cs X P no h hX hE hE2 hH hL hty hno hfu; omega
    · intro s ts ty p cs P h hH hL hty hno hfu; omega
    · intro s ts ty p cs X P no h hX hE hE2 hH hL hty hno hfu; omega
    · intro s ts ty p cs P h hH hL hty hno hfu; omega
  | succ n ih =>
    obtain ⟨⟨i0, i1, i2, i3, i4⟩, i5, i6, i7, i8, i9⟩ := ih
    exact ⟨⟨sim0 hR i4, sim1 hR i0 i1, sim2 i0 i1, sim3 hR i2 i3, sim4 i2 i3⟩, sim5 hR i5 i4, sim6 hR i5 i6, sim7 i5 i6, sim8 hR i7 i8, sim9 i7 i8⟩
end Sim10
