/-! ===== readRule's loop against the reference's parser: a unit ===== -/
section Sim5
set_option maxRecDepth 100000 in
theorem nmV_rg (f : Nat → Int) (sz : Nat) : ∀ (n q : Nat) (v : Int), sz - q < n → 0 ≤ v ∧ v ≤ 100000 → 0 ≤ nmV f sz q v ∧ nmV f sz q v ≤ 100000
  | 0, q, v, h, _ => by omega
  | n + 1, q, v, h, hv => by
    by_cases z : dgt (bt f sz q)
    · rw [nmV_go z]
      have := (bt_d z).1
      exact nmV_rg f sz n (q + 1) _ (by omega) (nx_range hv z)
    · rw [nmV_stay z]
      exact hv
variable {f : Nat → Int} {sz p : Nat} {s : PSt} {ts : List Tok} {ty : List Bool} {cs X P : List Int}
set_option maxRecDepth 100000 in
theorem SiS.op (h : SiS f sz s ts ty p cs X P) {k : Nat} (hk : k ≤ 4) : SiS f sz (wOpP s k) ts ty p cs X P := ⟨h.1, ⟨h.2.1.1, (by show k ≤ 5; omega), h.2.1.2.2.1, fun q => ⟨hk, (h.2.1.2.2.2 q).2⟩⟩, h.2.2.1, h.2.2.2.1, h.2.2.2.2.1.k rfl rfl, h.2.2.2.2.2⟩
set_option maxRecDepth 100000 in
theorem SiS.drop {c : Int} (h : SiS f sz s ts ty p cs [] (c :: P)) : SiS f sz s ts ty p cs [] P := by
  obtain ⟨h0, hg, hp, he, ht, hw, hm, hl, ho⟩ := h
  refine ⟨h0, hg, hp, he, ht, hw, hm, ?_, fun x hx => ho x (List.mem_cons_of_mem _ hx)⟩
  have hl : cs.length + 0 + (P.length + 1) + 1 ≤ p := hl
  show cs.length + 0 + P.length + 1 ≤ p
  omega
end Sim5
section Sim6
variable {d rr tp sz n : Nat} {m : Mem} {F0 A0 L : Nat → Nat → Int} {Q : Nat → Option AV → Mem → Prop}
set_option maxRecDepth 100000 in
theorem sim0 (hR : RlW m rr tp sz F0 A0 L) (g4 : SA d m rr tp sz F0 A0 L Q n 4 5 3 5 2 e3) : SA d m rr tp sz F0 A0 L Q (n + 1) 0 7 5 7 0 eT := by
  intro s ts ty p cs P no br at_ cm h hH hL hty hno hat hw hcm hfu hF hK
  have h0 := h.1
  have he : sk (A0 tp) sz (pAt s) = sk (A0 tp) sz p := h.2.2.2.1.symm
  have hop := (h.2.1.2.2.2 h0).1
  have hsz := hR.2.2.1
  have hp := h.2.2.1
  have hlen : cs.length + 0 + P.length + 1 ≤ p := h.2.2.2.2.2.2.2.1
  have hsk := sk_sz (f := A0 tp) (h.2.1.2.2.2 h0).2
  have hhc : hereC (A0 tp) sz s = bt (A0 tp) sz (sk (A0 tp) sz p) := by unfold hereC; rw [he]
  have hss : sk (A0 tp) sz (pAt (hereP (A0 tp) sz s)) = sk (A0 tp) sz p := (sk_sk (A0 tp) sz (sz + 1) _ (by omega)).trans he
  have hhh : hereC (A0 tp) sz (hereP (A0 tp) sz s) = bt (A0 tp) sz (sk (A0 tp) sz p) := by unfold hereC; rw [hss]
  by_cases hc : bt (A0 tp) sz (sk (A0 tp) sz p) = 40
  · have hlt := bt_lt hc (by decide)
    have e : ps (A0 tp) sz (n + 1) 0 s = shutP (mustP (A0 tp) sz 41 (ps (A0 tp) sz n 4 (incP (opensP (sk (A0 tp) sz (pAt s) : Nat) (hereP (A0 tp) sz s))))) := by
      show unitP _ _ _ s = _
      unfold unitP
      rw [if_pos h0, if_pos (by rw [hhc]; exact hc)]
    rw [e] at hF hK
    refine rl_B hR hp hat (by omega) (by omega) hw hc (fun z => ?_) (fun z => ?_)
    · have eo : opensP (sk (A0 tp) sz (pAt s) : Nat) (hereP (A0 tp) sz s) = wOpP (hereP (A0 tp) sz s) (pOp s + 1) := by
        unfold opensP
        rw [if_neg (show ¬ pOp (hereP (A0 tp) sz s) = 4 by show ¬ pOp s = 4; omega)]
        rfl
      rw [eo] at hF hK
      have s1 : SiS (A0 tp) sz (incP (wOpP (hereP (A0 tp) sz s) (pOp s + 1))) ts ty (sk (A0 tp) sz p + 1) cs [] (-10 :: P) := (h.sign hlt (c := -10) (by decide)).op (k := pOp s + 1) (by omega)
      have r := ps_ok (A0 tp) sz n 4 _ s1.2.1
      have ro : pOp (ps (A0 tp) sz n 4 (incP (wOpP (hereP (A0 tp) sz s) (pOp s + 1)))) = pOp s + 1 := r.2.2.1
      refine g4 _ ts ty _ _ (-10 :: P) no (br + 1) 0 cm s1 (HdB.c (by decide)) ?_ (Nat.le_succ_of_le hty) ?_ (Or.inl rfl) (fun z => absurd z.1 (by decide)) hcm ?_ (fun z => ?_) (fun ts2 p2 cs2 X2 h2 x2 k2 => ?_)
      · show P.length + 1 ≤ 3 + 3 * (pOp s + 1)
        omega
      · show no + (br + 1) = pOp s + 1
        omega
      · show 12 * (sz + 3 - (sk (A0 tp) sz (pAt s) + 1)) + 4 + 1 ≤ n
        omega
      · rw [must_no z] at hF
        exact hF z
      · generalize ps (A0 tp) sz n 4 (incP (wOpP (hereP (A0 tp) sz s) (pOp s + 1))) = t1 at *
        have hx2 := x2.2
        have hp2 := h2.2.2.1
        have hl2 : cs2.length + X2.length + (P.length + 1) + 1 ≤ p2 := h2.2.2.2.2.2.2.2.1
        have he2 : sk (A0 tp) sz (pAt t1) = sk (A0 tp) sz p2 := h2.2.2.2.1.symm
        have hX1 : ∀ x ∈ X2, (1 : Int) ≤ bnd x := fun x hx => by have := x2.1 x hx; omega
        have hP1 : HdB (-10 :: P) 1 := HdB.c (by decide)
        have hll : (X2 ++ -10 :: P).length = X2.length + (P.length + 1) := List.length_append
        by_cases h41 : bt (A0 tp) sz (sk (A0 tp) sz p2) = 41
        · refine rl_C hR hp2 hcm h2.2.2.2.2.2.2.2.2 (by omega) (by omega) h41 (relP_all hX1 hP1) (by omega) ?_
          rw [relC_all hX1 hP1]
          have em : mustP (A0 tp) sz 41 t1 = incP (hereP (A0 tp) sz t1) := by
            unfold mustP
            rw [if_pos h2.1, if_pos (show hereC (A0 tp) sz t1 = 41 by unfold hereC; rw [he2]; exact h41)]
            rfl
          rw [em] at hK
          refine hK ts2 _ _ [] ?_ (XB.nil _ _) trivial
          exact ((h2.sign (bt_lt h41 (by decide)) (c := -10) (by decide)).drop.drop).op (k := pOp t1 - 1) (by omega)
        · have em : mustP (A0 tp) sz 41 t1 = wFlP (hereP (A0 tp) sz t1) 1 (sk (A0 tp) sz p2 : Nat) := by
            unfold mustP
            rw [if_pos h2.1, if_neg (show ¬ hereC (A0 tp) sz t1 = 41 by unfold hereC; rw [he2]; exact h41), he2]
            exact if_pos h2.1
          rw [em] at hF
          have hk2 : bt (A0 tp) sz (sk (A0 tp) sz p2) ≠ 42 ∧ bt (A0 tp) sz (sk (A0 tp) sz p2) ≠ 43 ∧ bt (A0 tp) sz (sk (A0 tp) sz p2) ≠ 45 := k2
          refine rl_S hR hp2 hcm (by omega) h2.2.2.2.2.2.2.2.2 (by omega) (by omega) (by omega) (fun q => h41 q.1) (by omega) (fun q1 q2 => absurd ?_ q2) (fun _ => hF (show (1 : Nat) ≠ 0 by decide))
          refine ⟨?_, Or.inr (by omega)⟩
          unfold sgn at q1 ⊢
          unfold isCmp
          omega
    · have g1 : G2 sz (opensP (sk (A0 tp) sz (pAt s) : Nat) (hereP (A0 tp) sz s)) := h.2.1.here.opens h0
      have g2 := g1.inc (by rw [opens_at]; show sk (A0 tp) sz (pAt s) < sz; omega)
      have eo : opensP (sk (A0 tp) sz (pAt s) : Nat) (hereP (A0 tp) sz s) = wOpP (wFlP (hereP (A0 tp) sz s) 4 (sk (A0 tp) sz p : Nat)) (pOp s + 1) := by
        unfold opensP
        rw [if_pos (show pOp (hereP (A0 tp) sz s) = 4 by show pOp s = 4; omega), he, show wrongP (hereP (A0 tp) sz s) 4 ((sk (A0 tp) sz p : Nat) : Int) = _ from if_pos h0]
        rfl
      rw [eo] at hF g2
      rw [(ps_ok (A0 tp) sz n 4 _ g2).2.2.2 (show (4 : Nat) ≠ 0 by decide), must_no (s := incP (wOpP (wFlP (hereP (A0 tp) sz s) 4 (sk (A0 tp) sz p : Nat)) (pOp s + 1))) (show (4 : Nat) ≠ 0 by decide)] at hF
      exact hF (show (4 : Nat) ≠ 0 by decide)
  · by_cases hd : dgt (bt (A0 tp) sz (sk (A0 tp) sz p))
    · have e : ps (A0 tp) sz (n + 1) 0 s = tellNum (A0 tp) sz (hereP (A0 tp) sz s) := by
        show unitP _ _ _ s = _
        unfold unitP
        rw [if_pos h0, if_neg (by rw [hhc]; exact hc), if_pos (by rw [hhc]; exact hd)]
      rw [e] at hF hK
      have h0h : pFl (hereP (A0 tp) sz s) = 0 := h0
      have ev : numV (A0 tp) sz (hereP (A0 tp) sz s) = nmV (A0 tp) sz (sk (A0 tp) sz p) 0 := by
        unfold numV
        rw [if_pos h0h, if_pos (by rw [hhh]; exact hd), hss]
      have hv := nmV_rg (A0 tp) sz (sz + 1) (sk (A0 tp) sz p) 0 (by omega) (by decide)
      have hlt := (bt_d hd).1
      refine rl_D hR hp hat (by omega) hw hd (fun z => ?_) (fun z => ?_)
      · have en : numP (A0 tp) sz (hereP (A0 tp) sz s) = wAtP s (nmE (A0 tp) sz (sk (A0 tp) sz p)) := by
          unfold numP
          rw [if_pos h0h, if_pos (by rw [hhh]; exact hd), hss, if_neg z]
          rfl
        have hn1 := nmE_lt hd
        have hn2 := nmE_le (A0 tp) sz (sz + 1) (sk (A0 tp) sz p) (by omega)
        have t := h.val (e := nmE (A0 tp) sz (sk (A0 tp) sz p)) (c := 1) (v := nmV (A0 tp) sz (sk (A0 tp) sz p) 0) hn1 (by omega) (Or.inl rfl) ⟨hv.1, (by show _ ≤ (9999 : Int); omega)⟩ (by omega)
        unfold tellNum at hK
        rw [ev, en] at hK
        exact hK _ _ _ [] t (XB.nil _ _) trivial
      · have en : numP (A0 tp) sz (hereP (A0 tp) sz s) = wFlP (wAtP s (nmE (A0 tp) sz (sk (A0 tp) sz p))) 2 (sk (A0 tp) sz p : Nat) := by
          unfold numP
          rw [if_pos h0h, if_pos (by rw [hhh]; exact hd), hss, if_pos z]
          rfl
        have n2 : pFl (wFlP (wAtP s (nmE (A0 tp) sz (sk (A0 tp) sz p))) 2 (sk (A0 tp) sz p : Nat)) ≠ 0 := by show (2 : Nat) ≠ 0; decide
        unfold tellNum at hF
        rw [en, tells_no (by rw [tells_fl]; exact n2), tells_no n2] at hF
        exact hF n2
    · have h0h : pFl (hereP (A0 tp) sz s) = 0 := h0
      refine rl_F hR hp hat (by omega) hw hd hc (fun k hk z hn => ?_) (fun hn => ?_)
      · have ha : askP (A0 tp) sz (hereP (A0 tp) sz s) = (wAtP s (sk (A0 tp) sz p + wn (3 + k)), (k : Int)) := by
          rw [← he]
          rw [← he] at z hn
          have hk5 : k = 0 ∨ k = 1 ∨ k = 2 ∨ k = 3 ∨ k = 4 := by omega
          rcases hk5 with rfl | rfl | rfl | rfl | rfl
          · exact askL_k [] (l2 := [1, 2, 3, 4]) h0 (fun j hj => by cases hj) z
          · exact askL_k [0] (l2 := [2, 3, 4]) h0 (fun j hj => hn j (by simp at hj; omega)) z
          · exact askL_k [0, 1] (l2 := [3, 4]) h0 (fun j hj => hn j (by simp at hj; omega)) z
          · exact askL_k [0, 1, 2] (l2 := [4]) h0 (fun j hj => hn j (by simp at hj; omega)) z
          · exact askL_k [0, 1, 2, 3] (l2 := []) h0 (fun j hj => hn j (by simp at hj; omega)) z
        have e : ps (A0 tp) sz (n + 1) 0 s = tellAsk (k : Int) (wAtP s (sk (A0 tp) sz p + wn (3 + k))) := by
          show unitP _ _ _ s = _
          unfold unitP
          rw [if_pos h0, if_neg (by rw [hhc]; exact hc), if_neg (by rw [hhc]; exact hd), ha, if_neg (show ¬ (k : Int) = -1 by omega)]
        rw [e] at hK
        have hw2 := wn_ge (show 3 + k < 10 by omega)
        have := bt_ne (z.1 (wn (3 + k) - 1) (by omega)) (wg_nn (3 + k) _)
        have t := h.val (e := sk (A0 tp) sz p + wn (3 + k)) (c := 2) (v := (k : Int)) (by omega) (by omega) (Or.inr rfl) ⟨by omega, (by show (k : Int) ≤ 4; omega)⟩ (by omega)
        exact hK _ _ _ [] t (XB.nil _ _) trivial
      · have ha : askP (A0 tp) sz (hereP (A0 tp) sz s) = (hereP (A0 tp) sz s, -1) := askL_0 [0, 1, 2, 3, 4] h0 (fun j hj => by rw [he]; exact hn j (by simp at hj; omega))
        have e : ps (A0 tp) sz (n + 1) 0 s = tellNum (A0 tp) sz (hereP (A0 tp) sz s) := by
          show unitP _ _ _ s = _
          unfold unitP
          rw [if_pos h0, if_neg (by rw [hhc]; exact hc), if_neg (by rw [hhc]; exact hd), ha, if_pos rfl]
        rw [e] at hF
        have en : numP (A0 tp) sz (hereP (A0 tp) sz s) = wFlP (hereP (A0 tp) sz (hereP (A0 tp) sz s)) 1 (sk (A0 tp) sz p : Nat) := by
          unfold numP
          rw [if_pos h0h, if_neg (by rw [hhh]; exact hd), hss]
          exact if_pos h0
        have n1 : pFl (wFlP (hereP (A0 tp) sz (hereP (A0 tp) sz s)) 1 (sk (A0 tp) sz p : Nat)) ≠ 0 := by show (1 : Nat) ≠ 0; decide
        unfold tellNum at hF
        rw [en, tells_no (by rw [tells_fl]; exact n1), tells_no n1] at hF
        exact hF n1
end Sim6
