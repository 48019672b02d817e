/-! ===== readRule's loop against the reference's parser: values, products, sums ===== -/
section Sim2
variable {d rr tp sz p no br : Nat} {cs X P : List Int} {at_ cm : Int} {m : Mem} {F0 A0 L : Nat → Nat → Int} {Q : Nat → Option AV → Mem → Prop} {s : PSt} {ts : List Tok} {ty : List Bool}
set_option maxRecDepth 100000 in
theorem no_word {f : Nat → Int} {sz q w : Nat} {c : Int} (hc : bt f sz q = c) (hw : w = 8 ∨ w = 9) (h8 : c ≠ 97) (h9 : c ≠ 111) : ¬ wdP f sz w q := by
  intro h
  rcases hw with rfl | rfl
  · have := h.1 0 (by decide)
    rw [Nat.add_zero, hc] at this
    exact h8 this
  · have := h.1 0 (by decide)
    rw [Nat.add_zero, hc] at this
    exact h9 this
set_option maxRecDepth 100000 in
theorem rl_op {c k : Int} (hR : RlW m rr tp sz F0 A0 L) (h : SiS (A0 tp) sz s ts ty p cs X P) (hcm : cm = 0 ∨ cm = 1) (hbr : br ≤ 9) (hl : (X ++ P).length ≤ 31) (hc : bt (A0 tp) sz (sk (A0 tp) sz p) = c) (hc1 : c = 42 ∨ c = 43 ∨ c = 45) (hk : sgn c = k) (hX : ∀ x ∈ X, bnd k ≤ bnd x) (hH : HdB P (bnd k)) (g : RG d m rr sz F0 A0 L Q 1 (sk (A0 tp) sz p + 1) (X.reverse ++ cs) (k :: P) no br at_ cm) : RG d m rr sz F0 A0 L Q 0 p cs (X ++ P) no br at_ cm := by
  have hn : ¬ isCmp k := by
    rw [← hk]
    rcases hc1 with rfl | rfl | rfl <;> decide
  have hz : k ≠ 0 := by
    rw [← hk]
    rcases hc1 with rfl | rfl | rfl <;> decide
  have hsz := hR.2.2.1
  have hp := h.2.2.1
  have hlen := h.2.2.2.2.2.2.2.1
  refine rl_S hR hp hcm hbr h.2.2.2.2.2.2.2.2 hl (by rw [List.length_append]; omega) (by rw [hc]; omega) (by rw [hc]; omega) ?_ (fun _ _ => ?_) (fun z => ?_)
  · rintro ⟨_, z | z⟩
    · exact no_word hc (Or.inr rfl) (by omega) (by omega) z
    · exact no_word hc (Or.inl rfl) (by omega) (by omega) z
  · rw [hc, hk, relP_all hX hH, relC_all hX hH, show b2i (cm = 1 ∨ isCmp k) = cm from ?_]
    · exact g
    · rcases hcm with rfl | rfl
      · exact b2i_f (fun z => z.elim (by decide) hn)
      · exact b2i_t (Or.inl rfl)
  · rw [hc, hk] at z
    rcases z with z | z
    · exact absurd z hz
    · exact absurd z.1 hn
end Sim2
section Sim3
variable (d : Nat) (m : Mem) (rr tp sz : Nat) (F0 A0 L : Nat → Nat → Int) (Q : Nat → Option AV → Mem → Prop)
def KF (t : PSt) : Prop := pFl t ≠ 0 → RE m rr sz F0 A0 L Q (pFl t) (pFa t)
/-- a value is due -/
def SA (n q : Nat) (bP : Int) (mx : Nat) (bX : Int) (lX : Nat) (E : Int → Prop) : Prop := ∀ (s : PSt) (ts : List Tok) (ty : List Bool) (p : Nat) (cs P : List Int) (no br : Nat) (at_ cm : Int), SiS (A0 tp) sz s ts ty p cs [] P → HdB P bP → P.length ≤ mx + 3 * pOp s → ty.length ≤ P.length → no + br = pOp s → (at_ = 0 ∨ at_ = 1) → ¬ (at_ = 1 ∧ wdP (A0 tp) sz 2 (sk (A0 tp) sz p)) → (cm = 0 ∨ cm = 1) → 12 * (sz + 3 - pAt s) + q + 1 ≤ n → KF m rr sz F0 A0 L Q (ps (A0 tp) sz n q s) → (∀ ts2 p2 cs2 X2, SiS (A0 tp) sz (ps (A0 tp) sz n q s) ts2 (false :: ty) p2 cs2 X2 P → XB bX lX X2 → E (bt (A0 tp) sz (sk (A0 tp) sz p2)) → RG d m rr sz F0 A0 L Q 0 p2 cs2 (X2 ++ P) no br 0 cm) → RG d m rr sz F0 A0 L Q 1 p cs P no br at_ cm
/-- a sign is due -/
def SB (n q : Nat) (bP : Int) (mx : Nat) (bX : Int) (lX : Nat) (E0 E : Int → Prop) : Prop := ∀ (s : PSt) (ts : List Tok) (ty : List Bool) (p : Nat) (cs X P : List Int) (no br : Nat) (cm : Int), SiS (A0 tp) sz s ts (false :: ty) p cs X P → XB bX lX X → E0 (bt (A0 tp) sz (sk (A0 tp) sz p)) → HdB P bP → P.length ≤ mx + 3 * pOp s → ty.length ≤ P.length → no + br = pOp s → (cm = 0 ∨ cm = 1) → 12 * (sz + 3 - pAt s) + q + 1 ≤ n → KF m rr sz F0 A0 L Q (ps (A0 tp) sz n q s) → (∀ ts2 p2 cs2 X2, SiS (A0 tp) sz (ps (A0 tp) sz n q s) ts2 (false :: ty) p2 cs2 X2 P → XB bX lX X2 → E (bt (A0 tp) sz (sk (A0 tp) sz p2)) → RG d m rr sz F0 A0 L Q 0 p2 cs2 (X2 ++ P) no br 0 cm) → RG d m rr sz F0 A0 L Q 0 p cs (X ++ P) no br 0 cm
def eT (_ : Int) : Prop := True
def e1 (c : Int) : Prop := c ≠ 42
def e3 (c : Int) : Prop := c ≠ 42 ∧ c ≠ 43 ∧ c ≠ 45
end Sim3
section Sim4
variable {d rr tp sz n : Nat} {m : Mem} {F0 A0 L : Nat → Nat → Int} {Q : Nat → Option AV → Mem → Prop}
set_option maxRecDepth 100000 in
/-- a product -/
theorem sim2 (g0 : SA d m rr tp sz F0 A0 L Q n 0 7 5 7 0 eT) (g1 : SB d m rr tp sz F0 A0 L Q n 1 6 4 6 1 eT e1) : SA d m rr tp sz F0 A0 L Q (n + 1) 2 6 4 6 1 e1 := by
  intro s ts ty p cs P no br at_ cm h hH hL hty hno hat hw hcm hfu hF hK
  have r := ps_ok (A0 tp) sz n 0 s h.2.1
  refine g0 s ts ty p cs P no br at_ cm h (hH.wk (by decide)) (by omega) hty hno hat hw hcm (by omega) (fun z => ?_) (fun ts2 p2 cs2 X2 h2 x2 _ => ?_)
  · rw [show ps (A0 tp) sz (n + 1) 2 s = ps (A0 tp) sz n 0 s from (ps_ok (A0 tp) sz n 1 _ r.2.1).2.2.2 z] at hF
    exact hF z
  · have := r.1.1
    exact g1 _ ts2 ty p2 cs2 X2 P no br cm h2 (x2.wk (by decide) (by decide)) trivial hH (by rw [r.2.2.1]; omega) hty (by rw [r.2.2.1]; exact hno) hcm (by omega) hF hK
set_option maxRecDepth 100000 in
/-- a sum -/
theorem sim4 (g2 : SA d m rr tp sz F0 A0 L Q n 2 6 4 6 1 e1) (g3 : SB d m rr tp sz F0 A0 L Q n 3 5 3 5 2 e1 e3) : SA d m rr tp sz F0 A0 L Q (n + 1) 4 5 3 5 2 e3 := by
  intro s ts ty p cs P no br at_ cm h hH hL hty hno hat hw hcm hfu hF hK
  have r := ps_ok (A0 tp) sz n 2 s h.2.1
  refine g2 s ts ty p cs P no br at_ cm h (hH.wk (by decide)) (by omega) hty hno hat hw hcm (by omega) (fun z => ?_) (fun ts2 p2 cs2 X2 h2 x2 k2 => ?_)
  · rw [show ps (A0 tp) sz (n + 1) 4 s = ps (A0 tp) sz n 2 s from (ps_ok (A0 tp) sz n 3 _ r.2.1).2.2.2 z] at hF
    exact hF z
  · have := r.1.1
    exact g3 _ ts2 ty p2 cs2 X2 P no br cm h2 (x2.wk (by decide) (by decide)) k2 hH (by rw [r.2.2.1]; omega) hty (by rw [r.2.2.1]; exact hno) hcm (by omega) hF hK
set_option maxRecDepth 100000 in
/-- a product goes on -/
theorem sim1 (hR : RlW m rr tp sz F0 A0 L) (g0 : SA d m rr tp sz F0 A0 L Q n 0 7 5 7 0 eT) (g1 : SB d m rr tp sz F0 A0 L Q n 1 6 4 6 1 eT e1) : SB d m rr tp sz F0 A0 L Q (n + 1) 1 6 4 6 1 eT e1 := by
  intro s ts ty p cs X P no br cm h hX hE hH hL hty hno hcm hfu hF hK
  have h0 := h.1
  have he : sk (A0 tp) sz (pAt s) = sk (A0 tp) sz p := h.2.2.2.1.symm
  have hop := (h.2.1.2.2.2 h0).1
  have hx2 := hX.2
  have hsk := sk_sz (f := A0 tp) (h.2.1.2.2.2 h0).2
  by_cases hc : bt (A0 tp) sz (sk (A0 tp) sz p) = 42
  · have hlt := bt_lt hc (by decide)
    have e : ps (A0 tp) sz (n + 1) 1 s = ps (A0 tp) sz n 1 (tellsP 5 (ps (A0 tp) sz n 0 (incP (hereP (A0 tp) sz s)))) := by
      show prodL _ _ _ s = _
      unfold prodL
      rw [if_pos h0, if_pos (show hereC (A0 tp) sz s = 42 by unfold hereC; rw [he]; exact hc)]
    rw [e] at hF hK
    have s1 := h.sign hlt (c := -19) (by decide)
    have r := ps_ok (A0 tp) sz n 0 _ s1.2.1
    have ra : sk (A0 tp) sz (pAt s) + 1 ≤ pAt (ps (A0 tp) sz n 0 (incP (hereP (A0 tp) sz s))) := r.1.1
    have ro : pOp (ps (A0 tp) sz n 0 (incP (hereP (A0 tp) sz s))) = pOp s := r.2.2.1
    have rl := ps_ok (A0 tp) sz n 1 _ (r.2.1.tells (c := 5))
    refine rl_op hR h hcm (by omega) (by rw [List.length_append]; omega) hc (Or.inl rfl) rfl hX.1 hH ?_
    refine g0 _ ts (false :: ty) _ _ (-19 :: P) no br 0 cm s1 (HdB.c (by decide)) ?_ (Nat.succ_le_succ hty) hno (Or.inl rfl) (fun z => absurd z.1 (by decide)) hcm ?_ (fun z => ?_) (fun ts2 p2 cs2 X2 h2 x2 _ => ?_)
    · show P.length + 1 ≤ 5 + 3 * pOp s
      omega
    · show 12 * (sz + 3 - (sk (A0 tp) sz (pAt s) + 1)) + 0 + 1 ≤ n
      omega
    · have z2 : pFl (tellsP 5 (ps (A0 tp) sz n 0 (incP (hereP (A0 tp) sz s)))) ≠ 0 := by rw [tells_fl]; exact z
      rw [rl.2.2.2 z2, tells_no z] at hF
      exact hF z
    · have t2 := h2.tell (k := 5) (by decide) rfl (ty2 := false :: ty) ⟨ty, rfl, rfl⟩
      rw [show X2 ++ -19 :: P = (X2 ++ [-19]) ++ P by rw [List.append_assoc]; rfl]
      refine g1 _ _ ty p2 cs2 (X2 ++ [-19]) P no br cm t2 (x2.snoc (by decide) (by decide) (by decide)) trivial hH ?_ hty ?_ hcm ?_ hF hK
      · show P.length ≤ 4 + 3 * pOp (tellsP 5 _)
        rw [tells_op, ro]; exact hL
      · show no + br = pOp (tellsP 5 _)
        rw [tells_op, ro]; exact hno
      · show 12 * (sz + 3 - pAt (tellsP 5 _)) + 1 + 1 ≤ n
        rw [tells_at]; omega
  · have e : ps (A0 tp) sz (n + 1) 1 s = hereP (A0 tp) sz s := by
      show prodL _ _ _ s = _
      unfold prodL
      rw [if_pos h0, if_neg (show ¬ hereC (A0 tp) sz s = 42 by unfold hereC; rw [he]; exact hc)]
    rw [e] at hF hK
    exact hK ts p cs X h.here hX hc
set_option maxRecDepth 100000 in
/-- a sum goes on -/
theorem sim3 (hR : RlW m rr tp sz F0 A0 L) (g2 : SA d m rr tp sz F0 A0 L Q n 2 6 4 6 1 e1) (g3 : SB d m rr tp sz F0 A0 L Q n 3 5 3 5 2 e1 e3) : SB d m rr tp sz F0 A0 L Q (n + 1) 3 5 3 5 2 e1 e3 := by
  intro s ts ty p cs X P no br cm h hX hE hH hL hty hno hcm hfu hF hK
  have h0 := h.1
  have he : sk (A0 tp) sz (pAt s) = sk (A0 tp) sz p := h.2.2.2.1.symm
  have hop := (h.2.1.2.2.2 h0).1
  have hx2 := hX.2
  have hsk := sk_sz (f := A0 tp) (h.2.1.2.2.2 h0).2
  have key : ∀ (k : Nat) (c w : Int), bt (A0 tp) sz (sk (A0 tp) sz p) = c → (c = 43 ∧ k = 3 ∨ c = 45 ∧ k = 4) → w = cod (k, 0) → RG d m rr sz F0 A0 L Q 0 p cs (X ++ P) no br 0 cm := by
    intro k c w hc hck hw
    have hlt := bt_lt hc (by omega)
    have hk3 : k = 3 ∨ k = 4 := by omega
    have hws : sgn c = w := by
      rw [hw]
      rcases hck with ⟨rfl, rfl⟩ | ⟨rfl, rfl⟩ <;> decide
    have hwb : bnd w = 5 := by
      rw [hw]
      rcases hk3 with rfl | rfl <;> decide
    have hwr : -100 ≤ w ∧ w ≤ 10000 := by
      rw [hw]
      rcases hk3 with rfl | rfl <;> decide
    have e : ps (A0 tp) sz (n + 1) 3 s = ps (A0 tp) sz n 3 (tellsP (k : Int) (ps (A0 tp) sz n 2 (incP (hereP (A0 tp) sz s)))) := by
      show sumL _ _ _ s = _
      unfold sumL
      have hh : hereC (A0 tp) sz s = c := by unfold hereC; rw [he]; exact hc
      rw [if_pos h0, hh, if_pos (by omega)]
      rcases hck with ⟨rfl, rfl⟩ | ⟨rfl, rfl⟩ <;> rfl
    rw [e] at hF hK
    have s1 := h.sign hlt hwr
    have r := ps_ok (A0 tp) sz n 2 _ s1.2.1
    have ra : sk (A0 tp) sz (pAt s) + 1 ≤ pAt (ps (A0 tp) sz n 2 (incP (hereP (A0 tp) sz s))) := r.1.1
    have ro : pOp (ps (A0 tp) sz n 2 (incP (hereP (A0 tp) sz s))) = pOp s := r.2.2.1
    have rl := ps_ok (A0 tp) sz n 3 _ (r.2.1.tells (c := (k : Int)))
    refine rl_op hR h hcm (by omega) (by rw [List.length_append]; omega) hc (by omega) hws (by rw [hwb]; exact hX.1) (by rw [hwb]; exact hH) ?_
    refine g2 _ ts (false :: ty) _ _ (w :: P) no br 0 cm s1 (HdB.c (by rw [hwb]; decide)) ?_ (Nat.succ_le_succ hty) hno (Or.inl rfl) (fun z => absurd z.1 (by decide)) hcm ?_ (fun z => ?_) (fun ts2 p2 cs2 X2 h2 x2 k2 => ?_)
    · show P.length + 1 ≤ 4 + 3 * pOp s
      omega
    · show 12 * (sz + 3 - (sk (A0 tp) sz (pAt s) + 1)) + 2 + 1 ≤ n
      omega
    · have z2 : pFl (tellsP (k : Int) (ps (A0 tp) sz n 2 (incP (hereP (A0 tp) sz s)))) ≠ 0 := by rw [tells_fl]; exact z
      rw [rl.2.2.2 z2, tells_no z] at hF
      exact hF z
    · have t2 := h2.tell (k := k) (by omega) hw.symm (ty2 := false :: ty) (by rcases hk3 with rfl | rfl <;> exact ⟨ty, rfl, rfl⟩)
      rw [show X2 ++ w :: P = (X2 ++ [w]) ++ P by rw [List.append_assoc]; rfl]
      refine g3 _ _ ty p2 cs2 (X2 ++ [w]) P no br cm t2 (x2.snoc (by decide) (by decide) (by rw [hwb]; decide)) k2 hH ?_ hty ?_ hcm ?_ hF hK
      · rw [tells_op, ro]; exact hL
      · rw [tells_op, ro]; exact hno
      · rw [tells_at]; omega
  by_cases h43 : bt (A0 tp) sz (sk (A0 tp) sz p) = 43
  · exact key 3 43 _ h43 (Or.inl ⟨rfl, rfl⟩) rfl
  · by_cases h45 : bt (A0 tp) sz (sk (A0 tp) sz p) = 45
    · exact key 4 45 _ h45 (Or.inr ⟨rfl, rfl⟩) rfl
    · have e : ps (A0 tp) sz (n + 1) 3 s = hereP (A0 tp) sz s := by
        show sumL _ _ _ s = _
        unfold sumL
        have hh : hereC (A0 tp) sz s = bt (A0 tp) sz (sk (A0 tp) sz p) := by unfold hereC; rw [he]
        rw [if_pos h0, hh, if_neg (by omega)]
      rw [e] at hF hK
      exact hK ts p cs X h.here hX ⟨hE, h43, h45⟩
end Sim4
