/-! ===== readRule's loop against the reference's parser: facts and tests ===== -/
section Sim7
variable {d rr tp sz p no br : Nat} {cs X P : List Int} {at_ cm : Int} {m : Mem} {F0 A0 L : Nat → Nat → Int} {Q : Nat → Option AV → Mem → Prop} {s : PSt} {ts : List Tok} {ty : List Bool} {f : Nat → Int}
set_option maxRecDepth 100000 in
theorem SiS.word (h : SiS f sz s ts ty p cs X P) {w : Nat} (hw : w < 10) (hz : wdP f sz w (sk f sz p)) {c : Int} (hc : -100 ≤ c ∧ c ≤ 10000) : SiS f sz (wAtP s (sk f sz p + wn w)) ts ty (sk f sz p + wn w) (X.reverse ++ cs) [] (c :: P) := by
  obtain ⟨h0, hg, hp, he, ht, hwf, hm, hl, ho⟩ := h
  have hs := sk_sz (f := f) hp
  have hw2 := wn_ge hw
  have hlt := bt_ne (hz.1 (wn w - 1) (by omega)) (wg_nn w _)
  refine ⟨h0, ⟨hg.1, hg.2.1, (by show sk f sz p + wn w ≤ sz + 1; omega), fun q => ⟨(hg.2.2.2 q).1, (by show sk f sz p + wn w ≤ sz; omega)⟩⟩, by omega, rfl, ht.k rfl rfl, hwf, ?_, ?_, fun x q => ?_⟩
  · rw [hm]
    rfl
  · rw [List.length_append, List.length_reverse]
    show X.length + cs.length + 0 + (P.length + 1) + 1 ≤ _
    omega
  · have q : x ∈ c :: P := q
    rcases List.mem_cons.mp q with q | q
    · rw [q]; exact hc
    · exact ho x (List.mem_append.mpr (Or.inr q))
set_option maxRecDepth 100000 in
theorem tk_hit {w : Nat} (h0 : pFl s = 0) (he : sk f sz (pAt s) = sk f sz p) (hz : wdP f sz w (sk f sz p)) : tkB f sz w s = 1 ∧ tkS f sz w s = wAtP s (sk f sz p + wn w) := by
  have e : tkB f sz w s = 1 := takesB_t ⟨h0, by rw [he]; exact hz⟩
  exact ⟨e, by rw [tkS_t e, he]⟩
set_option maxRecDepth 100000 in
theorem tk_miss {w : Nat} (h0 : pFl s = 0) (he : sk f sz (pAt s) = sk f sz p) (hz : ¬ wdP f sz w (sk f sz p)) : ¬ tkB f sz w s = 1 ∧ tkS f sz w s = hereP f sz s := by
  refine ⟨fun q => hz (by rw [← he]; exact (tkB_t q).2), ?_⟩
  unfold tkS takesP
  rw [if_pos h0, if_neg (by rw [he]; exact hz)]
set_option maxRecDepth 100000 in
theorem no_w9 {q : Nat} (hc : bt f sz q = 97) : ¬ wdP f sz 9 q := fun h => by
  have := h.1 0 (by decide)
  rw [Nat.add_zero, hc] at this
  exact absurd this (by decide)
set_option maxRecDepth 100000 in
theorem rl_cmp {c k : Int} (hR : RlW m rr tp sz F0 A0 L) (h : SiS (A0 tp) sz s ts ty p cs X P) (hl : (X ++ P).length ≤ 31) (hc : bt (A0 tp) sz (sk (A0 tp) sz p) = c) (hc1 : c = 60 ∨ c = 61 ∨ c = 62) (hk : sgn c = k) (hX : ∀ x ∈ X, bnd k ≤ bnd x) (hH : HdB P (bnd k)) (g : RG d m rr sz F0 A0 L Q 1 (sk (A0 tp) sz p + 1) (X.reverse ++ cs) (k :: P) no 0 at_ 1) : RG d m rr sz F0 A0 L Q 0 p cs (X ++ P) no 0 at_ 0 := by
  have hn : isCmp k := by
    rw [← hk]
    rcases hc1 with rfl | rfl | rfl <;> decide
  have hz : k ≠ 0 := by
    rw [← hk]
    rcases hc1 with rfl | rfl | rfl <;> decide
  have hsz := hR.2.2.1
  have hp := h.2.2.1
  have hlen := h.2.2.2.2.2.2.2.1
  refine rl_S hR hp (Or.inl rfl) (by omega) h.2.2.2.2.2.2.2.2 hl (by rw [List.length_append]; omega) (by omega) (by omega) (by omega) (fun _ _ => ?_) (fun z => ?_)
  · rw [hc, hk, relP_all hX hH, relC_all hX hH, show b2i ((0 : Int) = 1 ∨ isCmp k) = 1 from b2i_t (Or.inr hn)]
    exact g
  · rw [hc, hk] at z
    rcases z with z | z
    · exact absurd z hz
    · exact absurd z.2 (by omega)
end Sim7
section Sim8
variable (d : Nat) (m : Mem) (rr tp sz : Nat) (F0 A0 L : Nat → Nat → Int) (Q : Nat → Option AV → Mem → Prop)
/-- behind a truth -/
def KTr (t : PSt) (ty : List Bool) (P : List Int) (bX : Int) (lX : Nat) (E : Nat → Prop) : Prop := ∀ ts2 p2 cs2 X2 no2, SiS (A0 tp) sz t ts2 (true :: ty) p2 cs2 X2 P → XB bX lX X2 → e3 (bt (A0 tp) sz (sk (A0 tp) sz p2)) → E (sk (A0 tp) sz p2) → RG d m rr sz F0 A0 L Q 0 p2 cs2 (X2 ++ P) no2 0 0 1
def w5 (_ : Nat) : Prop := True
def w6 (q : Nat) : Prop := ¬ wdP (A0 tp) sz 8 q
def w8 (q : Nat) : Prop := ¬ wdP (A0 tp) sz 8 q ∧ ¬ wdP (A0 tp) sz 9 q
def SFa (n : Nat) : Prop := ∀ (s : PSt) (ts : List Tok) (ty : List Bool) (p : Nat) (cs P : List Int), SiS (A0 tp) sz s ts ty p cs [] P → HdB P 4 → P.length ≤ 2 + pOp s → ty.length ≤ P.length → 12 * (sz + 3 - pAt s) + 5 + 1 ≤ n → KF m rr sz F0 A0 L Q (ps (A0 tp) sz n 5 s) → KTr d m rr tp sz F0 A0 L Q (ps (A0 tp) sz n 5 s) ty P 3 (7 - pOp s) w5 → RG d m rr sz F0 A0 L Q 1 p cs P (pOp s) 0 1 0
def SL (n q : Nat) (mx : Nat) (bX : Int) (lX : Nat) (E0 E : Nat → Prop) : Prop := ∀ (s : PSt) (ts : List Tok) (ty : List Bool) (p : Nat) (cs X P : List Int) (no : Nat), SiS (A0 tp) sz s ts (true :: ty) p cs X P → XB bX lX X → e3 (bt (A0 tp) sz (sk (A0 tp) sz p)) → E0 (sk (A0 tp) sz p) → HdB P bX → P.length ≤ mx → ty.length ≤ P.length → pOp s = 0 → 12 * (sz + 3 - pAt s) + q + 1 ≤ n → KF m rr sz F0 A0 L Q (ps (A0 tp) sz n q s) → KTr d m rr tp sz F0 A0 L Q (ps (A0 tp) sz n q s) ty P bX lX E → RG d m rr sz F0 A0 L Q 0 p cs (X ++ P) no 0 0 1
def SV (n q : Nat) (mx : Nat) (bX : Int) (lX : Nat) (E : Nat → Prop) : Prop := ∀ (s : PSt) (ts : List Tok) (ty : List Bool) (p : Nat) (cs P : List Int), SiS (A0 tp) sz s ts ty p cs [] P → HdB P bX → P.length ≤ mx → ty.length ≤ P.length → pOp s = 0 → 12 * (sz + 3 - pAt s) + q + 1 ≤ n → KF m rr sz F0 A0 L Q (ps (A0 tp) sz n q s) → KTr d m rr tp sz F0 A0 L Q (ps (A0 tp) sz n q s) ty P bX lX E → RG d m rr sz F0 A0 L Q 1 p cs P 0 0 1 0
end Sim8
section Sim9
variable {d rr tp sz n : Nat} {m : Mem} {F0 A0 L : Nat → Nat → Int} {Q : Nat → Option AV → Mem → Prop}
set_option maxRecDepth 100000 in
/-- facts joined by "and" -/
theorem sim7 (g5 : SFa d m rr tp sz F0 A0 L Q n) (g6 : SL d m rr tp sz F0 A0 L Q n 6 1 2 8 w5 (w6 tp sz A0)) : SV d m rr tp sz F0 A0 L Q (n + 1) 7 1 2 8 (w6 tp sz A0) := by
  intro s ts ty p cs P h hH hL hty hno hfu hF hK
  have r := ps_ok (A0 tp) sz n 5 s h.2.1
  have g := g5 s ts ty p cs P h (hH.wk (by decide)) (by omega) hty (by omega) (fun z => ?_) (fun ts2 p2 cs2 X2 no2 h2 x2 k2 _ => ?_)
  · rw [hno] at g
    exact g
  · rw [show ps (A0 tp) sz (n + 1) 7 s = ps (A0 tp) sz n 5 s from (ps_ok (A0 tp) sz n 6 _ r.2.1).2.2.2 z] at hF
    exact hF z
  · have := r.1.1
    exact g6 _ ts2 ty p2 cs2 X2 P no2 h2 (x2.wk (by decide) (by omega)) k2 trivial hH hL hty (by rw [r.2.2.1]; exact hno) (by omega) hF hK
set_option maxRecDepth 100000 in
theorem sim9 (g7 : SV d m rr tp sz F0 A0 L Q n 7 1 2 8 (w6 tp sz A0)) (g8 : SL d m rr tp sz F0 A0 L Q n 8 0 1 9 (w6 tp sz A0) (w8 tp sz A0)) : SV d m rr tp sz F0 A0 L Q (n + 1) 9 0 1 9 (w8 tp sz A0) := by
  intro s ts ty p cs P h hH hL hty hno hfu hF hK
  have r := ps_ok (A0 tp) sz n 7 s h.2.1
  refine g7 s ts ty p cs P h (hH.wk (by decide)) (by omega) hty hno (by omega) (fun z => ?_) (fun ts2 p2 cs2 X2 no2 h2 x2 k2 k3 => ?_)
  · rw [show ps (A0 tp) sz (n + 1) 9 s = ps (A0 tp) sz n 7 s from (ps_ok (A0 tp) sz n 8 _ r.2.1).2.2.2 z] at hF
    exact hF z
  · have := r.1.1
    exact g8 _ ts2 ty p2 cs2 X2 P no2 h2 (x2.wk (by decide) (by decide)) k2 k3 hH hL hty (by rw [r.2.2.1]; exact hno) (by omega) hF hK
set_option maxRecDepth 100000 in
/-- "and", and what follows -/
theorem sim6 (hR : RlW m rr tp sz F0 A0 L) (g5 : SFa d m rr tp sz F0 A0 L Q n) (g6 : SL d m rr tp sz F0 A0 L Q n 6 1 2 8 w5 (w6 tp sz A0)) : SL d m rr tp sz F0 A0 L Q (n + 1) 6 1 2 8 w5 (w6 tp sz A0) := by
  intro s ts ty p cs X P no h hX hE _ hH hL hty hno hfu hF hK
  have h0 := h.1
  have he : sk (A0 tp) sz (pAt s) = sk (A0 tp) sz p := h.2.2.2.1.symm
  have hx2 := hX.2
  have hp := h.2.2.1
  have hsz := hR.2.2.1
  have hlen := h.2.2.2.2.2.2.2.1
  have hsk := sk_sz (f := A0 tp) (h.2.1.2.2.2 h0).2
  have hll : (X ++ P).length = X.length + P.length := List.length_append
  by_cases hz : wdP (A0 tp) sz 8 (sk (A0 tp) sz p)
  · have hk := tk_hit h0 he hz
    have ha : bt (A0 tp) sz (sk (A0 tp) sz p) = 97 := by
      have := hz.1 0 (by decide)
      rw [Nat.add_zero] at this
      exact this
    have e : ps (A0 tp) sz (n + 1) 6 s = ps (A0 tp) sz n 6 (tellsP 9 (ps (A0 tp) sz n 5 (wAtP s (sk (A0 tp) sz p + 3)))) := by
      show factsL _ _ _ s = _
      unfold factsL
      rw [if_pos hk.1, hk.2]
      rfl
    rw [e] at hF hK
    have s1 : SiS (A0 tp) sz (wAtP s (sk (A0 tp) sz p + 3)) ts (true :: ty) (sk (A0 tp) sz p + 3) (X.reverse ++ cs) [] (-12 :: P) := h.word (w := 8) (by decide) hz (by decide)
    have r := ps_ok (A0 tp) sz n 5 _ s1.2.1
    have ra : sk (A0 tp) sz p + 3 ≤ pAt (ps (A0 tp) sz n 5 (wAtP s (sk (A0 tp) sz p + 3))) := r.1.1
    have ro : pOp (ps (A0 tp) sz n 5 (wAtP s (sk (A0 tp) sz p + 3))) = pOp s := r.2.2.1
    have rl := ps_ok (A0 tp) sz n 6 _ (r.2.1.tells (c := 9))
    refine rl_J hR hp ⟨rfl, rfl⟩ h.2.2.2.2.2.2.2.2 (by omega) (by omega) (by omega) (Or.inr hz) (fun q => ?_) (fun _ => ?_)
    · exact absurd q (no_w9 ha)
    · rw [relP_all hX.1 hH, relC_all hX.1 hH]
      have g := g5 _ ts (true :: ty) _ _ (-12 :: P) s1 (HdB.c (by decide)) ?_ (Nat.succ_le_succ hty) ?_ (fun z => ?_) (fun ts2 p2 cs2 X2 no2 h2 x2 k2 _ => ?_)
      · rw [show pOp (wAtP s (sk (A0 tp) sz p + 3)) = 0 from hno] at g
        exact g
      · show P.length + 1 ≤ 2 + pOp s
        omega
      · show 12 * (sz + 3 - (sk (A0 tp) sz p + 3)) + 5 + 1 ≤ n
        omega
      · have z2 : pFl (tellsP 9 (ps (A0 tp) sz n 5 (wAtP s (sk (A0 tp) sz p + 3)))) ≠ 0 := by rw [tells_fl]; exact z
        rw [rl.2.2.2 z2, tells_no z] at hF
        exact hF z
      · have t2 := h2.tell (k := 9) (by decide) rfl (ty2 := true :: ty) ⟨ty, rfl, rfl⟩
        rw [show X2 ++ -12 :: P = (X2 ++ [-12]) ++ P by rw [List.append_assoc]; rfl]
        refine g6 _ _ ty p2 cs2 (X2 ++ [-12]) P no2 t2 (x2.snoc (by decide) (by omega) (by decide)) k2 trivial hH hL hty ?_ ?_ hF hK
        · show pOp (tellsP 9 _) = 0
          rw [tells_op, ro]; exact hno
        · show 12 * (sz + 3 - pAt (tellsP 9 _)) + 6 + 1 ≤ n
          rw [tells_at]; omega
  · have hk := tk_miss h0 he hz
    have e : ps (A0 tp) sz (n + 1) 6 s = hereP (A0 tp) sz s := by
      show factsL _ _ _ s = _
      unfold factsL
      rw [if_neg hk.1, hk.2]
    rw [e] at hF hK
    exact hK ts p cs X no h.here hX hE hz
set_option maxRecDepth 100000 in
/-- "or", and what follows -/
theorem sim8 (hR : RlW m rr tp sz F0 A0 L) (g7 : SV d m rr tp sz F0 A0 L Q n 7 1 2 8 (w6 tp sz A0)) (g8 : SL d m rr tp sz F0 A0 L Q n 8 0 1 9 (w6 tp sz A0) (w8 tp sz A0)) : SL d m rr tp sz F0 A0 L Q (n + 1) 8 0 1 9 (w6 tp sz A0) (w8 tp sz A0) := by
  intro s ts ty p cs X P no h hX hE hE6 hH hL hty hno hfu hF hK
  have h0 := h.1
  have he : sk (A0 tp) sz (pAt s) = sk (A0 tp) sz p := h.2.2.2.1.symm
  have hx2 := hX.2
  have hp := h.2.2.1
  have hsz := hR.2.2.1
  have hlen := h.2.2.2.2.2.2.2.1
  have hsk := sk_sz (f := A0 tp) (h.2.1.2.2.2 h0).2
  have hll : (X ++ P).length = X.length + P.length := List.length_append
  by_cases hz : wdP (A0 tp) sz 9 (sk (A0 tp) sz p)
  · have hk := tk_hit h0 he hz
    have ha : bt (A0 tp) sz (sk (A0 tp) sz p) = 111 := by
      have := hz.1 0 (by decide)
      rw [Nat.add_zero] at this
      exact this
    have e : ps (A0 tp) sz (n + 1) 8 s = ps (A0 tp) sz n 8 (tellsP 10 (ps (A0 tp) sz n 7 (wAtP s (sk (A0 tp) sz p + 2)))) := by
      show testL _ _ _ s = _
      unfold testL
      rw [if_pos hk.1, hk.2]
      rfl
    rw [e] at hF hK
    have s1 : SiS (A0 tp) sz (wAtP s (sk (A0 tp) sz p + 2)) ts (true :: ty) (sk (A0 tp) sz p + 2) (X.reverse ++ cs) [] (-11 :: P) := h.word (w := 9) (by decide) hz (by decide)
    have r := ps_ok (A0 tp) sz n 7 _ s1.2.1
    have ra : sk (A0 tp) sz p + 2 ≤ pAt (ps (A0 tp) sz n 7 (wAtP s (sk (A0 tp) sz p + 2))) := r.1.1
    have ro : pOp (ps (A0 tp) sz n 7 (wAtP s (sk (A0 tp) sz p + 2))) = pOp s := r.2.2.1
    have rl := ps_ok (A0 tp) sz n 8 _ (r.2.1.tells (c := 10))
    refine rl_J hR hp ⟨rfl, rfl⟩ h.2.2.2.2.2.2.2.2 (by omega) (by omega) (by omega) (Or.inl hz) (fun _ => ?_) (fun q => absurd hz q)
    rw [relP_all hX.1 hH, relC_all hX.1 hH]
    refine g7 _ ts (true :: ty) _ _ (-11 :: P) s1 (HdB.c (by decide)) ?_ (Nat.succ_le_succ hty) hno ?_ (fun z => ?_) (fun ts2 p2 cs2 X2 no2 h2 x2 k2 k3 => ?_)
    · show P.length + 1 ≤ 1
      omega
    · show 12 * (sz + 3 - (sk (A0 tp) sz p + 2)) + 7 + 1 ≤ n
      omega
    · have z2 : pFl (tellsP 10 (ps (A0 tp) sz n 7 (wAtP s (sk (A0 tp) sz p + 2)))) ≠ 0 := by rw [tells_fl]; exact z
      rw [rl.2.2.2 z2, tells_no z] at hF
      exact hF z
    · have t2 := h2.tell (k := 10) (by decide) rfl (ty2 := true :: ty) ⟨ty, rfl, rfl⟩
      rw [show X2 ++ -11 :: P = (X2 ++ [-11]) ++ P by rw [List.append_assoc]; rfl]
      refine g8 _ _ ty p2 cs2 (X2 ++ [-11]) P no2 t2 (x2.snoc (by decide) (by decide) (by decide)) k2 k3 hH hL hty ?_ ?_ hF hK
      · show pOp (tellsP 10 _) = 0
        rw [tells_op, ro]; exact hno
      · show 12 * (sz + 3 - pAt (tellsP 10 _)) + 8 + 1 ≤ n
        rw [tells_at]; omega
  · have hk := tk_miss h0 he hz
    have e : ps (A0 tp) sz (n + 1) 8 s = hereP (A0 tp) sz s := by
      show testL _ _ _ s = _
      unfold testL
      rw [if_neg hk.1, hk.2]
    rw [e] at hF hK
    exact hK ts p cs X no h.here hX hE ⟨hE6, hz⟩
end Sim9
