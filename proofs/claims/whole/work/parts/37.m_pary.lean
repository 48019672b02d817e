/-! ===== the reference's parser runs so: loops, units, facts ===== -/
section MPary
variable {d sz n e : Nat} {m : Mem} {I : Nat → Int} {A L : Nat → Nat → Int} {s : PSt} {Q : Nat → Option AV → Mem → Prop}
set_option maxRecDepth 100000 in
theorem sk_sk (f : Nat → Int) (sz : Nat) : ∀ n k, sz - k < n → sk f sz (sk f sz k) = sk f sz k
  | 0, k, h => by omega
  | n + 1, k, h => by
    rw [sk_eq f sz k]
    split
    · next q => exact sk_sk f sz n (k + 1) (by omega)
    · next q => rw [sk_eq, if_neg q]
set_option maxRecDepth 100000 in
theorem here_here (f : Nat → Int) (sz : Nat) (s : PSt) : hereP f sz (hereP f sz s) = hereP f sz s := by
  unfold hereP
  show wAtP (wAtP s _) (sk f sz (sk f sz (pAt s))) = _
  rw [sk_sk f sz (sz + 1) _ (by omega)]
  rfl
set_option maxRecDepth 100000 in
theorem hereC_here (f : Nat → Int) (sz : Nat) (s : PSt) : hereC f sz (hereP f sz s) = hereC f sz s := by
  unfold hereC
  show bt f sz (sk f sz (sk f sz (pAt s))) = _
  rw [sk_sk f sz (sz + 1) _ (by omega)]
set_option maxRecDepth 100000 in
theorem u_3 (ih : IHs m I A L sz n) (hR : RdW m I A sz) (hn : 12 * (sz + 3 - pAt s) + 3 + 1 ≤ n + 1) (hd : 3 + 8 * (5 - pOp s) ≤ e) (hS : HS sz 11 s) (h : Q 0 none (PM m I A L (sumL (A 2) sz (ps (A 2) sz n) s))) (l1 : Option AV) : Ex (e + 6) M_sum 4 [some (vR aM), l1] [] (PM m I A L s) Q := by
  have hM := hR.1
  have hsz := hR.2.2.1
  have hG := hS.gd hsz (by decide)
  have hG1 := (hS.bk (Bk.here (f := A 2) (sz := sz)) hS.1.here).gd hsz (by decide)
  have hr := hereC_range hR s
  obtain ⟨e, rfl⟩ : ∃ e1, e = e1 + 1 := ⟨e - 1, by omega⟩
  unfold sumL at h
  have hh : hereP (A 2) sz (hereP (A 2) sz s) = hereP (A 2) sz s := here_here _ _ _
  have hc9 : hereC (A 2) sz (hereP (A 2) sz s) = hereC (A 2) sz s := hereC_here _ _ _
  have hgo : (hereC (A 2) sz s = 43 ∨ hereC (A 2) sz s = 45) → Q 0 none (PM m I A L (ps (A 2) sz n 3 (tellsP (if hereC (A 2) sz s = 43 then 3 else 4) (ps (A 2) sz n 2 (incP (hereP (A 2) sz s)))))) → Ex (e + 1 + 6) M_sum 29 [some (vR aM), l1] [] (PM m I A L (hereP (A 2) sz s)) Q := by
    intro hc h
    have hat : sk (A 2) sz (pAt s) < sz := hc.elim (fun z => bt_ne z (by decide)) (fun z => bt_ne z (by decide))
    have g1 : G2 sz (incP (hereP (A 2) sz s)) := hS.1.here.inc hat
    have s1 := (hS.bk Bk.here hS.1.here).bk Bk.inc g1
    have hk := (sk_le (A 2) sz (sz + 1) (pAt s) (by omega)).1
    have i := ps_ok (A 2) sz n 2 _ g1
    have i1 : sk (A 2) sz (pAt s) + 1 ≤ _ := i.1.1
    have i2 : _ = pOp s := i.2.2.1
    have s2 := s1.bk i.1 i.2.1
    have s3 : ∀ c, HS sz _ (tellsP c (ps (A 2) sz n 2 (incP (hereP (A 2) sz s)))) := fun c => s2.bk (Bk.tells (c := c)) i.2.1.tells
    refine Ex_step (tk_M_sum rfl) ?_
    refine Ex_cV0 (av := []) (tk_M_sum rfl) mk_M_here ⟨rfl, rfl, by decide, rfl, Nat.le_of_ble_eq_true rfl, Nat.le_of_ble_eq_true rfl⟩ (hM.k) (fun _ h => f_here hR hG1.1 h) ?_
    rw [hh, hc9]
    refine Ex_step (tk_M_sum rfl) ?_
    refine Ex_step (tk_M_sum rfl) ?_
    refine Ex_step (tk_M_sum rfl) ?_
    refine gMI (tk_M_sum rfl) hM ?_
    refine Ex_step (tk_M_sum rfl) ?_
    refine Ex_step (tk_M_sum rfl) ?_
    refine pMI (tk_M_sum rfl) hM ?_
    rw [inc_at]
    refine Ex_step (tk_M_sum rfl) ?_
    refine Ex_cV0 (av := []) (tk_M_sum rfl) mk_M_product ⟨rfl, rfl, by decide, rfl, Nat.le_of_ble_eq_true rfl, Nat.le_of_ble_eq_true rfl⟩ (hM.k) (fun _ h => ih e 2 (incP (hereP (A 2) sz s)) _ (by show 12 * (sz + 3 - (sk (A 2) sz (pAt s) + 1)) + 2 + 1 ≤ n; omega) (by show 2 + 8 * (5 - pOp s) ≤ e; omega) (s1.wk (by decide)) h) ?_
    refine Ex_step (tk_M_sum rfl) ?_
    refine Ex_step (tk_M_sum rfl) ?_
    refine Ex_step (tk_M_sum rfl) ?_
    refine Ex_step (tk_M_sum rfl) ⟨fun h52 => ?_, fun h52 => ?_⟩
    · try simp (disch := omega) only [cmpI, w32_b2i, b2i_0, b2i_1, w32_id, Classical.not_not, not_true_eq_false, not_false_eq_true] at h52
      rw [if_neg h52] at h
      refine Ex_step (tk_M_sum rfl) ?_
      refine Ex_cV0 (av := [_]) (tk_M_sum rfl) mk_M_tells ⟨rfl, rfl, by decide, rfl, Nat.le_of_ble_eq_true rfl, Nat.le_of_ble_eq_true rfl⟩ (hM.k) (fun _ h => f_tells hR (s2.gd hsz (by decide)) h) ?_
      refine Ex_step (tk_M_sum rfl) ?_
      exact ih (e + 1) 3 _ Q (by rw [tells_at]; omega) (by rw [tells_op]; omega) ((s3 _).wk (by decide)) h _
    · try simp (disch := omega) only [cmpI, w32_b2i, b2i_0, b2i_1, w32_id, Classical.not_not, not_true_eq_false, not_false_eq_true] at h52
      rw [if_pos h52] at h
      refine Ex_step (tk_M_sum rfl) ?_
      refine Ex_step (tk_M_sum rfl) ?_
      refine Ex_cV0 (av := [_]) (tk_M_sum rfl) mk_M_tells ⟨rfl, rfl, by decide, rfl, Nat.le_of_ble_eq_true rfl, Nat.le_of_ble_eq_true rfl⟩ (hM.k) (fun _ h => f_tells hR (s2.gd hsz (by decide)) h) ?_
      refine Ex_step (tk_M_sum rfl) ?_
      exact ih (e + 1) 3 _ Q (by rw [tells_at]; omega) (by rw [tells_op]; omega) ((s3 _).wk (by decide)) h _
  refine Ex_step (tk_M_sum rfl) ?_
  refine Ex_cV0 (av := []) (tk_M_sum rfl) mk_M_fine ⟨rfl, rfl, by decide, rfl, Nat.le_of_ble_eq_true rfl, Nat.le_of_ble_eq_true rfl⟩ (hM.k) (fun _ h => f_fine hR hG.2.1 h) ?_
  refine Ex_step (tk_M_sum rfl) ⟨fun h8 => ?_, fun h8 => ?_⟩
  · try simp (disch := omega) only [cmpI, w32_b2i, b2i_0, b2i_1, w32_id, Classical.not_not, not_true_eq_false, not_false_eq_true] at h8
    first | rw [if_neg h8] at h | rw [if_neg (fun z => z.elim h17 h26)] at h
    refine Ex_step (tk_M_sum rfl) ⟨rfl, ?_⟩
    exact h
  · try simp (disch := omega) only [cmpI, w32_b2i, b2i_0, b2i_1, w32_id, Classical.not_not, not_true_eq_false, not_false_eq_true] at h8
    rw [if_pos h8] at h
    refine Ex_step (tk_M_sum rfl) ?_
    refine Ex_cV0 (av := []) (tk_M_sum rfl) mk_M_here ⟨rfl, rfl, by decide, rfl, Nat.le_of_ble_eq_true rfl, Nat.le_of_ble_eq_true rfl⟩ (hM.k) (fun _ h => f_here hR hG.1 h) ?_
    refine Ex_step (tk_M_sum rfl) ?_
    refine Ex_step (tk_M_sum rfl) ⟨fun h17 => ?_, fun h17 => ?_⟩
    · try simp (disch := omega) only [cmpI, w32_b2i, b2i_0, b2i_1, w32_id, Classical.not_not, not_true_eq_false, not_false_eq_true] at h17
      first | (rw [if_pos (Or.inl h17)] at h; exact hgo (Or.inl h17) h) | (rw [if_pos (Or.inr h26)] at h; exact hgo (Or.inr h26) h)
    · try simp (disch := omega) only [cmpI, w32_b2i, b2i_0, b2i_1, w32_id, Classical.not_not, not_true_eq_false, not_false_eq_true] at h17
      refine Ex_step (tk_M_sum rfl) ?_
      refine Ex_cV0 (av := []) (tk_M_sum rfl) mk_M_here ⟨rfl, rfl, by decide, rfl, Nat.le_of_ble_eq_true rfl, Nat.le_of_ble_eq_true rfl⟩ (hM.k) (fun _ h => f_here hR hG1.1 h) ?_
      rw [hh, hc9]
      refine Ex_step (tk_M_sum rfl) ?_
      refine Ex_step (tk_M_sum rfl) ⟨fun h26 => ?_, fun h26 => ?_⟩
      · try simp (disch := omega) only [cmpI, w32_b2i, b2i_0, b2i_1, w32_id, Classical.not_not, not_true_eq_false, not_false_eq_true] at h26
        first | rw [if_neg h8] at h | rw [if_neg (fun z => z.elim h17 h26)] at h
        refine Ex_step (tk_M_sum rfl) ⟨rfl, ?_⟩
        exact h
      · try simp (disch := omega) only [cmpI, w32_b2i, b2i_0, b2i_1, w32_id, Classical.not_not, not_true_eq_false, not_false_eq_true] at h26
        first | (rw [if_pos (Or.inl h17)] at h; exact hgo (Or.inl h17) h) | (rw [if_pos (Or.inr h26)] at h; exact hgo (Or.inr h26) h)
set_option maxRecDepth 100000 in
theorem u_6 (hW : LowW m) (ih : IHs m I A L sz n) (hR : RdW m I A sz) (hn : 12 * (sz + 3 - pAt s) + 6 + 1 ≤ n + 1) (hd : 6 + 8 * (5 - pOp s) ≤ e) (hS : HS sz 11 s) (h : Q 0 none (PM m I A L (factsL (A 2) sz (ps (A 2) sz n) s))) : Ex (e + 6) M_facts 4 [some (vR aM)] [] (PM m I A L s) Q := by
  have hM := hR.1
  have hsz := hR.2.2.1
  have hG := hS.gd hsz (by decide)
  obtain ⟨e, rfl⟩ : ∃ e1, e = e1 + 1 := ⟨e - 1, by omega⟩
  unfold factsL at h
  refine Ex_step (tk_M_facts rfl) ?_
  refine Ex_step (tk_M_facts rfl) ?_
  refine Ex_cV0 (av := [vR 46]) (tk_M_facts rfl) mk_M_takes ⟨rfl, rfl, by decide, rfl, Nat.le_of_ble_eq_true rfl, Nat.le_of_ble_eq_true rfl⟩ (hM.k) (fun _ h => f_tk 8 (by decide) hW hR hG h) ?_
  refine Ex_step (tk_M_facts rfl) ⟨fun h10 => ?_, fun h10 => ?_⟩
  · try simp (disch := omega) only [cmpI, w32_b2i, b2i_0, b2i_1, w32_id, Classical.not_not, not_true_eq_false, not_false_eq_true] at h10
    rw [if_neg h10] at h
    refine Ex_step (tk_M_facts rfl) ⟨rfl, ?_⟩
    exact h
  · try simp (disch := omega) only [cmpI, w32_b2i, b2i_0, b2i_1, w32_id, Classical.not_not, not_true_eq_false, not_false_eq_true] at h10
    rw [if_pos h10] at h
    have g1 : G2 sz (tkS (A 2) sz 8 s) := hS.1.tk (by decide)
    have b1 := Bk.tk2 h10
    have s1 := hS.bk b1 g1
    have k1 : pAt (tkS (A 2) sz 8 s) = sk (A 2) sz (pAt s) + wn 8 := by rw [tkS_t h10]; rfl
    have k2 : wn 8 = 3 := rfl
    have k3 : pOp (tkS (A 2) sz 8 s) = pOp s := tk_op
    have hk := (sk_le (A 2) sz (sz + 1) (pAt s) (by omega)).1
    have ha : pAt s ≤ sz := (hS.1.2.2.2 (tkB_t h10).1).2
    have i := ps_ok (A 2) sz n 5 _ g1
    have i1 := i.1.1
    have i2 := i.2.2.1
    have s2 := s1.bk i.1 i.2.1
    have s3 := s2.bk (Bk.tells (c := 9)) i.2.1.tells
    refine Ex_step (tk_M_facts rfl) ?_
    refine Ex_cV0 (av := []) (tk_M_facts rfl) mk_M_fact ⟨rfl, rfl, by decide, rfl, Nat.le_of_ble_eq_true rfl, Nat.le_of_ble_eq_true rfl⟩ (hM.k) (fun _ h => ih e 5 (tkS (A 2) sz 8 s) _ (by omega) (by omega) (s1.wk (by decide)) h) ?_
    refine Ex_step (tk_M_facts rfl) ?_
    refine Ex_step (tk_M_facts rfl) ?_
    refine Ex_cV0 (av := [vI 9]) (tk_M_facts rfl) mk_M_tells ⟨rfl, rfl, by decide, rfl, Nat.le_of_ble_eq_true rfl, Nat.le_of_ble_eq_true rfl⟩ (hM.k) (fun _ h => f_tells hR (s2.gd hsz (by decide)) h) ?_
    refine Ex_step (tk_M_facts rfl) ?_
    exact ih (e + 1) 6 _ Q (by rw [tells_at]; omega) (by rw [tells_op]; omega) (s3.wk (by decide)) h
set_option maxRecDepth 100000 in
theorem u_8 (hW : LowW m) (ih : IHs m I A L sz n) (hR : RdW m I A sz) (hn : 12 * (sz + 3 - pAt s) + 8 + 1 ≤ n + 1) (hd : 8 + 8 * (5 - pOp s) ≤ e) (hS : HS sz 11 s) (h : Q 0 none (PM m I A L (testL (A 2) sz (ps (A 2) sz n) s))) : Ex (e + 6) M_test 4 [some (vR aM)] [] (PM m I A L s) Q := by
  have hM := hR.1
  have hsz := hR.2.2.1
  have hG := hS.gd hsz (by decide)
  obtain ⟨e, rfl⟩ : ∃ e1, e = e1 + 1 := ⟨e - 1, by omega⟩
  unfold testL at h
  refine Ex_step (tk_M_test rfl) ?_
  refine Ex_step (tk_M_test rfl) ?_
  refine Ex_cV0 (av := [vR 48]) (tk_M_test rfl) mk_M_takes ⟨rfl, rfl, by decide, rfl, Nat.le_of_ble_eq_true rfl, Nat.le_of_ble_eq_true rfl⟩ (hM.k) (fun _ h => f_tk 9 (by decide) hW hR hG h) ?_
  refine Ex_step (tk_M_test rfl) ⟨fun h10 => ?_, fun h10 => ?_⟩
  · try simp (disch := omega) only [cmpI, w32_b2i, b2i_0, b2i_1, w32_id, Classical.not_not, not_true_eq_false, not_false_eq_true] at h10
    rw [if_neg h10] at h
    refine Ex_step (tk_M_test rfl) ⟨rfl, ?_⟩
    exact h
  · try simp (disch := omega) only [cmpI, w32_b2i, b2i_0, b2i_1, w32_id, Classical.not_not, not_true_eq_false, not_false_eq_true] at h10
    rw [if_pos h10] at h
    have g1 : G2 sz (tkS (A 2) sz 9 s) := hS.1.tk (by decide)
    have b1 := Bk.tk2 h10
    have s1 := hS.bk b1 g1
    have k1 : pAt (tkS (A 2) sz 9 s) = sk (A 2) sz (pAt s) + wn 9 := by rw [tkS_t h10]; rfl
    have k2 : wn 9 = 2 := rfl
    have k3 : pOp (tkS (A 2) sz 9 s) = pOp s := tk_op
    have hk := (sk_le (A 2) sz (sz + 1) (pAt s) (by omega)).1
    have ha : pAt s ≤ sz := (hS.1.2.2.2 (tkB_t h10).1).2
    have i := ps_ok (A 2) sz n 7 _ g1
    have i1 := i.1.1
    have i2 := i.2.2.1
    have s2 := s1.bk i.1 i.2.1
    have s3 := s2.bk (Bk.tells (c := 10)) i.2.1.tells
    refine Ex_step (tk_M_test rfl) ?_
    refine Ex_cV0 (av := []) (tk_M_test rfl) mk_M_facts ⟨rfl, rfl, by decide, rfl, Nat.le_of_ble_eq_true rfl, Nat.le_of_ble_eq_true rfl⟩ (hM.k) (fun _ h => ih e 7 (tkS (A 2) sz 9 s) _ (by omega) (by omega) (s1.wk (by decide)) h) ?_
    refine Ex_step (tk_M_test rfl) ?_
    refine Ex_step (tk_M_test rfl) ?_
    refine Ex_cV0 (av := [vI 10]) (tk_M_test rfl) mk_M_tells ⟨rfl, rfl, by decide, rfl, Nat.le_of_ble_eq_true rfl, Nat.le_of_ble_eq_true rfl⟩ (hM.k) (fun _ h => f_tells hR (s2.gd hsz (by decide)) h) ?_
    refine Ex_step (tk_M_test rfl) ?_
    exact ih (e + 1) 8 _ Q (by rw [tells_at]; omega) (by rw [tells_op]; omega) (s3.wk (by decide)) h
end MPary
