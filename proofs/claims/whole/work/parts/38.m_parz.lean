/-! ===== the reference's parser runs so: facts, units; all of it ===== -/
section MParz
variable {d sz n e : Nat} {m : Mem} {I : Nat → Int} {A L : Nat → Nat → Int} {s : PSt} {Q : Nat → Option AV → Mem → Prop}
set_option maxRecDepth 100000 in
theorem u_5 (hW : LowW m) (ih : IHs m I A L sz n) (hR : RdW m I A sz) (hn : 12 * (sz + 3 - pAt s) + 5 + 1 ≤ n + 1) (hd : 5 + 8 * (5 - pOp s) ≤ e) (hS : HS sz 10 s) (h : Q 0 none (PM m I A L (factP (A 2) sz (ps (A 2) sz n) s))) : Ex (e + 6) M_fact 0 [some (vR aM), none, none, none] [] (PM m I A L s) Q := by
  have hM := hR.1
  have hsz := hR.2.2.1
  have hG := hS.gd hsz (by decide)
  obtain ⟨e, rfl⟩ : ∃ e1, e = e1 + 1 := ⟨e - 1, by omega⟩
  have sh := hS.bk (Bk.here (f := A 2) (sz := sz)) hS.1.here
  have hG1 := sh.gd hsz (by decide)
  have gt : G2 sz (tkS (A 2) sz 2 (hereP (A 2) sz s)) := hS.1.here.tk (by decide)
  have st := sh.bk Bk.tk gt
  have k3 : pOp (tkS (A 2) sz 2 (hereP (A 2) sz s)) = pOp s := tk_op
  have kt : pAt (hereP (A 2) sz s) ≤ pAt (tkS (A 2) sz 2 (hereP (A 2) sz s)) := Bk.tk.1
  have hk : pAt s ≤ pAt (hereP (A 2) sz s) := (Bk.here (f := A 2) (sz := sz) (s := s)).1
  have i := ps_ok (A 2) sz n 4 _ gt
  have i1 := i.1.1
  have i2 := i.2.2.1
  have s2 := st.bk i.1 i.2.1
  have hG2 := s2.gd hsz (by decide)
  have hr := hereC_range hR (ps (A 2) sz n 4 (tkS (A 2) sz 2 (hereP (A 2) sz s)))
  have htail : ∀ (s4 : PSt) (l1 : Option AV) (l2 sg : Int), pFl s4 = 0 → HS sz 12 s4 → pAt s ≤ pAt s4 → pOp s4 = pOp s → sg = signC (hereC (A 2) sz s4) → -1 ≤ hereC (A 2) sz s4 ∧ hereC (A 2) sz s4 ≤ 255 → Q 0 none (PM m I A L (tellsP (signC (hereC (A 2) sz s4)) (ps (A 2) sz n 4 (signP (A 2) sz s4)))) → Ex (e + 1 + 6) M_fact 104 [some (vR aM), l1, some (vI l2), none] [vI sg] (PM m I A L (hereP (A 2) sz s4)) Q := by
    intro s4 l1 l2 sg h0 hS4 ha ho hsg hr h
    subst hsg
    have hsb : 0 ≤ signC (hereC (A 2) sz s4) ∧ signC (hereC (A 2) sz s4) ≤ 8 := by
      unfold signC
      split
      · decide
      · split
        · decide
        · split <;> decide
    have hG4 := (hS4.bk (Bk.here (f := A 2) (sz := sz)) hS4.1.here).gd hsz (by decide)
    have sok := sign_ok (f := A 2) hS4.1 h0
    have k4 : pAt s4 + 1 ≤ pAt (signP (A 2) sz s4) := by
      have := (sk_le (A 2) sz (sz + 1) (pAt s4) (by omega)).1
      unfold signP wrongP
      split
      · split <;> exact Nat.succ_le_succ this
      · exact Nat.succ_le_succ this
    have ha4 := (hS4.1.2.2.2 h0).2
    have sS := hS4.bk sok.1 sok.2.1
    have j := ps_ok (A 2) sz n 4 _ sok.2.1
    have sJ := sS.bk j.1 j.2.1
    have ho4 := sok.2.2
    have hgo : ∀ s5 : PSt, signP (A 2) sz s4 = incP s5 → Ex (e + 1 + 6) M_fact 118 [some (vR aM), l1, some (vI l2), some (vI (signC (hereC (A 2) sz s4)))] [] (PM m I A L s5) Q := by
      intro s5 h5
      rw [h5] at h k4 sS j sJ ho4
      refine Ex_step (tk_M_fact rfl) ?_
      refine Ex_step (tk_M_fact rfl) ?_
      refine gMI (tk_M_fact rfl) hM ?_
      refine Ex_step (tk_M_fact rfl) ?_
      refine Ex_step (tk_M_fact rfl) ?_
      refine pMI (tk_M_fact rfl) hM ?_
      rw [inc_at]
      refine Ex_step (tk_M_fact rfl) ?_
      refine Ex_cV0 (av := []) (tk_M_fact rfl) mk_M_sum ⟨rfl, rfl, by decide, rfl, Nat.le_of_ble_eq_true rfl, Nat.le_of_ble_eq_true rfl⟩ (hM.k) (fun _ h => ih e 4 (incP s5) _ (by omega) (by omega) (sS.wk (by decide)) h) ?_
      refine Ex_step (tk_M_fact rfl) ?_
      refine Ex_step (tk_M_fact rfl) ?_
      refine Ex_cV0 (av := [_]) (tk_M_fact rfl) mk_M_tells ⟨rfl, rfl, by decide, rfl, Nat.le_of_ble_eq_true rfl, Nat.le_of_ble_eq_true rfl⟩ (hM.k) (fun _ h => f_tells hR (sJ.gd hsz (by decide)) h) ?_
      refine Ex_step (tk_M_fact rfl) ⟨rfl, ?_⟩
      exact h
    refine Ex_step (tk_M_fact rfl) ?_
    refine Ex_step (tk_M_fact rfl) ?_
    refine Ex_step (tk_M_fact rfl) ⟨fun h106 => ?_, fun h106 => ?_⟩
    · try simp (disch := omega) only [cmpI, w32_b2i, b2i_0, b2i_1, w32_id, Classical.not_not, not_true_eq_false, not_false_eq_true] at h106
      first | exact hgo _ (by unfold signP; rw [if_pos h106]) | exact hgo _ (by unfold signP; rw [if_neg h106])
    · try simp (disch := omega) only [cmpI, w32_b2i, b2i_0, b2i_1, w32_id, Classical.not_not, not_true_eq_false, not_false_eq_true] at h106
      refine Ex_step (tk_M_fact rfl) ?_
      refine Ex_step (tk_M_fact rfl) ?_
      refine Ex_step (tk_M_fact rfl) ?_
      refine gMI (tk_M_fact rfl) hM ?_
      refine Ex_cV0 (av := [vI 1, vI (pI I (hereP (A 2) sz s4) 4)]) (tk_M_fact rfl) mk_M_wrong ⟨rfl, rfl, by decide, rfl, Nat.le_of_ble_eq_true rfl, Nat.le_of_ble_eq_true rfl⟩ (hM.k) (fun _ h => f_wrong (k := 1) (p := ((sk (A 2) sz (pAt s4) : Nat) : Int)) hR hG4.2.1 h) ?_
      first | exact hgo _ (by unfold signP; rw [if_pos h106]) | exact hgo _ (by unfold signP; rw [if_neg h106])
  have htail2 : pFl (ps (A 2) sz n 4 (tkS (A 2) sz 2 (hereP (A 2) sz s))) = 0 → Q 0 none (PM m I A L (factE (A 2) sz (ps (A 2) sz n) (ps (A 2) sz n 4 (tkS (A 2) sz 2 (hereP (A 2) sz s))))) → ∀ l1 : Int, Ex (e + 1 + 6) M_fact 65 [some (vR aM), some (vI l1), none, none] [] (PM m I A L (ps (A 2) sz n 4 (tkS (A 2) sz 2 (hereP (A 2) sz s)))) Q := by
    intro h1 h l1
    unfold factE at h
    rw [if_pos h1] at h
    have ht := fun l2 sg => htail _ (some (vI l1)) l2 sg h1 (s2.wk (by decide)) (by omega) (by omega)
    refine Ex_step (tk_M_fact rfl) ?_
    refine Ex_cV0 (av := []) (tk_M_fact rfl) mk_M_here ⟨rfl, rfl, by decide, rfl, Nat.le_of_ble_eq_true rfl, Nat.le_of_ble_eq_true rfl⟩ (hM.k) (fun _ h => f_here hR hG2.1 h) ?_
    refine Ex_step (tk_M_fact rfl) ?_
    refine Ex_step (tk_M_fact rfl) ?_
    refine Ex_step (tk_M_fact rfl) ?_
    refine Ex_step (tk_M_fact rfl) ⟨fun h73 => ?_, fun h73 => ?_⟩
    · try simp (disch := omega) only [cmpI, w32_b2i, b2i_0, b2i_1, w32_id, Classical.not_not, not_true_eq_false, not_false_eq_true] at h73
      refine Ex_step (tk_M_fact rfl) ?_
      refine Ex_step (tk_M_fact rfl) ?_
      refine Ex_step (tk_M_fact rfl) ⟨fun h84 => ?_, fun h84 => ?_⟩
      · try simp (disch := omega) only [cmpI, w32_b2i, b2i_0, b2i_1, w32_id, Classical.not_not, not_true_eq_false, not_false_eq_true] at h84
        refine Ex_step (tk_M_fact rfl) ?_
        refine Ex_step (tk_M_fact rfl) ?_
        refine Ex_step (tk_M_fact rfl) ⟨fun h95 => ?_, fun h95 => ?_⟩
        · try simp (disch := omega) only [cmpI, w32_b2i, b2i_0, b2i_1, w32_id, Classical.not_not, not_true_eq_false, not_false_eq_true] at h95
          refine Ex_step (tk_M_fact rfl) ?_
          refine ht _ _ ?_ hr h
          unfold signC
          first | rw [if_pos h73] | (rw [if_neg h73]; first | rw [if_pos h84] | (rw [if_neg h84]; first | rw [if_pos h95] | rw [if_neg h95]))
        · try simp (disch := omega) only [cmpI, w32_b2i, b2i_0, b2i_1, w32_id, Classical.not_not, not_true_eq_false, not_false_eq_true] at h95
          refine Ex_step (tk_M_fact rfl) ?_
          refine Ex_step (tk_M_fact rfl) ?_
          refine ht _ _ ?_ hr h
          unfold signC
          first | rw [if_pos h73] | (rw [if_neg h73]; first | rw [if_pos h84] | (rw [if_neg h84]; first | rw [if_pos h95] | rw [if_neg h95]))
      · try simp (disch := omega) only [cmpI, w32_b2i, b2i_0, b2i_1, w32_id, Classical.not_not, not_true_eq_false, not_false_eq_true] at h84
        refine Ex_step (tk_M_fact rfl) ?_
        refine Ex_step (tk_M_fact rfl) ?_
        refine ht _ _ ?_ hr h
        unfold signC
        first | rw [if_pos h73] | (rw [if_neg h73]; first | rw [if_pos h84] | (rw [if_neg h84]; first | rw [if_pos h95] | rw [if_neg h95]))
    · try simp (disch := omega) only [cmpI, w32_b2i, b2i_0, b2i_1, w32_id, Classical.not_not, not_true_eq_false, not_false_eq_true] at h73
      refine Ex_step (tk_M_fact rfl) ?_
      refine Ex_step (tk_M_fact rfl) ?_
      refine ht _ _ ?_ hr h
      unfold signC
      first | rw [if_pos h73] | (rw [if_neg h73]; first | rw [if_pos h84] | (rw [if_neg h84]; first | rw [if_pos h95] | rw [if_neg h95]))
  unfold factP at h
  refine Ex_step (tk_M_fact rfl) ?_
  refine Ex_cV0 (av := []) (tk_M_fact rfl) mk_M_fine ⟨rfl, rfl, by decide, rfl, Nat.le_of_ble_eq_true rfl, Nat.le_of_ble_eq_true rfl⟩ (hM.k) (fun _ h => f_fine hR hG.2.1 h) ?_
  refine Ex_step (tk_M_fact rfl) ⟨fun h4 => ?_, fun h4 => ?_⟩
  · try simp (disch := omega) only [cmpI, w32_b2i, b2i_0, b2i_1, w32_id, Classical.not_not, not_true_eq_false, not_false_eq_true] at h4
    rw [if_pos h4] at h
    refine Ex_step (tk_M_fact rfl) ?_
    refine Ex_cV0 (av := []) (tk_M_fact rfl) mk_M_here ⟨rfl, rfl, by decide, rfl, Nat.le_of_ble_eq_true rfl, Nat.le_of_ble_eq_true rfl⟩ (hM.k) (fun _ h => f_here hR hG.1 h) ?_
    refine Ex_step (tk_M_fact rfl) ?_
    refine Ex_step (tk_M_fact rfl) ?_
    refine gMI (tk_M_fact rfl) hM ?_
    refine Ex_step (tk_M_fact rfl) ?_
    refine Ex_step (tk_M_fact rfl) ?_
    refine Ex_step (tk_M_fact rfl) ?_
    refine Ex_cV0 (av := [vR 34]) (tk_M_fact rfl) mk_M_takes ⟨rfl, rfl, by decide, rfl, Nat.le_of_ble_eq_true rfl, Nat.le_of_ble_eq_true rfl⟩ (hM.k) (fun _ h => f_tk 2 (by decide) hW hR hG1 h) ?_
    refine Ex_step (tk_M_fact rfl) ⟨fun h24 => ?_, fun h24 => ?_⟩
    · try simp (disch := omega) only [cmpI, w32_b2i, b2i_0, b2i_1, w32_id, Classical.not_not, not_true_eq_false, not_false_eq_true] at h24
      rw [if_neg h24] at h
      refine Ex_step (tk_M_fact rfl) ?_
      refine Ex_cV0 (av := []) (tk_M_fact rfl) mk_M_sum ⟨rfl, rfl, by decide, rfl, Nat.le_of_ble_eq_true rfl, Nat.le_of_ble_eq_true rfl⟩ (hM.k) (fun _ h => ih e 4 (tkS (A 2) sz 2 (hereP (A 2) sz s)) _ (by omega) (by omega) (st.wk (by decide)) h) ?_
      refine Ex_step (tk_M_fact rfl) ?_
      refine Ex_cV0 (av := []) (tk_M_fact rfl) mk_M_fine ⟨rfl, rfl, by decide, rfl, Nat.le_of_ble_eq_true rfl, Nat.le_of_ble_eq_true rfl⟩ (hM.k) (fun _ h => f_fine hR hG2.2.1 h) ?_
      refine Ex_step (tk_M_fact rfl) ⟨fun h61 => ?_, fun h61 => ?_⟩
      · try simp (disch := omega) only [cmpI, w32_b2i, b2i_0, b2i_1, w32_id, Classical.not_not, not_true_eq_false, not_false_eq_true] at h61
        exact htail2 h61 h _
      · try simp (disch := omega) only [cmpI, w32_b2i, b2i_0, b2i_1, w32_id, Classical.not_not, not_true_eq_false, not_false_eq_true] at h61
        unfold factE at h
        rw [if_neg h61] at h
        refine Ex_step (tk_M_fact rfl) ⟨rfl, ?_⟩
        exact h
    · try simp (disch := omega) only [cmpI, w32_b2i, b2i_0, b2i_1, w32_id, Classical.not_not, not_true_eq_false, not_false_eq_true] at h24
      rw [if_pos h24] at h
      have h0t : pFl (tkS (A 2) sz 2 (hereP (A 2) sz s)) = 0 := by rw [tk_fl]; exact h4
      have hGt := st.gd hsz (by decide)
      have go := gt.opens (p := ((sk (A 2) sz (pAt s) : Nat) : Int)) h0t
      have so := st.bk (Bk.opens (p := ((sk (A 2) sz (pAt s) : Nat) : Int))) go
      have k1 : pAt (tkS (A 2) sz 2 (hereP (A 2) sz s)) = sk (A 2) sz (pAt (hereP (A 2) sz s)) + wn 2 := by rw [tkS_t h24]; rfl
      have k2 : wn 2 = 3 := rfl
      have hk2 := (sk_le (A 2) sz (sz + 1) (pAt (hereP (A 2) sz s)) (by omega)).1
      have ha : pAt s ≤ sz := (hS.1.2.2.2 h4).2
      have hp4 := (hS.1.2.2.2 h4).1
      have j := ps_ok (A 2) sz n 5 _ go
      have j2 := j.2.2.1
      have sj := so.bk j.1 j.2.1
      refine Ex_step (tk_M_fact rfl) ?_
      refine Ex_step (tk_M_fact rfl) ?_
      refine Ex_cV0 (av := [vI (pI I (hereP (A 2) sz s) 4)]) (tk_M_fact rfl) mk_M_opens ⟨rfl, rfl, by decide, rfl, Nat.le_of_ble_eq_true rfl, Nat.le_of_ble_eq_true rfl⟩ (hM.k) (fun _ h => f_opens (p := ((sk (A 2) sz (pAt s) : Nat) : Int)) hR hGt h) ?_
      refine Ex_step (tk_M_fact rfl) ?_
      refine Ex_cV0 (av := []) (tk_M_fact rfl) mk_M_fact ⟨rfl, rfl, by decide, rfl, Nat.le_of_ble_eq_true rfl, Nat.le_of_ble_eq_true rfl⟩ (hM.k) (fun _ h => ih e 5 (opensP ((sk (A 2) sz (pAt s) : Nat) : Int) (tkS (A 2) sz 2 (hereP (A 2) sz s))) _ (by rw [opens_at]; omega) (by rw [opens_op]; omega) (so.wk (by decide)) h) ?_
      refine Ex_step (tk_M_fact rfl) ?_
      refine Ex_step (tk_M_fact rfl) ?_
      refine Ex_cV0 (av := [vI 11]) (tk_M_fact rfl) mk_M_tells ⟨rfl, rfl, by decide, rfl, Nat.le_of_ble_eq_true rfl, Nat.le_of_ble_eq_true rfl⟩ (hM.k) (fun _ h => f_tells hR (sj.gd hsz (by decide)) h) ?_
      refine Ex_step (tk_M_fact rfl) ?_
      refine Ex_step (tk_M_fact rfl) ?_
      refine gMI (tk_M_fact rfl) hM ?_
      refine Ex_step (tk_M_fact rfl) ?_
      refine Ex_step (tk_M_fact rfl) ?_
      refine pMI (tk_M_fact rfl) hM ?_
      rw [dec_op I (by rw [tells_op, j2, opens_op]; omega)]
      refine Ex_step (tk_M_fact rfl) ⟨rfl, ?_⟩
      exact h
  · try simp (disch := omega) only [cmpI, w32_b2i, b2i_0, b2i_1, w32_id, Classical.not_not, not_true_eq_false, not_false_eq_true] at h4
    rw [if_neg h4] at h
    refine Ex_step (tk_M_fact rfl) ⟨rfl, ?_⟩
    exact h
end MParz
