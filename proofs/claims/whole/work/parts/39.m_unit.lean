/-! ===== the reference's units; its whole parser ===== -/
section MUnit
variable {d sz n e : Nat} {m : Mem} {I : Nat → Int} {A L : Nat → Nat → Int} {s : PSt} {Q : Nat → Option AV → Mem → Prop}
set_option maxRecDepth 100000 in
theorem askL_t {f : Nat → Int} {sz k : Nat} {t : List Nat} {s : PSt} (h : tkB f sz (3 + k) s = 1) : askL f sz (k :: t) s = (tkS f sz (3 + k) s, (k : Int)) := if_pos h
set_option maxRecDepth 100000 in
theorem askL_f {f : Nat → Int} {sz k : Nat} {t : List Nat} {s : PSt} (h : ¬ tkB f sz (3 + k) s = 1) : askL f sz (k :: t) s = askL f sz t (tkS f sz (3 + k) s) := if_neg h
set_option maxRecDepth 100000 in
theorem u_0 (hW : LowW m) (ih : IHs m I A L sz n) (hR : RdW m I A sz) (hn : 12 * (sz + 3 - pAt s) + 0 + 1 ≤ n + 1) (hd : 0 + 8 * (5 - pOp s) ≤ e) (hS : HS sz 10 s) (h : Q 0 none (PM m I A L (unitP (A 2) sz (ps (A 2) sz n) s))) : Ex (e + 6) M_unit 0 [some (vR aM), none, none, none] [] (PM m I A L s) Q := by
  have hM := hR.1
  have hsz := hR.2.2.1
  have hG := hS.gd hsz (by decide)
  have hr := hereC_range hR s
  unfold unitP at h
  by_cases h0 : pFl s = 0
  · rw [if_pos h0] at h
    have hp4 := (hS.1.2.2.2 h0).1
    have ha := (hS.1.2.2.2 h0).2
    obtain ⟨e, rfl⟩ : ∃ e1, e = e1 + 1 := ⟨e - 1, by omega⟩
    have sh := hS.bk (Bk.here (f := A 2) (sz := sz)) hS.1.here
    have hG1 := sh.gd hsz (by decide)
    have htA : ∀ (t : PSt) (k c : Int), 0 ≤ k → k < 5 → HS sz 20 t → Q 0 none (PM m I A L (tellAsk k t)) → Ex (e + 1 + 6) M_unit 135 [some (vR aM), some (vI c), none, none] [vI k] (PM m I A L t) Q := by
      intro t k c hk1 hk2 ht h
      unfold tellAsk at h
      refine Ex_step (tk_M_unit rfl) ?_
      refine Ex_step (tk_M_unit rfl) ?_
      refine Ex_step (tk_M_unit rfl) ?_
      refine Ex_step (tk_M_unit rfl) ⟨fun h138 => ?_, fun h138 => ?_⟩
      · try simp (disch := omega) only [cmpI, w32_b2i, b2i_0, b2i_1, w32_id, Classical.not_not, not_true_eq_false, not_false_eq_true] at h138
        refine Ex_step (tk_M_unit rfl) ?_
        refine Ex_step (tk_M_unit rfl) ?_
        refine Ex_cV0 (av := [vI 2]) (tk_M_unit rfl) mk_M_tells ⟨rfl, rfl, by decide, rfl, Nat.le_of_ble_eq_true rfl, Nat.le_of_ble_eq_true rfl⟩ (hM.k) (fun _ h => f_tells hR (ht.gd hsz (by decide)) h) ?_
        refine Ex_step (tk_M_unit rfl) ?_
        refine Ex_step (tk_M_unit rfl) ?_
        refine Ex_cV0 (av := [vI k]) (tk_M_unit rfl) mk_M_tells ⟨rfl, rfl, by decide, rfl, Nat.le_of_ble_eq_true rfl, Nat.le_of_ble_eq_true rfl⟩ (hM.k) (fun _ h => f_tells hR ((ht.bk Bk.tells ht.1.tells).gd hsz (by decide)) h) ?_
        refine Ex_step (tk_M_unit rfl) ⟨rfl, ?_⟩
        exact h
      · try simp (disch := omega) only [cmpI, w32_b2i, b2i_0, b2i_1, w32_id, Classical.not_not, not_true_eq_false, not_false_eq_true] at h138
        omega
    have htN : ∀ (t : PSt) (c : Int), HS sz 20 t → Q 0 none (PM m I A L (tellNum (A 2) sz t)) → Ex (e + 1 + 6) M_unit 135 [some (vR aM), some (vI c), none, none] [vI (-1)] (PM m I A L t) Q := by
      intro t c ht h
      unfold tellNum at h
      have hn1 := ht.bk (Bk.num (f := A 2) (sz := sz)) ht.1.num
      refine Ex_step (tk_M_unit rfl) ?_
      refine Ex_step (tk_M_unit rfl) ?_
      refine Ex_step (tk_M_unit rfl) ?_
      refine Ex_step (tk_M_unit rfl) ⟨fun h138 => ?_, fun h138 => ?_⟩
      · replace h138 : _ := h138
        exact absurd rfl h138
      · replace h138 : _ := h138
        refine Ex_step (tk_M_unit rfl) ?_
        refine Ex_cV0 (av := []) (tk_M_unit rfl) mk_M_number ⟨rfl, rfl, by decide, rfl, Nat.le_of_ble_eq_true rfl, Nat.le_of_ble_eq_true rfl⟩ (hM.k) (fun _ h => f_number hR (ht.gd hsz (by decide)) h) ?_
        refine Ex_step (tk_M_unit rfl) ?_
        refine Ex_step (tk_M_unit rfl) ?_
        refine Ex_step (tk_M_unit rfl) ?_
        refine Ex_cV0 (av := [vI 1]) (tk_M_unit rfl) mk_M_tells ⟨rfl, rfl, by decide, rfl, Nat.le_of_ble_eq_true rfl, Nat.le_of_ble_eq_true rfl⟩ (hM.k) (fun _ h => f_tells hR (hn1.gd hsz (by decide)) h) ?_
        refine Ex_step (tk_M_unit rfl) ?_
        refine Ex_step (tk_M_unit rfl) ?_
        refine Ex_cV0 (av := [_]) (tk_M_unit rfl) mk_M_tells ⟨rfl, rfl, by decide, rfl, Nat.le_of_ble_eq_true rfl, Nat.le_of_ble_eq_true rfl⟩ (hM.k) (fun _ h => f_tells hR ((hn1.bk Bk.tells hn1.1.tells).gd hsz (by decide)) h) ?_
        refine Ex_step (tk_M_unit rfl) ?_
        refine Ex_step (tk_M_unit rfl) ⟨rfl, ?_⟩
        exact h
    have t3 := sh.bk (Bk.tk (f := A 2) (sz := sz) (w := 3)) (sh.1.tk (by decide))
    have t4 := t3.bk (Bk.tk (f := A 2) (sz := sz) (w := 4)) (t3.1.tk (by decide))
    have t5 := t4.bk (Bk.tk (f := A 2) (sz := sz) (w := 5)) (t4.1.tk (by decide))
    have t6 := t5.bk (Bk.tk (f := A 2) (sz := sz) (w := 6)) (t5.1.tk (by decide))
    have t7 := t6.bk (Bk.tk (f := A 2) (sz := sz) (w := 7)) (t6.1.tk (by decide))
    unfold askP at h
    refine Ex_step (tk_M_unit rfl) ?_
    refine Ex_cV0 (av := []) (tk_M_unit rfl) mk_M_fine ⟨rfl, rfl, by decide, rfl, Nat.le_of_ble_eq_true rfl, Nat.le_of_ble_eq_true rfl⟩ (hM.k) (fun _ h => f_fine hR hG.2.1 h) ?_
    refine Ex_step (tk_M_unit rfl) ⟨fun h4 => ?_, fun h4 => ?_⟩
    · try simp (disch := omega) only [cmpI, w32_b2i, b2i_0, b2i_1, w32_id, Classical.not_not, not_true_eq_false, not_false_eq_true] at h4
      refine Ex_step (tk_M_unit rfl) ?_
      refine Ex_cV0 (av := []) (tk_M_unit rfl) mk_M_here ⟨rfl, rfl, by decide, rfl, Nat.le_of_ble_eq_true rfl, Nat.le_of_ble_eq_true rfl⟩ (hM.k) (fun _ h => f_here hR hG.1 h) ?_
      refine Ex_step (tk_M_unit rfl) ?_
      refine Ex_step (tk_M_unit rfl) ?_
      refine Ex_step (tk_M_unit rfl) ?_
      refine Ex_step (tk_M_unit rfl) ⟨fun h16 => ?_, fun h16 => ?_⟩
      · try simp (disch := omega) only [cmpI, w32_b2i, b2i_0, b2i_1, w32_id, Classical.not_not, not_true_eq_false, not_false_eq_true] at h16
        rw [if_neg h16] at h
        refine Ex_step (tk_M_unit rfl) ?_
        refine Ex_cS0 (av := [vI (hereC (A 2) sz s)]) (tk_M_unit rfl) mk_M_isDigit ⟨rfl, by decide, rfl, rfl, rfl, Nat.le_of_ble_eq_true rfl, Nat.le_of_ble_eq_true rfl⟩ (fun _ h => e_isDigit hr h) ?_
        refine Ex_step (tk_M_unit rfl) ⟨fun h62 => ?_, fun h62 => ?_⟩
        · try simp (disch := omega) only [cmpI, w32_b2i, b2i_0, b2i_1, w32_id, Classical.not_not, not_true_eq_false, not_false_eq_true] at h62
          rw [if_neg h62] at h
          refine Ex_step (tk_M_unit rfl) ?_
          refine Ex_step (tk_M_unit rfl) ?_
          refine Ex_cV0 (av := [vR 36]) (tk_M_unit rfl) mk_M_takes ⟨rfl, rfl, by decide, rfl, Nat.le_of_ble_eq_true rfl, Nat.le_of_ble_eq_true rfl⟩ (hM.k) (fun _ h => f_tk 3 (by decide) hW hR hG1 h) ?_
          refine Ex_step (tk_M_unit rfl) ⟨fun h75 => ?_, fun h75 => ?_⟩
          · try simp (disch := omega) only [cmpI, w32_b2i, b2i_0, b2i_1, w32_id, Classical.not_not, not_true_eq_false, not_false_eq_true] at h75
            rw [askL_f h75] at h
            refine Ex_step (tk_M_unit rfl) ?_
            refine Ex_step (tk_M_unit rfl) ?_
            refine Ex_cV0 (av := [vR 38]) (tk_M_unit rfl) mk_M_takes ⟨rfl, rfl, by decide, rfl, Nat.le_of_ble_eq_true rfl, Nat.le_of_ble_eq_true rfl⟩ (hM.k) (fun _ h => f_tk 4 (by decide) hW hR (t3.gd hsz (by decide)) h) ?_
            refine Ex_step (tk_M_unit rfl) ⟨fun h88 => ?_, fun h88 => ?_⟩
            · try simp (disch := omega) only [cmpI, w32_b2i, b2i_0, b2i_1, w32_id, Classical.not_not, not_true_eq_false, not_false_eq_true] at h88
              rw [askL_f h88] at h
              refine Ex_step (tk_M_unit rfl) ?_
              refine Ex_step (tk_M_unit rfl) ?_
              refine Ex_cV0 (av := [vR 40]) (tk_M_unit rfl) mk_M_takes ⟨rfl, rfl, by decide, rfl, Nat.le_of_ble_eq_true rfl, Nat.le_of_ble_eq_true rfl⟩ (hM.k) (fun _ h => f_tk 5 (by decide) hW hR (t4.gd hsz (by decide)) h) ?_
              refine Ex_step (tk_M_unit rfl) ⟨fun h101 => ?_, fun h101 => ?_⟩
              · try simp (disch := omega) only [cmpI, w32_b2i, b2i_0, b2i_1, w32_id, Classical.not_not, not_true_eq_false, not_false_eq_true] at h101
                rw [askL_f h101] at h
                refine Ex_step (tk_M_unit rfl) ?_
                refine Ex_step (tk_M_unit rfl) ?_
                refine Ex_cV0 (av := [vR 42]) (tk_M_unit rfl) mk_M_takes ⟨rfl, rfl, by decide, rfl, Nat.le_of_ble_eq_true rfl, Nat.le_of_ble_eq_true rfl⟩ (hM.k) (fun _ h => f_tk 6 (by decide) hW hR (t5.gd hsz (by decide)) h) ?_
                refine Ex_step (tk_M_unit rfl) ⟨fun h114 => ?_, fun h114 => ?_⟩
                · try simp (disch := omega) only [cmpI, w32_b2i, b2i_0, b2i_1, w32_id, Classical.not_not, not_true_eq_false, not_false_eq_true] at h114
                  rw [askL_f h114] at h
                  refine Ex_step (tk_M_unit rfl) ?_
                  refine Ex_step (tk_M_unit rfl) ?_
                  refine Ex_cV0 (av := [vR 44]) (tk_M_unit rfl) mk_M_takes ⟨rfl, rfl, by decide, rfl, Nat.le_of_ble_eq_true rfl, Nat.le_of_ble_eq_true rfl⟩ (hM.k) (fun _ h => f_tk 7 (by decide) hW hR (t6.gd hsz (by decide)) h) ?_
                  refine Ex_step (tk_M_unit rfl) ⟨fun h127 => ?_, fun h127 => ?_⟩
                  · try simp (disch := omega) only [cmpI, w32_b2i, b2i_0, b2i_1, w32_id, Classical.not_not, not_true_eq_false, not_false_eq_true] at h127
                    rw [askL_f h127] at h
                    rw [show (askL (A 2) sz [] (tkS (A 2) sz (3 + 4) (tkS (A 2) sz (3 + 3) (tkS (A 2) sz (3 + 2) (tkS (A 2) sz (3 + 1) (tkS (A 2) sz (3 + 0) (hereP (A 2) sz s))))))) = (tkS (A 2) sz 7 (tkS (A 2) sz 6 (tkS (A 2) sz 5 (tkS (A 2) sz 4 (tkS (A 2) sz 3 (hereP (A 2) sz s))))), -1) from rfl, if_pos rfl] at h
                    have hfin := htN _ (hereC (A 2) sz s) (t7.wk (by decide)) h
                    refine Ex_step (tk_M_unit rfl) ?_
                    exact hfin
                  · try simp (disch := omega) only [cmpI, w32_b2i, b2i_0, b2i_1, w32_id, Classical.not_not, not_true_eq_false, not_false_eq_true] at h127
                    rw [askL_t h127, if_neg (show ¬ ((4 : Nat) : Int) = -1 by decide)] at h
                    have hfin := htA _ 4 (hereC (A 2) sz s) (by decide) (by decide) (t7.wk (by decide)) h
                    refine Ex_step (tk_M_unit rfl) ?_
                    refine Ex_step (tk_M_unit rfl) ?_
                    exact hfin
                · try simp (disch := omega) only [cmpI, w32_b2i, b2i_0, b2i_1, w32_id, Classical.not_not, not_true_eq_false, not_false_eq_true] at h114
                  rw [askL_t h114, if_neg (show ¬ ((3 : Nat) : Int) = -1 by decide)] at h
                  have hfin := htA _ 3 (hereC (A 2) sz s) (by decide) (by decide) (t6.wk (by decide)) h
                  refine Ex_step (tk_M_unit rfl) ?_
                  refine Ex_step (tk_M_unit rfl) ?_
                  exact hfin
              · try simp (disch := omega) only [cmpI, w32_b2i, b2i_0, b2i_1, w32_id, Classical.not_not, not_true_eq_false, not_false_eq_true] at h101
                rw [askL_t h101, if_neg (show ¬ ((2 : Nat) : Int) = -1 by decide)] at h
                have hfin := htA _ 2 (hereC (A 2) sz s) (by decide) (by decide) (t5.wk (by decide)) h
                refine Ex_step (tk_M_unit rfl) ?_
                refine Ex_step (tk_M_unit rfl) ?_
                exact hfin
            · try simp (disch := omega) only [cmpI, w32_b2i, b2i_0, b2i_1, w32_id, Classical.not_not, not_true_eq_false, not_false_eq_true] at h88
              rw [askL_t h88, if_neg (show ¬ ((1 : Nat) : Int) = -1 by decide)] at h
              have hfin := htA _ 1 (hereC (A 2) sz s) (by decide) (by decide) (t4.wk (by decide)) h
              refine Ex_step (tk_M_unit rfl) ?_
              refine Ex_step (tk_M_unit rfl) ?_
              exact hfin
          · try simp (disch := omega) only [cmpI, w32_b2i, b2i_0, b2i_1, w32_id, Classical.not_not, not_true_eq_false, not_false_eq_true] at h75
            rw [askL_t h75, if_neg (show ¬ ((0 : Nat) : Int) = -1 by decide)] at h
            have hfin := htA _ 0 (hereC (A 2) sz s) (by decide) (by decide) (t3.wk (by decide)) h
            refine Ex_step (tk_M_unit rfl) ?_
            refine Ex_step (tk_M_unit rfl) ?_
            exact hfin
        · try simp (disch := omega) only [cmpI, w32_b2i, b2i_0, b2i_1, w32_id, Classical.not_not, not_true_eq_false, not_false_eq_true] at h62
          rw [if_pos h62] at h
          have hfin := htN _ (hereC (A 2) sz s) (sh.wk (by decide)) h
          refine Ex_step (tk_M_unit rfl) ?_
          refine Ex_step (tk_M_unit rfl) ?_
          exact hfin
      · try simp (disch := omega) only [cmpI, w32_b2i, b2i_0, b2i_1, w32_id, Classical.not_not, not_true_eq_false, not_false_eq_true] at h16
        rw [if_pos h16] at h
        have hat : sk (A 2) sz (pAt s) < sz := bt_ne h16 (by decide)
        have hk := (sk_le (A 2) sz (sz + 1) (pAt s) (by omega)).1
        have go : G2 sz (opensP ((sk (A 2) sz (pAt s) : Nat) : Int) (hereP (A 2) sz s)) := hS.1.here.opens h0
        have so := sh.bk (Bk.opens (p := ((sk (A 2) sz (pAt s) : Nat) : Int))) go
        have ka : pAt (opensP ((sk (A 2) sz (pAt s) : Nat) : Int) (hereP (A 2) sz s)) = sk (A 2) sz (pAt s) := opens_at
        have ko : pOp (opensP ((sk (A 2) sz (pAt s) : Nat) : Int) (hereP (A 2) sz s)) = pOp s + 1 := opens_op
        have gi := go.inc (by rw [ka]; exact hat)
        have si := so.bk Bk.inc gi
        have j := ps_ok (A 2) sz n 4 _ gi
        have j2 : _ = pOp (opensP ((sk (A 2) sz (pAt s) : Nat) : Int) (hereP (A 2) sz s)) := j.2.2.1
        have sj := si.bk j.1 j.2.1
        refine Ex_step (tk_M_unit rfl) ?_
        refine Ex_step (tk_M_unit rfl) ?_
        refine gMI (tk_M_unit rfl) hM ?_
        refine Ex_cV0 (av := [vI (pI I (hereP (A 2) sz s) 4)]) (tk_M_unit rfl) mk_M_opens ⟨rfl, rfl, by decide, rfl, Nat.le_of_ble_eq_true rfl, Nat.le_of_ble_eq_true rfl⟩ (hM.k) (fun _ h => f_opens (p := ((sk (A 2) sz (pAt s) : Nat) : Int)) hR hG1 h) ?_
        refine Ex_step (tk_M_unit rfl) ?_
        refine Ex_step (tk_M_unit rfl) ?_
        refine gMI (tk_M_unit rfl) hM ?_
        refine Ex_step (tk_M_unit rfl) ?_
        refine Ex_step (tk_M_unit rfl) ?_
        refine pMI (tk_M_unit rfl) hM ?_
        rw [inc_at]
        refine Ex_step (tk_M_unit rfl) ?_
        refine Ex_cV0 (av := []) (tk_M_unit rfl) mk_M_sum ⟨rfl, rfl, by decide, rfl, Nat.le_of_ble_eq_true rfl, Nat.le_of_ble_eq_true rfl⟩ (hM.k) (fun _ h => ih e 4 (incP (opensP ((sk (A 2) sz (pAt s) : Nat) : Int) (hereP (A 2) sz s))) _ (by show 12 * (sz + 3 - (pAt (opensP ((sk (A 2) sz (pAt s) : Nat) : Int) (hereP (A 2) sz s)) + 1)) + 4 + 1 ≤ n; omega) (by show 4 + 8 * (5 - pOp (opensP ((sk (A 2) sz (pAt s) : Nat) : Int) (hereP (A 2) sz s))) ≤ e; omega) (si.wk (by decide)) h) ?_
        refine Ex_step (tk_M_unit rfl) ?_
        refine Ex_step (tk_M_unit rfl) ?_
        refine Ex_cV0 (av := [vI 41]) (tk_M_unit rfl) mk_M_must ⟨rfl, rfl, by decide, rfl, Nat.le_of_ble_eq_true rfl, Nat.le_of_ble_eq_true rfl⟩ (hM.k) (fun _ h => f_must (c := 41) (by decide) hR (sj.gd hsz (by decide)) h) ?_
        refine Ex_step (tk_M_unit rfl) ?_
        refine Ex_step (tk_M_unit rfl) ?_
        refine gMI (tk_M_unit rfl) hM ?_
        refine Ex_step (tk_M_unit rfl) ?_
        refine Ex_step (tk_M_unit rfl) ?_
        refine pMI (tk_M_unit rfl) hM ?_
        rw [dec_op I (by rw [must_op, j2]; omega)]
        refine Ex_step (tk_M_unit rfl) ⟨rfl, ?_⟩
        exact h
    · try simp (disch := omega) only [cmpI, w32_b2i, b2i_0, b2i_1, w32_id, Classical.not_not, not_true_eq_false, not_false_eq_true] at h4
      exact absurd h0 h4
  · rw [if_neg h0] at h
    refine Ex_step (tk_M_unit rfl) ?_
    refine Ex_cV0 (av := []) (tk_M_unit rfl) mk_M_fine ⟨rfl, rfl, by decide, rfl, Nat.le_of_ble_eq_true rfl, Nat.le_of_ble_eq_true rfl⟩ (hM.k) (fun _ h => f_fine hR hG.2.1 h) ?_
    refine Ex_step (tk_M_unit rfl) ⟨fun h4 => ?_, fun h4 => ?_⟩
    · try simp (disch := omega) only [cmpI, w32_b2i, b2i_0, b2i_1, w32_id, Classical.not_not, not_true_eq_false, not_false_eq_true] at h4
      exact absurd h4 h0
    · try simp (disch := omega) only [cmpI, w32_b2i, b2i_0, b2i_1, w32_id, Classical.not_not, not_true_eq_false, not_false_eq_true] at h4
      refine Ex_step (tk_M_unit rfl) ⟨rfl, ?_⟩
      exact h
set_option maxRecDepth 100000 in
theorem f_ps (hW : LowW m) (hR : RdW m I A sz) : ∀ n : Nat, IHs m I A L sz n := by
  intro n
  induction n with
  | zero => intro e q s Q h; omega
  | succ n ih =>
    intro e q s Q hn hd hS h
    match q with
    | 0 => exact u_0 hW ih hR hn hd hS h
    | 1 => exact u_1 ih hR hn hd hS h
    | 2 => exact u_2 ih hR hn hd hS h
    | 3 => exact u_3 ih hR hn hd hS h
    | 4 => exact u_4 ih hR hn hd hS h
    | 5 => exact u_5 hW ih hR hn hd hS h
    | 6 => exact u_6 hW ih hR hn hd hS h
    | 7 => exact u_7 ih hR hn hd hS h
    | 8 => exact u_8 hW ih hR hn hd hS h
    | 9 => exact u_9 ih hR hn hd hS h
    | _ + 10 => trivial
end MUnit
