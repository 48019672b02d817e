/-! ===== the reference reads a line: it runs so ===== -/
section MLine
variable {d sz n e : Nat} {m : Mem} {I : Nat → Int} {A L : Nat → Nat → Int} {s : PSt} {Q : Nat → Option AV → Mem → Prop}
set_option maxRecDepth 100000 in
theorem f_readsLine (hW : LowW m) (hR : RdW m I A sz) (hL : LI sz s) (h0 : pFl s = 0) (h : Q 0 none (PM m I A L (lineP (A 2) sz s))) : Ex (d + 56) M_readsLine 0 [some (vR aM), none] [] (PM m I A L s) Q := by
  have hM := hR.1
  have hsz := hR.2.2.1
  have hS1 : LI sz (hereP (A 2) sz s) := ⟨hL.1.here, hL.2⟩
  have lk := lineM_ok (f := A 2) hS1 h0 hsz
  have kT := Kp.tk (f := A 2) (sz := sz) (w := 0) (s := (hereP (A 2) sz s))
  have hGT : GK sz (tkS (A 2) sz 0 (hereP (A 2) sz s)) := ⟨hS1.1.1.tk (by decide), by rw [kT.2.1]; exact hS1.1.2⟩
  have kT2 := Kp.tk (f := A 2) (sz := sz) (w := 1) (s := (tkS (A 2) sz 0 (hereP (A 2) sz s)))
  have hGT2 : GK sz (tkS (A 2) sz 1 (tkS (A 2) sz 0 (hereP (A 2) sz s))) := ⟨hGT.1.tk (by decide), by rw [kT2.2.1]; exact hGT.2⟩
  obtain ⟨nn, hn6, hN⟩ := hL.2.2.1
  have hq0 : pT (tkS (A 2) sz 0 (hereP (A 2) sz s)) 0 = (nn : Int) := (kT.2.2.2 0 (by decide)).trans hN
  have hq1 : pT (tkS (A 2) sz 0 (hereP (A 2) sz s)) 1 = pT s 1 := kT.2.2.2 1 (by decide)
  have hc01 : 0 ≤ pT s 1 ∧ pT s 1 ≤ 1 := by
    rcases hL.2.2.2 with q | q
    · omega
    · omega
  have hcd : pT s 1 = 0 → pCd s = 0 := by
    intro hz
    rcases hL.2.2.2 with q | q
    · exact q.2
    · omega
  have hu0 : up1 A 4 (pT (tkS (A 2) sz 0 (hereP (A 2) sz s))) 4 0 = (nn : Int) := hq0
  have hu1 : up1 A 4 (pT (tkS (A 2) sz 0 (hereP (A 2) sz s))) 4 1 = pT s 1 := hq1
  have h84 : ∀ (t : PSt) (l1 : Option AV), lineM (A 2) sz (hereP (A 2) sz s) = t → Ex (d + 56) M_readsLine 84 [some (vR aM), l1] [] (PM m I A L t) Q := by
    intro t l1 ht
    unfold lineP at h
    rw [ht] at h lk
    clear ht
    refine Ex_step (tk_M_readsLine rfl) ?_
    refine Ex_step (tk_M_readsLine rfl) ?_
    refine Ex_cV0 (av := [vI 59]) (tk_M_readsLine rfl) mk_M_must ⟨rfl, rfl, by decide, rfl, Nat.le_of_ble_eq_true rfl, Nat.le_of_ble_eq_true rfl⟩ (hM.k) (fun _ h => f_must (c := 59) (by decide) hR (lk.1.1.gd hsz) h) ?_
    refine Ex_step (tk_M_readsLine rfl) ⟨rfl, ?_⟩
    exact h
  clear h
  have hps : pT s 1 = 0 → Q = Q → ∀ Q2 : Nat → Option AV → Mem → Prop, Q2 0 none (PM m I A L (ps (A 2) sz psN 9 (wTP (tkS (A 2) sz 1 (tkS (A 2) sz 0 (hereP (A 2) sz s))) 1 1))) → Ex (d + 55) M_test 0 [some (vR aM)] [] (PM m I A L (wTP (tkS (A 2) sz 1 (tkS (A 2) sz 0 (hereP (A 2) sz s))) 1 1)) Q2 := by
    intro hz _ Q2 h2
    have e1 : pCd (wTP (tkS (A 2) sz 1 (tkS (A 2) sz 0 (hereP (A 2) sz s))) 1 1) = 0 := (kT2.2.1.trans kT.2.1).trans (hcd hz)
    have e2 : pOp (wTP (tkS (A 2) sz 1 (tkS (A 2) sz 0 (hereP (A 2) sz s))) 1 1) = 0 := (kT2.2.2.1.trans kT.2.2.1).trans hL.2.1
    have hN9 := psN_ge
    exact f_ps hW hR psN (d + 49) 9 (wTP (tkS (A 2) sz 1 (tkS (A 2) sz 0 (hereP (A 2) sz s))) 1 1) Q2 (by omega) (by rw [e2]; omega) ⟨hGT2.1, by have hl : lp 9 = 1 := rfl; rw [e1]; omega⟩ h2
  refine Ex_step (tk_M_readsLine rfl) ?_
  refine Ex_cV0 (av := []) (tk_M_readsLine rfl) mk_M_here ⟨rfl, rfl, by decide, rfl, Nat.le_of_ble_eq_true rfl, Nat.le_of_ble_eq_true rfl⟩ (hM.k) (fun _ h => f_here hR (hL.1.gd hsz).1 h) ?_
  refine Ex_step (tk_M_readsLine rfl) ?_
  refine Ex_step (tk_M_readsLine rfl) ?_
  refine gMI (tk_M_readsLine rfl) hM ?_
  refine Ex_step (tk_M_readsLine rfl) ?_
  refine Ex_step (tk_M_readsLine rfl) ?_
  refine Ex_step (tk_M_readsLine rfl) ?_
  refine Ex_cV0 (av := [vR 30]) (tk_M_readsLine rfl) mk_M_takes ⟨rfl, rfl, by decide, rfl, Nat.le_of_ble_eq_true rfl, Nat.le_of_ble_eq_true rfl⟩ (hM.k) (fun _ h => f_tk 0 (by decide) hW hR (hS1.1.gd hsz) h) ?_
  refine Ex_step (tk_M_readsLine rfl) ⟨fun h16 => ?_, fun h16 => ?_⟩
  · try simp (disch := omega) only [cmpI, w32_b2i, b2i_0, b2i_1, w32_id, Classical.not_not, not_true_eq_false, not_false_eq_true] at h16
    refine Ex_step (tk_M_readsLine rfl) ?_
    refine gMR (tk_M_readsLine rfl) hM hM.r10 ?_
    refine Ex_step (tk_M_readsLine rfl) ?_
    refine lMI (j := 4) (n := 1) (tk_M_readsLine rfl) (by decide) hM.k4 hM.n4 (rfl) (by decide) ?_
    rw [hu1]
    refine Ex_step (tk_M_readsLine rfl) ⟨fun h52 => ?_, fun h52 => ?_⟩
    · try simp (disch := omega) only [cmpI, w32_b2i, b2i_0, b2i_1, w32_id, Classical.not_not, not_true_eq_false, not_false_eq_true] at h52
      first | have hfin := h84 (wrongP (tkS (A 2) sz 0 (hereP (A 2) sz s)) 1 ((pAt (hereP (A 2) sz s) : Nat) : Int)) (some (vI (pI I (hereP (A 2) sz s) 4))) (by unfold lineM; rw [if_neg h16, if_neg (by rw [hq1]; omega)]) | have hfin := h84 (wrongP (tkS (A 2) sz 1 (tkS (A 2) sz 0 (hereP (A 2) sz s))) 1 ((pAt (hereP (A 2) sz s) : Nat) : Int)) (some (vI (pI I (hereP (A 2) sz s) 4))) (by unfold lineM; rw [if_neg h16, if_pos (by rw [hq1]; omega), if_neg h61])
      refine Ex_step (tk_M_readsLine rfl) ?_
      refine Ex_step (tk_M_readsLine rfl) ?_
      refine Ex_step (tk_M_readsLine rfl) ?_
      refine Ex_cV0 (av := [vI 1, vI (pI I (hereP (A 2) sz s) 4)]) (tk_M_readsLine rfl) mk_M_wrong ⟨rfl, rfl, by decide, rfl, Nat.le_of_ble_eq_true rfl, Nat.le_of_ble_eq_true rfl⟩ (hM.k) (fun _ h => f_wrong (k := 1) (p := ((pAt (hereP (A 2) sz s) : Nat) : Int)) hR (by first | exact hGT.1.1 | exact hGT2.1.1) h) ?_
      exact hfin
    · try simp (disch := omega) only [cmpI, w32_b2i, b2i_0, b2i_1, w32_id, Classical.not_not, not_true_eq_false, not_false_eq_true] at h52
      refine Ex_step (tk_M_readsLine rfl) ?_
      refine Ex_step (tk_M_readsLine rfl) ?_
      refine Ex_cV0 (av := [vR 32]) (tk_M_readsLine rfl) mk_M_takes ⟨rfl, rfl, by decide, rfl, Nat.le_of_ble_eq_true rfl, Nat.le_of_ble_eq_true rfl⟩ (hM.k) (fun _ h => f_tk 1 (by decide) hW hR (hGT.gd hsz) h) ?_
      refine Ex_step (tk_M_readsLine rfl) ⟨fun h61 => ?_, fun h61 => ?_⟩
      · try simp (disch := omega) only [cmpI, w32_b2i, b2i_0, b2i_1, w32_id, Classical.not_not, not_true_eq_false, not_false_eq_true] at h61
        first | have hfin := h84 (wrongP (tkS (A 2) sz 0 (hereP (A 2) sz s)) 1 ((pAt (hereP (A 2) sz s) : Nat) : Int)) (some (vI (pI I (hereP (A 2) sz s) 4))) (by unfold lineM; rw [if_neg h16, if_neg (by rw [hq1]; omega)]) | have hfin := h84 (wrongP (tkS (A 2) sz 1 (tkS (A 2) sz 0 (hereP (A 2) sz s))) 1 ((pAt (hereP (A 2) sz s) : Nat) : Int)) (some (vI (pI I (hereP (A 2) sz s) 4))) (by unfold lineM; rw [if_neg h16, if_pos (by rw [hq1]; omega), if_neg h61])
        refine Ex_step (tk_M_readsLine rfl) ?_
        refine Ex_step (tk_M_readsLine rfl) ?_
        refine Ex_step (tk_M_readsLine rfl) ?_
        refine Ex_cV0 (av := [vI 1, vI (pI I (hereP (A 2) sz s) 4)]) (tk_M_readsLine rfl) mk_M_wrong ⟨rfl, rfl, by decide, rfl, Nat.le_of_ble_eq_true rfl, Nat.le_of_ble_eq_true rfl⟩ (hM.k) (fun _ h => f_wrong (k := 1) (p := ((pAt (hereP (A 2) sz s) : Nat) : Int)) hR (by first | exact hGT.1.1 | exact hGT2.1.1) h) ?_
        exact hfin
      · try simp (disch := omega) only [cmpI, w32_b2i, b2i_0, b2i_1, w32_id, Classical.not_not, not_true_eq_false, not_false_eq_true] at h61
        have hfin := h84 (ps (A 2) sz psN 9 (wTP (tkS (A 2) sz 1 (tkS (A 2) sz 0 (hereP (A 2) sz s))) 1 1)) (some (vI (pI I (hereP (A 2) sz s) 4))) (by unfold lineM; rw [if_neg h16, if_pos (by rw [hq1]; omega), if_pos h61])
        refine Ex_step (tk_M_readsLine rfl) ?_
        refine gMR (tk_M_readsLine rfl) hM hM.r10 ?_
        refine Ex_step (tk_M_readsLine rfl) ?_
        refine Ex_step (tk_M_readsLine rfl) ?_
        refine tMI (j := 4) (n := 1) (tk_M_readsLine rfl) (by decide) hM.k4 hM.n4 (rfl) (by decide) ?_
        rw [put_T A (tkS (A 2) sz 1 (tkS (A 2) sz 0 (hereP (A 2) sz s)))]
        refine Ex_step (tk_M_readsLine rfl) ?_
        refine Ex_cV0 (av := []) (tk_M_readsLine rfl) mk_M_test ⟨rfl, rfl, by decide, rfl, Nat.le_of_ble_eq_true rfl, Nat.le_of_ble_eq_true rfl⟩ (hM.k) (fun _ h => hps (by omega) rfl _ h) ?_
        refine Ex_step (tk_M_readsLine rfl) ?_
        exact hfin
  · try simp (disch := omega) only [cmpI, w32_b2i, b2i_0, b2i_1, w32_id, Classical.not_not, not_true_eq_false, not_false_eq_true] at h16
    refine Ex_step (tk_M_readsLine rfl) ?_
    refine gMR (tk_M_readsLine rfl) hM hM.r10 ?_
    refine Ex_step (tk_M_readsLine rfl) ?_
    refine lMI (j := 4) (n := 0) (tk_M_readsLine rfl) (by decide) hM.k4 hM.n4 (rfl) (by decide) ?_
    rw [hu0]
    refine Ex_step (tk_M_readsLine rfl) ?_
    refine Ex_step (tk_M_readsLine rfl) ⟨fun h27 => ?_, fun h27 => ?_⟩
    · try simp (disch := omega) only [cmpI, w32_b2i, b2i_0, b2i_1, w32_id, Classical.not_not, not_true_eq_false, not_false_eq_true] at h27
      have hfin := h84 (designP (A 2) sz nn (tkS (A 2) sz 0 (hereP (A 2) sz s))) (some (vI (pI I (hereP (A 2) sz s) 4))) (by unfold lineM; rw [if_pos h16, if_neg (by rw [hq0]; omega), hq0]; rfl)
      refine Ex_step (tk_M_readsLine rfl) ?_
      refine Ex_cV0 (av := []) (tk_M_readsLine rfl) mk_M_readsDesign ⟨rfl, rfl, by decide, rfl, Nat.le_of_ble_eq_true rfl, Nat.le_of_ble_eq_true rfl⟩ (hM.k) (fun _ h => f_readsDesign (nn := nn) hR (by omega) hq0 hGT h) ?_
      refine Ex_step (tk_M_readsLine rfl) ?_
      exact hfin
    · try simp (disch := omega) only [cmpI, w32_b2i, b2i_0, b2i_1, w32_id, Classical.not_not, not_true_eq_false, not_false_eq_true] at h27
      have hfin := h84 (wrongP (tkS (A 2) sz 0 (hereP (A 2) sz s)) 3 ((pAt (hereP (A 2) sz s) : Nat) : Int)) (some (vI (pI I (hereP (A 2) sz s) 4))) (by unfold lineM; rw [if_pos h16, if_pos (by rw [hq0]; omega)])
      refine Ex_step (tk_M_readsLine rfl) ?_
      refine Ex_step (tk_M_readsLine rfl) ?_
      refine Ex_step (tk_M_readsLine rfl) ?_
      refine Ex_cV0 (av := [vI 3, vI (pI I (hereP (A 2) sz s) 4)]) (tk_M_readsLine rfl) mk_M_wrong ⟨rfl, rfl, by decide, rfl, Nat.le_of_ble_eq_true rfl, Nat.le_of_ble_eq_true rfl⟩ (hM.k) (fun _ h => f_wrong (k := 3) (p := ((pAt (hereP (A 2) sz s) : Nat) : Int)) hR (hGT.gd hsz).2.1 h) ?_
      refine Ex_step (tk_M_readsLine rfl) ?_
      exact hfin
end MLine
