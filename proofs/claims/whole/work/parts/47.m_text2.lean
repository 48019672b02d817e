/-! ===== the reference reads a text: all of it ===== -/
set_option maxRecDepth 100000 in
theorem remA_lo {b j : Nat} (hj : j < 6) (A : Nat → Nat → Int) : remA b A j = A j := by
  unfold remA
  split
  · rw [up1_ne _ _ (by omega)]
    exact if_neg (by omega)
  · rw [up1_ne _ _ (by omega)]
set_option maxRecDepth 100000 in
theorem s0_LI (sz : Nat) (T : Nat → Int) : LI sz (s0P (cpK 1920 (fun _ => 0) T)) := ⟨⟨⟨Nat.zero_le _, Nat.zero_le _, Nat.zero_le _, fun _ => ⟨Nat.zero_le _, Nat.zero_le _⟩⟩, Nat.zero_le _⟩, rfl, ⟨0, Nat.zero_le _, rfl⟩, Or.inl ⟨rfl, rfl⟩⟩
noncomputable def txS (f T : Nat → Int) (n : Int) : PSt := tlP f n.toNat (n.toNat + 3) (s0P (cpK 1920 (fun _ => 0) T))
section MText2
variable {d : Nat} {m : Mem} {I : Nat → Int} {A L : Nat → Nat → Int} {Q : Nat → Option AV → Mem → Prop}
set_option maxRecDepth 100000 in
theorem f_text (hW : LowW m) (hM : MW m) {n : Int} (hn1 : -2147483648 ≤ n) (hn2 : n ≤ 2147483647) {tp b : Nat} (htp : tp ≤ 800) (h2 : I 2 = (tp : Int)) (hb : b ≤ 8) (h12 : I 12 = (b : Int)) (hf : byts (A 2)) (hbad : ¬ (0 ≤ n ∧ n ≤ (tp : Int)) → Q 0 (some (vI 0)) (MS m (up1 (up1 I 0 0) 0 1) (up1 A 1 (up1 (A 1) 1 (A 1 1 + 1))) L)) (hflt : 0 ≤ n ∧ n ≤ (tp : Int) → ¬ pFl (txS (A 2) (A 4) n) = 0 → Q 0 (some (vI ((pFl (txS (A 2) (A 4) n) : Int) - 10))) (PM m (up1 (txI n I) 5 (pFa (txS (A 2) (A 4) n))) A L (txS (A 2) (A 4) n))) (hok : 0 ≤ n ∧ n ≤ (tp : Int) → pFl (txS (A 2) (A 4) n) = 0 → Q 0 (some (vI (pT (txS (A 2) (A 4) n) 0))) (MS m (up1 (pI (up1 (txI n I) 5 (pFa (txS (A 2) (A 4) n))) (txS (A 2) (A 4) n)) 12 (remB b : Nat)) (up1 (remA b (up1 A 4 (pT (txS (A 2) (A 4) n)))) 3 (cpK 1920 (pT (txS (A 2) (A 4) n)) (A 3))) L)) : Ex (d + 57) M_text 0 [some (vR aM), some (vI n), none] [] (MS m I A L) Q := by
  refine f_text0 hM hn1 hn2 htp h2 hbad (fun hq => ?_)
  have hflt := hflt hq
  have hok := hok hq
  have hsz : n.toNat ≤ 800 := by omega
  have hR : RdW m (txI n I) A n.toNat := ⟨hM, (by show n = (n.toNat : Int); omega), hsz, hf⟩
  refine f_tl hW hR (n.toNat + 3) _ (s0_LI _ _) (by omega) (fun _ => by show n.toNat + 2 - 0 ≤ n.toNat + 3; omega) ?_
  have hL : LI n.toNat (txS (A 2) (A 4) n) := tl_ok hsz _ _ (s0_LI _ _)
  show Ex (d + 57) M_text 112 [some (vR aM), some (vI n), some (vI 1920)] [] (PM m (txI n I) A L (txS (A 2) (A 4) n)) Q
  generalize txS (A 2) (A 4) n = t at hflt hok hL ⊢
  have hR5 : RdW m (up1 (txI n I) 5 (pFa t)) A n.toNat := ⟨hM, hR.2.1, hsz, hf⟩
  have e4 : remA b (up1 A 4 (pT t)) 4 = pT t := by rw [remA_lo (by decide), up1_at]
  have e3 : remA b (up1 A 4 (pT t)) 3 = A 3 := by rw [remA_lo (by decide), up1_ne _ _ (by decide)]
  have hv : up1 (remA b (up1 A 4 (pT t))) 3 (cpK 1920 (pT t) (A 3)) 3 0 = pT t 0 := by rw [up1_at]; exact if_pos (by decide)
  refine Ex_step (tk_M_text rfl) ?_
  refine Ex_step (tk_M_text rfl) ?_
  refine gMI (tk_M_text rfl) hM ?_
  refine pMI (tk_M_text rfl) hM ?_
  rw [show pI (txI n I) t 7 = pFa t from rfl, pI_5]
  refine Ex_step (tk_M_text rfl) ?_
  refine Ex_cV0 (av := []) (tk_M_text rfl) mk_M_fine ⟨rfl, rfl, by decide, rfl, Nat.le_of_ble_eq_true rfl, Nat.le_of_ble_eq_true rfl⟩ (hM.k) (fun _ h => f_fine hR5 hL.1.1.1 h) ?_
  refine Ex_step (tk_M_text rfl) ⟨fun h124 => ?_, fun h124 => ?_⟩
  · try simp (disch := omega) only [cmpI, w32_b2i, b2i_0, b2i_1, w32_id, Classical.not_not, not_true_eq_false, not_false_eq_true] at h124
    refine Ex_step (tk_M_text rfl) ?_
    refine Ex_cV0 (av := []) (tk_M_text rfl) mk_M_remembers ⟨rfl, rfl, by decide, rfl, Nat.le_of_ble_eq_true rfl, Nat.le_of_ble_eq_true rfl⟩ (hM.k) (fun _ h => f_remembers (b := b) (A := up1 A 4 (pT t)) hM hb h12 h) ?_
    refine Ex_step (tk_M_text rfl) ?_
    refine gMR (tk_M_text rfl) hM hM.r10 ?_
    refine Ex_step (tk_M_text rfl) ?_
    refine gMR (tk_M_text rfl) hM hM.r9 ?_
    refine Ex_cS0 (av := [vR (aM + 4), vR (aM + 3)]) (tk_M_text rfl) mk_M_copies ⟨rfl, by decide, rfl, rfl, rfl, Nat.le_of_ble_eq_true rfl, Nat.le_of_ble_eq_true rfl⟩ (fun _ h => f_copies (j1 := 4) (j2 := 3) (by decide) (by decide) (by decide) hM.k4 hM.n4 hM.k3 hM.n3 h) ?_
    rw [e4, e3]
    refine Ex_step (tk_M_text rfl) ?_
    refine gMR (tk_M_text rfl) hM hM.r9 ?_
    refine Ex_step (tk_M_text rfl) ?_
    refine lMI (j := 3) (n := 0) (tk_M_text rfl) (by decide) hM.k3 hM.n3 (rfl) (by decide) ?_
    rw [hv]
    refine Ex_step (tk_M_text rfl) ⟨rfl, ?_⟩
    exact hok h124
  · try simp (disch := omega) only [cmpI, w32_b2i, b2i_0, b2i_1, w32_id, Classical.not_not, not_true_eq_false, not_false_eq_true] at h124
    refine Ex_step (tk_M_text rfl) ?_
    refine gMI (tk_M_text rfl) hM ?_
    refine Ex_step (tk_M_text rfl) ?_
    refine Ex_step (tk_M_text rfl) ?_
    refine Ex_step (tk_M_text rfl) ⟨rfl, ?_⟩
    exact hflt h124
end MText2
