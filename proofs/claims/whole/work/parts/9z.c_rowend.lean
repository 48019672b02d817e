/-! ===== the class: a row's end ===== -/
section CRowEnd
variable {d tr c tp sz a lim k p y : Nat} {m : Mem} {F A L : Nat → Nat → Int} {Q : Nat → Option AV → Mem → Prop}
set_option maxRecDepth 100000 in
theorem c_rowEnd {fi : Int} (hfi : fi = 0 ∨ fi = 1) (hk10 : mK m tr = 10) (hr640 : mFR m 640 tr = c) (hSW : ScW m c tp) (hDW : DW m a) (hac : a ≠ c) (hsz : sz ≤ 800) (hf : byts (A tp)) (hy : y < 10) (hlim : lim ≤ 10) (hk : k ≤ lim) (hS : ScF F c sz p 0 (-1)) (hF : F 194 a = (y : Int)) (hp : p ≤ sz) (hbad : ¬ (fi = 1 ∧ 0 < k ∨ fi = 0 ∧ k = lim) ∨ ¬ (bt (A tp) sz (sk (A tp) sz p) = 47 ∧ y + 1 < 10) ∧ bt (A tp) sz (sk (A tp) sz p) ≠ 59 → Q 0 (some (vI 0)) (CM m (upF (upF (upF F 514 c ((sk (A tp) sz p : Nat) : Int)) 515 c 1) 516 c ((sk (A tp) sz p : Nat) : Int)) A L)) (hmore : (fi = 1 ∧ 0 < k ∨ fi = 0 ∧ k = lim) → bt (A tp) sz (sk (A tp) sz p) = 47 ∧ y + 1 < 10 → Q 0 (some (vI 1)) (CM m (upF (upF (upF (upF F 514 c ((sk (A tp) sz p : Nat) : Int)) 514 c ((sk (A tp) sz p + 1 : Nat) : Int)) 193 a (k : Int)) 194 a ((y : Int) + 1)) A L)) (hend : (fi = 1 ∧ 0 < k ∨ fi = 0 ∧ k = lim) → bt (A tp) sz (sk (A tp) sz p) = 59 → Q 0 (some (vI 0)) (CM m (upF (upF (upF (upF F 514 c ((sk (A tp) sz p : Nat) : Int)) 514 c ((sk (A tp) sz p + 1 : Nat) : Int)) 193 a (k : Int)) 194 a ((y : Int) + 1)) A L)) : Ex (d + 2) TR_readRow 83 [some (vR tr), some (vR a), some (vI fi), some (vI (lim : Int)), some (vI (k : Int)), none, none, none] [] (CM m F A L) Q := by
  have hk8 := hSW.1
  have hk3 := hDW.1
  have hsk := sk_sz (f := A tp) hp
  have hbr := bt_range hf hsz (sk (A tp) sz p)
  have hlt : bt (A tp) sz (sk (A tp) sz p) ≠ -1 → sk (A tp) sz p < sz := fun z => bt_lt rfl z
  have hlook := fun (Q1 : Nat → Option AV → Mem → Prop) => c_look (d := d) (L := L) (Q := Q1) (fl := 0) (pl := -1) hSW hsz hf (sz + 1) p F (by omega) (by omega) hS
  have hS1 := hS.at_ (sk (A tp) sz p)
  have hy1 : upF F 514 c ((sk (A tp) sz p : Nat) : Int) 194 a = (y : Int) := (upF_a _ _ _ hac).trans hF
  have hy2 : upF (upF (upF F 514 c ((sk (A tp) sz p : Nat) : Int)) 514 c ((sk (A tp) sz p + 1 : Nat) : Int)) 193 a (k : Int) 194 a = (y : Int) := (upF_f _ _ _ (by decide)).trans ((upF_a _ _ _ hac).trans hy1)
  generalize bt (A tp) sz (sk (A tp) sz p) = ch at *
  have hfail := fun (Q1 : Nat → Option AV → Mem → Prop) => c_fail (d := d + 1) (k := 1) (Q := Q1) (A := A) (L := L) hk8 hS1 (by decide)
  have hstp := fun (hc : ch ≠ -1) (Q1 : Nat → Option AV → Mem → Prop) => c_step (d := d + 1) (Q := Q1) (A := A) (L := L) hk8 hS1 hsz (hlt hc)
  have key : ∀ ok : Int, (ok = 0 ∧ ¬ (fi = 1 ∧ 0 < k ∨ fi = 0 ∧ k = lim) ∨ ok = 1 ∧ (fi = 1 ∧ 0 < k ∨ fi = 0 ∧ k = lim)) → Ex (d + 2) TR_readRow 113 [some (vR tr), some (vR a), some (vI fi), some (vI (lim : Int)), some (vI (k : Int)), some (vI ok), none, none] [] (CM m F A L) Q := by
    intro ok hok
    have h164 : ∀ v7 : Int, (ok = 0 ∨ ¬ (ch = 47 ∧ y + 1 < 10) ∧ ch ≠ 59) → Ex (d + 2) TR_readRow 164 [some (vR tr), some (vR a), some (vI fi), some (vI (lim : Int)), some (vI (k : Int)), some (vI ok), some (vI ch), some (vI v7)] [] (CM m (upF F 514 c ((sk (A tp) sz p : Nat) : Int)) A L) Q := by
      intro v7 hb
      have hq := hbad (hok.elim (fun z => Or.inl z.2) (fun z => Or.inr (hb.elim (fun w => absurd (w.symm.trans z.1) (by decide)) id)))
      refine Ex_step (tk_TR_readRow rfl) ?_
      refine gCR (tk_TR_readRow rfl) (hk10) (hr640) ?_
      refine Ex_step (tk_TR_readRow rfl) ?_
      refine Ex_cV0 (av := [vI 1]) (tk_TR_readRow rfl) mk_Scan_fail ⟨rfl, rfl, by decide, rfl, Nat.le_of_ble_eq_true rfl, Nat.le_of_ble_eq_true rfl⟩ (hk8) (fun _ h => hfail _ h) ?_
      refine Ex_step (tk_TR_readRow rfl) ?_
      refine Ex_step (tk_TR_readRow rfl) ⟨rfl, by first | exact Or.inl rfl | exact Or.inr rfl | exact b2i_01 _ | assumption, ?_⟩
      exact hq
    have h174 : ∀ v7 : Int, ok = 1 → (v7 = 1 ∧ (ch = 47 ∧ y + 1 < 10) ∨ v7 = 0 ∧ ch = 59) → Ex (d + 2) TR_readRow 174 [some (vR tr), some (vR a), some (vI fi), some (vI (lim : Int)), some (vI (k : Int)), some (vI ok), some (vI ch), some (vI v7)] [] (CM m (upF F 514 c ((sk (A tp) sz p : Nat) : Int)) A L) Q := by
      intro v7 h1 hv
      have hokk : fi = 1 ∧ 0 < k ∨ fi = 0 ∧ k = lim := hok.elim (fun z => absurd (h1.symm.trans z.1) (by decide)) (fun z => z.2)
      have hq : Q 0 (some (vI v7)) (CM m (upF (upF (upF (upF F 514 c ((sk (A tp) sz p : Nat) : Int)) 514 c ((sk (A tp) sz p + 1 : Nat) : Int)) 193 a (k : Int)) 194 a ((y : Int) + 1)) A L) := by
        rcases hv with ⟨rfl, z⟩ | ⟨rfl, z⟩
        · exact hmore hokk z
        · exact hend hokk z
      have hv7 : v7 = 0 ∨ v7 = 1 := by omega
      have hst := hstp (by omega)
      refine Ex_step (tk_TR_readRow rfl) ?_
      refine gCR (tk_TR_readRow rfl) (hk10) (hr640) ?_
      refine Ex_cV0 (av := []) (tk_TR_readRow rfl) mk_Scan_step ⟨rfl, rfl, by decide, rfl, Nat.le_of_ble_eq_true rfl, Nat.le_of_ble_eq_true rfl⟩ (hk8) (fun _ h => hst _ h) ?_
      refine Ex_step (tk_TR_readRow rfl) ?_
      refine Ex_step (tk_TR_readRow rfl) ?_
      refine pCI (tk_TR_readRow rfl) (hk3) ?_
      refine Ex_step (tk_TR_readRow rfl) ?_
      refine Ex_step (tk_TR_readRow rfl) ?_
      refine gCI (tk_TR_readRow rfl) (hk3) ?_
      rw [hy2]
      refine Ex_step (tk_TR_readRow rfl) ?_
      refine Ex_step (tk_TR_readRow rfl) ?_
      refine pCI (tk_TR_readRow rfl) (hk3) ?_
      refine Ex_step (tk_TR_readRow rfl) ?_
      refine Ex_step (tk_TR_readRow rfl) ⟨rfl, by first | exact Or.inl rfl | exact Or.inr rfl | exact b2i_01 _ | assumption, ?_⟩
      exact hq
    refine Ex_step (tk_TR_readRow rfl) ?_
    refine gCR (tk_TR_readRow rfl) (hk10) (hr640) ?_
    refine Ex_cV0 (av := []) (tk_TR_readRow rfl) mk_Scan_look ⟨rfl, rfl, by decide, rfl, Nat.le_of_ble_eq_true rfl, Nat.le_of_ble_eq_true rfl⟩ (hk8) (fun _ h => hlook _ h) ?_
    refine Ex_step (tk_TR_readRow rfl) ?_
    refine Ex_step (tk_TR_readRow rfl) ?_
    refine Ex_step (tk_TR_readRow rfl) ?_
    refine Ex_step (tk_TR_readRow rfl) ⟨fun h126 => ?_, fun h126 => ?_⟩
    · try simp (disch := omega) only [cmpI, w32_b2i, b2i_0, b2i_1, w32_id, Classical.not_not, not_true_eq_false, not_false_eq_true] at h126
      refine Ex_step (tk_TR_readRow rfl) ?_
      refine Ex_step (tk_TR_readRow rfl) ?_
      refine Ex_step (tk_TR_readRow rfl) ?_
      refine Ex_step (tk_TR_readRow rfl) ⟨fun h149 => ?_, fun h149 => ?_⟩
      · try simp (disch := omega) only [cmpI, w32_b2i, b2i_0, b2i_1, w32_id, Classical.not_not, not_true_eq_false, not_false_eq_true] at h149
        exact h164 _ (by omega)
      · try simp (disch := omega) only [cmpI, w32_b2i, b2i_0, b2i_1, w32_id, Classical.not_not, not_true_eq_false, not_false_eq_true] at h149
        refine Ex_step (tk_TR_readRow rfl) ?_
        refine Ex_step (tk_TR_readRow rfl) ⟨fun h154 => ?_, fun h154 => ?_⟩
        · try simp (disch := omega) only [cmpI, w32_b2i, b2i_0, b2i_1, w32_id, Classical.not_not, not_true_eq_false, not_false_eq_true] at h154
          all_goals exact h174 _ (by omega) (by omega)
        · try simp (disch := omega) only [cmpI, w32_b2i, b2i_0, b2i_1, w32_id, Classical.not_not, not_true_eq_false, not_false_eq_true] at h154
          refine Ex_step (tk_TR_readRow rfl) ?_
          refine Ex_step (tk_TR_readRow rfl) ?_
          refine Ex_step (tk_TR_readRow rfl) ⟨fun h161 => ?_, fun h161 => ?_⟩
          · try simp (disch := omega) only [cmpI, w32_b2i, b2i_0, b2i_1, w32_id, Classical.not_not, not_true_eq_false, not_false_eq_true] at h161
            all_goals exact h174 _ (by omega) (by omega)
          · try simp (disch := omega) only [cmpI, w32_b2i, b2i_0, b2i_1, w32_id, Classical.not_not, not_true_eq_false, not_false_eq_true] at h161
            exact h164 _ (by omega)
    · try simp (disch := omega) only [cmpI, w32_b2i, b2i_0, b2i_1, w32_id, Classical.not_not, not_true_eq_false, not_false_eq_true] at h126
      refine Ex_step (tk_TR_readRow rfl) ?_
      refine gCI (tk_TR_readRow rfl) (hk3) ?_
      rw [hy1]
      refine Ex_step (tk_TR_readRow rfl) ?_
      refine Ex_step (tk_TR_readRow rfl) ?_
      refine Ex_step (tk_TR_readRow rfl) ?_
      refine Ex_step (tk_TR_readRow rfl) ⟨fun h137 => ?_, fun h137 => ?_⟩
      · try simp (disch := omega) only [cmpI, w32_b2i, b2i_0, b2i_1, w32_id, Classical.not_not, not_true_eq_false, not_false_eq_true] at h137
        refine Ex_step (tk_TR_readRow rfl) ?_
        refine Ex_step (tk_TR_readRow rfl) ?_
        refine Ex_step (tk_TR_readRow rfl) ?_
        refine Ex_step (tk_TR_readRow rfl) ⟨fun h149 => ?_, fun h149 => ?_⟩
        · try simp (disch := omega) only [cmpI, w32_b2i, b2i_0, b2i_1, w32_id, Classical.not_not, not_true_eq_false, not_false_eq_true] at h149
          exact h164 _ (by omega)
        · try simp (disch := omega) only [cmpI, w32_b2i, b2i_0, b2i_1, w32_id, Classical.not_not, not_true_eq_false, not_false_eq_true] at h149
          refine Ex_step (tk_TR_readRow rfl) ?_
          refine Ex_step (tk_TR_readRow rfl) ⟨fun h154 => ?_, fun h154 => ?_⟩
          · try simp (disch := omega) only [cmpI, w32_b2i, b2i_0, b2i_1, w32_id, Classical.not_not, not_true_eq_false, not_false_eq_true] at h154
            all_goals exact h174 _ (by omega) (by omega)
          · try simp (disch := omega) only [cmpI, w32_b2i, b2i_0, b2i_1, w32_id, Classical.not_not, not_true_eq_false, not_false_eq_true] at h154
            refine Ex_step (tk_TR_readRow rfl) ?_
            refine Ex_step (tk_TR_readRow rfl) ?_
            refine Ex_step (tk_TR_readRow rfl) ⟨fun h161 => ?_, fun h161 => ?_⟩
            · try simp (disch := omega) only [cmpI, w32_b2i, b2i_0, b2i_1, w32_id, Classical.not_not, not_true_eq_false, not_false_eq_true] at h161
              all_goals exact h174 _ (by omega) (by omega)
            · try simp (disch := omega) only [cmpI, w32_b2i, b2i_0, b2i_1, w32_id, Classical.not_not, not_true_eq_false, not_false_eq_true] at h161
              exact h164 _ (by omega)
      · try simp (disch := omega) only [cmpI, w32_b2i, b2i_0, b2i_1, w32_id, Classical.not_not, not_true_eq_false, not_false_eq_true] at h137
        refine Ex_step (tk_TR_readRow rfl) ?_
        refine Ex_step (tk_TR_readRow rfl) ?_
        refine Ex_step (tk_TR_readRow rfl) ?_
        refine Ex_step (tk_TR_readRow rfl) ?_
        refine Ex_step (tk_TR_readRow rfl) ⟨fun h149 => ?_, fun h149 => ?_⟩
        · try simp (disch := omega) only [cmpI, w32_b2i, b2i_0, b2i_1, w32_id, Classical.not_not, not_true_eq_false, not_false_eq_true] at h149
          exact h164 _ (by omega)
        · try simp (disch := omega) only [cmpI, w32_b2i, b2i_0, b2i_1, w32_id, Classical.not_not, not_true_eq_false, not_false_eq_true] at h149
          refine Ex_step (tk_TR_readRow rfl) ?_
          refine Ex_step (tk_TR_readRow rfl) ⟨fun h154 => ?_, fun h154 => ?_⟩
          · try simp (disch := omega) only [cmpI, w32_b2i, b2i_0, b2i_1, w32_id, Classical.not_not, not_true_eq_false, not_false_eq_true] at h154
            all_goals exact h174 _ (by omega) (by omega)
          · try simp (disch := omega) only [cmpI, w32_b2i, b2i_0, b2i_1, w32_id, Classical.not_not, not_true_eq_false, not_false_eq_true] at h154
            refine Ex_step (tk_TR_readRow rfl) ?_
            refine Ex_step (tk_TR_readRow rfl) ?_
            refine Ex_step (tk_TR_readRow rfl) ⟨fun h161 => ?_, fun h161 => ?_⟩
            · try simp (disch := omega) only [cmpI, w32_b2i, b2i_0, b2i_1, w32_id, Classical.not_not, not_true_eq_false, not_false_eq_true] at h161
              all_goals exact h174 _ (by omega) (by omega)
            · try simp (disch := omega) only [cmpI, w32_b2i, b2i_0, b2i_1, w32_id, Classical.not_not, not_true_eq_false, not_false_eq_true] at h161
              exact h164 _ (by omega)
  refine Ex_step (tk_TR_readRow rfl) ?_
  refine Ex_step (tk_TR_readRow rfl) ⟨fun h84 => ?_, fun h84 => ?_⟩
  · try simp (disch := omega) only [cmpI, w32_b2i, b2i_0, b2i_1, w32_id, Classical.not_not, not_true_eq_false, not_false_eq_true] at h84
    refine Ex_step (tk_TR_readRow rfl) ?_
    refine Ex_step (tk_TR_readRow rfl) ?_
    refine Ex_step (tk_TR_readRow rfl) ⟨fun h103 => ?_, fun h103 => ?_⟩
    · try simp (disch := omega) only [cmpI, w32_b2i, b2i_0, b2i_1, w32_id, Classical.not_not, not_true_eq_false, not_false_eq_true] at h103
      refine Ex_step (tk_TR_readRow rfl) ?_
      refine Ex_step (tk_TR_readRow rfl) ?_
      exact key _ (by omega)
    · try simp (disch := omega) only [cmpI, w32_b2i, b2i_0, b2i_1, w32_id, Classical.not_not, not_true_eq_false, not_false_eq_true] at h103
      refine Ex_step (tk_TR_readRow rfl) ?_
      refine Ex_step (tk_TR_readRow rfl) ?_
      refine Ex_step (tk_TR_readRow rfl) ?_
      exact key _ (by omega)
  · try simp (disch := omega) only [cmpI, w32_b2i, b2i_0, b2i_1, w32_id, Classical.not_not, not_true_eq_false, not_false_eq_true] at h84
    refine Ex_step (tk_TR_readRow rfl) ?_
    refine Ex_step (tk_TR_readRow rfl) ⟨fun h89 => ?_, fun h89 => ?_⟩
    · try simp (disch := omega) only [cmpI, w32_b2i, b2i_0, b2i_1, w32_id, Classical.not_not, not_true_eq_false, not_false_eq_true] at h89
      refine Ex_step (tk_TR_readRow rfl) ?_
      refine Ex_step (tk_TR_readRow rfl) ?_
      refine Ex_step (tk_TR_readRow rfl) ?_
      exact key _ (by omega)
    · try simp (disch := omega) only [cmpI, w32_b2i, b2i_0, b2i_1, w32_id, Classical.not_not, not_true_eq_false, not_false_eq_true] at h89
      refine Ex_step (tk_TR_readRow rfl) ?_
      refine Ex_step (tk_TR_readRow rfl) ?_
      refine Ex_step (tk_TR_readRow rfl) ?_
      exact key _ (by omega)
end CRowEnd
