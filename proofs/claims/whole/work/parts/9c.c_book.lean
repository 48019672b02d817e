/-! ===== the class: books ===== -/
/-- a book's designs are its own six, in some order -/
def BkD (k : Nat) (ds : Nat → Nat) : Prop := (∀ i, i < 6 → k + 2 ≤ ds i ∧ ds i + 3 ≤ k + 20) ∧ ∀ i j, i < 6 → j < 6 → i ≠ j → ds i + 3 ≤ ds j ∨ ds j + 3 ≤ ds i
def KB (k : Nat) (F F' A A' : Nat → Nat → Int) : Prop := (∀ f j, j < k ∨ k + 20 ≤ j → F' f j = F f j) ∧ ∀ j, j < k ∨ k + 20 ≤ j → A' j = A j
set_option maxRecDepth 100000 in
theorem KB.rf (k : Nat) (F A : Nat → Nat → Int) : KB k F F A A := ⟨fun _ _ _ => rfl, fun _ _ => rfl⟩
set_option maxRecDepth 100000 in
theorem KB.tr {k : Nat} {F F' F2 A A' A2 : Nat → Nat → Int} (h : KB k F F' A A') (g : KB k F' F2 A' A2) : KB k F F2 A A2 := ⟨fun f j q => (g.1 f j q).trans (h.1 f j q), fun j q => (g.2 j q).trans (h.2 j q)⟩
set_option maxRecDepth 100000 in
theorem KB.bk {k k2 : Nat} {ds : Nat → Nat} {T : Nat → Int} {nn : Nat} {F F' A A' : Nat → Nat → Int} (h : KB k F F' A A') (hk : k + 20 ≤ k2 ∨ k2 + 20 ≤ k) (hn : nn ≤ 6) (hd : BkD k2 ds) (g : BkG F A k2 ds T nn) : BkG F' A' k2 ds T nn := ⟨(h.1 129 k2 (by omega)).trans g.1, fun i hi => by
  have := hd.1 i (by omega)
  have gi := g.2 i hi
  exact ⟨(h.1 192 (ds i) (by omega)).trans gi.1, (h.1 193 (ds i) (by omega)).trans gi.2.1, (h.1 194 (ds i) (by omega)).trans gi.2.2.1, fun y hy j hj => by rw [h.2 (ds i + 1) (by omega), h.2 (ds i + 2) (by omega)]; exact gi.2.2.2 y hy j hj⟩⟩
section CBook
variable {d k k1 k2 nn : Nat} {T : Nat → Int} {ds ds1 ds2 : Nat → Nat} {m : Mem} {F A L : Nat → Nat → Int} {Q : Nat → Option AV → Mem → Prop}
set_option maxRecDepth 100000 in
theorem tCR {y pc nx : Nat} {rs : List Nat} {c0 : Int} {ls : Ls} {r : List AV} {a n z v : Nat} {i : Int} (hk : okE y pc (.aastore, nx, rs, c0)) (hA : (16 ≤ mK m a ∧ mK m a ≤ 18) ∧ mLen m a = z ∧ mK m v = mK m a - 15) (hi : w32 i = (n : Int)) (hn : n < z) (h : Ex d y nx ls r (CM (sAR m a (up1 (mAR m a) n v)) F A L) Q) : Ex d y pc ls (vR v :: vI i :: vR a :: r) (CM m F A L) Q := by
  refine Ex_step hk ⟨hA.1.1, hA.1.2, hA.2.2, inR_of hi (by show n < mLen m a; rw [hA.2.1]; exact hn), ?_⟩
  rw [ix_of hi]
  exact h
set_option maxRecDepth 100000 in
theorem c_bookCopy (h1 : BkW m k1 ds1) (d1 : BkD k1 ds1) (h2 : BkW m k2 ds2) (d2 : BkD k2 ds2) (hk : k1 + 20 ≤ k2 ∨ k2 + 20 ≤ k1) (hn : nn ≤ 6) (g : BkG F A k2 ds2 T nn) (hq : ∀ F' A' : Nat → Nat → Int, KB k1 F F' A A' → BkG F' A' k1 ds1 T nn → Q 0 none (CM (sFR m 130 k1 (mFR m 130 k2)) F' A' L)) : Ex (d + 1) Book_copyFrom 0 [some (vR k1), some (vR k2), none] [] (CM m F A L) Q := by
  have hr2 := h2.2.1
  have hr1 := h1.2.1
  have hloop : ∀ (r i : Nat) (F' A' : Nat → Nat → Int), i + r = nn → KB k1 F F' A A' → (∀ j, j < i → F' 192 (ds1 j) = T (bD j) ∧ DG F' A' (ds1 j) (T (bD j + 1)) (T (bD j + 2)) (srt T j)) → Ex (d + 1) Book_copyFrom 2 [some (vR k1), some (vR k2), some (vI (i : Int))] [] (CM m F' A' L) Q := by
    intro r
    induction r with
    | zero =>
      intro i F' A' hi kb hj
      have : i = nn := by omega
      subst this
      have g2 := kb.bk hk hn d2 g
      have hx := hq (upF F' 129 k1 (i : Int)) A' ⟨fun f j z => by rw [upF_a _ _ _ (by omega)]; exact kb.1 f j z, kb.2⟩ ⟨upF_at _ _ _ _, fun j hj2 => by
        have := d1.1 j (by omega)
        have w := hj j hj2
        exact ⟨by rw [upF_f _ _ _ (by decide)]; exact w.1, by rw [upF_f _ _ _ (by decide)]; exact w.2.1, by rw [upF_f _ _ _ (by decide)]; exact w.2.2.1, w.2.2.2⟩⟩
      refine Ex_step (tk_Book_copyFrom rfl) ?_
      refine Ex_step (tk_Book_copyFrom rfl) ?_
      refine gCI (tk_Book_copyFrom rfl) (h2.1) ?_
      rw [g2.1]
      refine Ex_step (tk_Book_copyFrom rfl) ⟨fun h7 => ?_, fun h7 => ?_⟩
      · try simp (disch := omega) only [cmpI, w32_b2i, b2i_0, b2i_1, w32_id, Classical.not_not, not_true_eq_false, not_false_eq_true] at h7
        refine Ex_step (tk_Book_copyFrom rfl) ?_
        refine Ex_step (tk_Book_copyFrom rfl) ?_
        refine gCI (tk_Book_copyFrom rfl) (h2.1) ?_
        rw [g2.1]
        refine pCI (tk_Book_copyFrom rfl) (h1.1) ?_
        refine Ex_step (tk_Book_copyFrom rfl) ?_
        refine Ex_step (tk_Book_copyFrom rfl) ?_
        refine gCR (tk_Book_copyFrom rfl) (h2.1) (rfl) ?_
        refine pCR (tk_Book_copyFrom rfl) (h1.1) ?_
        refine Ex_step (tk_Book_copyFrom rfl) ⟨rfl, ?_⟩
        exact hx
      · try simp (disch := omega) only [cmpI, w32_b2i, b2i_0, b2i_1, w32_id, Classical.not_not, not_true_eq_false, not_false_eq_true] at h7
        omega
    | succ r ih =>
      intro i F' A' hi kb hj
      have g2 := kb.bk hk hn d2 g
      have e1 := h1.2.2.2.2 i (by omega)
      have e2 := h2.2.2.2.2 i (by omega)
      have b1 := d1.1 i (by omega)
      have b2 := d2.1 i (by omega)
      have gi := g2.2 i (by omega)
      have key : ∀ A2 : Nat → Nat → Int, (∀ j, j ≠ ds1 i + 1 → j ≠ ds1 i + 2 → A2 j = A' j) → DB A2 (ds1 i) (srt T i) → Ex (d + 1) Book_copyFrom 25 [some (vR k1), some (vR k2), some (vI (i : Int))] [] (CM m (upF (upF (upF F' 192 (ds1 i) (F' 192 (ds2 i))) 193 (ds1 i) (F' 193 (ds2 i))) 194 (ds1 i) (F' 194 (ds2 i))) A2 L) Q := by
        intro A2 q1 q2
        have hnx := ih (i + 1) (upF (upF (upF F' 192 (ds1 i) (F' 192 (ds2 i))) 193 (ds1 i) (F' 193 (ds2 i))) 194 (ds1 i) (F' 194 (ds2 i))) A2 (by omega) ⟨fun f j z => by rw [upF_a _ _ _ (by omega), upF_a _ _ _ (by omega), upF_a _ _ _ (by omega)]; exact kb.1 f j z, fun j z => by rw [q1 j (by omega) (by omega)]; exact kb.2 j z⟩ (fun j hj2 => by
          by_cases e : j = i
          · subst e
            refine ⟨?_, ?_, ?_, q2⟩
            · rw [upF_f _ _ _ (by decide), upF_f _ _ _ (by decide), upF_at]; exact gi.1
            · rw [upF_f _ _ _ (by decide), upF_at]; exact gi.2.1
            · rw [upF_at]; exact gi.2.2.1
          · have w := hj j (by omega)
            have b3 := d1.2 j i (by omega) (by omega) e
            refine ⟨?_, ?_, ?_, fun y hy x hx => ?_⟩
            · rw [upF_a _ _ _ (by omega), upF_a _ _ _ (by omega), upF_a _ _ _ (by omega)]; exact w.1
            · rw [upF_a _ _ _ (by omega), upF_a _ _ _ (by omega), upF_a _ _ _ (by omega)]; exact w.2.1
            · rw [upF_a _ _ _ (by omega), upF_a _ _ _ (by omega), upF_a _ _ _ (by omega)]; exact w.2.2.1
            · rw [q1 (ds1 j + 1) (by omega) (by omega), q1 (ds1 j + 2) (by omega) (by omega)]; exact w.2.2.2 y hy x hx)
        refine Ex_step (tk_Book_copyFrom rfl) ?_
        refine Ex_step (tk_Book_copyFrom rfl) ?_
        exact hnx
      refine Ex_step (tk_Book_copyFrom rfl) ?_
      refine Ex_step (tk_Book_copyFrom rfl) ?_
      refine gCI (tk_Book_copyFrom rfl) (h2.1) ?_
      rw [g2.1]
      refine Ex_step (tk_Book_copyFrom rfl) ⟨fun h7 => ?_, fun h7 => ?_⟩
      · try simp (disch := omega) only [cmpI, w32_b2i, b2i_0, b2i_1, w32_id, Classical.not_not, not_true_eq_false, not_false_eq_true] at h7
        omega
      · try simp (disch := omega) only [cmpI, w32_b2i, b2i_0, b2i_1, w32_id, Classical.not_not, not_true_eq_false, not_false_eq_true] at h7
        refine Ex_step (tk_Book_copyFrom rfl) ?_
        refine gCR (tk_Book_copyFrom rfl) (h1.1) (hr1) ?_
        refine Ex_step (tk_Book_copyFrom rfl) ?_
        refine lCR (n := i) (tk_Book_copyFrom rfl) (⟨⟨by rw [h1.2.2.1]; decide, by rw [h1.2.2.1]; decide⟩, h1.2.2.2.1, e1.1⟩) (w32_id (by omega) (by omega)) (by omega) ?_
        refine Ex_step (tk_Book_copyFrom rfl) ?_
        refine gCR (tk_Book_copyFrom rfl) (h2.1) (hr2) ?_
        refine Ex_step (tk_Book_copyFrom rfl) ?_
        refine lCR (n := i) (tk_Book_copyFrom rfl) (⟨⟨by rw [h2.2.2.1]; decide, by rw [h2.2.2.1]; decide⟩, h2.2.2.2.1, e2.1⟩) (w32_id (by omega) (by omega)) (by omega) ?_
        refine Ex_cVK (av := [vR (ds2 i)]) (tk_Book_copyFrom rfl) mk_Des_copyFrom ⟨rfl, rfl, by decide, rfl, Nat.le_of_ble_eq_true rfl, Nat.le_of_ble_eq_true rfl⟩ (e1.2.1) (c_copyFrom e1.2 e2.2 (by omega) gi.2.2.2 (fun A2 q1 q2 => ⟨rfl, ?_⟩))
        exact key A2 q1 q2
  have h20 := hloop nn 0 F A (by omega) (KB.rf k1 F A) (fun j hj => absurd hj (Nat.not_lt_zero j))
  refine Ex_step (tk_Book_copyFrom rfl) ?_
  refine Ex_step (tk_Book_copyFrom rfl) ?_
  exact h20
/-- the designs behind the one that is gone move up; its room comes behind them -/
def rmD (dd nn : Nat) (ds : Nat → Nat) : Nat → Nat := fun i => if i < dd then ds i else if i < nn - 1 then ds (i + 1) else if i = nn - 1 then ds dd else ds i
def rmK (dd c : Nat) (ds : Nat → Nat) : Nat → Nat := fun i => if dd ≤ i ∧ i < c then ds (i + 1) else ds i
set_option maxRecDepth 100000 in
theorem sAR_sAR (m : Mem) (a : Nat) (r s : Nat → Nat) : sAR (sAR m a r) a s = sAR m a s := by
  have e : mAR (sAR (sAR m a r) a s) = mAR (sAR m a s) := by
    funext j
    show (if j = a then s else if j = a then r else mAR m j) = (if j = a then s else mAR m j)
    split <;> rfl
  show (mN m, mZ m, mK m, mLen m, mFI m, mFR m, mAI m, mAL m, mAR (sAR (sAR m a r) a s)) = (mN m, mZ m, mK m, mLen m, mFI m, mFR m, mAI m, mAL m, mAR (sAR m a s))
  rw [e]
set_option maxRecDepth 100000 in
theorem mAR_at (m : Mem) (a : Nat) (r : Nat → Nat) : mAR (sAR m a r) a = r := if_pos rfl
set_option maxRecDepth 100000 in
theorem sAR_self (m : Mem) (a : Nat) : sAR m a (mAR m a) = m := by
  have e : mAR (sAR m a (mAR m a)) = mAR m := by
    funext j
    show (if j = a then mAR m a else mAR m j) = mAR m j
    split
    · next z => rw [z]
    · rfl
  show (mN m, mZ m, mK m, mLen m, mFI m, mFR m, mAI m, mAL m, mAR (sAR m a (mAR m a))) = m
  rw [e]
  rfl
set_option maxRecDepth 100000 in
theorem c_remove {dd : Nat} (hB : BkW m k ds) (hg : F 129 k = (nn : Int)) (hn : nn ≤ 6) (hd : dd < nn) (hq : ∀ R : Nat → Nat, (∀ i, i < 6 → R i = rmD dd nn ds i) → Q 0 none (CM (sAR m (k + 1) R) (upF F 129 k ((nn - 1 : Nat) : Int)) A L)) : Ex d Book_remove 0 [some (vR k), some (vI (dd : Int)), none, none] [] (CM m F A L) Q := by
  have hk2 := hB.1
  have hr128 := hB.2.1
  have e18 : ∀ R, 16 ≤ mK (sAR m (k + 1) R) (k + 1) ∧ mK (sAR m (k + 1) R) (k + 1) ≤ 18 := fun R => by
    show 16 ≤ mK m (k + 1) ∧ mK m (k + 1) ≤ 18
    rw [hB.2.2.1]; decide
  have ekd : ∀ i, i < 6 → mK m (ds i) = mK m (k + 1) - 15 := fun i hi => by rw [hB.2.2.1]; exact (hB.2.2.2.2 i hi).2.1
  have hloop : ∀ (r c : Nat) (R : Nat → Nat), c + r = nn → dd + 1 ≤ c → (∀ i, i < 6 → R i = rmK dd (c - 1) ds i) → Ex d Book_remove 24 [some (vR k), some (vI (dd : Int)), some (vR (ds dd)), some (vI (c : Int))] [] (CM (sAR m (k + 1) R) F A L) Q := by
    intro r
    induction r with
    | zero =>
      intro c R hc hdc hR
      have : c = nn := by omega
      subst this
      have hm1 : (c : Int) - 1 = ((c - 1 : Nat) : Int) := by omega
      have hx := hq (up1 R (c - 1) (ds dd)) (fun i hi => by
        unfold rmD
        by_cases e : i = c - 1
        · rw [e, up1_at, if_neg (by omega), if_neg (by omega), if_pos rfl]
        · rw [up1_ne _ _ e, hR i hi]
          unfold rmK
          by_cases e2 : dd ≤ i ∧ i < c - 1
          · rw [if_pos e2, if_neg (by omega), if_pos e2.2]
          · rw [if_neg e2]
            by_cases e3 : i < dd
            · rw [if_pos e3]
            · rw [if_neg e3, if_neg (by omega), if_neg e])
      refine Ex_step (tk_Book_remove rfl) ?_
      refine Ex_step (tk_Book_remove rfl) ?_
      refine gCI (tk_Book_remove rfl) (hk2) ?_
      rw [hg]
      refine Ex_step (tk_Book_remove rfl) ⟨fun h29 => ?_, fun h29 => ?_⟩
      · try simp (disch := omega) only [cmpI, w32_b2i, b2i_0, b2i_1, w32_id, Classical.not_not, not_true_eq_false, not_false_eq_true] at h29
        refine Ex_step (tk_Book_remove rfl) ?_
        refine Ex_step (tk_Book_remove rfl) ?_
        refine gCI (tk_Book_remove rfl) (hk2) ?_
        rw [hg]
        refine Ex_step (tk_Book_remove rfl) ?_
        refine Ex_step (tk_Book_remove rfl) ?_
        show Ex d Book_remove 59 _ [vI ((c : Int) - 1), vR k] _ Q
        rw [hm1]
        refine pCI (tk_Book_remove rfl) (hk2) ?_
        refine Ex_step (tk_Book_remove rfl) ?_
        refine gCR (tk_Book_remove rfl) (hk2) (hr128) ?_
        refine Ex_step (tk_Book_remove rfl) ?_
        refine gCI (tk_Book_remove rfl) (hk2) ?_
        rw [upF_at]
        refine Ex_step (tk_Book_remove rfl) ?_
        refine tCR (n := c - 1) (tk_Book_remove rfl) ⟨e18 R, hB.2.2.2.1, ekd dd (by omega)⟩ (w32_id (by omega) (by omega)) (by omega) ?_
        rw [mAR_at, sAR_sAR]
        refine Ex_step (tk_Book_remove rfl) ⟨rfl, ?_⟩
        exact hx
      · try simp (disch := omega) only [cmpI, w32_b2i, b2i_0, b2i_1, w32_id, Classical.not_not, not_true_eq_false, not_false_eq_true] at h29
        omega
    | succ r ih =>
      intro c R hc hdc hR
      have hRc : R c = ds c := by rw [hR c (by omega)]; exact if_neg (by omega)
      have hm1 : (c : Int) - 1 = ((c - 1 : Nat) : Int) := by omega
      have hnx := ih (c + 1) (up1 R (c - 1) (ds c)) (by omega) (by omega) (fun i hi => by
        unfold rmK
        by_cases e : i = c - 1
        · rw [e, up1_at, if_pos (by omega), show c - 1 + 1 = c by omega]
        · rw [up1_ne _ _ e, hR i hi]
          unfold rmK
          by_cases e2 : dd ≤ i ∧ i < c - 1
          · rw [if_pos e2, if_pos (by omega)]
          · rw [if_neg e2, if_neg (by omega)])
      refine Ex_step (tk_Book_remove rfl) ?_
      refine Ex_step (tk_Book_remove rfl) ?_
      refine gCI (tk_Book_remove rfl) (hk2) ?_
      rw [hg]
      refine Ex_step (tk_Book_remove rfl) ⟨fun h29 => ?_, fun h29 => ?_⟩
      · try simp (disch := omega) only [cmpI, w32_b2i, b2i_0, b2i_1, w32_id, Classical.not_not, not_true_eq_false, not_false_eq_true] at h29
        omega
      · try simp (disch := omega) only [cmpI, w32_b2i, b2i_0, b2i_1, w32_id, Classical.not_not, not_true_eq_false, not_false_eq_true] at h29
        refine Ex_step (tk_Book_remove rfl) ?_
        refine gCR (tk_Book_remove rfl) (hk2) (hr128) ?_
        refine Ex_step (tk_Book_remove rfl) ?_
        refine Ex_step (tk_Book_remove rfl) ?_
        refine Ex_step (tk_Book_remove rfl) ?_
        show Ex d Book_remove 39 _ [vI ((c : Int) - 1), vR (k + 1)] _ Q
        rw [hm1]
        refine Ex_step (tk_Book_remove rfl) ?_
        refine gCR (tk_Book_remove rfl) (hk2) (hr128) ?_
        refine Ex_step (tk_Book_remove rfl) ?_
        refine lCR (n := c) (tk_Book_remove rfl) (⟨⟨(e18 R).1, by have := (e18 R).2; omega⟩, hB.2.2.2.1, show mAR (sAR m (k + 1) R) (k + 1) c = ds c by rw [mAR_at]; exact hRc⟩) (w32_id (by omega) (by omega)) (by omega) ?_
        refine tCR (n := c - 1) (tk_Book_remove rfl) ⟨e18 R, hB.2.2.2.1, ekd c (by omega)⟩ (w32_id (by omega) (by omega)) (by omega) ?_
        rw [mAR_at, sAR_sAR]
        refine Ex_step (tk_Book_remove rfl) ?_
        refine Ex_step (tk_Book_remove rfl) ?_
        exact hnx
  have h24 := hloop (nn - (dd + 1)) (dd + 1) (mAR m (k + 1)) (by omega) (by omega) (fun i hi => by
    rw [(hB.2.2.2.2 i hi).1]
    exact (if_neg (by omega)).symm)
  rw [sAR_self] at h24
  refine Ex_step (tk_Book_remove rfl) ?_
  refine Ex_step (tk_Book_remove rfl) ⟨fun h1 => ?_, fun h1 => ?_⟩
  · try simp (disch := omega) only [cmpI, w32_b2i, b2i_0, b2i_1, w32_id, Classical.not_not, not_true_eq_false, not_false_eq_true] at h1
    omega
  · try simp (disch := omega) only [cmpI, w32_b2i, b2i_0, b2i_1, w32_id, Classical.not_not, not_true_eq_false, not_false_eq_true] at h1
    refine Ex_step (tk_Book_remove rfl) ?_
    refine Ex_step (tk_Book_remove rfl) ?_
    refine gCI (tk_Book_remove rfl) (hk2) ?_
    rw [hg]
    refine Ex_step (tk_Book_remove rfl) ⟨fun h9 => ?_, fun h9 => ?_⟩
    · try simp (disch := omega) only [cmpI, w32_b2i, b2i_0, b2i_1, w32_id, Classical.not_not, not_true_eq_false, not_false_eq_true] at h9
      refine Ex_step (tk_Book_remove rfl) ?_
      refine gCR (tk_Book_remove rfl) (hk2) (hr128) ?_
      refine Ex_step (tk_Book_remove rfl) ?_
      refine lCR (n := dd) (tk_Book_remove rfl) (⟨⟨by rw [hB.2.2.1]; decide, by rw [hB.2.2.1]; decide⟩, hB.2.2.2.1, (hB.2.2.2.2 dd (by omega)).1⟩) (w32_id (by omega) (by omega)) (by omega) ?_
      refine Ex_step (tk_Book_remove rfl) ?_
      refine Ex_step (tk_Book_remove rfl) ?_
      refine Ex_step (tk_Book_remove rfl) ?_
      refine Ex_step (tk_Book_remove rfl) ?_
      refine Ex_step (tk_Book_remove rfl) ?_
      exact h24
    · try simp (disch := omega) only [cmpI, w32_b2i, b2i_0, b2i_1, w32_id, Classical.not_not, not_true_eq_false, not_false_eq_true] at h9
      omega
end CBook
