/-! ===== tokens that a reader has told so far ===== -/
def encU (T : Nat → Int) : Nat → List Tok → Nat → Prop
  | i, [], e => i = e
  | i, (c, v) :: r, e => T i = (c : Int) ∧ (if c < 3 then T (i + 1) = v ∧ encU T (i + 2) r e else encU T (i + 1) r e)
set_option maxRecDepth 100000 in
theorem encU_le {T : Nat → Int} : ∀ {ts : List Tok} {i e : Nat}, encU T i ts e → i ≤ e
  | [], _, _, h => Nat.le_of_eq h
  | (c, v) :: r, i, e, h => by
    have h2 := h.2
    split at h2
    · have := encU_le h2.2
      omega
    · have := encU_le h2
      omega
set_option maxRecDepth 100000 in
theorem encU_app {T : Nat → Int} {us : List Tok} {e f : Nat} (g : encU T e us f) : ∀ {ts : List Tok} {i : Nat}, encU T i ts e → encU T i (ts ++ us) f
  | [], i, h => by
    have h : i = e := h
    rw [h]
    exact g
  | (c, v) :: r, i, h => by
    refine ⟨h.1, ?_⟩
    have h2 := h.2
    split
    · next q =>
      rw [if_pos q] at h2
      exact ⟨h2.1, encU_app g h2.2⟩
    · next q =>
      rw [if_neg q] at h2
      exact encU_app g h2
set_option maxRecDepth 100000 in
theorem encU_c {T U : Nat → Int} : ∀ {ts : List Tok} {i e : Nat}, encU T i ts e → (∀ j, i ≤ j → j < e → U j = T j) → encU U i ts e
  | [], _, _, h, _ => h
  | (c, v) :: r, i, e, h, k => by
    have h2 := h.2
    by_cases q : c < 3
    · rw [if_pos q] at h2
      have l := encU_le h2.2
      refine ⟨(k i (by omega) (by omega)).trans h.1, ?_⟩
      rw [if_pos q]
      exact ⟨(k (i + 1) (by omega) (by omega)).trans h2.1, encU_c h2.2 (fun j a b => k j (by omega) b)⟩
    · rw [if_neg q] at h2
      have l := encU_le h2
      refine ⟨(k i (by omega) (by omega)).trans h.1, ?_⟩
      rw [if_neg q]
      exact encU_c h2 (fun j a b => k j (by omega) b)
set_option maxRecDepth 100000 in
theorem encU_T {T : Nat → Int} {e : Nat} (he : e < 1919) (h0 : T e = 0) : ∀ {ts : List Tok} {i : Nat}, encU T i ts e → encT T i ts
  | [], i, h => by
    have h : i = e := h
    subst h
    exact ⟨by omega, h0⟩
  | (c, v) :: r, i, h => by
    have h2 := h.2
    by_cases q : c < 3
    · rw [if_pos q] at h2
      have l := encU_le h2.2
      refine ⟨by omega, h.1, ?_⟩
      rw [if_pos q]
      exact ⟨h2.1, encU_T he h0 h2.2⟩
    · rw [if_neg q] at h2
      have l := encU_le h2
      refine ⟨by omega, h.1, ?_⟩
      rw [if_neg q]
      exact encU_T he h0 h2
/-- tokens run from sorts to sorts -/
def wfr : List Tok → List Bool → List Bool → Prop
  | [], t, u => t = u
  | (c, v) :: r, t, u => if c = 1 ∨ c = 2 then (0 ≤ v ∧ v ≤ (if c = 1 then 9999 else 4)) ∧ t.length ≤ 31 ∧ wfr r (false :: t) u else if c = 11 then (∃ t2, t = true :: t2) ∧ wfr r t u else if 3 ≤ c ∧ c ≤ 5 then ∃ t2, t = false :: false :: t2 ∧ wfr r (false :: t2) u else if 6 ≤ c ∧ c ≤ 8 then ∃ t2, t = false :: false :: t2 ∧ wfr r (true :: t2) u else if c = 9 ∨ c = 10 then ∃ t2, t = true :: true :: t2 ∧ wfr r (true :: t2) u else False
set_option maxRecDepth 100000 in
theorem wfr_t : ∀ {ts : List Tok} {t : List Bool}, wfr ts t [true] → wft ts t
  | [], _, h => h
  | (c, v) :: r, t, h => by
    unfold wfr at h
    unfold wft
    split
    · next q => rw [if_pos q] at h; exact ⟨h.1, h.2.1, wfr_t h.2.2⟩
    · next q =>
      rw [if_neg q] at h
      split
      · next q2 => rw [if_pos q2] at h; exact ⟨h.1, wfr_t h.2⟩
      · next q2 =>
        rw [if_neg q2] at h
        split
        · next q3 => rw [if_pos q3] at h; obtain ⟨t2, e, h⟩ := h; exact ⟨t2, e, wfr_t h⟩
        · next q3 =>
          rw [if_neg q3] at h
          split
          · next q4 => rw [if_pos q4] at h; obtain ⟨t2, e, h⟩ := h; exact ⟨t2, e, wfr_t h⟩
          · next q4 =>
            rw [if_neg q4] at h
            split
            · next q5 => rw [if_pos q5] at h; obtain ⟨t2, e, h⟩ := h; exact ⟨t2, e, wfr_t h⟩
            · next q5 => rw [if_neg q5] at h; exact h
set_option maxRecDepth 100000 in
theorem wfr_app {us : List Tok} {u w : List Bool} (g : wfr us u w) : ∀ {ts : List Tok} {t : List Bool}, wfr ts t u → wfr (ts ++ us) t w
  | [], t, h => by
    have h : t = u := h
    rw [h]
    exact g
  | (c, v) :: r, t, h => by
    show wfr ((c, v) :: (r ++ us)) t w
    unfold wfr at h ⊢
    split
    · next q => rw [if_pos q] at h; exact ⟨h.1, h.2.1, wfr_app g h.2.2⟩
    · next q =>
      rw [if_neg q] at h
      split
      · next q2 => rw [if_pos q2] at h; exact ⟨h.1, wfr_app g h.2⟩
      · next q2 =>
        rw [if_neg q2] at h
        split
        · next q3 => rw [if_pos q3] at h; obtain ⟨t2, e, h⟩ := h; exact ⟨t2, e, wfr_app g h⟩
        · next q3 =>
          rw [if_neg q3] at h
          split
          · next q4 => rw [if_pos q4] at h; obtain ⟨t2, e, h⟩ := h; exact ⟨t2, e, wfr_app g h⟩
          · next q4 =>
            rw [if_neg q4] at h
            split
            · next q5 => rw [if_pos q5] at h; obtain ⟨t2, e, h⟩ := h; exact ⟨t2, e, wfr_app g h⟩
            · next q5 => rw [if_neg q5] at h; exact h
/-- what the reference's reader has told -/
def TokE (s : PSt) (ts : List Tok) : Prop := encU (pT s) 620 ts (620 + pCd s)
set_option maxRecDepth 100000 in
theorem TokE.op {s : PSt} {ts : List Tok} (h : TokE s ts) (h0 : pFl s = 0) {c : Nat} (hc : 3 ≤ c) : TokE (tellsP (c : Int) s) (ts ++ [(c, 0)]) := by
  unfold tellsP
  rw [if_pos h0]
  show encU (up1 (pT s) (620 + pCd s) (c : Int)) 620 (ts ++ [(c, 0)]) (620 + (pCd s + 1))
  have g : encU (up1 (pT s) (620 + pCd s) (c : Int)) (620 + pCd s) [(c, 0)] (620 + (pCd s + 1)) := by
    refine ⟨up1_at _ _ _, ?_⟩
    rw [if_neg (show ¬ c < 3 by omega)]
    show 620 + pCd s + 1 = 620 + (pCd s + 1)
    omega
  exact encU_app g (encU_c h (fun j _ q => up1_ne _ _ (by omega)))
set_option maxRecDepth 100000 in
theorem TokE.two {s : PSt} {ts : List Tok} (h : TokE s ts) (h0 : pFl s = 0) {c : Nat} (hc : c < 3) (v : Int) : TokE (tellsP v (tellsP (c : Int) s)) (ts ++ [(c, v)]) := by
  have h1 : tellsP (c : Int) s = wCdP s (pCd s + 1) (up1 (pT s) (620 + pCd s) (c : Int)) := by unfold tellsP; rw [if_pos h0]
  have h2 : pFl (tellsP (c : Int) s) = 0 := by rw [h1]; exact h0
  have h3 : tellsP v (tellsP (c : Int) s) = wCdP s (pCd s + 1 + 1) (up1 (up1 (pT s) (620 + pCd s) (c : Int)) (620 + (pCd s + 1)) v) := by
    rw [h1] at h2 ⊢
    unfold tellsP
    rw [if_pos h2]
    rfl
  rw [h3]
  show encU (up1 (up1 (pT s) (620 + pCd s) (c : Int)) (620 + (pCd s + 1)) v) 620 (ts ++ [(c, v)]) (620 + (pCd s + 1 + 1))
  have g : encU (up1 (up1 (pT s) (620 + pCd s) (c : Int)) (620 + (pCd s + 1)) v) (620 + pCd s) [(c, v)] (620 + (pCd s + 1 + 1)) := by
    refine ⟨by rw [up1_ne _ _ (by omega), up1_at], ?_⟩
    rw [if_pos hc]
    refine ⟨by rw [show 620 + pCd s + 1 = 620 + (pCd s + 1) by omega, up1_at], ?_⟩
    show 620 + pCd s + 2 = 620 + (pCd s + 1 + 1)
    omega
  exact encU_app g (encU_c h (fun j _ q => by rw [up1_ne _ _ (by omega), up1_ne _ _ (by omega)]))
set_option maxRecDepth 100000 in
theorem TokE.k {s t : PSt} {ts : List Tok} (h : TokE s ts) (e1 : pCd t = pCd s) (e2 : pT t = pT s) : TokE t ts := by
  unfold TokE
  rw [e1, e2]
  exact h
/-! ===== signs on the pile ===== -/
set_option maxRecDepth 100000 in
theorem relP_all {b : Int} {X P : List Int} (hX : ∀ x ∈ X, b ≤ bnd x) (hP : ∀ x r, P = x :: r → bnd x < b) : relP b (X ++ P) = P := by
  induction X with
  | nil =>
    match P, hP with
    | [], _ => rfl
    | x :: r, hP =>
      show (if b ≤ bnd x then relP b r else x :: r) = x :: r
      rw [if_neg (by have := hP x r rfl; omega)]
  | cons x X ih =>
    show (if b ≤ bnd x then relP b (X ++ P) else x :: (X ++ P)) = P
    rw [if_pos (hX x List.mem_cons_self)]
    exact ih (fun z hz => hX z (List.mem_cons_of_mem _ hz))
set_option maxRecDepth 100000 in
theorem relC_all {b : Int} {X P : List Int} (hX : ∀ x ∈ X, b ≤ bnd x) (hP : ∀ x r, P = x :: r → bnd x < b) : ∀ cs : List Int, relC b (X ++ P) cs = X.reverse ++ cs := by
  induction X with
  | nil =>
    intro cs
    match P, hP with
    | [], _ => rfl
    | x :: r, hP =>
      show (if b ≤ bnd x then relC b r (x :: cs) else cs) = cs
      rw [if_neg (by have := hP x r rfl; omega)]
  | cons x X ih =>
    intro cs
    show (if b ≤ bnd x then relC b (X ++ P) (x :: cs) else cs) = (x :: X).reverse ++ cs
    rw [if_pos (hX x List.mem_cons_self), ih (fun z hz => hX z (List.mem_cons_of_mem _ hz))]
    simp
