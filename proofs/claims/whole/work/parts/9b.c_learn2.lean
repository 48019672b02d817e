/-! ===== the class: all best overlays of one, what is forgotten ===== -/
section CLearn2
variable {d o k : Nat} {m : Mem} {F A L : Nat → Nat → Int} {Q : Nat → Option AV → Mem → Prop}
set_option maxRecDepth 100000 in
theorem c_learnFrom {a nn x y : Nat} {T : Nat → Int} {ds : Nat → Nat} (hO : OW m o) (hB : BkW m k ds) (hko : k < o) (hd : ∀ i, i < 6 → ds i + 3 ≤ o) (hN : NowW T nn) (hG : BkG F A k ds T nn) (hK : KN F o T nn) (ha : a < nn) (h : ∀ (x y : Nat) (F' A' : Nat → Nat → Int), KO o F F' A A' → KN F' o T nn → (∀ b, b < nn → b ≠ a → F' 64 (o + 2 + (a * 6 + b)) = 1) → Q 0 none (CM (sOv m o x y) F' A' L)) : Ex (d + 6) Ov_learnFrom 0 [some (vR o), some (vR k), some (vI (a : Int)), none] [] (CM (sOv m o x y) F A L) Q := by
  have hn6 := hN.1
  have hloop : ∀ (r b x y : Nat) (F' A' : Nat → Nat → Int), b + r = nn → KO o F F' A A' → KN F' o T nn → (∀ b2, b2 < b → b2 ≠ a → F' 64 (o + 2 + (a * 6 + b2)) = 1) → Ex (d + 6) Ov_learnFrom 2 [some (vR o), some (vR k), some (vI (a : Int)), some (vI (b : Int))] [] (CM (sOv m o x y) F' A' L) Q := by
    intro r
    induction r with
    | zero =>
      intro b x y F' A' hb k1 k2 k3
      have : b = nn := by omega
      subst this
      have hG2 := k1.bk hko hn6 hd hG
      have hk2 : mK (sOv m o x y) k = 2 := hB.1
      refine Ex_step (tk_Ov_learnFrom rfl) ?_
      refine Ex_step (tk_Ov_learnFrom rfl) ?_
      refine gCI (tk_Ov_learnFrom rfl) (hk2) ?_
      rw [hG2.1]
      refine Ex_step (tk_Ov_learnFrom rfl) ⟨fun h7 => ?_, fun h7 => ?_⟩
      · try simp (disch := omega) only [cmpI, w32_b2i, b2i_0, b2i_1, w32_id, Classical.not_not, not_true_eq_false, not_false_eq_true] at h7
        refine Ex_step (tk_Ov_learnFrom rfl) ⟨rfl, ?_⟩
        exact h x y F' A' k1 k2 k3
      · try simp (disch := omega) only [cmpI, w32_b2i, b2i_0, b2i_1, w32_id, Classical.not_not, not_true_eq_false, not_false_eq_true] at h7
        omega
    | succ r ih =>
      intro b x y F' A' hb k1 k2 k3
      have hG2 := k1.bk hko hn6 hd hG
      have hk2 : mK (sOv m o x y) k = 2 := hB.1
      have hk5 : mK (sOv m o x y) o = 5 := hO.1
      have h22 : ∀ (x y : Nat) (F2 A2 : Nat → Nat → Int), KO o F F2 A A2 → KN F2 o T nn → (∀ b2, b2 < b + 1 → b2 ≠ a → F2 64 (o + 2 + (a * 6 + b2)) = 1) → Ex (d + 6) Ov_learnFrom 22 [some (vR o), some (vR k), some (vI (a : Int)), some (vI (b : Int))] [] (CM (sOv m o x y) F2 A2 L) Q := by
        intro x y F2 A2 q1 q2 q3
        have hnx := ih (b + 1) x y F2 A2 (by omega) q1 q2 q3
        refine Ex_step (tk_Ov_learnFrom rfl) ?_
        refine Ex_step (tk_Ov_learnFrom rfl) ?_
        exact hnx
      by_cases hab : b = a
      · have hx := h22 x y F' A' k1 k2 (fun b2 h1 h2 => k3 b2 (by omega) h2)
        refine Ex_step (tk_Ov_learnFrom rfl) ?_
        refine Ex_step (tk_Ov_learnFrom rfl) ?_
        refine gCI (tk_Ov_learnFrom rfl) (hk2) ?_
        rw [hG2.1]
        refine Ex_step (tk_Ov_learnFrom rfl) ⟨fun h7 => ?_, fun h7 => ?_⟩
        · try simp (disch := omega) only [cmpI, w32_b2i, b2i_0, b2i_1, w32_id, Classical.not_not, not_true_eq_false, not_false_eq_true] at h7
          omega
        · try simp (disch := omega) only [cmpI, w32_b2i, b2i_0, b2i_1, w32_id, Classical.not_not, not_true_eq_false, not_false_eq_true] at h7
          refine Ex_step (tk_Ov_learnFrom rfl) ?_
          refine Ex_step (tk_Ov_learnFrom rfl) ?_
          refine Ex_step (tk_Ov_learnFrom rfl) ⟨fun h12 => ?_, fun h12 => ?_⟩
          · try simp (disch := omega) only [cmpI, w32_b2i, b2i_0, b2i_1, w32_id, Classical.not_not, not_true_eq_false, not_false_eq_true] at h12
            exact hx
          · try simp (disch := omega) only [cmpI, w32_b2i, b2i_0, b2i_1, w32_id, Classical.not_not, not_true_eq_false, not_false_eq_true] at h12
            omega
      · refine Ex_step (tk_Ov_learnFrom rfl) ?_
        refine Ex_step (tk_Ov_learnFrom rfl) ?_
        refine gCI (tk_Ov_learnFrom rfl) (hk2) ?_
        rw [hG2.1]
        refine Ex_step (tk_Ov_learnFrom rfl) ⟨fun h7 => ?_, fun h7 => ?_⟩
        · try simp (disch := omega) only [cmpI, w32_b2i, b2i_0, b2i_1, w32_id, Classical.not_not, not_true_eq_false, not_false_eq_true] at h7
          omega
        · try simp (disch := omega) only [cmpI, w32_b2i, b2i_0, b2i_1, w32_id, Classical.not_not, not_true_eq_false, not_false_eq_true] at h7
          refine Ex_step (tk_Ov_learnFrom rfl) ?_
          refine Ex_step (tk_Ov_learnFrom rfl) ?_
          refine Ex_step (tk_Ov_learnFrom rfl) ⟨fun h12 => ?_, fun h12 => ?_⟩
          · try simp (disch := omega) only [cmpI, w32_b2i, b2i_0, b2i_1, w32_id, Classical.not_not, not_true_eq_false, not_false_eq_true] at h12
            first | omega | exact h22 x2 y2 F2 A2 (k1.tr q1) q2 (fun b2 h1 h2 => by by_cases e : b2 = b; rw [e]; exact q3; exact q1.2.2 _ (by omega) (k3 b2 (by omega) h2))
          · try simp (disch := omega) only [cmpI, w32_b2i, b2i_0, b2i_1, w32_id, Classical.not_not, not_true_eq_false, not_false_eq_true] at h12
            refine Ex_step (tk_Ov_learnFrom rfl) ?_
            refine Ex_step (tk_Ov_learnFrom rfl) ?_
            refine Ex_step (tk_Ov_learnFrom rfl) ?_
            refine Ex_step (tk_Ov_learnFrom rfl) ?_
            refine Ex_cVK (av := [vR k, vI (a : Int), vI (b : Int)]) (tk_Ov_learnFrom rfl) mk_Ov_learn ⟨rfl, rfl, by decide, rfl, Nat.le_of_ble_eq_true rfl, Nat.le_of_ble_eq_true rfl⟩ (hk5) (c_learn hO hB hko hd hN hG2 k2 ha (by omega) (Ne.symm hab) (fun x2 y2 F2 A2 q1 q2 q3 => ⟨rfl, ?_⟩))
            first | omega | exact h22 x2 y2 F2 A2 (k1.tr q1) q2 (fun b2 h1 h2 => by by_cases e : b2 = b; rw [e]; exact q3; exact q1.2.2 _ (by omega) (k3 b2 (by omega) h2))
  have h2 := hloop nn 0 x y F A (by omega) (KO.rf o F A) hK (fun b2 h => absurd h (Nat.not_lt_zero b2))
  refine Ex_step (tk_Ov_learnFrom rfl) ?_
  refine Ex_step (tk_Ov_learnFrom rfl) ?_
  exact h2
/-- what forgetting does: of those that are so, nothing is known -/
def fgF (F : Nat → Nat → Int) (o : Nat) (p : Nat → Prop) [DecidablePred p] : Nat → Nat → Nat → Int
  | 0 => F
  | i + 1 => if p i then upF (fgF F o p i) 64 (o + 2 + i) 0 else fgF F o p i
set_option maxRecDepth 100000 in
theorem fgF_o {o : Nat} {p : Nat → Prop} [DecidablePred p] : ∀ (i f j : Nat), ¬ (f = 64 ∧ o + 2 ≤ j ∧ j < o + 2 + i) → fgF F o p i f j = F f j
  | 0, _, _, _ => rfl
  | i + 1, f, j, h => by
    show (if p i then upF (fgF F o p i) 64 (o + 2 + i) 0 else fgF F o p i) f j = F f j
    split
    · rw [show upF (fgF F o p i) 64 (o + 2 + i) 0 f j = fgF F o p i f j from if_neg (fun z => h ⟨z.1, by omega, by omega⟩)]
      exact fgF_o i f j (fun z => h ⟨z.1, z.2.1, by omega⟩)
    · exact fgF_o i f j (fun z => h ⟨z.1, z.2.1, by omega⟩)
set_option maxRecDepth 100000 in
theorem fgF_i {o : Nat} {p : Nat → Prop} [DecidablePred p] : ∀ (n i : Nat), i < n → fgF F o p n 64 (o + 2 + i) = if p i then 0 else F 64 (o + 2 + i)
  | 0, _, h => absurd h (Nat.not_lt_zero _)
  | n + 1, i, h => by
    show (if p n then upF (fgF F o p n) 64 (o + 2 + n) 0 else fgF F o p n) 64 (o + 2 + i) = _
    by_cases q : i = n
    · subst q
      split
      · exact upF_at _ _ _ _
      · exact fgF_o i 64 (o + 2 + i) (fun z => by omega)
    · split
      · rw [upF_a _ _ _ (by omega)]
        exact fgF_i n i (by omega)
      · exact fgF_i n i (by omega)
set_option maxRecDepth 100000 in
theorem lenR {y pc nx : Nat} {rs : List Nat} {c0 : Int} {ls : Ls} {r : List AV} {a z : Nat} (hk : okE y pc (.arraylength, nx, rs, c0)) (hA : mK m a = 16) (hz : mLen m a = z) (h : Ex d y nx ls (vI (z : Int) :: r) (CM m F A L) Q) : Ex d y pc ls (vR a :: r) (CM m F A L) Q := by
  refine Ex_step hk ⟨Or.inr (Or.inr (Or.inr (Or.inl hA))), ?_⟩
  show Ex d y nx ls (vI (mLen m a : Int) :: r) (CM m F A L) Q
  rw [hz]
  exact h
set_option maxRecDepth 100000 in
theorem c_forgetAll (hO : OW m o) (h : Q 0 none (CM m (fgF F o (fun _ => True) 36) A L)) : Ex d Ov_forgetAll 0 [some (vR o), none] [] (CM m F A L) Q := by
  have hk5 := hO.1
  have hq8 := hO.2.2.2.2.2.2.2
  have hr320 := hq8.1
  have hloop : ∀ (r i : Nat), i + r = 36 → Ex d Ov_forgetAll 2 [some (vR o), some (vI (i : Int))] [] (CM m (fgF F o (fun _ => True) i) A L) Q := by
    intro r
    induction r with
    | zero =>
      intro i hi
      have : i = 36 := by omega
      subst this
      refine Ex_step (tk_Ov_forgetAll rfl) ?_
      refine Ex_step (tk_Ov_forgetAll rfl) ?_
      refine gCR (tk_Ov_forgetAll rfl) (hk5) (hr320) ?_
      refine lenR (tk_Ov_forgetAll rfl) hq8.2.1 hq8.2.2.1 ?_
      refine Ex_step (tk_Ov_forgetAll rfl) ⟨fun h8 => ?_, fun h8 => ?_⟩
      · replace h8 : _ := h8
        refine Ex_step (tk_Ov_forgetAll rfl) ⟨rfl, ?_⟩
        exact h
      · replace h8 : _ := h8
        exact absurd (show w32 36 ≤ w32 36 from Int.le_refl _) h8
    | succ r ih =>
      intro i hi
      have h9 := hq8.2.2.2 i (by omega)
      have hnx := ih (i + 1) (by omega)
      rw [show fgF F o (fun _ => True) (i + 1) = upF (fgF F o (fun _ => True) i) 64 (o + 2 + i) 0 from if_pos trivial] at hnx
      refine Ex_step (tk_Ov_forgetAll rfl) ?_
      refine Ex_step (tk_Ov_forgetAll rfl) ?_
      refine gCR (tk_Ov_forgetAll rfl) (hk5) (hr320) ?_
      refine lenR (tk_Ov_forgetAll rfl) hq8.2.1 hq8.2.2.1 ?_
      refine Ex_step (tk_Ov_forgetAll rfl) ⟨fun h8 => ?_, fun h8 => ?_⟩
      · try simp (disch := omega) only [cmpI, w32_b2i, b2i_0, b2i_1, w32_id, Classical.not_not, not_true_eq_false, not_false_eq_true] at h8
        omega
      · try simp (disch := omega) only [cmpI, w32_b2i, b2i_0, b2i_1, w32_id, Classical.not_not, not_true_eq_false, not_false_eq_true] at h8
        refine Ex_step (tk_Ov_forgetAll rfl) ?_
        refine gCR (tk_Ov_forgetAll rfl) (hk5) (hr320) ?_
        refine Ex_step (tk_Ov_forgetAll rfl) ?_
        refine lCR (n := i) (tk_Ov_forgetAll rfl) (⟨⟨by rw [hq8.2.1]; decide, by rw [hq8.2.1]; decide⟩, hq8.2.2.1, h9.1⟩) (w32_id (by omega) (by omega)) (by omega) ?_
        refine Ex_step (tk_Ov_forgetAll rfl) ?_
        refine pCZ (tk_Ov_forgetAll rfl) (h9.2) (Or.inl rfl) ?_
        refine Ex_step (tk_Ov_forgetAll rfl) ?_
        refine Ex_step (tk_Ov_forgetAll rfl) ?_
        exact hnx
  have h2 := hloop 36 0 (by omega)
  refine Ex_step (tk_Ov_forgetAll rfl) ?_
  refine Ex_step (tk_Ov_forgetAll rfl) ?_
  exact h2
set_option maxRecDepth 100000 in
theorem c_forget {a : Nat} (hO : OW m o) (ha : a < 6) (h : Q 0 none (CM m (fgF F o (fun i => i / 6 = a ∨ i % 6 = a) 36) A L)) : Ex d Ov_forget 0 [some (vR o), some (vI (a : Int)), none] [] (CM m F A L) Q := by
  have hk5 := hO.1
  have hq8 := hO.2.2.2.2.2.2.2
  have hr320 := hq8.1
  have hloop : ∀ (r i : Nat), i + r = 36 → Ex d Ov_forget 2 [some (vR o), some (vI (a : Int)), some (vI (i : Int))] [] (CM m (fgF F o (fun i => i / 6 = a ∨ i % 6 = a) i) A L) Q := by
    intro r
    induction r with
    | zero =>
      intro i hi
      have : i = 36 := by omega
      subst this
      refine Ex_step (tk_Ov_forget rfl) ?_
      refine Ex_step (tk_Ov_forget rfl) ?_
      refine gCR (tk_Ov_forget rfl) (hk5) (hr320) ?_
      refine lenR (tk_Ov_forget rfl) hq8.2.1 hq8.2.2.1 ?_
      refine Ex_step (tk_Ov_forget rfl) ⟨fun h8 => ?_, fun h8 => ?_⟩
      · replace h8 : _ := h8
        refine Ex_step (tk_Ov_forget rfl) ⟨rfl, ?_⟩
        exact h
      · replace h8 : _ := h8
        exact absurd (show w32 36 ≤ w32 36 from Int.le_refl _) h8
    | succ r ih =>
      intro i hi
      have h9 := hq8.2.2.2 i (by omega)
      have hnx := ih (i + 1) (by omega)
      have e1 : iDiv (i : Int) 6 = ((i / 6 : Nat) : Int) := by rw [iDiv_nn (by omega) (by omega) (by omega) (by omega)]; rfl
      have e2 : iRem (i : Int) 6 = ((i % 6 : Nat) : Int) := by rw [iRem_nn (by omega) (by omega) (by omega) (by omega)]; rfl
      have ht : (i / 6 = a ∨ i % 6 = a) → fgF F o (fun i => i / 6 = a ∨ i % 6 = a) (i + 1) = upF (fgF F o (fun i => i / 6 = a ∨ i % 6 = a) i) 64 (o + 2 + i) 0 := fun z => if_pos z
      have hf : ¬ (i / 6 = a ∨ i % 6 = a) → fgF F o (fun i => i / 6 = a ∨ i % 6 = a) (i + 1) = fgF F o (fun i => i / 6 = a ∨ i % 6 = a) i := fun z => if_neg z
      have h37 : ∀ F2 : Nat → Nat → Int, F2 = fgF F o (fun i => i / 6 = a ∨ i % 6 = a) (i + 1) → Ex d Ov_forget 37 [some (vR o), some (vI (a : Int)), some (vI (i : Int))] [] (CM m F2 A L) Q := by
        intro F2 e
        subst e
        refine Ex_step (tk_Ov_forget rfl) ?_
        refine Ex_step (tk_Ov_forget rfl) ?_
        exact hnx
      have h27 : (i / 6 = a ∨ i % 6 = a) → Ex d Ov_forget 27 [some (vR o), some (vI (a : Int)), some (vI (i : Int))] [] (CM m (fgF F o (fun i => i / 6 = a ∨ i % 6 = a) i) A L) Q := by
        intro z
        refine Ex_step (tk_Ov_forget rfl) ?_
        refine gCR (tk_Ov_forget rfl) (hk5) (hr320) ?_
        refine Ex_step (tk_Ov_forget rfl) ?_
        refine lCR (n := i) (tk_Ov_forget rfl) (⟨⟨by rw [hq8.2.1]; decide, by rw [hq8.2.1]; decide⟩, hq8.2.2.1, h9.1⟩) (w32_id (by omega) (by omega)) (by omega) ?_
        refine Ex_step (tk_Ov_forget rfl) ?_
        refine pCZ (tk_Ov_forget rfl) (h9.2) (Or.inl rfl) ?_
        exact h37 _ (ht z).symm
      refine Ex_step (tk_Ov_forget rfl) ?_
      refine Ex_step (tk_Ov_forget rfl) ?_
      refine gCR (tk_Ov_forget rfl) (hk5) (hr320) ?_
      refine lenR (tk_Ov_forget rfl) hq8.2.1 hq8.2.2.1 ?_
      refine Ex_step (tk_Ov_forget rfl) ⟨fun h8 => ?_, fun h8 => ?_⟩
      · try simp (disch := omega) only [cmpI, w32_b2i, b2i_0, b2i_1, w32_id, Classical.not_not, not_true_eq_false, not_false_eq_true] at h8
        omega
      · try simp (disch := omega) only [cmpI, w32_b2i, b2i_0, b2i_1, w32_id, Classical.not_not, not_true_eq_false, not_false_eq_true] at h8
        refine Ex_step (tk_Ov_forget rfl) ?_
        refine Ex_step (tk_Ov_forget rfl) ?_
        refine Ex_step (tk_Ov_forget rfl) ⟨by decide, ?_⟩
        rw [e1]
        refine Ex_step (tk_Ov_forget rfl) ?_
        refine Ex_step (tk_Ov_forget rfl) ⟨fun h16 => ?_, fun h16 => ?_⟩
        · try simp (disch := omega) only [cmpI, w32_b2i, b2i_0, b2i_1, w32_id, Classical.not_not, not_true_eq_false, not_false_eq_true] at h16
          exact h27 (by omega)
        · try simp (disch := omega) only [cmpI, w32_b2i, b2i_0, b2i_1, w32_id, Classical.not_not, not_true_eq_false, not_false_eq_true] at h16
          refine Ex_step (tk_Ov_forget rfl) ?_
          refine Ex_step (tk_Ov_forget rfl) ?_
          refine Ex_step (tk_Ov_forget rfl) ⟨by decide, ?_⟩
          rw [e2]
          refine Ex_step (tk_Ov_forget rfl) ?_
          refine Ex_step (tk_Ov_forget rfl) ⟨fun h24 => ?_, fun h24 => ?_⟩
          · try simp (disch := omega) only [cmpI, w32_b2i, b2i_0, b2i_1, w32_id, Classical.not_not, not_true_eq_false, not_false_eq_true] at h24
            exact h37 _ (hf (by omega)).symm
          · try simp (disch := omega) only [cmpI, w32_b2i, b2i_0, b2i_1, w32_id, Classical.not_not, not_true_eq_false, not_false_eq_true] at h24
            exact h27 (by omega)
  have h2 := hloop 36 0 (by omega)
  refine Ex_step (tk_Ov_forget rfl) ?_
  refine Ex_step (tk_Ov_forget rfl) ?_
  exact h2
end CLearn2
