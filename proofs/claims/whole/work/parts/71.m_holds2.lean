/-! ===== the reference: whether a rule holds ===== -/
set_option maxRecDepth 100000 in
theorem opV_b {c : Nat} {x y : Int} (hc : 3 ≤ c ∧ c ≤ 5) : -1000000 ≤ opV c x y ∧ opV c x y ≤ 1000000 := by
  unfold opV
  split
  · exact hldV_b _
  · split
    · exact hldV_b _
    · rw [if_pos (by omega)]
      exact hldV_b _
set_option maxRecDepth 100000 in
theorem opV_01 {c : Nat} {x y : Int} (hc : 6 ≤ c) : opV c x y = 0 ∨ opV c x y = 1 := by
  have h : ∀ (p : Prop) [Decidable p], oI p = 0 ∨ oI p = 1 := fun p _ => by unfold oI; split <;> simp
  unfold opV
  rw [if_neg (by omega), if_neg (by omega), if_neg (by omega)]
  split
  · exact h _
  · split
    · exact h _
    · split
      · exact h _
      · split
        · exact h _
        · exact h _
set_option maxRecDepth 100000 in
theorem okV_bd {x : Int} {b : Bool} (h : if b then x = 0 ∨ x = 1 else -1000000 ≤ x ∧ x ≤ 1000000) : -1000000 ≤ x ∧ x ≤ 1000000 := by
  cases b
  · exact h
  · have h : x = 0 ∨ x = 1 := h
    omega
section MHolds2
variable {d : Nat} {m : Mem} {I : Nat → Int} {A L : Nat → Nat → Int} {Q : Nat → Option AV → Mem → Prop}
set_option maxRecDepth 100000 in
/-- a number or a fact comes on the pile -/
theorem f_holdP (hM : MW m) {S : Nat → Int} {c p n : Nat} {v w : Int} (hp : p + 1 < 1920) (hc : A 3 p = (c : Int)) (h1 : A 3 (p + 1) = v) (hcv : (c = 1 ∧ 0 ≤ v ∧ v ≤ 9999 ∧ w = v) ∨ (c = 2 ∧ 0 ≤ v ∧ v ≤ 4 ∧ w = L 20 v.toNat)) (hn : n ≤ 31) {l3 l4 l5 l6 l7 : Option AV} (h : ∀ l3 l4 l5 l6 l7 : Option AV, Ex (d + 1) M_holds 6 [some (vR aM), some (vI ((n + 1 : Nat) : Int)), some (vI ((p + 2 : Nat) : Int)), l3, l4, l5, l6, l7] [] (MS m I A (up1 L 19 (up1 S n w))) Q) : Ex (d + 1) M_holds 6 [some (vR aM), some (vI (n : Int)), some (vI (p : Int)), l3, l4, l5, l6, l7] [] (MS m I A (up1 L 19 S)) Q := by
  have hv : 0 ≤ v ∧ v ≤ 9999 := by omega
  have hc2 : c = 1 ∨ c = 2 := by omega
  have e6 : ∀ l3 : Option AV, Ex (d + 1) M_holds 282 [some (vR aM), some (vI ((n : Int) + 1)), some (vI ((p : Int) + 1)), l3, l4, l5, l6, l7] [] (MS m I A (up1 L 19 (up1 S n w))) Q := by
    intro l3
    have h6 := h l3 l4 l5 l6 l7
    refine Ex_step (tk_M_holds rfl) ?_
    refine Ex_step (tk_M_holds rfl) ?_
    exact h6
  have h61 : ∀ (u : Int) (l3 : Option AV), u = w → Ex (d + 1) M_holds 61 [some (vR aM), some (vI (n : Int)), some (vI ((p : Int) + 1)), l3, l4, l5, l6, l7] [vL u, vI (n : Int), vR 381] (MS m I A (up1 L 19 S)) Q := by
    intro u l3 hu
    subst hu
    refine tML (j := 19) (n := n) (tk_M_holds rfl) (by decide) hM.k19 hM.n19 (w32_id (by omega) (by omega)) (by omega) ?_
    rw [up1_at, up1_same]
    refine Ex_step (tk_M_holds rfl) ?_
    refine Ex_step (tk_M_holds rfl) ?_
    exact e6 _
  refine Ex_step (tk_M_holds rfl) ?_
  refine gMR (tk_M_holds rfl) hM hM.r9 ?_
  refine Ex_step (tk_M_holds rfl) ?_
  refine lMI (j := 3) (n := p) (tk_M_holds rfl) (by decide) hM.k3 hM.n3 (w32_id (by omega) (by omega)) (by omega) ?_
  rw [hc]
  refine Ex_step (tk_M_holds rfl) ⟨fun h12 => ?_, fun h12 => ?_⟩
  · try simp (disch := omega) only [cmpI, w32_b2i, b2i_0, b2i_1, w32_id, Classical.not_not, not_true_eq_false, not_false_eq_true] at h12
    omega
  · try simp (disch := omega) only [cmpI, w32_b2i, b2i_0, b2i_1, w32_id, Classical.not_not, not_true_eq_false, not_false_eq_true] at h12
    refine Ex_step (tk_M_holds rfl) ?_
    refine gMR (tk_M_holds rfl) hM hM.r9 ?_
    refine Ex_step (tk_M_holds rfl) ?_
    refine lMI (j := 3) (n := p) (tk_M_holds rfl) (by decide) hM.k3 hM.n3 (w32_id (by omega) (by omega)) (by omega) ?_
    rw [hc]
    refine Ex_step (tk_M_holds rfl) ?_
    refine Ex_step (tk_M_holds rfl) ?_
    refine Ex_step (tk_M_holds rfl) ?_
    refine Ex_step (tk_M_holds rfl) ⟨fun h24 => ?_, fun h24 => ?_⟩
    · try simp (disch := omega) only [cmpI, w32_b2i, b2i_0, b2i_1, w32_id, Classical.not_not, not_true_eq_false, not_false_eq_true] at h24
      omega
    · try simp (disch := omega) only [cmpI, w32_b2i, b2i_0, b2i_1, w32_id, Classical.not_not, not_true_eq_false, not_false_eq_true] at h24
      refine Ex_step (tk_M_holds rfl) ?_
      refine Ex_step (tk_M_holds rfl) ?_
      refine gMR (tk_M_holds rfl) hM hM.r32 ?_
      refine Ex_step (tk_M_holds rfl) ?_
      refine Ex_step (tk_M_holds rfl) ?_
      refine Ex_step (tk_M_holds rfl) ?_
      refine Ex_step (tk_M_holds rfl) ⟨fun h37 => ?_, fun h37 => ?_⟩
      · try simp (disch := omega) only [cmpI, w32_b2i, b2i_0, b2i_1, w32_id, Classical.not_not, not_true_eq_false, not_false_eq_true] at h37
        refine Ex_step (tk_M_holds rfl) ?_
        refine gMR (tk_M_holds rfl) hM hM.r33 ?_
        refine Ex_step (tk_M_holds rfl) ?_
        refine gMR (tk_M_holds rfl) hM hM.r9 ?_
        refine Ex_step (tk_M_holds rfl) ?_
        refine lMI (j := 3) (n := p + 1) (tk_M_holds rfl) (by decide) hM.k3 hM.n3 (by rw [w32_id (by omega) (by omega)]; omega) (by omega) ?_
        rw [h1]
        refine lML (j := 20) (n := v.toNat) (tk_M_holds rfl) (by decide) hM.k20 hM.n20 (by rw [w32_id (by omega) (by omega)]; omega) (by omega) ?_
        first | exact hx | exact h61 _ _ (by show L 20 v.toNat = w; omega)
      · try simp (disch := omega) only [cmpI, w32_b2i, b2i_0, b2i_1, w32_id, Classical.not_not, not_true_eq_false, not_false_eq_true] at h37
        refine Ex_step (tk_M_holds rfl) ?_
        refine gMR (tk_M_holds rfl) hM hM.r9 ?_
        refine Ex_step (tk_M_holds rfl) ?_
        refine lMI (j := 3) (n := p + 1) (tk_M_holds rfl) (by decide) hM.k3 hM.n3 (by rw [w32_id (by omega) (by omega)]; omega) (by omega) ?_
        rw [h1]
        refine Ex_step (tk_M_holds rfl) ?_
        show Ex (d + 1) M_holds 47 _ (vL (w32 v) :: _) _ Q
        rw [w32_id (by omega) (by omega)]
        have hx := h61 v (some (vI (c : Int))) (by omega)
        refine Ex_step (tk_M_holds rfl) ?_
        first | exact hx | exact h61 _ _ (by show L 20 v.toNat = w; omega)
set_option maxRecDepth 100000 in
theorem f_holds (hM : MW m) (hask : ∀ k, k < 5 → -1000000 ≤ L 20 k ∧ L 20 k ≤ 1000000) : ∀ (ts : List Tok) (st : List Int) (tys : List Bool) (p : Nat) (S : Nat → Int) (l3 l4 l5 l6 l7 : Option AV), encT (A 3) p ts → wft ts tys → okV st tys → stkR S st → tys.length ≤ 32 → (∀ S' : Nat → Int, Q 0 (some (vI (b2i (evT (fun k => L 20 k.toNat) ts st = [1])))) (MS m I A (up1 L 19 S'))) → Ex (d + 1) M_holds 6 [some (vR aM), some (vI (st.length : Int)), some (vI (p : Int)), l3, l4, l5, l6, l7] [] (MS m I A (up1 L 19 S)) Q := by
  intro ts
  induction ts with
  | nil =>
    intro st tys p S l3 l4 l5 l6 l7 hE hw hv hS hl h
    have hE1 : p < 1920 := hE.1
    have hE2 : A 3 p = 0 := hE.2
    have hw : tys = [true] := hw
    subst hw
    match st, hv, hS, h with
    | [x], hv, hS, h =>
      have hx : x = 0 ∨ x = 1 := hv.1
      have hS0 : S 0 = x := hS.1
      have c1 : lCmp x 1 = sgC x 1 := lCmp_sg (by omega) (by omega)
      have hh := h S
      have e0 : b2i (evT (fun k => L 20 k.toNat) [] [x] = [1]) = b2i (x = 1) := b2i_congr (by show [x] = [1] ↔ x = 1; simp)
      rw [e0] at hh
      refine Ex_step (tk_M_holds rfl) ?_
      refine gMR (tk_M_holds rfl) hM hM.r9 ?_
      refine Ex_step (tk_M_holds rfl) ?_
      refine lMI (j := 3) (n := p) (tk_M_holds rfl) (by decide) hM.k3 hM.n3 (w32_id (by omega) (by omega)) (by omega) ?_
      rw [hE2]
      refine Ex_step (tk_M_holds rfl) ⟨fun h12 => ?_, fun h12 => ?_⟩
      · try simp (disch := omega) only [cmpI, w32_sg, sg_le, sg_ge, sg_lt, sg_gt, sg_eq, w32_id] at h12
        refine Ex_step (tk_M_holds rfl) ?_
        refine gMR (tk_M_holds rfl) hM hM.r32 ?_
        refine Ex_step (tk_M_holds rfl) ?_
        refine lML (j := 19) (n := 0) (tk_M_holds rfl) (by decide) hM.k19 hM.n19 (rfl) (by decide) ?_
        rw [up1_at, hS0]
        refine Ex_step (tk_M_holds rfl) ?_
        refine Ex_step (tk_M_holds rfl) ?_
        show Ex (d + 1) M_holds 296 _ [vI (lCmp x 1)] _ Q
        rw [c1]
        refine Ex_step (tk_M_holds rfl) ⟨fun h296 => ?_, fun h296 => ?_⟩
        · try simp (disch := omega) only [cmpI, w32_sg, sg_le, sg_ge, sg_lt, sg_gt, sg_eq, w32_id] at h296
          rw [b2i_f (by omega)] at hh
          refine Ex_step (tk_M_holds rfl) ?_
          refine Ex_step (tk_M_holds rfl) ⟨rfl, by first | exact Or.inl rfl | exact Or.inr rfl | exact b2i_01 _ | assumption, ?_⟩
          exact hh
        · try simp (disch := omega) only [cmpI, w32_sg, sg_le, sg_ge, sg_lt, sg_gt, sg_eq, w32_id] at h296
          rw [b2i_t (by omega)] at hh
          refine Ex_step (tk_M_holds rfl) ?_
          refine Ex_step (tk_M_holds rfl) ?_
          refine Ex_step (tk_M_holds rfl) ⟨rfl, by first | exact Or.inl rfl | exact Or.inr rfl | exact b2i_01 _ | assumption, ?_⟩
          exact hh
      · try simp (disch := omega) only [cmpI, w32_sg, sg_le, sg_ge, sg_lt, sg_gt, sg_eq, w32_id] at h12
        exact absurd trivial h12
  | cons cv r ih =>
    obtain ⟨c, v⟩ := cv
    intro st tys p S l3 l4 l5 l6 l7 hE hw hv hS hl h
    obtain ⟨hp, hc, hE⟩ := hE
    have hlen := okV_len hv
    unfold wft at hw
    unfold evT at h
    by_cases q1 : c = 1
    · rw [if_pos (Or.inl q1)] at hw
      rw [if_pos q1] at h
      rw [if_pos (by omega)] at hE
      subst q1
      obtain ⟨hv1, hv2, hw⟩ := hw
      have hv1 : 0 ≤ v ∧ v ≤ 9999 := hv1
      exact f_holdP hM (v := v) (w := v) hp hc hE.1 (Or.inl ⟨rfl, hv1.1, hv1.2, rfl⟩) (by omega) (fun a1 a2 a3 a4 a5 => ih (v :: st) (false :: tys) (p + 2) _ a1 a2 a3 a4 a5 hE.2 hw ⟨by show -1000000 ≤ v ∧ v ≤ 1000000; omega, hv⟩ ⟨up1_at _ _ _, stkR_up (Nat.le_refl _) hS⟩ (by show tys.length + 1 ≤ 32; omega) h)
    · by_cases q2 : c = 2
      · rw [if_pos (Or.inr q2)] at hw
        rw [if_neg q1, if_pos q2] at h
        rw [if_pos (by omega)] at hE
        subst q2
        obtain ⟨hv1, hv2, hw⟩ := hw
        have hv1 : 0 ≤ v ∧ v ≤ 4 := hv1
        have ha := hask v.toNat (by omega)
        exact f_holdP hM (v := v) (w := L 20 v.toNat) hp hc hE.1 (Or.inr ⟨rfl, hv1.1, hv1.2, rfl⟩) (by omega) (fun a1 a2 a3 a4 a5 => ih (L 20 v.toNat :: st) (false :: tys) (p + 2) _ a1 a2 a3 a4 a5 hE.2 hw ⟨ha, hv⟩ ⟨up1_at _ _ _, stkR_up (Nat.le_refl _) hS⟩ (by show tys.length + 1 ≤ 32; omega) h)
      · rw [if_neg (by omega)] at hw
        rw [if_neg q1, if_neg q2] at h
        rw [if_neg (show ¬ c < 3 from fun z => by
          rcases (show c = 0 by omega) with rfl
          rw [if_neg (by decide), if_neg (by decide), if_neg (by decide), if_neg (by decide)] at hw
          exact hw)] at hE
        by_cases q3 : c = 11
        · rw [if_pos q3] at hw
          rw [if_pos q3] at h
          subst q3
          obtain ⟨⟨t2, ht⟩, hw⟩ := hw
          subst ht
          match st, hv, hS, h, hlen with
          | x :: s, hv, hS, h, hlen =>
            have hx : x = 0 ∨ x = 1 := hv.1
            have hS1 : S s.length = x := hS.1
            have hsl : s.length ≤ 31 := by simp only [List.length_cons] at hlen hl; omega
            have hnx := ih ((1 - x) :: s) (true :: t2) (p + 1) (up1 S s.length (1 - x)) (some (vI 11)) l4 l5 l6 l7 hE hw ⟨by show 1 - x = 0 ∨ 1 - x = 1; omega, hv.2⟩ ⟨up1_at _ _ _, stkR_up (Nat.le_refl _) hS.2⟩ hl h
            have hc : A 3 p = 11 := hc
            refine Ex_step (tk_M_holds rfl) ?_
            refine gMR (tk_M_holds rfl) hM hM.r9 ?_
            refine Ex_step (tk_M_holds rfl) ?_
            refine lMI (j := 3) (n := p) (tk_M_holds rfl) (by decide) hM.k3 hM.n3 (w32_id (by omega) (by omega)) (by omega) ?_
            rw [hc]
            refine Ex_step (tk_M_holds rfl) ⟨fun h12 => ?_, fun h12 => ?_⟩
            · try simp (disch := omega) only [cmpI, w32_id] at h12
              exact absurd h12 (by decide)
            · try simp (disch := omega) only [cmpI, w32_id] at h12
              refine Ex_step (tk_M_holds rfl) ?_
              refine gMR (tk_M_holds rfl) hM hM.r9 ?_
              refine Ex_step (tk_M_holds rfl) ?_
              refine lMI (j := 3) (n := p) (tk_M_holds rfl) (by decide) hM.k3 hM.n3 (w32_id (by omega) (by omega)) (by omega) ?_
              rw [hc]
              refine Ex_step (tk_M_holds rfl) ?_
              refine Ex_step (tk_M_holds rfl) ?_
              refine Ex_step (tk_M_holds rfl) ?_
              refine Ex_step (tk_M_holds rfl) ⟨fun h24 => ?_, fun h24 => ?_⟩
              · try simp (disch := omega) only [cmpI, w32_id] at h24
                refine Ex_step (tk_M_holds rfl) ?_
                refine Ex_step (tk_M_holds rfl) ?_
                refine Ex_step (tk_M_holds rfl) ⟨fun h71 => ?_, fun h71 => ?_⟩
                · try simp (disch := omega) only [cmpI, w32_id] at h71
                  exact absurd h71 (by decide)
                · try simp (disch := omega) only [cmpI, w32_id] at h71
                  refine Ex_step (tk_M_holds rfl) ?_
                  refine gMR (tk_M_holds rfl) hM hM.r32 ?_
                  refine Ex_step (tk_M_holds rfl) ?_
                  refine Ex_step (tk_M_holds rfl) ?_
                  refine Ex_step (tk_M_holds rfl) ?_
                  refine Ex_step (tk_M_holds rfl) ?_
                  refine Ex_step (tk_M_holds rfl) ?_
                  refine gMR (tk_M_holds rfl) hM hM.r32 ?_
                  refine Ex_step (tk_M_holds rfl) ?_
                  refine Ex_step (tk_M_holds rfl) ?_
                  refine Ex_step (tk_M_holds rfl) ?_
                  refine lML (j := 19) (n := s.length) (tk_M_holds rfl) (by decide) hM.k19 hM.n19 (by simp only [List.length_cons]; rw [w32_id (by omega) (by omega)]; omega) (by omega) ?_
                  rw [up1_at, hS1]
                  refine Ex_step (tk_M_holds rfl) ?_
                  refine tML (j := 19) (n := s.length) (tk_M_holds rfl) (by decide) hM.k19 hM.n19 (by simp only [List.length_cons]; rw [w32_id (by omega) (by omega)]; omega) (by omega) ?_
                  rw [up1_at, up1_same]
                  refine Ex_step (tk_M_holds rfl) ?_
                  refine Ex_step (tk_M_holds rfl) ?_
                  refine Ex_step (tk_M_holds rfl) ?_
                  exact hnx
              · try simp (disch := omega) only [cmpI, w32_id] at h24
                exact absurd h24 (by decide)
        · rw [if_neg q3] at hw
          rw [if_neg q3] at h
          have key : ∀ (b1 b2 b3 : Bool) (t2 : List Bool), tys = b1 :: b2 :: t2 → 3 ≤ c ∧ c ≤ 10 → wft r (b3 :: t2) → (∀ x y : Int, if b3 then opV c x y = 0 ∨ opV c x y = 1 else -1000000 ≤ opV c x y ∧ opV c x y ≤ 1000000) → Ex (d + 1) M_holds 6 [some (vR aM), some (vI (st.length : Int)), some (vI (p : Int)), l3, l4, l5, l6, l7] [] (MS m I A (up1 L 19 S)) Q := by
            intro b1 b2 b3 t2 ht hc3 hw2 hb
            subst ht
            match st, hv, hS, h, hlen with
            | y :: x :: s, hv, hS, h, hlen =>
              have hy := okV_bd hv.1
              have hx := okV_bd hv.2.1
              have hsl : s.length ≤ 30 := by simp only [List.length_cons] at hlen hl; omega
              have h282 : ∀ l4 l5 l6 l7 : Option AV, Ex (d + 1) M_holds 282 [some (vR aM), some (vI ((s.length + 1 : Nat) : Int)), some (vI (p : Int)), some (vI (c : Int)), l4, l5, l6, l7] [] (MS m I A (up1 L 19 (up1 S s.length (opV c x y)))) Q := by
                intro l4 l5 l6 l7
                have hnx := ih (opV c x y :: s) (b3 :: t2) (p + 1) (up1 S s.length (opV c x y)) (some (vI (c : Int))) l4 l5 l6 l7 hE hw2 ⟨hb x y, hv.2.2⟩ ⟨up1_at _ _ _, stkR_up (Nat.le_refl _) hS.2.2⟩ (by simp only [List.length_cons] at hl ⊢; omega) h
                refine Ex_step (tk_M_holds rfl) ?_
                refine Ex_step (tk_M_holds rfl) ?_
                exact hnx
              have h95 := f_holdOp (l4 := l4) (l5 := l5) (l6 := l6) (l7 := l7) hM hc3 hx hy rfl (by omega) hS h282
              refine Ex_step (tk_M_holds rfl) ?_
              refine gMR (tk_M_holds rfl) hM hM.r9 ?_
              refine Ex_step (tk_M_holds rfl) ?_
              refine lMI (j := 3) (n := p) (tk_M_holds rfl) (by decide) hM.k3 hM.n3 (w32_id (by omega) (by omega)) (by omega) ?_
              rw [hc]
              refine Ex_step (tk_M_holds rfl) ⟨fun h12 => ?_, fun h12 => ?_⟩
              · try simp (disch := omega) only [cmpI, w32_b2i, b2i_0, b2i_1, w32_id, Classical.not_not, not_true_eq_false, not_false_eq_true] at h12
                omega
              · try simp (disch := omega) only [cmpI, w32_b2i, b2i_0, b2i_1, w32_id, Classical.not_not, not_true_eq_false, not_false_eq_true] at h12
                refine Ex_step (tk_M_holds rfl) ?_
                refine gMR (tk_M_holds rfl) hM hM.r9 ?_
                refine Ex_step (tk_M_holds rfl) ?_
                refine lMI (j := 3) (n := p) (tk_M_holds rfl) (by decide) hM.k3 hM.n3 (w32_id (by omega) (by omega)) (by omega) ?_
                rw [hc]
                refine Ex_step (tk_M_holds rfl) ?_
                refine Ex_step (tk_M_holds rfl) ?_
                refine Ex_step (tk_M_holds rfl) ?_
                refine Ex_step (tk_M_holds rfl) ⟨fun h24 => ?_, fun h24 => ?_⟩
                · try simp (disch := omega) only [cmpI, w32_b2i, b2i_0, b2i_1, w32_id, Classical.not_not, not_true_eq_false, not_false_eq_true] at h24
                  refine Ex_step (tk_M_holds rfl) ?_
                  refine Ex_step (tk_M_holds rfl) ?_
                  refine Ex_step (tk_M_holds rfl) ⟨fun h71 => ?_, fun h71 => ?_⟩
                  · try simp (disch := omega) only [cmpI, w32_b2i, b2i_0, b2i_1, w32_id, Classical.not_not, not_true_eq_false, not_false_eq_true] at h71
                    exact h95
                  · try simp (disch := omega) only [cmpI, w32_b2i, b2i_0, b2i_1, w32_id, Classical.not_not, not_true_eq_false, not_false_eq_true] at h71
                    omega
                · try simp (disch := omega) only [cmpI, w32_b2i, b2i_0, b2i_1, w32_id, Classical.not_not, not_true_eq_false, not_false_eq_true] at h24
                  omega
          by_cases q4 : 3 ≤ c ∧ c ≤ 5
          · rw [if_pos q4] at hw
            obtain ⟨t2, ht, hw⟩ := hw
            exact key false false false t2 ht (by omega) hw (fun x y => opV_b q4)
          · rw [if_neg q4] at hw
            by_cases q5 : 6 ≤ c ∧ c ≤ 8
            · rw [if_pos q5] at hw
              obtain ⟨t2, ht, hw⟩ := hw
              exact key false false true t2 ht (by omega) hw (fun x y => opV_01 q5.1)
            · rw [if_neg q5] at hw
              by_cases q6 : c = 9 ∨ c = 10
              · rw [if_pos q6] at hw
                obtain ⟨t2, ht, hw⟩ := hw
                exact key true true true t2 ht (by omega) hw (fun x y => opV_01 (by omega))
              · rw [if_neg q6] at hw
                exact hw.elim
set_option maxRecDepth 100000 in
theorem f_holds0 (hM : MW m) (hask : ∀ k, k < 5 → -1000000 ≤ L 20 k ∧ L 20 k ≤ 1000000) {ts : List Tok} (hE : encT (A 3) 620 ts) (hw : wft ts []) (h : ∀ S' : Nat → Int, Q 0 (some (vI (b2i (evT (fun k => L 20 k.toNat) ts [] = [1])))) (MS m I A (up1 L 19 S'))) : Ex (d + 1) M_holds 0 [some (vR aM), none, none, none, none, none, none, none] [] (MS m I A L) Q := by
  have h6 := f_holds (d := d) (I := I) (Q := Q) hM hask ts [] [] 620 (L 19) none none none none none hE hw trivial trivial (Nat.zero_le _) h
  rw [up1_self rfl] at h6
  refine Ex_step (tk_M_holds rfl) ?_
  refine Ex_step (tk_M_holds rfl) ?_
  refine Ex_step (tk_M_holds rfl) ?_
  refine Ex_step (tk_M_holds rfl) ?_
  exact h6
set_option maxRecDepth 100000 in
theorem evT_c {ask ask2 : Int → Int} (h : ∀ k, 0 ≤ k → k ≤ 4 → ask k = ask2 k) : ∀ (ts : List Tok) (st : List Int) (tys : List Bool), wft ts tys → evT ask ts st = evT ask2 ts st
  | [], _, _, _ => rfl
  | (c, v) :: r, st, tys, hw => by
    unfold wft at hw
    unfold evT
    by_cases q1 : c = 1
    · rw [if_pos (Or.inl q1)] at hw
      rw [if_pos q1, if_pos q1]
      exact evT_c h r _ _ hw.2.2
    · by_cases q2 : c = 2
      · rw [if_pos (Or.inr q2)] at hw
        obtain ⟨h1, h2, h3⟩ := hw
        rw [if_neg q1] at h1
        rw [if_neg q1, if_pos q2, if_neg q1, if_pos q2, h v h1.1 h1.2]
        exact evT_c h r _ _ h3
      · rw [if_neg (by omega)] at hw
        rw [if_neg q1, if_neg q2, if_neg q1, if_neg q2]
        by_cases q3 : c = 11
        · rw [if_pos q3] at hw
          rw [if_pos q3, if_pos q3]
          match st with
          | [] => rfl
          | x :: s => exact evT_c h r _ _ hw.2
        · rw [if_neg q3] at hw
          rw [if_neg q3, if_neg q3]
          have key : ∃ t2, wft r t2 := by
            split at hw
            · exact ⟨_, hw.choose_spec.2⟩
            · split at hw
              · exact ⟨_, hw.choose_spec.2⟩
              · split at hw
                · exact ⟨_, hw.choose_spec.2⟩
                · exact hw.elim
          match st with
          | [] => rfl
          | [_] => rfl
          | y :: x :: s => exact evT_c h r _ _ key.choose_spec
end MHolds2
