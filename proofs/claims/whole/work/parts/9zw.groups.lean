/-! ===== the class: groups ===== -/
def GI (T : Nat → Int) (ru : Option (List Tok)) (nn : Nat) (G : Nat → Int) (n : Int) (a b : Nat) : Prop := InR nn G ∧ Snd T ru nn G ∧ n = jCnt G nn nn ∧ ∀ a2 b2, a2 < b2 → b2 < nn → (a2 < a ∨ a2 = a ∧ b2 < b) → (infB T ru nn a2 b2 = true ∨ infB T ru nn b2 a2 = true) → G a2 = G b2
section Groups
variable {d : Nat} {m : Mem} {F A L F' A' L' : Nat → Nat → Int} {I : Nat → Int} {R : Nat → Nat → Int} {kb kd : Nat} {P : Nat → Nat} {ds : Nat → Nat → Nat} {nn b tp : Nat} {Q : Nat → Option AV → Mem → Prop} {T G : Nat → Int} {ru : Option (List Tok)} {n : Int} {x y : Nat}
set_option maxRecDepth 100000 in
theorem GI.skip (h : GI T ru nn G n x y) (q : G x = G y ∨ ¬ (infB T ru nn x y = true ∨ infB T ru nn y x = true)) : GI T ru nn G n x (y + 1) := ⟨h.1, h.2.1, h.2.2.1, fun a2 b2 z1 z2 z3 z4 => by
  by_cases w : a2 = x ∧ b2 = y
  · obtain ⟨rfl, rfl⟩ := w
    exact q.elim id (fun e => absurd z4 e)
  · exact h.2.2.2 a2 b2 z1 z2 (by omega) z4⟩
set_option maxRecDepth 100000 in
theorem GI.join (h : GI T ru nn G n x y) (hxy : x < y) (hy : y < nn) (q1 : G x ≠ G y) (q2 : infB T ru nn x y = true ∨ infB T ru nn y x = true) : GI T ru nn (mg nn G x y) (n + -1) x (y + 1) := by
  obtain ⟨h1, h2, h3, h4⟩ := h
  refine ⟨mg_r (by omega) h1, mg_s (by omega) hy h2 (fun f hf => q2.elim (fun z => hf x y (by omega) hy (by omega) z) (fun z => (hf y x hy (by omega) (by omega) z).symm)), ?_, fun a2 b2 z1 z2 z3 z4 => ?_⟩
  · rw [mg_cnt (by omega) hy h1 q1, oI_t (h1 y hy).2, h3]
    omega
  · by_cases w : a2 = x ∧ b2 = y
    · obtain ⟨rfl, rfl⟩ := w
      exact mg_ab hy
    · exact mg_eq (by omega) z2 (h4 a2 b2 z1 z2 (by omega) z4)
set_option maxRecDepth 100000 in
theorem GI.next (h : GI T ru nn G n x nn) : GI T ru nn G n (x + 1) (x + 1 + 1) := ⟨h.1, h.2.1, h.2.2.1, fun a2 b2 z1 z2 z3 z4 => h.2.2.2 a2 b2 z1 z2 (by omega) z4⟩
set_option maxRecDepth 100000 in
theorem GI.done {J : Nat → Int} (h : GI T ru nn G n nn y) : n = grS T ru nn J := by
  rw [h.2.2.1]
  refine grS_eq h.1 h.2.1 (fun a b ha hb hab z => ?_)
  by_cases w : a < b
  · exact h.2.2.2 a b w hb (Or.inl ha) (Or.inl z)
  · exact (h.2.2.2 b a (by omega) ha (Or.inl hb) (Or.inr z)).symm
set_option maxRecDepth 100000 in
theorem d_join {u v : Int} (h : DK m F A L I R kb kd P ds nn b tp) (hG : InR nn (A 361)) (hu : 0 ≤ u ∧ u < (nn : Int)) (hq : Q 0 none (CM m F (up1 A 361 (fun k => if k < nn ∧ A 361 k = u then v else A 361 k)) L)) : Ex d DD_joinGroups 0 [some (vR 100), some (vI v), some (vI u), none] [] (CM m F A L) Q := by
  have hk11 := h.w.k100
  have hr709 := h.y.r709
  have hr717 := h.w.r717
  have hk2 := (h.w.bks kb h.y.ib).1
  have h129 := h.bk.1
  have hn6 := h.now.1
  have hgr := h.w.group
  have hloop : ∀ (r c : Nat), c + r = nn → Ex d DD_joinGroups 2 [some (vR 100), some (vI v), some (vI u), some (vI (c : Int))] [] (CM m F (up1 A 361 (jK c nn u v (A 361))) L) Q := by
    intro r
    induction r with
    | zero =>
      intro c hc
      have : c = nn := by omega
      subst this
      have e : jK c c u v (A 361) = (fun k => if k < c ∧ A 361 k = u then v else A 361 k) := by
        funext k
        unfold jK
        by_cases q : k < c ∧ A 361 k = u
        · rw [if_pos q, if_pos ⟨q.1, q.1, q.2⟩]
        · rw [if_neg q, if_neg (fun z => q z.2)]
      rw [e]
      refine Ex_step (tk_DD_joinGroups rfl) ?_
      refine Ex_step (tk_DD_joinGroups rfl) ?_
      refine gCR (tk_DD_joinGroups rfl) (hk11) (hr709) ?_
      refine gCI (tk_DD_joinGroups rfl) (hk2) ?_
      rw [h129]
      refine Ex_step (tk_DD_joinGroups rfl) ⟨fun h10 => ?_, fun h10 => ?_⟩
      · try simp (disch := omega) only [cmpI, w32_b2i, b2i_0, b2i_1, w32_id, Classical.not_not, not_true_eq_false, not_false_eq_true] at h10
        refine Ex_step (tk_DD_joinGroups rfl) ⟨rfl, ?_⟩
        exact hq
      · try simp (disch := omega) only [cmpI, w32_b2i, b2i_0, b2i_1, w32_id, Classical.not_not, not_true_eq_false, not_false_eq_true] at h10
        omega
    | succ r ih =>
      intro c hc
      have hnx := ih (c + 1) (by omega)
      have hs := jK_s c nn (by omega) u v (A 361)
      have hjc := hG c (by omega)
      have e : jK c nn u v (A 361) c = A 361 c := if_neg (by omega)
      have z30 : ∀ g : Nat → Int, g = jK (c + 1) nn u v (A 361) → Ex d DD_joinGroups 30 [some (vR 100), some (vI v), some (vI u), some (vI (c : Int))] [] (CM m F (up1 A 361 g) L) Q := by
        intro g hg
        subst hg
        refine Ex_step (tk_DD_joinGroups rfl) ?_
        refine Ex_step (tk_DD_joinGroups rfl) ?_
        exact hnx
      have hyes : A 361 c = u → up1 (jK c nn u v (A 361)) c v = jK (c + 1) nn u v (A 361) := fun z => by rw [if_pos z] at hs; exact hs
      have hno : A 361 c ≠ u → jK c nn u v (A 361) = jK (c + 1) nn u v (A 361) := fun z => by
        rw [if_neg z] at hs
        rw [← hs]
        exact (up1_self e).symm
      refine Ex_step (tk_DD_joinGroups rfl) ?_
      refine Ex_step (tk_DD_joinGroups rfl) ?_
      refine gCR (tk_DD_joinGroups rfl) (hk11) (hr709) ?_
      refine gCI (tk_DD_joinGroups rfl) (hk2) ?_
      rw [h129]
      refine Ex_step (tk_DD_joinGroups rfl) ⟨fun h10 => ?_, fun h10 => ?_⟩
      · try simp (disch := omega) only [cmpI, w32_b2i, b2i_0, b2i_1, w32_id, Classical.not_not, not_true_eq_false, not_false_eq_true] at h10
        omega
      · try simp (disch := omega) only [cmpI, w32_b2i, b2i_0, b2i_1, w32_id, Classical.not_not, not_true_eq_false, not_false_eq_true] at h10
        refine Ex_step (tk_DD_joinGroups rfl) ?_
        refine gCR (tk_DD_joinGroups rfl) (hk11) (hr717) ?_
        refine Ex_step (tk_DD_joinGroups rfl) ?_
        refine lCI (n := c) (tk_DD_joinGroups rfl) (hgr) (w32_id (by omega) (by omega)) (by omega) ?_
        rw [up1_at, e]
        refine Ex_step (tk_DD_joinGroups rfl) ?_
        refine Ex_step (tk_DD_joinGroups rfl) ⟨fun h20 => ?_, fun h20 => ?_⟩
        · try simp (disch := omega) only [cmpI, w32_b2i, b2i_0, b2i_1, w32_id, Classical.not_not, not_true_eq_false, not_false_eq_true] at h20
          first | exact z30 _ (hno (by omega)) | (rw [up1_at, up1_same]; exact z30 _ (hyes (by omega)))
        · try simp (disch := omega) only [cmpI, w32_b2i, b2i_0, b2i_1, w32_id, Classical.not_not, not_true_eq_false, not_false_eq_true] at h20
          refine Ex_step (tk_DD_joinGroups rfl) ?_
          refine gCR (tk_DD_joinGroups rfl) (hk11) (hr717) ?_
          refine Ex_step (tk_DD_joinGroups rfl) ?_
          refine Ex_step (tk_DD_joinGroups rfl) ?_
          refine tCI (n := c) (tk_DD_joinGroups rfl) (hgr) (w32_id (by omega) (by omega)) (by omega) ?_
          first | exact z30 _ (hno (by omega)) | (rw [up1_at, up1_same]; exact z30 _ (hyes (by omega)))
  have h2 := hloop nn 0 (by omega)
  rw [show jK 0 nn u v (A 361) = A 361 from funext (fun k => if_neg (by omega)), up1_self rfl] at h2
  refine Ex_step (tk_DD_joinGroups rfl) ?_
  refine Ex_step (tk_DD_joinGroups rfl) ?_
  exact h2
set_option maxRecDepth 100000 in
theorem d_groups (be : Nat → Int) (h : DK m F A L I R kb kd P ds nn b tp) (hX : RuX m A (mFR m 130 kb) ru) (hok : ∀ (m' : Mem) (F' A' L' : Nat → Nat → Int), DK m' F' A' L' I R kb kd P ds nn b tp → Out m m' F F' A A' L L' → Q 0 (some (vI (grS (R 3) ru nn be))) (CM m' F' A' L')) : Ex (d + 7) DD_groups 0 [some (vR 100), none, none, none] [] (CM m F A L) Q := by
  have hn6 := h.now.1
  have ob := isBk_out h.y.ib
  have main : ∀ (x y : Nat) (F1 A1 : Nat → Nat → Int), (∀ f j, j < 310 ∨ 353 ≤ j → F1 f j = F f j) → (∀ j, j < 310 ∨ 353 ≤ j → j ≠ 361 → A1 j = A j) → DK (sOv m 310 x y) F1 A1 L I R kb kd P ds nn b tp → (∀ a, a < nn → KA F1 a nn) → (∀ k, k < nn → A1 361 k = (k : Int)) → Ex (d + 7) DD_groups 38 [some (vR 100), some (vI (nn : Int)), none, none] [] (CM (sOv m 310 x y) F1 A1 L) Q := by
    intro x y F1 A1 kF kA h1 hka hid
    have hk11 := h1.w.k100
    have hr709 := h1.y.r709
    have hr717 := h1.w.r717
    have hk2 := (h1.w.bks kb h1.y.ib).1
    have h129 := h1.bk.1
    have hgr := h1.w.group
    have e130 : mFR (sOv m 310 x y) 130 kb = mFR m 130 kb := sOv_r m (Or.inl (by omega))
    have hX1 : ∀ A2 : Nat → Nat → Int, (∀ j, j ≠ 359 → j ≠ 361 → A2 j = A1 j) → RuX (sOv m 310 x y) A2 (mFR (sOv m 310 x y) 130 kb) ru := by
      intro A2 kA2
      rw [e130]
      rcases hX with w | ⟨w1, w2, ts, w3, ⟨w4, w5, w6⟩, w7, w8, w9⟩
      · exact Or.inl w
      · exact Or.inr ⟨w1, w2, ts, w3, ⟨w4, (sOv_r m (Or.inr (by decide))).trans w5, w6⟩, w7, by rw [kA2 _ (by omega) (by omega), kA _ (Or.inr (by omega)) (by omega)]; exact w8, w9⟩
    have hD : ∀ A2 L2 : Nat → Nat → Int, (∀ j, j ≠ 359 → j ≠ 361 → A2 j = A1 j) → (∀ j, j ≠ 360 → L2 j = L j) → DK (sOv m 310 x y) F1 A2 L2 I R kb kd P ds nn b tp := fun A2 L2 kA2 kL2 => h1.sc (fun j q => kA2 j (by omega) (by omega)) (fun _ _ _ => rfl)
    have hin : ∀ (a : Nat), a < nn → (∀ (n : Int) (A2 L2 : Nat → Nat → Int) (l3 : Option AV), (∀ j, j ≠ 359 → j ≠ 361 → A2 j = A1 j) → (∀ j, j ≠ 360 → L2 j = L j) → GI (R 3) ru nn (A2 361) n (a + 1) (a + 1 + 1) → Ex (d + 7) DD_groups 48 [some (vR 100), some (vI n), some (vI ((a : Int) + 1)), l3] [] (CM (sOv m 310 x y) F1 A2 L2) Q) → ∀ (r c : Nat) (n : Int) (A2 L2 : Nat → Nat → Int), c + r = nn → a < c → (∀ j, j ≠ 359 → j ≠ 361 → A2 j = A1 j) → (∀ j, j ≠ 360 → L2 j = L j) → GI (R 3) ru nn (A2 361) n a c → Ex (d + 7) DD_groups 63 [some (vR 100), some (vI n), some (vI (a : Int)), some (vI (c : Int))] [] (CM (sOv m 310 x y) F1 A2 L2) Q := by
      intro a ha hnext r
      induction r with
      | zero =>
        intro c n A2 L2 hc hac kA2 kL2 hG
        have : c = nn := by omega
        subst this
        have z := hnext n A2 L2 (some (vI (c : Int))) kA2 kL2 hG.next
        refine Ex_step (tk_DD_groups rfl) ?_
        refine Ex_step (tk_DD_groups rfl) ?_
        refine gCR (tk_DD_groups rfl) (hk11) (hr709) ?_
        refine gCI (tk_DD_groups rfl) (hk2) ?_
        rw [h129]
        refine Ex_step (tk_DD_groups rfl) ⟨fun h71 => ?_, fun h71 => ?_⟩
        · try simp (disch := omega) only [cmpI, w32_b2i, b2i_0, b2i_1, w32_id, Classical.not_not, not_true_eq_false, not_false_eq_true] at h71
          refine Ex_step (tk_DD_groups rfl) ?_
          refine Ex_step (tk_DD_groups rfl) ?_
          exact z
        · try simp (disch := omega) only [cmpI, w32_b2i, b2i_0, b2i_1, w32_id, Classical.not_not, not_true_eq_false, not_false_eq_true] at h71
          omega
      | succ r ih =>
        intro c n A2 L2 hc hac kA2 kL2 hG
        have hc2 : c < nn := by omega
        have ga := hG.1 a ha
        have gc := hG.1 c hc2
        have z126 : ∀ (n2 : Int) (A3 L3 : Nat → Nat → Int), (∀ j, j ≠ 359 → j ≠ 361 → A3 j = A1 j) → (∀ j, j ≠ 360 → L3 j = L j) → GI (R 3) ru nn (A3 361) n2 a (c + 1) → Ex (d + 7) DD_groups 126 [some (vR 100), some (vI n2), some (vI (a : Int)), some (vI (c : Int))] [] (CM (sOv m 310 x y) F1 A3 L3) Q := by
          intro n2 A3 L3 kA3 kL3 hG3
          have z := ih (c + 1) n2 A3 L3 (by omega) (by omega) kA3 kL3 hG3
          refine Ex_step (tk_DD_groups rfl) ?_
          refine Ex_step (tk_DD_groups rfl) ?_
          exact z
        have z107 : ∀ A3 L3 : Nat → Nat → Int, (∀ j, j ≠ 359 → j ≠ 361 → A3 j = A1 j) → (∀ j, j ≠ 360 → L3 j = L j) → A3 361 = A2 361 → A2 361 a ≠ A2 361 c → (infB (R 3) ru nn a c = true ∨ infB (R 3) ru nn c a = true) → Ex (d + 7) DD_groups 107 [some (vR 100), some (vI n), some (vI (a : Int)), some (vI (c : Int))] [] (CM (sOv m 310 x y) F1 A3 L3) Q := by
          intro A3 L3 kA3 kL3 e3 q1 q2
          have hjn := fun (Q1 : Nat → Option AV → Mem → Prop) => d_join (d := d + 6) (Q := Q1) (u := A3 361 c) (v := A3 361 a) (hD A3 L3 kA3 kL3) (by rw [e3]; exact hG.1) (by rw [e3]; exact gc)
          have z := z126 (n + -1) (up1 A3 361 (mg nn (A3 361) a c)) L3 (fun j y1 y2 => (up1_ne _ _ y2).trans (kA3 j y1 y2)) kL3 (by rw [up1_at, e3]; exact hG.join hac hc2 q1 q2)
          refine Ex_step (tk_DD_groups rfl) ?_
          refine Ex_step (tk_DD_groups rfl) ?_
          refine gCR (tk_DD_groups rfl) (hk11) (hr717) ?_
          refine Ex_step (tk_DD_groups rfl) ?_
          refine lCI (n := a) (tk_DD_groups rfl) (hgr) (w32_id (by omega) (by omega)) (by omega) ?_
          refine Ex_step (tk_DD_groups rfl) ?_
          refine gCR (tk_DD_groups rfl) (hk11) (hr717) ?_
          refine Ex_step (tk_DD_groups rfl) ?_
          refine lCI (n := c) (tk_DD_groups rfl) (hgr) (w32_id (by omega) (by omega)) (by omega) ?_
          refine Ex_cV0 (av := [vI (A3 361 a), vI (A3 361 c)]) (tk_DD_groups rfl) mk_DD_joinGroups ⟨rfl, rfl, by decide, rfl, Nat.le_of_ble_eq_true rfl, Nat.le_of_ble_eq_true rfl⟩ (hk11) (fun _ h => hjn _ h) ?_
          refine Ex_step (tk_DD_groups rfl) ?_
          exact z
        have z98 : ∀ A3 L3 : Nat → Nat → Int, (∀ j, j ≠ 359 → j ≠ 361 → A3 j = A1 j) → (∀ j, j ≠ 360 → L3 j = L j) → A3 361 = A2 361 → A2 361 a ≠ A2 361 c → ¬ infB (R 3) ru nn a c = true → Ex (d + 7) DD_groups 98 [some (vR 100), some (vI n), some (vI (a : Int)), some (vI (c : Int))] [] (CM (sOv m 310 x y) F1 A3 L3) Q := by
          intro A3 L3 kA3 kL3 e3 q1 q2
          have hif := fun (Q1 : Nat → Option AV → Mem → Prop) => d_isInf (d := d + 1) (Q := Q1) (hD A3 L3 kA3 kL3) hc2 ha (by omega) (hka c hc2) (hX1 A3 kA3)
          refine Ex_step (tk_DD_groups rfl) ?_
          refine Ex_step (tk_DD_groups rfl) ?_
          refine Ex_step (tk_DD_groups rfl) ?_
          refine Ex_cVK (av := [vI (c : Int), vI (a : Int)]) (tk_DD_groups rfl) mk_DD_isInfringed ⟨rfl, rfl, by decide, rfl, Nat.le_of_ble_eq_true rfl, Nat.le_of_ble_eq_true rfl⟩ (hk11) (hif _ (fun A4 L4 kA4 kL4 => ⟨rfl, ?_⟩))
          refine Ex_step (tk_DD_groups rfl) ⟨fun h104 => ?_, fun h104 => ?_⟩
          · try simp (disch := omega) only [cmpI, w32_b2i, b2i_0, b2i_1, w32_id, Classical.not_not, not_true_eq_false, not_false_eq_true] at h104
            exact z126 n A4 L4 (fun j y1 y2 => (kA4 j y1).trans (kA3 j y1 y2)) (fun j y1 => (kL4 j y1).trans (kL3 j y1)) (by rw [kA4 361 (by decide), e3]; exact hG.skip (Or.inr (fun z => z.elim q2 h104)))
          · try simp (disch := omega) only [cmpI, w32_b2i, b2i_0, b2i_1, w32_id, Classical.not_not, not_true_eq_false, not_false_eq_true] at h104
            exact z107 A4 L4 (fun j y1 y2 => (kA4 j y1).trans (kA3 j y1 y2)) (fun j y1 => (kL4 j y1).trans (kL3 j y1)) ((kA4 361 (by decide)).trans e3) q1 (Or.inr h104)
        have z89 : A2 361 a ≠ A2 361 c → Ex (d + 7) DD_groups 89 [some (vR 100), some (vI n), some (vI (a : Int)), some (vI (c : Int))] [] (CM (sOv m 310 x y) F1 A2 L2) Q := by
          intro q1
          have hif := fun (Q1 : Nat → Option AV → Mem → Prop) => d_isInf (d := d + 1) (Q := Q1) (hD A2 L2 kA2 kL2) ha hc2 (by omega) (hka a ha) (hX1 A2 kA2)
          refine Ex_step (tk_DD_groups rfl) ?_
          refine Ex_step (tk_DD_groups rfl) ?_
          refine Ex_step (tk_DD_groups rfl) ?_
          refine Ex_cVK (av := [vI (a : Int), vI (c : Int)]) (tk_DD_groups rfl) mk_DD_isInfringed ⟨rfl, rfl, by decide, rfl, Nat.le_of_ble_eq_true rfl, Nat.le_of_ble_eq_true rfl⟩ (hk11) (hif _ (fun A4 L4 kA4 kL4 => ⟨rfl, ?_⟩))
          refine Ex_step (tk_DD_groups rfl) ⟨fun h95 => ?_, fun h95 => ?_⟩
          · try simp (disch := omega) only [cmpI, w32_b2i, b2i_0, b2i_1, w32_id, Classical.not_not, not_true_eq_false, not_false_eq_true] at h95
            exact z107 A4 L4 (fun j y1 y2 => (kA4 j y1).trans (kA2 j y1 y2)) (fun j y1 => (kL4 j y1).trans (kL2 j y1)) (kA4 361 (by decide)) q1 (Or.inl h95)
          · try simp (disch := omega) only [cmpI, w32_b2i, b2i_0, b2i_1, w32_id, Classical.not_not, not_true_eq_false, not_false_eq_true] at h95
            exact z98 A4 L4 (fun j y1 y2 => (kA4 j y1).trans (kA2 j y1 y2)) (fun j y1 => (kL4 j y1).trans (kL2 j y1)) (kA4 361 (by decide)) q1 h95
        refine Ex_step (tk_DD_groups rfl) ?_
        refine Ex_step (tk_DD_groups rfl) ?_
        refine gCR (tk_DD_groups rfl) (hk11) (hr709) ?_
        refine gCI (tk_DD_groups rfl) (hk2) ?_
        rw [h129]
        refine Ex_step (tk_DD_groups rfl) ⟨fun h71 => ?_, fun h71 => ?_⟩
        · try simp (disch := omega) only [cmpI, w32_b2i, b2i_0, b2i_1, w32_id, Classical.not_not, not_true_eq_false, not_false_eq_true] at h71
          omega
        · try simp (disch := omega) only [cmpI, w32_b2i, b2i_0, b2i_1, w32_id, Classical.not_not, not_true_eq_false, not_false_eq_true] at h71
          refine Ex_step (tk_DD_groups rfl) ?_
          refine gCR (tk_DD_groups rfl) (hk11) (hr717) ?_
          refine Ex_step (tk_DD_groups rfl) ?_
          refine lCI (n := a) (tk_DD_groups rfl) (hgr) (w32_id (by omega) (by omega)) (by omega) ?_
          refine Ex_step (tk_DD_groups rfl) ?_
          refine gCR (tk_DD_groups rfl) (hk11) (hr717) ?_
          refine Ex_step (tk_DD_groups rfl) ?_
          refine lCI (n := c) (tk_DD_groups rfl) (hgr) (w32_id (by omega) (by omega)) (by omega) ?_
          refine Ex_step (tk_DD_groups rfl) ⟨fun h86 => ?_, fun h86 => ?_⟩
          · try simp (disch := omega) only [cmpI, w32_b2i, b2i_0, b2i_1, w32_id, Classical.not_not, not_true_eq_false, not_false_eq_true] at h86
            exact z126 n A2 L2 kA2 kL2 (hG.skip (Or.inl (by omega)))
          · try simp (disch := omega) only [cmpI, w32_b2i, b2i_0, b2i_1, w32_id, Classical.not_not, not_true_eq_false, not_false_eq_true] at h86
            exact z89 (by omega)
    have hall : ∀ (r a : Nat) (n : Int) (A2 L2 : Nat → Nat → Int) (l3 : Option AV), a + r = nn → (∀ j, j ≠ 359 → j ≠ 361 → A2 j = A1 j) → (∀ j, j ≠ 360 → L2 j = L j) → GI (R 3) ru nn (A2 361) n a (a + 1) → Ex (d + 7) DD_groups 48 [some (vR 100), some (vI n), some (vI (a : Int)), l3] [] (CM (sOv m 310 x y) F1 A2 L2) Q := by
      intro r
      induction r with
      | zero =>
        intro a n A2 L2 l3 ha kA2 kL2 hG
        have : a = nn := by omega
        subst this
        have hq := hok _ F1 A2 L2 (hD A2 L2 kA2 kL2) (Out.q (fun f j q => kF f j (by omega)) (fun j q => (kA2 j (by omega) (by omega)).trans (kA j (by omega) (by omega))) (fun j q => kL2 j (by omega)))
        rw [← hG.done (J := be)] at hq
        refine Ex_step (tk_DD_groups rfl) ?_
        refine Ex_step (tk_DD_groups rfl) ?_
        refine gCR (tk_DD_groups rfl) (hk11) (hr709) ?_
        refine gCI (tk_DD_groups rfl) (hk2) ?_
        rw [h129]
        refine Ex_step (tk_DD_groups rfl) ⟨fun h56 => ?_, fun h56 => ?_⟩
        · try simp (disch := omega) only [cmpI, w32_b2i, b2i_0, b2i_1, w32_id, Classical.not_not, not_true_eq_false, not_false_eq_true] at h56
          refine Ex_step (tk_DD_groups rfl) ?_
          refine Ex_step (tk_DD_groups rfl) ⟨rfl, ?_⟩
          exact hq
        · try simp (disch := omega) only [cmpI, w32_b2i, b2i_0, b2i_1, w32_id, Classical.not_not, not_true_eq_false, not_false_eq_true] at h56
          omega
      | succ r ih =>
        intro a n A2 L2 l3 ha kA2 kL2 hG
        have z63 := hin a (by omega) (fun n2 A3 L3 l3 k1 k2 k3 => ih (a + 1) n2 A3 L3 l3 (by omega) k1 k2 k3) (nn - (a + 1)) (a + 1) n A2 L2 (by omega) (by omega) kA2 kL2 hG
        refine Ex_step (tk_DD_groups rfl) ?_
        refine Ex_step (tk_DD_groups rfl) ?_
        refine gCR (tk_DD_groups rfl) (hk11) (hr709) ?_
        refine gCI (tk_DD_groups rfl) (hk2) ?_
        rw [h129]
        refine Ex_step (tk_DD_groups rfl) ⟨fun h56 => ?_, fun h56 => ?_⟩
        · try simp (disch := omega) only [cmpI, w32_b2i, b2i_0, b2i_1, w32_id, Classical.not_not, not_true_eq_false, not_false_eq_true] at h56
          omega
        · try simp (disch := omega) only [cmpI, w32_b2i, b2i_0, b2i_1, w32_id, Classical.not_not, not_true_eq_false, not_false_eq_true] at h56
          refine Ex_step (tk_DD_groups rfl) ?_
          refine Ex_step (tk_DD_groups rfl) ?_
          refine Ex_step (tk_DD_groups rfl) ?_
          refine Ex_step (tk_DD_groups rfl) ?_
          exact z63
    have z48 := hall nn 0 (nn : Int) A1 L none (by omega) (fun _ _ _ => rfl) (fun _ _ => rfl) ⟨fun k hk => by rw [hid k hk]; omega, fun k l hk hl q => by
      rw [hid k hk, hid l hl] at q
      have : k = l := by omega
      subst this
      exact fun _ _ => rfl, (jCnt_id nn (Nat.le_refl _) hid).symm, fun a2 b2 z1 z2 z3 => by omega⟩
    refine Ex_step (tk_DD_groups rfl) ?_
    refine gCR (tk_DD_groups rfl) (hk11) (hr709) ?_
    refine gCI (tk_DD_groups rfl) (hk2) ?_
    rw [h129]
    refine Ex_step (tk_DD_groups rfl) ?_
    refine Ex_step (tk_DD_groups rfl) ?_
    refine Ex_step (tk_DD_groups rfl) ?_
    exact z48
  have hini : ∀ (r c : Nat) (x y : Nat) (F1 A1 : Nat → Nat → Int), c + r = nn → (∀ f j, j < 310 ∨ 353 ≤ j → F1 f j = F f j) → (∀ j, j < 310 ∨ 353 ≤ j → j ≠ 361 → A1 j = A j) → DK (sOv m 310 x y) F1 A1 L I R kb kd P ds nn b tp → (∀ a, a < c → KA F1 a nn) → (∀ k, k < c → A1 361 k = (k : Int)) → Ex (d + 7) DD_groups 2 [some (vR 100), some (vI (c : Int)), none, none] [] (CM (sOv m 310 x y) F1 A1 L) Q := by
    intro r
    induction r with
    | zero =>
      intro c x y F1 A1 hc kF kA h1 hka hid
      have : c = nn := by omega
      subst this
      have hk11 := h1.w.k100
      have hr709 := h1.y.r709
      have hk2 := (h1.w.bks kb h1.y.ib).1
      have h129 := h1.bk.1
      have z := main x y F1 A1 kF kA h1 hka hid
      refine Ex_step (tk_DD_groups rfl) ?_
      refine Ex_step (tk_DD_groups rfl) ?_
      refine gCR (tk_DD_groups rfl) (hk11) (hr709) ?_
      refine gCI (tk_DD_groups rfl) (hk2) ?_
      rw [h129]
      refine Ex_step (tk_DD_groups rfl) ⟨fun h10 => ?_, fun h10 => ?_⟩
      · try simp (disch := omega) only [cmpI, w32_b2i, b2i_0, b2i_1, w32_id, Classical.not_not, not_true_eq_false, not_false_eq_true] at h10
        exact z
      · try simp (disch := omega) only [cmpI, w32_b2i, b2i_0, b2i_1, w32_id, Classical.not_not, not_true_eq_false, not_false_eq_true] at h10
        omega
    | succ r ih =>
      intro c x y F1 A1 hc kF kA h1 hka hid
      have hk11 := h1.w.k100
      have hr709 := h1.y.r709
      have hr713 := h1.w.r713
      have hk5 := h1.w.ov.1
      have hk2 := (h1.w.bks kb h1.y.ib).1
      have h129 := h1.bk.1
      have z25 : ∀ (x2 y2 : Nat) (F2 A2 : Nat → Nat → Int), KO 310 F1 F2 A1 A2 → DK (sOv (sOv m 310 x y) 310 x2 y2) F2 A2 L I R kb kd P ds nn b tp → KA F2 c nn → Ex (d + 7) DD_groups 25 [some (vR 100), some (vI (c : Int)), none, none] [] (CM (sOv (sOv m 310 x y) 310 x2 y2) F2 A2 L) Q := by
        intro x2 y2 F2 A2 ko h2 hk2'
        rw [show sOv (sOv m 310 x y) 310 x2 y2 = sOv m 310 x2 y2 from sOv_sOv m 310 x y x2 y2] at h2 ⊢
        have hk11 := h2.w.k100
        have hr717 := h2.w.r717
        have hgr := h2.w.group
        have z := ih (c + 1) x2 y2 F2 (up1 A2 361 (up1 (A2 361) c (c : Int))) (by omega) (fun f j q => (ko.1 f j (by omega)).trans (kF f j q)) (fun j q1 q2 => (up1_ne _ _ q2).trans ((ko.2.1 j (by omega)).trans (kA j q1 q2))) (h2.sc (fun j q => up1_ne _ _ (by omega)) (fun _ _ _ => rfl)) (fun a ha => by
          by_cases w : a = c
          · subst w; exact hk2'
          · exact fun b hb hba => ko.2.2 (a * 6 + b) (by omega) (hka a (by omega) b hb hba)) (fun k hk => by
          rw [up1_at]
          by_cases w : k = c
          · subst w; exact up1_at _ _ _
          · rw [up1_ne _ _ w, ko.2.1 361 (Or.inr (by decide))]; exact hid k (by omega))
        refine Ex_step (tk_DD_groups rfl) ?_
        refine gCR (tk_DD_groups rfl) (hk11) (hr717) ?_
        refine Ex_step (tk_DD_groups rfl) ?_
        refine Ex_step (tk_DD_groups rfl) ?_
        refine tCI (n := c) (tk_DD_groups rfl) (hgr) (w32_id (by omega) (by omega)) (by omega) ?_
        refine Ex_step (tk_DD_groups rfl) ?_
        refine Ex_step (tk_DD_groups rfl) ?_
        exact z
      refine Ex_step (tk_DD_groups rfl) ?_
      refine Ex_step (tk_DD_groups rfl) ?_
      refine gCR (tk_DD_groups rfl) (hk11) (hr709) ?_
      refine gCI (tk_DD_groups rfl) (hk2) ?_
      rw [h129]
      refine Ex_step (tk_DD_groups rfl) ⟨fun h10 => ?_, fun h10 => ?_⟩
      · try simp (disch := omega) only [cmpI, w32_b2i, b2i_0, b2i_1, w32_id, Classical.not_not, not_true_eq_false, not_false_eq_true] at h10
        omega
      · try simp (disch := omega) only [cmpI, w32_b2i, b2i_0, b2i_1, w32_id, Classical.not_not, not_true_eq_false, not_false_eq_true] at h10
        refine Ex_step (tk_DD_groups rfl) ?_
        refine gCR (tk_DD_groups rfl) (hk11) (hr713) ?_
        refine Ex_step (tk_DD_groups rfl) ?_
        refine gCR (tk_DD_groups rfl) (hk11) (hr709) ?_
        refine Ex_step (tk_DD_groups rfl) ?_
        refine Ex_cVK (av := [vR kb, vI (c : Int)]) (tk_DD_groups rfl) mk_Ov_learnFrom ⟨rfl, rfl, by decide, rfl, Nat.le_of_ble_eq_true rfl, Nat.le_of_ble_eq_true rfl⟩ (hk5) (d_learnFrom h1 (show c < nn by omega) (fun x2 y2 F2 A2 ko h2 hk2' => ⟨rfl, ?_⟩))
        exact z25 x2 y2 F2 A2 ko h2 hk2'
  have h2 := hini nn 0 (mFR m 321 310) (mFR m 322 310) F A (by omega) (fun _ _ _ => rfl) (fun _ _ _ => rfl) (by rw [sOv_self]; exact h) (fun a ha => absurd ha (Nat.not_lt_zero _)) (fun k hk => absurd hk (Nat.not_lt_zero _))
  rw [sOv_self] at h2
  refine Ex_step (tk_DD_groups rfl) ?_
  refine Ex_step (tk_DD_groups rfl) ?_
  exact h2
end Groups
