/-! ===== the class: prior, infringes, nearest, best ===== -/
set_option maxRecDepth 100000 in
theorem KO.out {m : Mem} {F F' A A' L : Nat → Nat → Int} {x y : Nat} (k : KO 310 F F' A A') : Out m (sOv m 310 x y) F F' A A' L L := Out.q (fun f j q => k.1 f j (by omega)) (fun j q => k.2.1 j (by omega)) (fun _ _ => rfl)
set_option maxRecDepth 100000 in
theorem KO.out2 {m : Mem} {F F' A A' A2 L L2 : Nat → Nat → Int} {x y : Nat} (k : KO 310 F F' A A') (kA : ∀ j, j < 353 ∨ 362 ≤ j → A2 j = A' j) (kL : ∀ j, j < 353 ∨ 362 ≤ j → L2 j = L j) : Out m (sOv m 310 x y) F F' A A2 L L2 := Out.q (fun f j q => k.1 f j (by omega)) (fun j q => (kA j (by omega)).trans (k.2.1 j (by omega))) (fun j q => kL j (by omega))
set_option maxRecDepth 100000 in
theorem trm_eq {r1 r2 w : Int} {s al : Nat} (e1 : r1 = (s : Int)) (e2 : (s = 0 ∧ 1 ≤ r2) ∨ r2 = (al : Int)) : trm s al w = trm r1.toNat r2.toNat w := by
  subst e1
  rcases e2 with ⟨q, _⟩ | q
  · subst q
    unfold trm
    rw [if_pos rfl]
    exact (if_pos rfl).symm
  · rw [q]
    rfl
section Ask
variable {d : Nat} {m : Mem} {F A L F' A' L' : Nat → Nat → Int} {I : Nat → Int} {R : Nat → Nat → Int} {kb kd : Nat} {P : Nat → Nat} {ds : Nat → Nat → Nat} {nn b tp : Nat} {Q : Nat → Option AV → Mem → Prop} {a bb : Nat} {i j w : Int}
set_option maxRecDepth 100000 in
theorem d_learnFrom (h : DK m F A L I R kb kd P ds nn b tp) (ha : a < nn) (hq : ∀ (x y : Nat) (F' A' : Nat → Nat → Int), KO 310 F F' A A' → DK (sOv m 310 x y) F' A' L I R kb kd P ds nn b tp → KA F' a nn → Q 0 none (CM (sOv m 310 x y) F' A' L)) : Ex (d + 6) Ov_learnFrom 0 [some (vR 310), some (vR kb), some (vI (a : Int)), none] [] (CM m F A L) Q := by
  have ob := isBk_out h.y.ib
  have hd := h.y.bd h.y.ib
  have z := c_learnFrom (d := d) (m := m) (L := L) (Q := Q) (x := mFR m 321 310) (y := mFR m 322 310) h.w.ov (h.y.bw h.w h.y.ib) (by omega) (fun i hi => by have := hd.1 i hi; omega) h.now h.bk h.kn ha (fun x y F' A' k1 k2 k3 => hq x y F' A' k1 (h.lrn k1 k2) k3)
  rw [sOv_self] at z
  exact z
set_option maxRecDepth 100000 in
theorem d_learn (h : DK m F A L I R kb kd P ds nn b tp) (ha : a < nn) (hb : bb < nn) (hab : a ≠ bb) (hq : ∀ (x y : Nat) (F' A' : Nat → Nat → Int), KO 310 F F' A A' → DK (sOv m 310 x y) F' A' L I R kb kd P ds nn b tp → F' 64 (310 + 2 + (a * 6 + bb)) = 1 → Q 0 none (CM (sOv m 310 x y) F' A' L)) : Ex (d + 5) Ov_learn 0 [some (vR 310), some (vR kb), some (vI (a : Int)), some (vI (bb : Int)), none] [] (CM m F A L) Q := by
  have ob := isBk_out h.y.ib
  have hd := h.y.bd h.y.ib
  have z := c_learn (d := d) (m := m) (L := L) (Q := Q) (x := mFR m 321 310) (y := mFR m 322 310) h.w.ov (h.y.bw h.w h.y.ib) (by omega) (fun i hi => by have := hd.1 i hi; omega) h.now h.bk h.kn ha hb hab (fun x y F' A' k1 k2 k3 => hq x y F' A' k1 (h.lrn k1 k2) k3)
  rw [sOv_self] at z
  exact z
set_option maxRecDepth 100000 in
theorem d_prior (h : DK m F A L I R kb kd P ds nn b tp) (hi : okI i) (hwo : okI w) (hb1 : ¬ (0 ≤ i ∧ i < (nn : Int)) → Q 1 none (alloc (CM m (upF F 707 100 (F 707 100 + 1)) A L) 22 0 6)) (hb2 : 0 ≤ i ∧ i < (nn : Int) → ¬ (0 ≤ w ∧ w ≤ 2) → Q 2 none (alloc (CM m (upF F 708 100 (F 708 100 + 1)) A L) 22 0 6)) (hok : 0 ≤ i ∧ i < (nn : Int) → 0 ≤ w ∧ w ≤ 2 → ∀ (m' : Mem) (F' A' L' : Nat → Nat → Int), DK m' F' A' L' I R kb kd P ds nn b tp → Out m m' F F' A A' L L' → Q 0 (some (vI (priV (prS (R 3) i.toNat nn) w))) (CM m' F' A' L')) : Ex (d + 7) DD_prior 0 [some (vR 100), some (vI i), some (vI w), none, none] [] (CM m F A L) Q := by
  have hk11 := h.w.k100
  have hr713 := h.w.r713
  have hr709 := h.y.r709
  have hk5 := h.w.ov.1
  have hn6 := h.now.1
  have z12 : 0 ≤ i ∧ i < (nn : Int) → 0 ≤ w ∧ w ≤ 2 → Ex (d + 7) DD_prior 12 [some (vR 100), some (vI i), some (vI w), none, none] [] (CM m F A L) Q := by
    intro z zw
    have hok := hok z zw
    obtain ⟨a, rfl⟩ : ∃ a : Nat, i = (a : Int) := ⟨i.toNat, by omega⟩
    have ha : a < nn := by omega
    have hok : ∀ (m' : Mem) (F' A' L' : Nat → Nat → Int), DK m' F' A' L' I R kb kd P ds nn b tp → Out m m' F F' A A' L L' → Q 0 (some (vI (priV (prS (R 3) a nn) w))) (CM m' F' A' L') := hok
    have z24 : ∀ (x y : Nat) (F1 A1 : Nat → Nat → Int), DK (sOv m 310 x y) F1 A1 L I R kb kd P ds nn b tp → KA F1 a nn → Q 0 (some (vI (priV (prS (R 3) a nn) w))) (CM (sOv m 310 x y) F1 A1 L) → Ex (d + 7) DD_prior 24 [some (vR 100), some (vI (a : Int)), some (vI w), none, none] [] (CM (sOv m 310 x y) F1 A1 L) Q := by
      intro x y F1 A1 h1 hka hq
      have hk11 := h1.w.k100
      have hr713 := h1.w.r713
      have hk5 := h1.w.ov.1
      have hmb := fun (Q1 : Nat → Option AV → Mem → Prop) => d_mab (d := d + 3) (Q := Q1) h1 ha hka
      have ho : ∀ v : Int, v = priV (prS (R 3) a nn) w → Q 0 (some (vI v)) (CM (sOv m 310 x y) F1 A1 L) := fun v hv => by rw [hv]; exact hq
      unfold priV at ho
      rcases prS_form (T := R 3) (a := a) nn with z | ⟨f, z1, z2, z3⟩
      · rw [z] at ho hmb
        have h2 : w = 2 → Q 0 (some (vI (-1))) (CM (sOv m 310 x y) F1 A1 L) := fun q => ho _ (by rw [if_neg (by omega)])
        have h1 : w ≠ 2 → Q 0 (some (vI w)) (CM (sOv m 310 x y) F1 A1 L) := fun q => ho _ (by rw [if_pos (by omega)]; rfl)
        refine Ex_step (tk_DD_prior rfl) ?_
        refine Ex_step (tk_DD_prior rfl) ?_
        refine Ex_cV0 (av := [vI (a : Int)]) (tk_DD_prior rfl) mk_DD_mostAlikeBefore ⟨rfl, rfl, by decide, rfl, Nat.le_of_ble_eq_true rfl, Nat.le_of_ble_eq_true rfl⟩ (hk11) (fun _ h => hmb _ h) ?_
        refine Ex_step (tk_DD_prior rfl) ?_
        refine Ex_step (tk_DD_prior rfl) ?_
        refine Ex_step (tk_DD_prior rfl) ?_
        refine Ex_step (tk_DD_prior rfl) ⟨fun h32 => ?_, fun h32 => ?_⟩
        · try simp (disch := omega) only [cmpI, w32_b2i, b2i_0, b2i_1, w32_id, Classical.not_not, not_true_eq_false, not_false_eq_true] at h32
          refine Ex_step (tk_DD_prior rfl) ?_
          refine Ex_step (tk_DD_prior rfl) ?_
          refine Ex_step (tk_DD_prior rfl) ⟨fun h39 => ?_, fun h39 => ?_⟩
          · try simp (disch := omega) only [cmpI, w32_b2i, b2i_0, b2i_1, w32_id, Classical.not_not, not_true_eq_false, not_false_eq_true] at h39
            all_goals exact absurd rfl (by omega)
          · try simp (disch := omega) only [cmpI, w32_b2i, b2i_0, b2i_1, w32_id, Classical.not_not, not_true_eq_false, not_false_eq_true] at h39
            refine Ex_step (tk_DD_prior rfl) ?_
            refine Ex_step (tk_DD_prior rfl) ⟨rfl, ?_⟩
            first | exact h2 (by omega) | exact h1 (by omega)
        · try simp (disch := omega) only [cmpI, w32_b2i, b2i_0, b2i_1, w32_id, Classical.not_not, not_true_eq_false, not_false_eq_true] at h32
          refine Ex_step (tk_DD_prior rfl) ?_
          refine Ex_step (tk_DD_prior rfl) ⟨rfl, ?_⟩
          first | exact h2 (by omega) | exact h1 (by omega)
      · rw [z3] at ho hmb
        obtain ⟨d1, d2, d3⟩ := h1.bst ha z1 z2 hka
        obtain ⟨so, ao, u1, u2, u3, u4, u5, u6, u7, u8⟩ := crf_v d1 d2
        have hab := fun (Q1 : Nat → Option AV → Mem → Prop) => c_above (d := d + 4) (A := A1) (L := L) (Q := Q1) d3 u1 u2 (by omega) (by omega) u6
        have hbe := fun (Q1 : Nat → Option AV → Mem → Prop) => c_below (d := d + 4) (A := A1) (L := L) (Q := Q1) d3 u1 u2 (by omega) (by omega) u6
        have hb2 := fun (Q1 : Nat → Option AV → Mem → Prop) => c_bestOf (d := d + 6) (F := F1) (A := A1) (L := L) (Q := Q1) (a := a) (b := f) h1.w.ov (by omega) (by omega)
        have g2 : w = 2 → Q 0 (some (vI (f : Int))) (CM (sOv m 310 x y) F1 A1 L) := fun q => ho _ (by rw [if_neg (by omega)])
        have g0 : w = 0 → Q 0 (some (vI (trm so ao 0))) (CM (sOv m 310 x y) F1 A1 L) := fun q => ho _ (by rw [if_pos (by omega), trm_eq u7 u8, q])
        have g1 : w = 1 → Q 0 (some (vI (trm so ao 1))) (CM (sOv m 310 x y) F1 A1 L) := fun q => ho _ (by rw [if_pos (by omega), trm_eq u7 u8, q])
        refine Ex_step (tk_DD_prior rfl) ?_
        refine Ex_step (tk_DD_prior rfl) ?_
        refine Ex_cV0 (av := [vI (a : Int)]) (tk_DD_prior rfl) mk_DD_mostAlikeBefore ⟨rfl, rfl, by decide, rfl, Nat.le_of_ble_eq_true rfl, Nat.le_of_ble_eq_true rfl⟩ (hk11) (fun _ h => hmb _ h) ?_
        refine Ex_step (tk_DD_prior rfl) ?_
        refine Ex_step (tk_DD_prior rfl) ?_
        refine Ex_step (tk_DD_prior rfl) ?_
        refine Ex_step (tk_DD_prior rfl) ⟨fun h32 => ?_, fun h32 => ?_⟩
        · try simp (disch := omega) only [cmpI, w32_b2i, b2i_0, b2i_1, w32_id, Classical.not_not, not_true_eq_false, not_false_eq_true] at h32
          refine Ex_step (tk_DD_prior rfl) ?_
          refine Ex_step (tk_DD_prior rfl) ?_
          refine Ex_step (tk_DD_prior rfl) ⟨fun h39 => ?_, fun h39 => ?_⟩
          · try simp (disch := omega) only [cmpI, w32_b2i, b2i_0, b2i_1, w32_id, Classical.not_not, not_true_eq_false, not_false_eq_true] at h39
            refine Ex_step (tk_DD_prior rfl) ?_
            refine gCR (tk_DD_prior rfl) (hk11) (hr713) ?_
            refine Ex_step (tk_DD_prior rfl) ?_
            refine Ex_step (tk_DD_prior rfl) ?_
            refine Ex_cV0 (av := [vI (a : Int), vI (f : Int)]) (tk_DD_prior rfl) mk_Ov_bestOf ⟨rfl, rfl, by decide, rfl, Nat.le_of_ble_eq_true rfl, Nat.le_of_ble_eq_true rfl⟩ (hk5) (fun _ h => hb2 _ h) ?_
            refine Ex_step (tk_DD_prior rfl) ?_
            refine Ex_step (tk_DD_prior rfl) ?_
            refine Ex_step (tk_DD_prior rfl) ⟨fun h56 => ?_, fun h56 => ?_⟩
            · try simp (disch := omega) only [cmpI, w32_b2i, b2i_0, b2i_1, w32_id, Classical.not_not, not_true_eq_false, not_false_eq_true] at h56
              refine Ex_step (tk_DD_prior rfl) ?_
              refine Ex_cV0 (av := []) (tk_DD_prior rfl) mk_Best_below ⟨rfl, rfl, by decide, rfl, Nat.le_of_ble_eq_true rfl, Nat.le_of_ble_eq_true rfl⟩ (d3) (fun _ h => hbe _ h) ?_
              refine Ex_step (tk_DD_prior rfl) ⟨rfl, ?_⟩
              first | exact g2 (by omega) | exact g0 (by omega) | exact g1 (by omega)
            · try simp (disch := omega) only [cmpI, w32_b2i, b2i_0, b2i_1, w32_id, Classical.not_not, not_true_eq_false, not_false_eq_true] at h56
              refine Ex_step (tk_DD_prior rfl) ?_
              refine Ex_cV0 (av := []) (tk_DD_prior rfl) mk_Best_above ⟨rfl, rfl, by decide, rfl, Nat.le_of_ble_eq_true rfl, Nat.le_of_ble_eq_true rfl⟩ (d3) (fun _ h => hab _ h) ?_
              refine Ex_step (tk_DD_prior rfl) ?_
              refine Ex_step (tk_DD_prior rfl) ⟨rfl, ?_⟩
              first | exact g2 (by omega) | exact g0 (by omega) | exact g1 (by omega)
          · try simp (disch := omega) only [cmpI, w32_b2i, b2i_0, b2i_1, w32_id, Classical.not_not, not_true_eq_false, not_false_eq_true] at h39
            omega
        · try simp (disch := omega) only [cmpI, w32_b2i, b2i_0, b2i_1, w32_id, Classical.not_not, not_true_eq_false, not_false_eq_true] at h32
          refine Ex_step (tk_DD_prior rfl) ?_
          refine Ex_step (tk_DD_prior rfl) ⟨rfl, ?_⟩
          first | exact g2 (by omega) | exact g0 (by omega) | exact g1 (by omega)
    refine Ex_step (tk_DD_prior rfl) ?_
    refine gCR (tk_DD_prior rfl) (hk11) (hr713) ?_
    refine Ex_step (tk_DD_prior rfl) ?_
    refine gCR (tk_DD_prior rfl) (hk11) (hr709) ?_
    refine Ex_step (tk_DD_prior rfl) ?_
    refine Ex_cVK (av := [vR kb, vI (a : Int)]) (tk_DD_prior rfl) mk_Ov_learnFrom ⟨rfl, rfl, by decide, rfl, Nat.le_of_ble_eq_true rfl, Nat.le_of_ble_eq_true rfl⟩ (hk5) (d_learnFrom h ha (fun x y F1 A1 ko h1 hka => ⟨rfl, ?_⟩))
    have hq := hok _ F1 A1 L h1 ko.out
    exact z24 x y F1 A1 h1 hka hq
  have z5 : 0 ≤ i ∧ i < (nn : Int) → Ex (d + 7) DD_prior 5 [some (vR 100), some (vI i), some (vI w), none, none] [] (CM m F A L) Q := by
    intro z
    refine Ex_step (tk_DD_prior rfl) ?_
    refine Ex_step (tk_DD_prior rfl) ?_
    refine Ex_step (tk_DD_prior rfl) ?_
    refine Ex_step (tk_DD_prior rfl) ?_
    refine Ex_cVT (av := [vI w, vI 0, vI 2]) (tk_DD_prior rfl) mk_DD_needNumber ⟨rfl, rfl, by decide, rfl, Nat.le_of_ble_eq_true rfl, Nat.le_of_ble_eq_true rfl⟩ hk11 rfl (d_needNumber h hwo ⟨by decide, by decide⟩ ⟨by decide, by decide⟩ (fun z2 => ⟨fun q => absurd q (by decide), fun _ => hb2 z z2⟩) (fun z2 => ⟨fun _ => z12 z z2, fun q => absurd rfl q⟩))
  refine Ex_step (tk_DD_prior rfl) ?_
  refine Ex_step (tk_DD_prior rfl) ?_
  refine Ex_cVT (av := [vI i]) (tk_DD_prior rfl) mk_DD_needDesign ⟨rfl, rfl, by decide, rfl, Nat.le_of_ble_eq_true rfl, Nat.le_of_ble_eq_true rfl⟩ hk11 rfl (d_needDesign h hi (fun z => ⟨fun q => absurd q (by decide), fun _ => hb1 z⟩) (fun z => ⟨fun _ => z5 z, fun q => absurd rfl q⟩))
set_option maxRecDepth 100000 in
theorem d_infringes {ru : Option (List Tok)} (h : DK m F A L I R kb kd P ds nn b tp) (hX : RuX m A (mFR m 130 kb) ru) (hi : okI i) (hj : okI j) (hb1 : ¬ ((0 ≤ i ∧ i < (nn : Int)) ∧ 0 ≤ j ∧ j < (nn : Int)) → Q 1 none (alloc (CM m (upF F 707 100 (F 707 100 + 1)) A L) 22 0 6)) (hb2 : (0 ≤ i ∧ i < (nn : Int)) ∧ 0 ≤ j ∧ j < (nn : Int) → ¬ (i ≠ j) → Q 2 none (alloc (CM m (upF F 708 100 (F 708 100 + 1)) A L) 22 0 6)) (hok : (0 ≤ i ∧ i < (nn : Int)) ∧ 0 ≤ j ∧ j < (nn : Int) → i ≠ j → ∀ (m' : Mem) (F' A' L' : Nat → Nat → Int), DK m' F' A' L' I R kb kd P ds nn b tp → Out m m' F F' A A' L L' → Q 0 (some (vI (b2i (infB (R 3) ru nn i.toNat j.toNat = true)))) (CM m' F' A' L')) : Ex (d + 7) DD_infringes 0 [some (vR 100), some (vI i), some (vI j)] [] (CM m F A L) Q := by
  have hk11 := h.w.k100
  have hr713 := h.w.r713
  have hr709 := h.y.r709
  have hk5 := h.w.ov.1
  have hn6 := h.now.1
  have ob := isBk_out h.y.ib
  have z6 : (0 ≤ i ∧ i < (nn : Int)) ∧ 0 ≤ j ∧ j < (nn : Int) → i ≠ j → Ex (d + 7) DD_infringes 6 [some (vR 100), some (vI i), some (vI j)] [] (CM m F A L) Q := by
    intro z zij
    have hok := hok z zij
    obtain ⟨a, rfl⟩ : ∃ a : Nat, i = (a : Int) := ⟨i.toNat, by omega⟩
    obtain ⟨bb, rfl⟩ : ∃ bb : Nat, j = (bb : Int) := ⟨j.toNat, by omega⟩
    have ha : a < nn := by omega
    have hb : bb < nn := by omega
    have hok : ∀ (m' : Mem) (F' A' L' : Nat → Nat → Int), DK m' F' A' L' I R kb kd P ds nn b tp → Out m m' F F' A A' L L' → Q 0 (some (vI (b2i (infB (R 3) ru nn a bb = true)))) (CM m' F' A' L') := hok
    have z18 : ∀ (x y : Nat) (F1 A1 : Nat → Nat → Int), KO 310 F F1 A A1 → DK (sOv m 310 x y) F1 A1 L I R kb kd P ds nn b tp → KA F1 a nn → Ex (d + 7) DD_infringes 18 [some (vR 100), some (vI (a : Int)), some (vI (bb : Int))] [] (CM (sOv m 310 x y) F1 A1 L) Q := by
      intro x y F1 A1 ko h1 hka
      have hk11 := h1.w.k100
      have e130 : mFR (sOv m 310 x y) 130 kb = mFR m 130 kb := sOv_r m (Or.inl (by omega))
      have hX1 : RuX (sOv m 310 x y) A1 (mFR (sOv m 310 x y) 130 kb) ru := by
        rw [e130]
        rcases hX with w | ⟨w1, w2, ts, w3, ⟨w4, w5, w6⟩, w7, w8, w9⟩
        · exact Or.inl w
        · exact Or.inr ⟨w1, w2, ts, w3, ⟨w4, (sOv_r m (Or.inr (by decide))).trans w5, w6⟩, w7, by rw [ko.2.1 _ (Or.inr (by omega))]; exact w8, w9⟩
      have hfin : ∀ A2 L2 : Nat → Nat → Int, (∀ j, j ≠ 359 → A2 j = A1 j) → (∀ j, j ≠ 360 → L2 j = L j) → ∀ v : Int, v = b2i (infB (R 3) ru nn a bb = true) → Q 0 (some (vI v)) (CM (sOv m 310 x y) F1 A2 L2) := fun A2 L2 kA kL v hv => by
        rw [hv]
        exact hok _ F1 A2 L2 (h1.sc (fun j q => kA j (by omega)) (fun _ _ _ => rfl)) (ko.out2 (fun j q => kA j (by omega)) (fun j q => kL j (by omega)))
      by_cases w : infB (R 3) ru nn a bb = true
      · have hii := fun (Q1 : Nat → Option AV → Mem → Prop) => d_isInf (d := d + 1) (Q := Q1) h1 ha hb (by omega) hka hX1
        rw [show b2i (infB (R 3) ru nn a bb = true) = 1 from if_pos w] at hfin hii
        refine Ex_step (tk_DD_infringes rfl) ?_
        refine Ex_step (tk_DD_infringes rfl) ?_
        refine Ex_step (tk_DD_infringes rfl) ?_
        refine Ex_cVK (av := [vI (a : Int), vI (bb : Int)]) (tk_DD_infringes rfl) mk_DD_isInfringed ⟨rfl, rfl, by decide, rfl, Nat.le_of_ble_eq_true rfl, Nat.le_of_ble_eq_true rfl⟩ (hk11) (hii _ (fun A2 L2 kA kL => ⟨rfl, ?_⟩))
        refine Ex_step (tk_DD_infringes rfl) ⟨fun h24 => ?_, fun h24 => ?_⟩
        · replace h24 : _ := h24
          exact absurd (show w32 1 = w32 0 from h24) (by decide)
        · replace h24 : _ := h24
          refine Ex_step (tk_DD_infringes rfl) ?_
          refine Ex_step (tk_DD_infringes rfl) ?_
          refine Ex_step (tk_DD_infringes rfl) ⟨rfl, ?_⟩
          exact hfin A2 L2 kA kL _ rfl
      · have hii := fun (Q1 : Nat → Option AV → Mem → Prop) => d_isInf (d := d + 1) (Q := Q1) h1 ha hb (by omega) hka hX1
        rw [show b2i (infB (R 3) ru nn a bb = true) = 0 from if_neg w] at hfin hii
        refine Ex_step (tk_DD_infringes rfl) ?_
        refine Ex_step (tk_DD_infringes rfl) ?_
        refine Ex_step (tk_DD_infringes rfl) ?_
        refine Ex_cVK (av := [vI (a : Int), vI (bb : Int)]) (tk_DD_infringes rfl) mk_DD_isInfringed ⟨rfl, rfl, by decide, rfl, Nat.le_of_ble_eq_true rfl, Nat.le_of_ble_eq_true rfl⟩ (hk11) (hii _ (fun A2 L2 kA kL => ⟨rfl, ?_⟩))
        refine Ex_step (tk_DD_infringes rfl) ⟨fun h24 => ?_, fun h24 => ?_⟩
        · replace h24 : _ := h24
          refine Ex_step (tk_DD_infringes rfl) ?_
          refine Ex_step (tk_DD_infringes rfl) ⟨rfl, ?_⟩
          exact hfin A2 L2 kA kL _ rfl
        · replace h24 : _ := h24
          exact absurd rfl h24
    refine Ex_step (tk_DD_infringes rfl) ?_
    refine gCR (tk_DD_infringes rfl) (hk11) (hr713) ?_
    refine Ex_step (tk_DD_infringes rfl) ?_
    refine gCR (tk_DD_infringes rfl) (hk11) (hr709) ?_
    refine Ex_step (tk_DD_infringes rfl) ?_
    refine Ex_cVK (av := [vR kb, vI (a : Int)]) (tk_DD_infringes rfl) mk_Ov_learnFrom ⟨rfl, rfl, by decide, rfl, Nat.le_of_ble_eq_true rfl, Nat.le_of_ble_eq_true rfl⟩ (hk5) (d_learnFrom h ha (fun x y F1 A1 ko h1 hka => ⟨rfl, ?_⟩))
    exact z18 x y F1 A1 ko h1 hka
  refine Ex_step (tk_DD_infringes rfl) ?_
  refine Ex_step (tk_DD_infringes rfl) ?_
  refine Ex_step (tk_DD_infringes rfl) ?_
  refine Ex_cVT (av := [vI i, vI j]) (tk_DD_infringes rfl) mk_DD_needTwo ⟨rfl, rfl, by decide, rfl, Nat.le_of_ble_eq_true rfl, Nat.le_of_ble_eq_true rfl⟩ hk11 rfl (d_needTwo h hi hj (fun z => ⟨fun q => absurd q (by decide), fun _ => hb1 z⟩) (fun z1 z2 => ⟨fun q => absurd q (by decide), fun _ => hb2 z1 (fun q => q z2)⟩) (fun z1 z2 => ⟨fun _ => z6 z1 z2, fun q => absurd rfl q⟩))
set_option maxRecDepth 100000 in
theorem d_nearest (h : DK m F A L I R kb kd P ds nn b tp) (hi : okI i) (hb1 : ¬ (0 ≤ i ∧ i < (nn : Int)) → Q 1 none (alloc (CM m (upF F 707 100 (F 707 100 + 1)) A L) 22 0 6)) (hok : 0 ≤ i ∧ i < (nn : Int) → ∀ (m' : Mem) (F' A' L' : Nat → Nat → Int), DK m' F' A' L' I R kb kd P ds nn b tp → Out m m' F F' A A' L L' → Q 0 (some (vI (neS (R 3) i.toNat nn).1)) (CM m' F' A' L')) : Ex (d + 7) DD_nearest 0 [some (vR 100), some (vI i), none, none] [] (CM m F A L) Q := by
  have hk11 := h.w.k100
  have hr713 := h.w.r713
  have hr709 := h.y.r709
  have hk5 := h.w.ov.1
  have hn6 := h.now.1
  have ob := isBk_out h.y.ib
  have z5 : 0 ≤ i ∧ i < (nn : Int) → Ex (d + 7) DD_nearest 5 [some (vR 100), some (vI i), none, none] [] (CM m F A L) Q := by
    intro z
    have hok := hok z
    obtain ⟨a, rfl⟩ : ∃ a : Nat, i = (a : Int) := ⟨i.toNat, by omega⟩
    have ha : a < nn := by omega
    have hok : ∀ (m' : Mem) (F' A' L' : Nat → Nat → Int), DK m' F' A' L' I R kb kd P ds nn b tp → Out m m' F F' A A' L L' → Q 0 (some (vI (neS (R 3) a nn).1)) (CM m' F' A' L') := hok
    have z21 : ∀ (m1 : Mem) (F1 A1 : Nat → Nat → Int), DK m1 F1 A1 L I R kb kd P ds nn b tp → KA F1 a nn → Q 0 (some (vI (neS (R 3) a nn).1)) (CM m1 F1 A1 L) → ∀ (r n : Nat), n + r = nn → Ex (d + 7) DD_nearest 21 [some (vR 100), some (vI (a : Int)), some (vI (neS (R 3) a n).1), some (vI (n : Int))] [] (CM m1 F1 A1 L) Q := by
      intro m1 F1 A1 h1 hka hq r
      have hk11 := h1.w.k100
      have hr709 := h1.y.r709
      have hk2 := (h1.w.bks kb h1.y.ib).1
      have h129 := h1.bk.1
      induction r with
      | zero =>
        intro n hn
        have : n = nn := by omega
        subst this
        refine Ex_step (tk_DD_nearest rfl) ?_
        refine Ex_step (tk_DD_nearest rfl) ?_
        refine gCR (tk_DD_nearest rfl) (hk11) (hr709) ?_
        refine gCI (tk_DD_nearest rfl) (hk2) ?_
        rw [h129]
        refine Ex_step (tk_DD_nearest rfl) ⟨fun h29 => ?_, fun h29 => ?_⟩
        · try simp (disch := omega) only [cmpI, w32_b2i, b2i_0, b2i_1, w32_id, Classical.not_not, not_true_eq_false, not_false_eq_true] at h29
          refine Ex_step (tk_DD_nearest rfl) ?_
          refine Ex_step (tk_DD_nearest rfl) ⟨rfl, ?_⟩
          exact hq
        · try simp (disch := omega) only [cmpI, w32_b2i, b2i_0, b2i_1, w32_id, Classical.not_not, not_true_eq_false, not_false_eq_true] at h29
          omega
      | succ r ih =>
        intro n hn
        have hnx := ih (n + 1) (by omega)
        have z49 : ∀ v : Int, v = (neS (R 3) a (n + 1)).1 → Ex (d + 7) DD_nearest 49 [some (vR 100), some (vI (a : Int)), some (vI v), some (vI (n : Int))] [] (CM m1 F1 A1 L) Q := by
          intro v hv
          subst hv
          refine Ex_step (tk_DD_nearest rfl) ?_
          refine Ex_step (tk_DD_nearest rfl) ?_
          exact hnx
        have eS : neS (R 3) a (n + 1) = nstep (R 3) a n (neS (R 3) a n) := rfl
        have hno : ¬ (n ≠ a ∧ ((neS (R 3) a n).1 = -1 ∨ (neS (R 3) a n).2.1 * (bestS (R 3) a n).2.1 < (bestS (R 3) a n).1 * (neS (R 3) a n).2.2)) → (neS (R 3) a n).1 = (neS (R 3) a (n + 1)).1 := fun z => by
          rw [eS]
          unfold nstep
          rw [if_neg z]
        have hyes : (n ≠ a ∧ ((neS (R 3) a n).1 = -1 ∨ (neS (R 3) a n).2.1 * (bestS (R 3) a n).2.1 < (bestS (R 3) a n).1 * (neS (R 3) a n).2.2)) → (n : Int) = (neS (R 3) a (n + 1)).1 := fun z => by
          rw [eS]
          unfold nstep
          rw [if_pos z]
        have hfo : (neS (R 3) a n).1 = -1 ∨ ∃ f : Nat, f < nn ∧ f ≠ a ∧ (neS (R 3) a n).1 = (f : Int) ∧ (neS (R 3) a n).2.1 = (bestS (R 3) a f).1 ∧ (neS (R 3) a n).2.2 = (bestS (R 3) a f).2.1 := by
          rcases neS_form (T := R 3) (a := a) n with z | ⟨f, z1, z2, z3⟩
          · exact Or.inl (by rw [z])
          · exact Or.inr ⟨f, by omega, z2, by rw [z3], by rw [z3], by rw [z3]⟩
        generalize (neS (R 3) a (n + 1)).1 = nx at *
        generalize neS (R 3) a n = S at *
        have z37 : n ≠ a → Ex (d + 7) DD_nearest 37 [some (vR 100), some (vI (a : Int)), some (vI S.1), some (vI (n : Int))] [] (CM m1 F1 A1 L) Q := by
          intro hna
          have him := fun (Q1 : Nat → Option AV → Mem → Prop) => d_isMore (d := d + 4) (Q := Q1) h1 ha (show n < nn by omega) hna hka hfo
          refine Ex_step (tk_DD_nearest rfl) ?_
          refine Ex_step (tk_DD_nearest rfl) ?_
          refine Ex_step (tk_DD_nearest rfl) ?_
          refine Ex_step (tk_DD_nearest rfl) ?_
          refine Ex_cV0 (av := [vI (a : Int), vI (n : Int), vI S.1]) (tk_DD_nearest rfl) mk_DD_isMoreAlike ⟨rfl, rfl, by decide, rfl, Nat.le_of_ble_eq_true rfl, Nat.le_of_ble_eq_true rfl⟩ (hk11) (fun _ h => him _ h) ?_
          refine Ex_step (tk_DD_nearest rfl) ⟨fun h44 => ?_, fun h44 => ?_⟩
          · try simp (disch := omega) only [cmpI, w32_b2i, b2i_0, b2i_1, w32_id, Classical.not_not, not_true_eq_false, not_false_eq_true] at h44
            first | exact z49 _ (hno (fun z => h44 z.2)) | exact z49 _ (hyes ⟨hna, h44⟩) | exact z49 _ (hyes ⟨hna, Classical.not_not.mp h44⟩)
          · try simp (disch := omega) only [cmpI, w32_b2i, b2i_0, b2i_1, w32_id, Classical.not_not, not_true_eq_false, not_false_eq_true] at h44
            refine Ex_step (tk_DD_nearest rfl) ?_
            refine Ex_step (tk_DD_nearest rfl) ?_
            first | exact z49 _ (hno (fun z => h44 z.2)) | exact z49 _ (hyes ⟨hna, h44⟩) | exact z49 _ (hyes ⟨hna, Classical.not_not.mp h44⟩)
        refine Ex_step (tk_DD_nearest rfl) ?_
        refine Ex_step (tk_DD_nearest rfl) ?_
        refine gCR (tk_DD_nearest rfl) (hk11) (hr709) ?_
        refine gCI (tk_DD_nearest rfl) (hk2) ?_
        rw [h129]
        refine Ex_step (tk_DD_nearest rfl) ⟨fun h29 => ?_, fun h29 => ?_⟩
        · try simp (disch := omega) only [cmpI, w32_b2i, b2i_0, b2i_1, w32_id, Classical.not_not, not_true_eq_false, not_false_eq_true] at h29
          omega
        · try simp (disch := omega) only [cmpI, w32_b2i, b2i_0, b2i_1, w32_id, Classical.not_not, not_true_eq_false, not_false_eq_true] at h29
          refine Ex_step (tk_DD_nearest rfl) ?_
          refine Ex_step (tk_DD_nearest rfl) ?_
          refine Ex_step (tk_DD_nearest rfl) ⟨fun h34 => ?_, fun h34 => ?_⟩
          · try simp (disch := omega) only [cmpI, w32_b2i, b2i_0, b2i_1, w32_id, Classical.not_not, not_true_eq_false, not_false_eq_true] at h34
            exact z49 _ (hno (fun z => z.1 (by omega)))
          · try simp (disch := omega) only [cmpI, w32_b2i, b2i_0, b2i_1, w32_id, Classical.not_not, not_true_eq_false, not_false_eq_true] at h34
            exact z37 (by omega)
    refine Ex_step (tk_DD_nearest rfl) ?_
    refine gCR (tk_DD_nearest rfl) (hk11) (hr713) ?_
    refine Ex_step (tk_DD_nearest rfl) ?_
    refine gCR (tk_DD_nearest rfl) (hk11) (hr709) ?_
    refine Ex_step (tk_DD_nearest rfl) ?_
    refine Ex_cVK (av := [vR kb, vI (a : Int)]) (tk_DD_nearest rfl) mk_Ov_learnFrom ⟨rfl, rfl, by decide, rfl, Nat.le_of_ble_eq_true rfl, Nat.le_of_ble_eq_true rfl⟩ (hk5) (d_learnFrom h ha (fun x y F1 A1 ko h1 hka => ⟨rfl, ?_⟩))
    refine Ex_step (tk_DD_nearest rfl) ?_
    refine Ex_step (tk_DD_nearest rfl) ?_
    refine Ex_step (tk_DD_nearest rfl) ?_
    refine Ex_step (tk_DD_nearest rfl) ?_
    exact z21 _ F1 A1 h1 hka (hok _ F1 A1 L h1 ko.out) nn 0 (by omega)
  refine Ex_step (tk_DD_nearest rfl) ?_
  refine Ex_step (tk_DD_nearest rfl) ?_
  refine Ex_cVT (av := [vI i]) (tk_DD_nearest rfl) mk_DD_needDesign ⟨rfl, rfl, by decide, rfl, Nat.le_of_ble_eq_true rfl, Nat.le_of_ble_eq_true rfl⟩ hk11 rfl (d_needDesign h hi (fun z => ⟨fun q => absurd q (by decide), fun _ => hb1 z⟩) (fun z => ⟨fun _ => z5 z, fun q => absurd rfl q⟩))
end Ask
