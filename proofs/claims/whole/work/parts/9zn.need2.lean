/-! ===== the class: what is asked of a call's numbers ===== -/
section CallsT
variable {d y pc : Nat} {ls : Ls} {r : List AV} {m : Mem} {Q : Nat → Option AV → Mem → Prop} {nx idx : Nat} {rs : List Nat} {c0 : Int} {av : List AV}
set_option maxRecDepth 100000 in
theorem Ex_cVT {y1 a : Nat} (hk : okE y pc (.invokevirtual idx, nx, rs, c0)) (hm : mOk y1) (h9 : n1 (.invokevirtual idx, nx, rs, c0) = y1 ∧ mI y1 0 = 0 ∧ (mNm y1).name ≠ "<init>" ∧ av.length = mI y1 2 ∧ catS r ≤ 8 ∧ (laySl (vR a :: av)).length ≤ mL y1) (hka : mK m a = mI y1 1) (hmh : mH y = []) (h : Ex d y1 0 (entL y1 (vR a :: av)) [] m (fun o v m2 => (o = 0 → Ex (d + 1) y nx ls (v.toList ++ r) m2 Q) ∧ (o ≠ 0 → Q o none m2))) : Ex (d + 1) y pc ls (av.reverse ++ vR a :: r) m Q :=
  Ex_cV hk hm h9 hka h (fun _ _ _ q => ⟨q.1, fun z => ⟨hmh, q.2 z⟩⟩)
end CallsT
section Needs
variable {d : Nat} {m : Mem} {F A L : Nat → Nat → Int} {I : Nat → Int} {R : Nat → Nat → Int} {kb kd : Nat} {P : Nat → Nat} {ds : Nat → Nat → Nat} {nn b tp : Nat} {Q : Nat → Option AV → Mem → Prop} {i j x y : Int}
set_option maxRecDepth 100000 in
theorem d_needDesign (h : DK m F A L I R kb kd P ds nn b tp) (hi : okI i) (hbad : ¬ (0 ≤ i ∧ i < (nn : Int)) → Q 1 none (alloc (CM m (upF F 707 100 (F 707 100 + 1)) A L) 22 0 6)) (hok : 0 ≤ i ∧ i < (nn : Int) → Q 0 none (CM m F A L)) : Ex d DD_needDesign 0 [some (vR 100), some (vI i)] [] (CM m F A L) Q := by
  have hk11 := h.w.k100
  have hr709 := h.y.r709
  have hk2 := (h.w.bks kb h.y.ib).1
  have h129 := h.bk.1
  have hn6 := h.now.1
  have hio : -2147483648 ≤ i ∧ i ≤ 2147483647 := hi
  have hth : ¬ (0 ≤ i ∧ i < (nn : Int)) → Ex d DD_needDesign 15 [some (vR 100), some (vI i)] [] (CM m F A L) Q := by
    intro z
    have hq := hbad z
    refine Ex_step (tk_DD_needDesign rfl) ?_
    refine Ex_step (tk_DD_needDesign rfl) ?_
    refine gCI (tk_DD_needDesign rfl) (hk11) ?_
    refine Ex_step (tk_DD_needDesign rfl) ?_
    refine Ex_step (tk_DD_needDesign rfl) ?_
    refine pCI (tk_DD_needDesign rfl) (hk11) ?_
    exact Ex_throw th_needDesign (by decide) rfl (Nat.le_of_ble_eq_true rfl) hq
  refine Ex_step (tk_DD_needDesign rfl) ?_
  refine Ex_step (tk_DD_needDesign rfl) ⟨fun h1 => ?_, fun h1 => ?_⟩
  · try simp (disch := omega) only [cmpI, w32_b2i, b2i_0, b2i_1, w32_id, Classical.not_not, not_true_eq_false, not_false_eq_true] at h1
    exact hth (by omega)
  · try simp (disch := omega) only [cmpI, w32_b2i, b2i_0, b2i_1, w32_id, Classical.not_not, not_true_eq_false, not_false_eq_true] at h1
    refine Ex_step (tk_DD_needDesign rfl) ?_
    refine Ex_step (tk_DD_needDesign rfl) ?_
    refine gCR (tk_DD_needDesign rfl) (hk11) (hr709) ?_
    refine gCI (tk_DD_needDesign rfl) (hk2) ?_
    rw [h129]
    refine Ex_step (tk_DD_needDesign rfl) ⟨fun h12 => ?_, fun h12 => ?_⟩
    · try simp (disch := omega) only [cmpI, w32_b2i, b2i_0, b2i_1, w32_id, Classical.not_not, not_true_eq_false, not_false_eq_true] at h12
      refine Ex_step (tk_DD_needDesign rfl) ⟨rfl, ?_⟩
      exact hok (by omega)
    · try simp (disch := omega) only [cmpI, w32_b2i, b2i_0, b2i_1, w32_id, Classical.not_not, not_true_eq_false, not_false_eq_true] at h12
      exact hth (by omega)
set_option maxRecDepth 100000 in
theorem d_needNumber {lo hi : Int} (h : DK m F A L I R kb kd P ds nn b tp) (hx : okI x) (hlo : okI lo) (hhi : okI hi) (hbad : ¬ (lo ≤ x ∧ x ≤ hi) → Q 2 none (alloc (CM m (upF F 708 100 (F 708 100 + 1)) A L) 22 0 6)) (hok : lo ≤ x ∧ x ≤ hi → Q 0 none (CM m F A L)) : Ex d DD_needNumber 0 [some (vR 100), some (vI x), some (vI lo), some (vI hi)] [] (CM m F A L) Q := by
  have hk11 := h.w.k100
  have hxo : -2147483648 ≤ x ∧ x ≤ 2147483647 := hx
  have hloo : -2147483648 ≤ lo ∧ lo ≤ 2147483647 := hlo
  have hhio : -2147483648 ≤ hi ∧ hi ≤ 2147483647 := hhi
  have hth : ¬ (lo ≤ x ∧ x ≤ hi) → Ex d DD_needNumber 10 [some (vR 100), some (vI x), some (vI lo), some (vI hi)] [] (CM m F A L) Q := by
    intro z
    have hq := hbad z
    refine Ex_step (tk_DD_needNumber rfl) ?_
    refine Ex_step (tk_DD_needNumber rfl) ?_
    refine gCI (tk_DD_needNumber rfl) (hk11) ?_
    refine Ex_step (tk_DD_needNumber rfl) ?_
    refine Ex_step (tk_DD_needNumber rfl) ?_
    refine pCI (tk_DD_needNumber rfl) (hk11) ?_
    exact Ex_throw th_needNumber (by decide) rfl (Nat.le_of_ble_eq_true rfl) hq
  refine Ex_step (tk_DD_needNumber rfl) ?_
  refine Ex_step (tk_DD_needNumber rfl) ?_
  refine Ex_step (tk_DD_needNumber rfl) ⟨fun h2 => ?_, fun h2 => ?_⟩
  · try simp (disch := omega) only [cmpI, w32_b2i, b2i_0, b2i_1, w32_id, Classical.not_not, not_true_eq_false, not_false_eq_true] at h2
    exact hth (by omega)
  · try simp (disch := omega) only [cmpI, w32_b2i, b2i_0, b2i_1, w32_id, Classical.not_not, not_true_eq_false, not_false_eq_true] at h2
    refine Ex_step (tk_DD_needNumber rfl) ?_
    refine Ex_step (tk_DD_needNumber rfl) ?_
    refine Ex_step (tk_DD_needNumber rfl) ⟨fun h7 => ?_, fun h7 => ?_⟩
    · try simp (disch := omega) only [cmpI, w32_b2i, b2i_0, b2i_1, w32_id, Classical.not_not, not_true_eq_false, not_false_eq_true] at h7
      refine Ex_step (tk_DD_needNumber rfl) ⟨rfl, ?_⟩
      exact hok (by omega)
    · try simp (disch := omega) only [cmpI, w32_b2i, b2i_0, b2i_1, w32_id, Classical.not_not, not_true_eq_false, not_false_eq_true] at h7
      exact hth (by omega)
set_option maxRecDepth 100000 in
theorem d_needCell (h : DK m F A L I R kb kd P ds nn b tp) (hi : okI i) (hx : okI x) (hy : okI y) (hbad : ¬ ((0 ≤ i ∧ i < (nn : Int)) ∧ inG (R 3) i.toNat x y) → Q 1 none (alloc (CM m (upF F 707 100 (F 707 100 + 1)) A L) 22 0 6)) (hok : (0 ≤ i ∧ i < (nn : Int)) ∧ inG (R 3) i.toNat x y → Q 0 none (CM m F A L)) : Ex (d + 1) DD_needCell 0 [some (vR 100), some (vI i), some (vI x), some (vI y)] [] (CM m F A L) Q := by
  have hk11 := h.w.k100
  have hr709 := h.y.r709
  have hBW := h.y.bw h.w h.y.ib
  have hk2 := hBW.1
  have hr128 := hBW.2.1
  have hn6 := h.now.1
  have hio : -2147483648 ≤ i ∧ i ≤ 2147483647 := hi
  have h5 : 0 ≤ i ∧ i < (nn : Int) → Ex (d + 1) DD_needCell 5 [some (vR 100), some (vI i), some (vI x), some (vI y)] [] (CM m F A L) Q := by
    intro z
    obtain ⟨dd, rfl⟩ : ∃ dd : Nat, i = (dd : Int) := ⟨i.toNat, by omega⟩
    have hd : dd < nn := by omega
    have hdW := h.now.2.2.2 dd hd
    have g := h.bk.2 dd hd
    have hk3 := (hBW.2.2.2.2 dd (by omega)).2.1
    have hhc := fun (Q1 : Nat → Option AV → Mem → Prop) => c_hasCell (d := d) (A := A) (L := L) (Q := Q1) hk3 g.2.1 g.2.2.1 (by have := hdW.2.1; omega) (by have := hdW.2.2.1; omega) hx hy
    have hth : ¬ inG (R 3) dd x y → Ex (d + 1) DD_needCell 22 [some (vR 100), some (vI (dd : Int)), some (vI x), some (vI y)] [] (CM m F A L) Q := by
      intro z2
      have hq := hbad (fun q => z2 q.2)
      refine Ex_step (tk_DD_needCell rfl) ?_
      refine Ex_step (tk_DD_needCell rfl) ?_
      refine gCI (tk_DD_needCell rfl) (hk11) ?_
      refine Ex_step (tk_DD_needCell rfl) ?_
      refine Ex_step (tk_DD_needCell rfl) ?_
      refine pCI (tk_DD_needCell rfl) (hk11) ?_
      exact Ex_throw th_needCell (by decide) rfl (Nat.le_of_ble_eq_true rfl) hq
    have hok2 : inG (R 3) dd x y → Q 0 none (CM m F A L) := fun z2 => hok ⟨z, z2⟩
    refine Ex_step (tk_DD_needCell rfl) ?_
    refine gCR (tk_DD_needCell rfl) (hk11) (hr709) ?_
    refine gCR (tk_DD_needCell rfl) (hk2) (hr128) ?_
    refine Ex_step (tk_DD_needCell rfl) ?_
    refine lCR (n := dd) (tk_DD_needCell rfl) (⟨⟨by rw [hBW.2.2.1]; decide, by rw [hBW.2.2.1]; decide⟩, hBW.2.2.2.1, (hBW.2.2.2.2 dd (by omega)).1⟩) (w32_id (by omega) (by omega)) (by omega) ?_
    refine Ex_step (tk_DD_needCell rfl) ?_
    refine Ex_step (tk_DD_needCell rfl) ?_
    refine Ex_cV0 (av := [vI x, vI y]) (tk_DD_needCell rfl) mk_Des_hasCell ⟨rfl, rfl, by decide, rfl, Nat.le_of_ble_eq_true rfl, Nat.le_of_ble_eq_true rfl⟩ (hk3) (fun _ h => hhc _ h) ?_
    refine Ex_step (tk_DD_needCell rfl) ⟨fun h19 => ?_, fun h19 => ?_⟩
    · try simp (disch := omega) only [cmpI, w32_b2i, b2i_0, b2i_1, w32_id, Classical.not_not, not_true_eq_false, not_false_eq_true] at h19
      refine Ex_step (tk_DD_needCell rfl) ⟨rfl, ?_⟩
      exact hok2 (by unfold inG; omega)
    · try simp (disch := omega) only [cmpI, w32_b2i, b2i_0, b2i_1, w32_id, Classical.not_not, not_true_eq_false, not_false_eq_true] at h19
      exact hth (by unfold inG; omega)
  refine Ex_step (tk_DD_needCell rfl) ?_
  refine Ex_step (tk_DD_needCell rfl) ?_
  refine Ex_cVT (av := [vI i]) (tk_DD_needCell rfl) mk_DD_needDesign ⟨rfl, rfl, by decide, rfl, Nat.le_of_ble_eq_true rfl, Nat.le_of_ble_eq_true rfl⟩ hk11 rfl (d_needDesign h hi (fun z => ⟨fun q => absurd q (by decide), fun _ => hbad (fun q => z q.1)⟩) (fun z => ⟨fun _ => h5 z, fun q => absurd rfl q⟩))
set_option maxRecDepth 100000 in
theorem d_needTwo (h : DK m F A L I R kb kd P ds nn b tp) (hi : okI i) (hj : okI j) (hb1 : ¬ ((0 ≤ i ∧ i < (nn : Int)) ∧ 0 ≤ j ∧ j < (nn : Int)) → Q 1 none (alloc (CM m (upF F 707 100 (F 707 100 + 1)) A L) 22 0 6)) (hb2 : (0 ≤ i ∧ i < (nn : Int)) ∧ 0 ≤ j ∧ j < (nn : Int) → i = j → Q 2 none (alloc (CM m (upF F 708 100 (F 708 100 + 1)) A L) 22 0 6)) (hok : (0 ≤ i ∧ i < (nn : Int)) ∧ 0 ≤ j ∧ j < (nn : Int) → i ≠ j → Q 0 none (CM m F A L)) : Ex (d + 1) DD_needTwo 0 [some (vR 100), some (vI i), some (vI j)] [] (CM m F A L) Q := by
  have hk11 := h.w.k100
  have hn6 := h.now.1
  have hio : -2147483648 ≤ i ∧ i ≤ 2147483647 := hi
  have hjo : -2147483648 ≤ j ∧ j ≤ 2147483647 := hj
  have h10 : (0 ≤ i ∧ i < (nn : Int)) ∧ 0 ≤ j ∧ j < (nn : Int) → Ex (d + 1) DD_needTwo 10 [some (vR 100), some (vI i), some (vI j)] [] (CM m F A L) Q := by
    intro z
    have z2 := hb2 z
    have z3 := hok z
    refine Ex_step (tk_DD_needTwo rfl) ?_
    refine Ex_step (tk_DD_needTwo rfl) ?_
    refine Ex_step (tk_DD_needTwo rfl) ⟨fun h12 => ?_, fun h12 => ?_⟩
    · try simp (disch := omega) only [cmpI, w32_b2i, b2i_0, b2i_1, w32_id, Classical.not_not, not_true_eq_false, not_false_eq_true] at h12
      refine Ex_step (tk_DD_needTwo rfl) ⟨rfl, ?_⟩
      exact z3 (by omega)
    · try simp (disch := omega) only [cmpI, w32_b2i, b2i_0, b2i_1, w32_id, Classical.not_not, not_true_eq_false, not_false_eq_true] at h12
      refine Ex_step (tk_DD_needTwo rfl) ?_
      refine Ex_step (tk_DD_needTwo rfl) ?_
      refine gCI (tk_DD_needTwo rfl) (hk11) ?_
      refine Ex_step (tk_DD_needTwo rfl) ?_
      refine Ex_step (tk_DD_needTwo rfl) ?_
      refine pCI (tk_DD_needTwo rfl) (hk11) ?_
      exact Ex_throwW th_needTwo (by decide) rfl (Nat.le_of_ble_eq_true rfl) (z2 (by omega))
  have h5 : 0 ≤ i ∧ i < (nn : Int) → Ex (d + 1) DD_needTwo 5 [some (vR 100), some (vI i), some (vI j)] [] (CM m F A L) Q := by
    intro z
    refine Ex_step (tk_DD_needTwo rfl) ?_
    refine Ex_step (tk_DD_needTwo rfl) ?_
    refine Ex_cVT (av := [vI j]) (tk_DD_needTwo rfl) mk_DD_needDesign ⟨rfl, rfl, by decide, rfl, Nat.le_of_ble_eq_true rfl, Nat.le_of_ble_eq_true rfl⟩ hk11 rfl (d_needDesign h hj (fun z2 => ⟨fun q => absurd q (by decide), fun _ => hb1 (fun q => z2 q.2)⟩) (fun z2 => ⟨fun _ => h10 ⟨z, z2⟩, fun q => absurd rfl q⟩))
  refine Ex_step (tk_DD_needTwo rfl) ?_
  refine Ex_step (tk_DD_needTwo rfl) ?_
  refine Ex_cVT (av := [vI i]) (tk_DD_needTwo rfl) mk_DD_needDesign ⟨rfl, rfl, by decide, rfl, Nat.le_of_ble_eq_true rfl, Nat.le_of_ble_eq_true rfl⟩ hk11 rfl (d_needDesign h hi (fun z2 => ⟨fun q => absurd q (by decide), fun _ => hb1 (fun q => z2 q.1)⟩) (fun z2 => ⟨fun _ => h5 z2, fun q => absurd rfl q⟩))
end Needs
