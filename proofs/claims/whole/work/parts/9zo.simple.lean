/-! ===== the class: fault, status, told, cell, feed ===== -/
set_option maxRecDepth 100000 in
theorem ib_ushr (x : Int) {s : Nat} (h : s < 32) (i : Nat) : ib (iUshr x (s : Int)) i = ib x (s + i) := by
  have e1 : ib (iUshr x (s : Int)) i = (u32 (iUshr x (s : Int))).testBit i := by
    unfold ib u32
    rw [BitVec.testBit_toNat]
  have e2 : ib x (s + i) = (u32 x).testBit (s + i) := by
    unfold ib u32
    rw [BitVec.testBit_toNat]
  rw [e1, e2, u32_ushr x h, Nat.testBit_shiftRight]
set_option maxRecDepth 100000 in
theorem ib_shr (x : Int) {s : Nat} (h : s < 32) (i : Nat) (h2 : s + i < 32) : ib (iShr x (s : Int)) i = ib x (s + i) := by
  unfold ib iShr
  rw [Int32.ofInt_toInt, Int32.toBitVec_shiftRight, BitVec.sshiftRight_eq']
  rw [show ((Int32.ofInt (s : Int) &&& 31).toBitVec.smod 32).toNat = s from ish_am s h, BitVec.getLsbD_sshiftRight, if_pos h2]
  simp only [show ¬ 32 ≤ i by omega, decide_false, Bool.not_false, Bool.true_and]
set_option maxRecDepth 100000 in
theorem ib_255 : ∀ i, i < 32 → 8 ≤ i → ib 255 i = false := by decide +kernel
set_option maxRecDepth 100000 in
theorem w32_and (x y : Int) : w32 (iAnd x y) = iAnd x y := by
  unfold w32 iAnd
  rw [Int32.ofInt_toInt]
set_option maxRecDepth 100000 in
theorem byte_eq (x : Int) {s : Nat} (h : s ≤ 24) : iAnd (iUshr x (s : Int)) 255 = iAnd (iShr x (s : Int)) 255 := by
  have z : w32 (iAnd (iUshr x (s : Int)) 255) = w32 (iAnd (iShr x (s : Int)) 255) := ib_ext (fun i hi => by
    rw [ib_and, ib_and]
    by_cases q : i < 8
    · rw [ib_ushr x (by omega), ib_shr x (by omega) i (by omega)]
    · rw [ib_255 i hi (by omega), Bool.and_false, Bool.and_false])
  rw [w32_and, w32_and] at z
  exact z
set_option maxRecDepth 100000 in
theorem upF_same (F : Nat → Nat → Int) (f a : Nat) (v w : Int) : upF (upF F f a v) f a w = upF F f a w := by
  funext f2 a2
  unfold upF
  by_cases z : f2 = f ∧ a2 = a
  · rw [if_pos z, if_pos z]
  · rw [if_neg z, if_neg z, if_neg z]
set_option maxRecDepth 100000 in
theorem upF_self {F : Nat → Nat → Int} {f a : Nat} {v : Int} (h : F f a = v) : upF F f a v = F := by
  funext f2 a2
  unfold upF
  by_cases z : f2 = f ∧ a2 = a
  · rw [if_pos z, z.1, z.2, h]
  · rw [if_neg z]
section Simple
variable {d : Nat} {m : Mem} {F A L : Nat → Nat → Int} {I : Nat → Int} {R : Nat → Nat → Int} {kb kd : Nat} {P : Nat → Nat} {ds : Nat → Nat → Nat} {nn b tp : Nat} {Q : Nat → Option AV → Mem → Prop} {i j x y : Int}
set_option maxRecDepth 100000 in
theorem d_fault (h : DK m F A L I R kb kd P ds nn b tp) (hq : Q 0 (some (vI (I 5))) (CM m F A L)) : Ex d DD_fault 0 [some (vR 100)] [] (CM m F A L) Q := by
  have hk11 := h.w.k100
  rw [← h.f706] at hq
  refine Ex_step (tk_DD_fault rfl) ?_
  refine gCI (tk_DD_fault rfl) (hk11) ?_
  refine Ex_step (tk_DD_fault rfl) ⟨rfl, ?_⟩
  exact hq
set_option maxRecDepth 100000 in
theorem d_status (h : DK m F A L I R kb kd P ds nn b tp) (hi : okI i) (hq : Q 0 (some (vI (if 0 ≤ i ∧ i ≤ 1 then R 1 i.toNat else -1))) (CM m F A L)) : Ex d DD_status 0 [some (vR 100), some (vI i)] [] (CM m F A L) Q := by
  have hk11 := h.w.k100
  have hio : -2147483648 ≤ i ∧ i ≤ 2147483647 := hi
  have g0 : i = 0 → Q 0 (some (vI (F 707 100))) (CM m F A L) := fun z => by
    rw [if_pos (by omega), z] at hq
    rw [h.f707]
    exact hq
  have g1 : i = 1 → Q 0 (some (vI (F 708 100))) (CM m F A L) := fun z => by
    rw [if_pos (by omega), z] at hq
    rw [h.f708]
    exact hq
  have g2 : i ≠ 0 → i ≠ 1 → Q 0 (some (vI (-1))) (CM m F A L) := fun z1 z2 => by
    rw [if_neg (by omega)] at hq
    exact hq
  refine Ex_step (tk_DD_status rfl) ?_
  refine Ex_step (tk_DD_status rfl) ⟨fun h1 => ?_, fun h1 => ?_⟩
  · try simp (disch := omega) only [cmpI, w32_b2i, b2i_0, b2i_1, w32_id, Classical.not_not, not_true_eq_false, not_false_eq_true] at h1
    refine Ex_step (tk_DD_status rfl) ?_
    refine Ex_step (tk_DD_status rfl) ?_
    refine Ex_step (tk_DD_status rfl) ⟨fun h11 => ?_, fun h11 => ?_⟩
    · try simp (disch := omega) only [cmpI, w32_b2i, b2i_0, b2i_1, w32_id, Classical.not_not, not_true_eq_false, not_false_eq_true] at h11
      refine Ex_step (tk_DD_status rfl) ?_
      refine Ex_step (tk_DD_status rfl) ⟨rfl, ?_⟩
      first | exact g0 (by omega) | exact g1 (by omega) | exact g2 (by omega) (by omega)
    · try simp (disch := omega) only [cmpI, w32_b2i, b2i_0, b2i_1, w32_id, Classical.not_not, not_true_eq_false, not_false_eq_true] at h11
      refine Ex_step (tk_DD_status rfl) ?_
      refine gCI (tk_DD_status rfl) (hk11) ?_
      refine Ex_step (tk_DD_status rfl) ?_
      refine Ex_step (tk_DD_status rfl) ⟨rfl, ?_⟩
      first | exact g0 (by omega) | exact g1 (by omega) | exact g2 (by omega) (by omega)
  · try simp (disch := omega) only [cmpI, w32_b2i, b2i_0, b2i_1, w32_id, Classical.not_not, not_true_eq_false, not_false_eq_true] at h1
    refine Ex_step (tk_DD_status rfl) ?_
    refine gCI (tk_DD_status rfl) (hk11) ?_
    refine Ex_step (tk_DD_status rfl) ⟨rfl, ?_⟩
    first | exact g0 (by omega) | exact g1 (by omega) | exact g2 (by omega) (by omega)
set_option maxRecDepth 100000 in
theorem d_told (h : DK m F A L I R kb kd P ds nn b tp) (hi : okI i) (hbad : ¬ (0 ≤ i ∧ i ≤ 3) → Q 2 none (alloc (CM m (upF F 708 100 (F 708 100 + 1)) A L) 22 0 6)) (hok : 0 ≤ i ∧ i ≤ 3 → Q 0 (some (vI (if i < 2 then R 3 i.toNat else if i = 2 then I 2 else I 12))) (CM m F A L)) : Ex (d + 1) DD_told 0 [some (vR 100), some (vI i)] [] (CM m F A L) Q := by
  have hk11 := h.w.k100
  have hr709 := h.y.r709
  have hr711 := h.w.r711
  have hk4 := h.w.k142
  have hk2 := (h.w.bks kb h.y.ib).1
  have h129 := h.bk.1
  have h7 : 0 ≤ i ∧ i ≤ 3 → Ex (d + 1) DD_told 7 [some (vR 100), some (vI i)] [] (CM m F A L) Q := by
    intro z
    have hq := hok z
    have hc : i = 0 ∨ i = 1 ∨ i = 2 ∨ i = 3 := by omega
    have hu := h.ru
    rcases hc with rfl | rfl | rfl | rfl
    · rw [if_pos (by decide)] at hq
      have e : R 3 (Int.toNat 0) = (nn : Int) := h.now.2.1
      rw [e, ← h129] at hq
      have h36 : Ex (d + 1) DD_told 36 [some (vR 100), some (vI 0)] [] (CM m F A L) Q := by
        refine Ex_step (tk_DD_told rfl) ?_
        refine gCR (tk_DD_told rfl) (hk11) (hr709) ?_
        refine gCI (tk_DD_told rfl) (hk2) ?_
        refine Ex_step (tk_DD_told rfl) ⟨rfl, ?_⟩
        exact hq
      refine Ex_step (tk_DD_told rfl) ?_
      refine Ex_step (tk_DD_told rfl) ?_
      exact h36
    · rw [if_pos (by decide)] at hq
      have hq : Q 0 (some (vI (R 3 1))) (CM m F A L) := hq
      have h0 : mFR m 130 kb = 0 → Q 0 (some (vI 0)) (CM m F A L) := fun z => by
        rcases hu with w | w
        · rw [w.2] at hq; exact hq
        · have := w.1; omega
      have h1 : mFR m 130 kb ≠ 0 → Q 0 (some (vI 1)) (CM m F A L) := fun z => by
        rcases hu with w | w
        · exact absurd w.1 z
        · rw [w.2.2.1] at hq; exact hq
      have h99 : mFR m 130 kb ≠ 99 := by
        rcases hu with w | w
        · rw [w.1]; decide
        · have := w.1; omega
      have h44 : Ex (d + 1) DD_told 44 [some (vR 100), some (vI 1)] [] (CM m F A L) Q := by
        refine Ex_step (tk_DD_told rfl) ?_
        refine gCR (tk_DD_told rfl) (hk11) (hr709) ?_
        refine gCR (tk_DD_told rfl) (hk2) (rfl) ?_
        refine Ex_step (tk_DD_told rfl) ⟨h99, fun h51 => ?_, fun h51 => ?_⟩
        · refine Ex_step (tk_DD_told rfl) ?_
          refine Ex_step (tk_DD_told rfl) ⟨rfl, ?_⟩
          first | exact h0 h51 | exact h1 h51
        · refine Ex_step (tk_DD_told rfl) ?_
          refine Ex_step (tk_DD_told rfl) ?_
          refine Ex_step (tk_DD_told rfl) ⟨rfl, ?_⟩
          first | exact h0 h51 | exact h1 h51
      refine Ex_step (tk_DD_told rfl) ?_
      refine Ex_step (tk_DD_told rfl) ?_
      exact h44
    · rw [if_neg (by decide), if_pos rfl, h.i2, ← h.f705] at hq
      have h60 : Ex (d + 1) DD_told 60 [some (vR 100), some (vI 2)] [] (CM m F A L) Q := by
        refine Ex_step (tk_DD_told rfl) ?_
        refine gCI (tk_DD_told rfl) (hk11) ?_
        refine Ex_step (tk_DD_told rfl) ⟨rfl, ?_⟩
        exact hq
      refine Ex_step (tk_DD_told rfl) ?_
      refine Ex_step (tk_DD_told rfl) ?_
      exact h60
    · rw [if_neg (by decide), if_neg (by decide), h.i12, ← h.f257] at hq
      have h65 : Ex (d + 1) DD_told 65 [some (vR 100), some (vI 3)] [] (CM m F A L) Q := by
        refine Ex_step (tk_DD_told rfl) ?_
        refine gCR (tk_DD_told rfl) (hk11) (hr711) ?_
        refine gCI (tk_DD_told rfl) (hk4) ?_
        refine Ex_step (tk_DD_told rfl) ⟨rfl, ?_⟩
        exact hq
      refine Ex_step (tk_DD_told rfl) ?_
      refine Ex_step (tk_DD_told rfl) ?_
      exact h65
  refine Ex_step (tk_DD_told rfl) ?_
  refine Ex_step (tk_DD_told rfl) ?_
  refine Ex_step (tk_DD_told rfl) ?_
  refine Ex_step (tk_DD_told rfl) ?_
  refine Ex_cVT (av := [vI i, vI 0, vI 3]) (tk_DD_told rfl) mk_DD_needNumber ⟨rfl, rfl, by decide, rfl, Nat.le_of_ble_eq_true rfl, Nat.le_of_ble_eq_true rfl⟩ hk11 rfl (d_needNumber h hi ⟨by decide, by decide⟩ ⟨by decide, by decide⟩ (fun z => ⟨fun q => absurd q (by decide), fun _ => hbad z⟩) (fun z => ⟨fun _ => h7 z, fun q => absurd rfl q⟩))
set_option maxRecDepth 100000 in
theorem d_cell (h : DK m F A L I R kb kd P ds nn b tp) (hi : okI i) (hx : okI x) (hy : okI y) (hbad : ¬ ((0 ≤ i ∧ i < (nn : Int)) ∧ inG (R 3) i.toNat x y) → Q 1 none (alloc (CM m (upF F 707 100 (F 707 100 + 1)) A L) 22 0 6)) (hok : (0 ≤ i ∧ i < (nn : Int)) ∧ inG (R 3) i.toNat x y → Q 0 (some (vI (srt (R 3) i.toNat x y))) (CM m F A L)) : Ex (d + 2) DD_cell 0 [some (vR 100), some (vI i), some (vI x), some (vI y)] [] (CM m F A L) Q := by
  have hk11 := h.w.k100
  have hr709 := h.y.r709
  have hBW := h.y.bw h.w h.y.ib
  have hk2 := hBW.1
  have hr128 := hBW.2.1
  have hn6 := h.now.1
  have h7 : (0 ≤ i ∧ i < (nn : Int)) ∧ inG (R 3) i.toNat x y → Ex (d + 2) DD_cell 7 [some (vR 100), some (vI i), some (vI x), some (vI y)] [] (CM m F A L) Q := by
    intro z
    have hq := hok z
    obtain ⟨dd, rfl⟩ : ∃ dd : Nat, i = (dd : Int) := ⟨i.toNat, by omega⟩
    have hd : dd < nn := by omega
    have hdW := h.now.2.2.2 dd hd
    have g := h.bk.2 dd hd
    have hDW := (hBW.2.2.2.2 dd (by omega)).2
    have hk3 := hDW.1
    have hsa := fun (Q1 : Nat → Option AV → Mem → Prop) => c_sortAt (d := d) (L := L) (Q := Q1) hDW g.2 (srt_FG hdW) hx hy
    refine Ex_step (tk_DD_cell rfl) ?_
    refine gCR (tk_DD_cell rfl) (hk11) (hr709) ?_
    refine gCR (tk_DD_cell rfl) (hk2) (hr128) ?_
    refine Ex_step (tk_DD_cell rfl) ?_
    refine lCR (n := dd) (tk_DD_cell rfl) (⟨⟨by rw [hBW.2.2.1]; decide, by rw [hBW.2.2.1]; decide⟩, hBW.2.2.2.1, (hBW.2.2.2.2 dd (by omega)).1⟩) (w32_id (by omega) (by omega)) (by omega) ?_
    refine Ex_step (tk_DD_cell rfl) ?_
    refine Ex_step (tk_DD_cell rfl) ?_
    refine Ex_cV0 (av := [vI x, vI y]) (tk_DD_cell rfl) mk_Des_sortAt ⟨rfl, rfl, by decide, rfl, Nat.le_of_ble_eq_true rfl, Nat.le_of_ble_eq_true rfl⟩ (hk3) (fun _ h => hsa _ h) ?_
    refine Ex_step (tk_DD_cell rfl) ⟨rfl, ?_⟩
    exact hq
  refine Ex_step (tk_DD_cell rfl) ?_
  refine Ex_step (tk_DD_cell rfl) ?_
  refine Ex_step (tk_DD_cell rfl) ?_
  refine Ex_step (tk_DD_cell rfl) ?_
  refine Ex_cVT (av := [vI i, vI x, vI y]) (tk_DD_cell rfl) mk_DD_needCell ⟨rfl, rfl, by decide, rfl, Nat.le_of_ble_eq_true rfl, Nat.le_of_ble_eq_true rfl⟩ hk11 rfl (d_needCell h hi hx hy (fun z => ⟨fun q => absurd q (by decide), fun _ => hbad z⟩) (fun z => ⟨fun _ => h7 z, fun q => absurd rfl q⟩))
/-- n bytes of a number, from the highest on -/
def ptK (v : Int) (tp n : Nat) (f : Nat → Int) : Nat → Int := fun j => if tp ≤ j ∧ j < tp + n then iAnd (iShr v ((24 - 8 * (j - tp) : Nat) : Int)) 255 else f j
set_option maxRecDepth 100000 in
theorem ptK_s (v : Int) (tp n : Nat) (f : Nat → Int) : up1 (ptK v tp n f) (tp + n) (iAnd (iShr v ((24 - 8 * n : Nat) : Int)) 255) = ptK v tp (n + 1) f := by
  funext j
  unfold up1 ptK
  by_cases q : j = tp + n
  · subst q
    rw [if_pos rfl, if_pos (by omega), Nat.add_sub_cancel_left]
  · rw [if_neg q]
    by_cases q2 : tp ≤ j ∧ j < tp + n
    · rw [if_pos q2, if_pos (by omega)]
    · rw [if_neg q2, if_neg (by omega)]
set_option maxRecDepth 100000 in
theorem d_putBytes {v : Int} {t : Nat} {g : Nat → Int} (hk11 : mK m 100 = 11) (hr704 : mFR m 704 100 = 101) (hT : IA m 101 800) (ht : t + 4 ≤ 800) (hq : Q 0 none (CM m (upF F 705 100 ((t + 4 : Nat) : Int)) (up1 A 101 (ptK v t 4 g)) L)) : Ex d DD_putBytes 0 [some (vR 100), some (vI v), none] [] (CM m (upF F 705 100 (t : Int)) (up1 A 101 g) L) Q := by
  have hloop : ∀ (r n : Nat) (sh : Int), n + r = 4 → sh = 24 - 8 * (n : Int) → Ex d DD_putBytes 3 [some (vR 100), some (vI v), some (vI sh)] [] (CM m (upF F 705 100 ((t + n : Nat) : Int)) (up1 A 101 (ptK v t n g)) L) Q := by
    intro r
    induction r with
    | zero =>
      intro n sh hn hs
      have : n = 4 := by omega
      subst this
      refine Ex_step (tk_DD_putBytes rfl) ?_
      refine Ex_step (tk_DD_putBytes rfl) ⟨fun h4 => ?_, fun h4 => ?_⟩
      · try simp (disch := omega) only [cmpI, w32_b2i, b2i_0, b2i_1, w32_id, Classical.not_not, not_true_eq_false, not_false_eq_true] at h4
        refine Ex_step (tk_DD_putBytes rfl) ⟨rfl, ?_⟩
        exact hq
      · try simp (disch := omega) only [cmpI, w32_b2i, b2i_0, b2i_1, w32_id, Classical.not_not, not_true_eq_false, not_false_eq_true] at h4
        omega
    | succ r ih =>
      intro n sh hn hs
      obtain ⟨sn, rfl⟩ : ∃ sn : Nat, sh = (sn : Int) := ⟨sh.toNat, by omega⟩
      have hnx := ih (n + 1) ((sn : Int) + -8) (by omega) (by omega)
      rw [← ptK_s, show 24 - 8 * n = sn by omega, ← byte_eq v (show sn ≤ 24 by omega)] at hnx
      have h45 : Ex d DD_putBytes 45 [some (vR 100), some (vI v), some (vI (sn : Int))] [] (CM m (upF F 705 100 (((t + n : Nat) : Int) + 1)) (up1 A 101 (up1 (ptK v t n g) (t + n) (iAnd (iUshr v (sn : Int)) 255))) L) Q := by
        refine Ex_step (tk_DD_putBytes rfl) ?_
        refine Ex_step (tk_DD_putBytes rfl) ?_
        exact hnx
      refine Ex_step (tk_DD_putBytes rfl) ?_
      refine Ex_step (tk_DD_putBytes rfl) ⟨fun h4 => ?_, fun h4 => ?_⟩
      · try simp (disch := omega) only [cmpI, w32_b2i, b2i_0, b2i_1, w32_id, Classical.not_not, not_true_eq_false, not_false_eq_true] at h4
        omega
      · try simp (disch := omega) only [cmpI, w32_b2i, b2i_0, b2i_1, w32_id, Classical.not_not, not_true_eq_false, not_false_eq_true] at h4
        refine Ex_step (tk_DD_putBytes rfl) ?_
        refine gCI (tk_DD_putBytes rfl) (hk11) ?_
        rw [upF_at]
        refine Ex_step (tk_DD_putBytes rfl) ?_
        refine gCR (tk_DD_putBytes rfl) (hk11) (hr704) ?_
        refine lenC (tk_DD_putBytes rfl) hT ?_
        refine Ex_step (tk_DD_putBytes rfl) ⟨fun h16 => ?_, fun h16 => ?_⟩
        · try simp (disch := omega) only [cmpI, w32_b2i, b2i_0, b2i_1, w32_id, Classical.not_not, not_true_eq_false, not_false_eq_true] at h16
          first | omega | (rw [upF_same]; exact h45)
        · try simp (disch := omega) only [cmpI, w32_b2i, b2i_0, b2i_1, w32_id, Classical.not_not, not_true_eq_false, not_false_eq_true] at h16
          refine Ex_step (tk_DD_putBytes rfl) ?_
          refine gCR (tk_DD_putBytes rfl) (hk11) (hr704) ?_
          refine Ex_step (tk_DD_putBytes rfl) ?_
          refine gCI (tk_DD_putBytes rfl) (hk11) ?_
          rw [upF_at]
          refine Ex_step (tk_DD_putBytes rfl) ?_
          refine Ex_step (tk_DD_putBytes rfl) ?_
          refine Ex_step (tk_DD_putBytes rfl) ?_
          refine Ex_step (tk_DD_putBytes rfl) ?_
          refine Ex_step (tk_DD_putBytes rfl) ?_
          refine tCI (n := t + n) (tk_DD_putBytes rfl) (hT) (w32_id (by omega) (by omega)) (by omega) ?_
          rw [up1_at, up1_same]
          refine Ex_step (tk_DD_putBytes rfl) ?_
          refine Ex_step (tk_DD_putBytes rfl) ?_
          refine gCI (tk_DD_putBytes rfl) (hk11) ?_
          rw [upF_at]
          refine Ex_step (tk_DD_putBytes rfl) ?_
          refine Ex_step (tk_DD_putBytes rfl) ?_
          refine pCI (tk_DD_putBytes rfl) (hk11) ?_
          first | omega | (rw [upF_same]; exact h45)
  have h0 := hloop 4 0 24 rfl rfl
  rw [show ptK v t 0 g = g from funext (fun j => if_neg (by omega))] at h0
  refine Ex_step (tk_DD_putBytes rfl) ?_
  refine Ex_step (tk_DD_putBytes rfl) ?_
  exact h0
end Simple
