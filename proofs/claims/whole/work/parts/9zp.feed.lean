/-! ===== the class: feed, print ===== -/
section FeedPrint
variable {d : Nat} {m : Mem} {F A L : Nat → Nat → Int} {I : Nat → Int} {R : Nat → Nat → Int} {kb kd : Nat} {P : Nat → Nat} {ds : Nat → Nat → Nat} {nn b tp : Nat} {Q : Nat → Option AV → Mem → Prop} {v1 v2 v3 v4 v5 : Int}
set_option maxRecDepth 100000 in
theorem fd_pt (a b c d e : Int) (tp : Nat) (f : Nat → Int) : ptK e (tp + 16) 4 (ptK d (tp + 12) 4 (ptK c (tp + 8) 4 (ptK b (tp + 4) 4 (ptK a tp 4 f)))) = fdK a b c d e tp 20 f := by
  funext j
  unfold ptK fdK fdB fdV
  by_cases q : tp ≤ j ∧ j < tp + 20
  · rw [if_pos q]
    obtain ⟨n, rfl⟩ : ∃ n, j = tp + n := ⟨j - tp, by omega⟩
    have hn : n < 20 := by omega
    rw [Nat.add_sub_cancel_left]
    have e4 : ∀ k, n = 4 * k + n % 4 → ((24 - 8 * (n - 4 * k) : Nat) : Int) = 24 - 8 * ((n % 4 : Nat) : Int) := fun k hk => by omega
    by_cases h5 : 16 ≤ n
    · rw [if_pos (show tp + 16 ≤ tp + n ∧ tp + n < tp + 16 + 4 by omega), if_neg (by omega), if_neg (by omega), if_neg (by omega), if_neg (by omega), ← e4 4 (by omega), show tp + n - (tp + 16) = n - 4 * 4 by omega]
    · rw [if_neg (show ¬ (tp + 16 ≤ tp + n ∧ tp + n < tp + 16 + 4) by omega)]
      by_cases h4 : 12 ≤ n
      · rw [if_pos (show tp + 12 ≤ tp + n ∧ tp + n < tp + 12 + 4 by omega), if_neg (by omega), if_neg (by omega), if_neg (by omega), if_pos (by omega), ← e4 3 (by omega), show tp + n - (tp + 12) = n - 4 * 3 by omega]
      · rw [if_neg (show ¬ (tp + 12 ≤ tp + n ∧ tp + n < tp + 12 + 4) by omega)]
        by_cases h3 : 8 ≤ n
        · rw [if_pos (show tp + 8 ≤ tp + n ∧ tp + n < tp + 8 + 4 by omega), if_neg (by omega), if_neg (by omega), if_pos (by omega), ← e4 2 (by omega), show tp + n - (tp + 8) = n - 4 * 2 by omega]
        · rw [if_neg (show ¬ (tp + 8 ≤ tp + n ∧ tp + n < tp + 8 + 4) by omega)]
          by_cases h2 : 4 ≤ n
          · rw [if_pos (show tp + 4 ≤ tp + n ∧ tp + n < tp + 4 + 4 by omega), if_neg (by omega), if_pos (by omega), ← e4 1 (by omega), show tp + n - (tp + 4) = n - 4 * 1 by omega]
          · rw [if_neg (show ¬ (tp + 4 ≤ tp + n ∧ tp + n < tp + 4 + 4) by omega), if_pos (show tp ≤ tp + n ∧ tp + n < tp + 4 by omega), if_pos (by omega), ← e4 0 (by omega), show n - 4 * 0 = n by omega]
  · rw [if_neg q, if_neg (by omega), if_neg (by omega), if_neg (by omega), if_neg (by omega), if_neg (by omega)]
set_option maxRecDepth 100000 in
theorem fdK_b {a b c d e : Int} {tp : Nat} {f : Nat → Int} (h : byts f) : byts (fdK a b c d e tp 20 f) := fun k hk => by
  unfold fdK
  split
  · unfold fdB
    rw [iAnd_mask _ 255 (k := 8) (by decide) (by decide)]
    have : u32 (iShr (fdV a b c d e (k - tp)) (24 - 8 * (((k - tp) % 4 : Nat) : Int))) % 2 ^ 8 < 2 ^ 8 := Nat.mod_lt _ (by decide)
    have e8 : 2 ^ 8 = 256 := rfl
    omega
  · exact h k hk
set_option maxRecDepth 100000 in
theorem DK.feed (h : DK m F A L I R kb kd P ds nn b tp) (ht : tp ≤ 780) : DK m (upF F 705 100 ((tp + 20 : Nat) : Int)) (up1 A 101 (fdK v1 v2 v3 v4 v5 tp 20 (A 101))) L (up1 (up1 I 0 0) 2 ((tp + 20 : Nat) : Int)) (up1 R 2 (fdK v1 v2 v3 v4 v5 tp 20 (R 2))) kb kd P ds nn b (tp + 20) := by
  have hy := h.y
  have ob := isBk_out hy.ib
  have eF : ∀ f j, j ≠ 100 → upF F 705 100 ((tp + 20 : Nat) : Int) f j = F f j := fun f j q => upF_a _ _ _ q
  have eA : ∀ j, j ≠ 101 → up1 A 101 (fdK v1 v2 v3 v4 v5 tp 20 (A 101)) j = A j := fun j q => up1_ne _ _ q
  have eR : ∀ j, j ≠ 2 → up1 R 2 (fdK v1 v2 v3 v4 v5 tp 20 (R 2)) j = R j := fun j q => up1_ne _ _ q
  refine ⟨h.w,
    h.y,
    h.n0,
    h.low.k (fun j hj => eF _ _ (by omega)) (fun j hj => eA _ (by omega)),
    by omega,
    up1_at _ _ _,
    upF_at _ _ _ _,
    by rw [up1_at, up1_at, h.row],
    by rw [up1_at]; exact fdK_b h.byt,
    (upF_f _ _ _ (by decide)).trans h.f706,
    by rw [eR 1 (by decide)]; exact (upF_f _ _ _ (by decide)).trans h.f707,
    by rw [eR 1 (by decide)]; exact (upF_f _ _ _ (by decide)).trans h.f708,
    by rw [eR 3 (by decide)]; exact h.now,
    by rw [eR 3 (by decide)]; exact h.bk.k h.now.1 (hy.bd hy.ib) (fun f j y1 y2 => eF f j (by omega)) (fun j y1 y2 => eA j (by omega)),
    by rw [eR 3 (by decide)]; exact h.kn.k h.now.1 (fun f j y1 y2 => eF f j (by omega)),
    by rw [eR 3 (by decide)]; exact h.ru.c (Nat.le_refl _) (fun a y1 y2 => ⟨rfl, rfl, rfl, eA a (by omega)⟩) (fun _ _ => rfl),
    h.b8,
    h.i12,
    (eF 257 142 (by decide)).trans h.f257,
    fun i hi => by
      have hi8 : i < 8 := by have := h.b8; omega
      have op := isBk_out (hy.ip i hi8)
      rw [eR (6 + i) (by omega)]
      exact (h.past i hi).k (hy.bd (hy.ip i hi8)) (Nat.le_refl _) rfl (fun a y1 y2 => ⟨rfl, rfl, rfl, eA a (by omega)⟩) (fun f j y1 y2 => eF f j (by omega)) (fun j y1 y2 => eA j (by omega)) (fun _ _ => rfl)⟩
set_option maxRecDepth 100000 in
theorem d_feed (h : DK m F A L I R kb kd P ds nn b tp) (hno : 780 < tp → Q 0 (some (vI (-1))) (CM m F A L)) (hok : tp ≤ 780 → Q 0 (some (vI ((tp + 20 : Nat) : Int))) (CM m (upF F 705 100 ((tp + 20 : Nat) : Int)) (up1 A 101 (fdK v1 v2 v3 v4 v5 tp 20 (A 101))) L)) : Ex (d + 1) DD_feed 0 [some (vR 100), some (vI v1), some (vI v2), some (vI v3), some (vI v4), some (vI v5)] [] (CM m F A L) Q := by
  have hk11 := h.w.k100
  have h705 := h.f705
  have ht8 := h.tb
  have h15 : tp ≤ 780 → Ex (d + 1) DD_feed 15 [some (vR 100), some (vI v1), some (vI v2), some (vI v3), some (vI v4), some (vI v5)] [] (CM m F A L) Q := by
    intro z
    have hq := hok z
    rw [← fd_pt] at hq
    have hpb := fun (v : Int) (t : Nat) (g : Nat → Int) (ht : t + 4 ≤ 800) (Q1 : Nat → Option AV → Mem → Prop) => d_putBytes (d := d) (F := F) (A := A) (L := L) (Q := Q1) (v := v) (t := t) (g := g) hk11 h.w.r704 h.w.tape ht
    have p1 := hpb v1 tp (A 101) (by omega)
    rw [upF_self h705, up1_self rfl] at p1
    have p2 := hpb v2 (tp + 4) (ptK v1 tp 4 (A 101)) (by omega)
    have p3 := hpb v3 (tp + 8) (ptK v2 (tp + 4) 4 (ptK v1 tp 4 (A 101))) (by omega)
    have p4 := hpb v4 (tp + 12) (ptK v3 (tp + 8) 4 (ptK v2 (tp + 4) 4 (ptK v1 tp 4 (A 101)))) (by omega)
    have p5 := hpb v5 (tp + 16) (ptK v4 (tp + 12) 4 (ptK v3 (tp + 8) 4 (ptK v2 (tp + 4) 4 (ptK v1 tp 4 (A 101))))) (by omega)
    refine Ex_step (tk_DD_feed rfl) ?_
    refine Ex_step (tk_DD_feed rfl) ?_
    refine Ex_cV0 (av := [vI v1]) (tk_DD_feed rfl) mk_DD_putBytes ⟨rfl, rfl, by decide, rfl, Nat.le_of_ble_eq_true rfl, Nat.le_of_ble_eq_true rfl⟩ (hk11) (fun _ h => p1 _ h) ?_
    refine Ex_step (tk_DD_feed rfl) ?_
    refine Ex_step (tk_DD_feed rfl) ?_
    refine Ex_cV0 (av := [vI v2]) (tk_DD_feed rfl) mk_DD_putBytes ⟨rfl, rfl, by decide, rfl, Nat.le_of_ble_eq_true rfl, Nat.le_of_ble_eq_true rfl⟩ (hk11) (fun _ h => p2 _ h) ?_
    refine Ex_step (tk_DD_feed rfl) ?_
    refine Ex_step (tk_DD_feed rfl) ?_
    refine Ex_cV0 (av := [vI v3]) (tk_DD_feed rfl) mk_DD_putBytes ⟨rfl, rfl, by decide, rfl, Nat.le_of_ble_eq_true rfl, Nat.le_of_ble_eq_true rfl⟩ (hk11) (fun _ h => p3 _ h) ?_
    refine Ex_step (tk_DD_feed rfl) ?_
    refine Ex_step (tk_DD_feed rfl) ?_
    refine Ex_cV0 (av := [vI v4]) (tk_DD_feed rfl) mk_DD_putBytes ⟨rfl, rfl, by decide, rfl, Nat.le_of_ble_eq_true rfl, Nat.le_of_ble_eq_true rfl⟩ (hk11) (fun _ h => p4 _ h) ?_
    refine Ex_step (tk_DD_feed rfl) ?_
    refine Ex_step (tk_DD_feed rfl) ?_
    refine Ex_cV0 (av := [vI v5]) (tk_DD_feed rfl) mk_DD_putBytes ⟨rfl, rfl, by decide, rfl, Nat.le_of_ble_eq_true rfl, Nat.le_of_ble_eq_true rfl⟩ (hk11) (fun _ h => p5 _ h) ?_
    refine Ex_step (tk_DD_feed rfl) ?_
    refine gCI (tk_DD_feed rfl) (hk11) ?_
    rw [upF_at]
    refine Ex_step (tk_DD_feed rfl) ⟨rfl, ?_⟩
    exact hq
  refine Ex_step (tk_DD_feed rfl) ?_
  refine gCI (tk_DD_feed rfl) (hk11) ?_
  rw [h705]
  refine Ex_step (tk_DD_feed rfl) ?_
  refine Ex_step (tk_DD_feed rfl) ?_
  refine Ex_step (tk_DD_feed rfl) ?_
  refine Ex_step (tk_DD_feed rfl) ⟨fun h10 => ?_, fun h10 => ?_⟩
  · try simp (disch := omega) only [cmpI, w32_b2i, b2i_0, b2i_1, w32_id, Classical.not_not, not_true_eq_false, not_false_eq_true] at h10
    exact h15 (by omega)
  · try simp (disch := omega) only [cmpI, w32_b2i, b2i_0, b2i_1, w32_id, Classical.not_not, not_true_eq_false, not_false_eq_true] at h10
    refine Ex_step (tk_DD_feed rfl) ?_
    refine Ex_step (tk_DD_feed rfl) ⟨rfl, ?_⟩
    exact hno (by omega)
set_option maxRecDepth 100000 in
theorem d_print (h : DK m F A L I R kb kd P ds nn b tp) (hq : Q 0 (some (vL (pnS (R 3) nn))) (CM m F A L)) : Ex (d + 2) DD_print 0 [some (vR 100), none, none, none, none, none, none] [] (CM m F A L) Q := by
  have hk11 := h.w.k100
  have hr709 := h.y.r709
  have hBW := h.y.bw h.w h.y.ib
  have hk2 := hBW.1
  have hr128 := hBW.2.1
  have h129 := h.bk.1
  have hN := h.now
  have hn6 := hN.1
  have hdes : ∀ (dd : Nat) (v : Int), dd < nn → (∀ l5 l6 : Option AV, Ex (d + 2) DD_print 94 [some (vR 100), some (vL (pnA (R 3) dd (R 3 (bD dd + 1)).toNat (R 3 (bD dd + 2)).toNat v)), none, some (vI (dd : Int)), some (vR (ds kb dd)), l5, l6] [] (CM m F A L) Q) → ∀ (r y : Nat) (l6 : Option AV), (y : Int) + (r : Int) = R 3 (bD dd + 2) → Ex (d + 2) DD_print 42 [some (vR 100), some (vL (pnA (R 3) dd (R 3 (bD dd + 1)).toNat y v)), none, some (vI (dd : Int)), some (vR (ds kb dd)), some (vI (y : Int)), l6] [] (CM m F A L) Q := by
    intro dd v hd h2 r
    have hW := hN.2.2.2 dd hd
    have hw := hW.2.1
    have hh := hW.2.2.1
    have g := h.bk.2 dd hd
    have hDW := (hBW.2.2.2.2 dd (by omega)).2
    have hk3 := hDW.1
    have h193 := g.2.1
    have h194 := g.2.2.1
    induction r with
    | zero =>
      intro y l6 hy
      rw [show (R 3 (bD dd + 2)).toNat = y by omega] at h2
      refine Ex_step (tk_DD_print rfl) ?_
      refine Ex_step (tk_DD_print rfl) ?_
      refine gCI (tk_DD_print rfl) (hk3) ?_
      rw [h194]
      refine Ex_step (tk_DD_print rfl) ⟨fun h49 => ?_, fun h49 => ?_⟩
      · try simp (disch := omega) only [cmpI, w32_b2i, b2i_0, b2i_1, w32_id, Classical.not_not, not_true_eq_false, not_false_eq_true] at h49
        exact h2 _ _
      · try simp (disch := omega) only [cmpI, w32_b2i, b2i_0, b2i_1, w32_id, Classical.not_not, not_true_eq_false, not_false_eq_true] at h49
        omega
    | succ r ih =>
      intro y l6 hy
      have h88 : ∀ l6 : Option AV, Ex (d + 2) DD_print 88 [some (vR 100), some (vL (pnA (R 3) dd (R 3 (bD dd + 1)).toNat (y + 1) v)), none, some (vI (dd : Int)), some (vR (ds kb dd)), some (vI (y : Int)), l6] [] (CM m F A L) Q := by
        intro l6
        have hnx := ih (y + 1) l6 (by omega)
        refine Ex_step (tk_DD_print rfl) ?_
        refine Ex_step (tk_DD_print rfl) ?_
        exact hnx
      have hrow : ∀ (r x : Nat), (x : Int) + (r : Int) = R 3 (bD dd + 1) → Ex (d + 2) DD_print 55 [some (vR 100), some (vL (pnR (R 3) dd y x (pnA (R 3) dd (R 3 (bD dd + 1)).toNat y v))), none, some (vI (dd : Int)), some (vR (ds kb dd)), some (vI (y : Int)), some (vI (x : Int))] [] (CM m F A L) Q := by
        intro r
        induction r with
        | zero =>
          intro x hx
          have h88 : ∀ l6 : Option AV, Ex (d + 2) DD_print 88 [some (vR 100), some (vL (pnR (R 3) dd y (R 3 (bD dd + 1)).toNat (pnA (R 3) dd (R 3 (bD dd + 1)).toNat y v))), none, some (vI (dd : Int)), some (vR (ds kb dd)), some (vI (y : Int)), l6] [] (CM m F A L) Q := h88
          rw [show pnR (R 3) dd y (R 3 (bD dd + 1)).toNat = pnR (R 3) dd y x by rw [show (R 3 (bD dd + 1)).toNat = x by omega]] at h88
          refine Ex_step (tk_DD_print rfl) ?_
          refine Ex_step (tk_DD_print rfl) ?_
          refine gCI (tk_DD_print rfl) (hk3) ?_
          rw [h193]
          refine Ex_step (tk_DD_print rfl) ⟨fun h62 => ?_, fun h62 => ?_⟩
          · try simp (disch := omega) only [cmpI, w32_b2i, b2i_0, b2i_1, w32_id, Classical.not_not, not_true_eq_false, not_false_eq_true] at h62
            exact h88 _
          · try simp (disch := omega) only [cmpI, w32_b2i, b2i_0, b2i_1, w32_id, Classical.not_not, not_true_eq_false, not_false_eq_true] at h62
            omega
        | succ r ihx =>
          intro x hx
          have hnx := ihx (x + 1) (by omega)
          have hsr := srt_r hW (x : Int) (y : Int)
          have e : w32 (srt (R 3) dd (x : Int) (y : Int)) = srt (R 3) dd (x : Int) (y : Int) := w32_id (by omega) (by omega)
          have hsa := fun (Q1 : Nat → Option AV → Mem → Prop) => c_sortAt (d := d) (L := L) (Q := Q1) (x := (x : Int)) (y := (y : Int)) hDW g.2 (srt_FG hW) (by unfold okI; omega) (by unfold okI; omega)
          refine Ex_step (tk_DD_print rfl) ?_
          refine Ex_step (tk_DD_print rfl) ?_
          refine gCI (tk_DD_print rfl) (hk3) ?_
          rw [h193]
          refine Ex_step (tk_DD_print rfl) ⟨fun h62 => ?_, fun h62 => ?_⟩
          · try simp (disch := omega) only [cmpI, w32_b2i, b2i_0, b2i_1, w32_id, Classical.not_not, not_true_eq_false, not_false_eq_true] at h62
            omega
          · try simp (disch := omega) only [cmpI, w32_b2i, b2i_0, b2i_1, w32_id, Classical.not_not, not_true_eq_false, not_false_eq_true] at h62
            refine Ex_step (tk_DD_print rfl) ?_
            refine Ex_step (tk_DD_print rfl) ?_
            refine Ex_step (tk_DD_print rfl) ?_
            refine Ex_step (tk_DD_print rfl) ?_
            refine Ex_step (tk_DD_print rfl) ?_
            refine Ex_step (tk_DD_print rfl) ?_
            refine Ex_cV0 (av := [vI (x : Int), vI (y : Int)]) (tk_DD_print rfl) mk_Des_sortAt ⟨rfl, rfl, by decide, rfl, Nat.le_of_ble_eq_true rfl, Nat.le_of_ble_eq_true rfl⟩ (hk3) (fun _ h => hsa _ h) ?_
            refine Ex_step (tk_DD_print rfl) ?_
            show Ex (d + 2) DD_print 80 _ (vL (w32 (srt (R 3) dd (x : Int) (y : Int))) :: _) _ Q
            rw [e]
            refine Ex_step (tk_DD_print rfl) ?_
            refine Ex_step (tk_DD_print rfl) ?_
            refine Ex_step (tk_DD_print rfl) ?_
            refine Ex_step (tk_DD_print rfl) ?_
            exact hnx
      obtain ⟨w, hwe⟩ : ∃ w : Nat, (w : Int) = R 3 (bD dd + 1) := ⟨(R 3 (bD dd + 1)).toNat, by omega⟩
      have h55 := hrow w 0 (by omega)
      refine Ex_step (tk_DD_print rfl) ?_
      refine Ex_step (tk_DD_print rfl) ?_
      refine gCI (tk_DD_print rfl) (hk3) ?_
      rw [h194]
      refine Ex_step (tk_DD_print rfl) ⟨fun h49 => ?_, fun h49 => ?_⟩
      · try simp (disch := omega) only [cmpI, w32_b2i, b2i_0, b2i_1, w32_id, Classical.not_not, not_true_eq_false, not_false_eq_true] at h49
        omega
      · try simp (disch := omega) only [cmpI, w32_b2i, b2i_0, b2i_1, w32_id, Classical.not_not, not_true_eq_false, not_false_eq_true] at h49
        refine Ex_step (tk_DD_print rfl) ?_
        refine Ex_step (tk_DD_print rfl) ?_
        exact h55
  have hall : ∀ (r dd : Nat) (l4 l5 l6 : Option AV), dd + r = nn → Ex (d + 2) DD_print 4 [some (vR 100), some (vL (pnS (R 3) dd)), none, some (vI (dd : Int)), l4, l5, l6] [] (CM m F A L) Q := by
    intro r
    induction r with
    | zero =>
      intro dd l4 l5 l6 hd
      have : dd = nn := by omega
      subst this
      refine Ex_step (tk_DD_print rfl) ?_
      refine Ex_step (tk_DD_print rfl) ?_
      refine gCR (tk_DD_print rfl) (hk11) (hr709) ?_
      refine gCI (tk_DD_print rfl) (hk2) ?_
      rw [h129]
      refine Ex_step (tk_DD_print rfl) ⟨fun h12 => ?_, fun h12 => ?_⟩
      · try simp (disch := omega) only [cmpI, w32_b2i, b2i_0, b2i_1, w32_id, Classical.not_not, not_true_eq_false, not_false_eq_true] at h12
        refine Ex_step (tk_DD_print rfl) ?_
        refine Ex_step (tk_DD_print rfl) ⟨rfl, ?_⟩
        exact hq
      · try simp (disch := omega) only [cmpI, w32_b2i, b2i_0, b2i_1, w32_id, Classical.not_not, not_true_eq_false, not_false_eq_true] at h12
        omega
    | succ r ih =>
      intro dd l4 l5 l6 hd
      have hW := hN.2.2.2 dd (by omega)
      have hh := hW.2.2.1
      have hda := hW.1
      have g := h.bk.2 dd (by omega)
      have hk3 := (hBW.2.2.2.2 dd (by omega)).2.1
      have e : w32 (R 3 (bD dd)) = R 3 (bD dd) := w32_id (by omega) (by omega)
      have h94 : ∀ l5 l6 : Option AV, Ex (d + 2) DD_print 94 [some (vR 100), some (vL (pnA (R 3) dd (R 3 (bD dd + 1)).toNat (R 3 (bD dd + 2)).toNat (31 * pnS (R 3) dd + R 3 (bD dd)))), none, some (vI (dd : Int)), some (vR (ds kb dd)), l5, l6] [] (CM m F A L) Q := by
        intro l5 l6
        have hnx := ih (dd + 1) (some (vR (ds kb dd))) l5 l6 (by omega)
        refine Ex_step (tk_DD_print rfl) ?_
        refine Ex_step (tk_DD_print rfl) ?_
        exact hnx
      obtain ⟨gg, hge⟩ : ∃ gg : Nat, (gg : Int) = R 3 (bD dd + 2) := ⟨(R 3 (bD dd + 2)).toNat, by omega⟩
      have h42 := hdes dd _ (by omega) h94 gg 0 l6 (by omega)
      refine Ex_step (tk_DD_print rfl) ?_
      refine Ex_step (tk_DD_print rfl) ?_
      refine gCR (tk_DD_print rfl) (hk11) (hr709) ?_
      refine gCI (tk_DD_print rfl) (hk2) ?_
      rw [h129]
      refine Ex_step (tk_DD_print rfl) ⟨fun h12 => ?_, fun h12 => ?_⟩
      · try simp (disch := omega) only [cmpI, w32_b2i, b2i_0, b2i_1, w32_id, Classical.not_not, not_true_eq_false, not_false_eq_true] at h12
        omega
      · try simp (disch := omega) only [cmpI, w32_b2i, b2i_0, b2i_1, w32_id, Classical.not_not, not_true_eq_false, not_false_eq_true] at h12
        refine Ex_step (tk_DD_print rfl) ?_
        refine gCR (tk_DD_print rfl) (hk11) (hr709) ?_
        refine gCR (tk_DD_print rfl) (hk2) (hr128) ?_
        refine Ex_step (tk_DD_print rfl) ?_
        refine lCR (n := dd) (tk_DD_print rfl) (⟨⟨by rw [hBW.2.2.1]; decide, by rw [hBW.2.2.1]; decide⟩, hBW.2.2.2.1, (hBW.2.2.2.2 dd (by omega)).1⟩) (w32_id (by omega) (by omega)) (by omega) ?_
        refine Ex_step (tk_DD_print rfl) ?_
        refine Ex_step (tk_DD_print rfl) ?_
        refine Ex_step (tk_DD_print rfl) ?_
        refine Ex_step (tk_DD_print rfl) ?_
        refine Ex_step (tk_DD_print rfl) ?_
        refine gCI (tk_DD_print rfl) (hk3) ?_
        rw [g.1]
        refine Ex_step (tk_DD_print rfl) ?_
        show Ex (d + 2) DD_print 37 _ (vL (w32 (R 3 (bD dd))) :: _) _ Q
        rw [e]
        refine Ex_step (tk_DD_print rfl) ?_
        refine Ex_step (tk_DD_print rfl) ?_
        refine Ex_step (tk_DD_print rfl) ?_
        refine Ex_step (tk_DD_print rfl) ?_
        exact h42
  have h4 := hall nn 0 none none none (by omega)
  refine Ex_step (tk_DD_print rfl) ?_
  refine Ex_step (tk_DD_print rfl) ?_
  refine Ex_step (tk_DD_print rfl) ?_
  refine Ex_step (tk_DD_print rfl) ?_
  exact h4
end FeedPrint
