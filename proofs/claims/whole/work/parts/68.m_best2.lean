/-! ===== the reference: the best overlay, all places ===== -/
section MBest2
variable {d a b t : Nat} {i j : Int} {m : Mem} {I : Nat → Int} {A L : Nat → Nat → Int} {Q : Nat → Option AV → Mem → Prop}
set_option maxRecDepth 100000 in
/-- a row of places -/
theorem f_bestX (hM : MW m) (hda : a ≤ 5) (hi : i = (a : Int)) (hWa : DsW (A 3) a) (hWb : DsW (A 3) b) {dy : Int} (hdy : -20 ≤ dy ∧ dy ≤ 20) (b1 : BitR (L 15) (pSo (A 3) a)) (b2 : BitR (L 16) (pAs (A 3) a)) (b3 : BitR (L 17) (pDk (A 3) b t)) (b4 : BitR (L 18) (pDo (A 3) b t)) {lo : Int} (hlo : -9 ≤ lo ∧ lo ≤ 0) {N : Nat} (hN : lo + (N : Int) = A 3 (bD a + 1)) {s : BSt} (hs : BB s) {l2 : Option AV} {I0 : Nat → Int} (h : ∀ (I' : Nat → Int) (l5 l6 : Option AV), KpI I0 I' → I' 15 = I0 15 → I' 16 = I0 16 → BSI I' (bX (A 3) a b t dy lo N s) → Ex (d + 2) M_overlays 155 [some (vR aM), some (vI i), l2, some (vI (t : Int)), some (vI dy), l5, l6] [] (MS m I' A L) Q) : ∀ (r k : Nat) (I : Nat → Int) (l6 : Option AV), k + r = N → KpI I0 I → I 15 = I0 15 → I 16 = I0 16 → BSI I (bX (A 3) a b t dy lo k s) → Ex (d + 2) M_overlays 55 [some (vR aM), some (vI i), l2, some (vI (t : Int)), some (vI dy), some (vI (lo + (k : Int))), l6] [] (MS m I A L) Q := by
  have hw := hWa.2.1
  intro r
  induction r with
  | zero =>
    intro k I l6 hk k1 k2 k3 hI
    have : k = N := by omega
    subst this
    refine Ex_step (tk_M_overlays rfl) ?_
    refine Ex_step (tk_M_overlays rfl) ?_
    refine Ex_step (tk_M_overlays rfl) ?_
    refine Ex_cV0 (av := [vI i]) (tk_M_overlays rfl) mk_M_wideOf ⟨rfl, rfl, by decide, rfl, Nat.le_of_ble_eq_true rfl, Nat.le_of_ble_eq_true rfl⟩ (hM.k) (fun _ h => f_wideOf hM hda hi h) ?_
    refine Ex_step (tk_M_overlays rfl) ⟨fun h62 => ?_, fun h62 => ?_⟩
    · try simp (disch := omega) only [cmpI, w32_b2i, b2i_0, b2i_1, w32_id, Classical.not_not, not_true_eq_false, not_false_eq_true] at h62
      exact h _ _ _ k1 k2 k3 hI
    · try simp (disch := omega) only [cmpI, w32_b2i, b2i_0, b2i_1, w32_id, Classical.not_not, not_true_eq_false, not_false_eq_true] at h62
      omega
  | succ r ih =>
    intro k I l6 hk k1 k2 k3 hI
    have h149 : ∀ (I' : Nat → Int) (l6 : Option AV), KpI I I' → I' 15 = I 15 → I' 16 = I 16 → BSI I' (bstep (A 3) a b t (lo + (k : Int)) dy (bX (A 3) a b t dy lo k s)) → Ex (d + 2) M_overlays 149 [some (vR aM), some (vI i), l2, some (vI (t : Int)), some (vI dy), some (vI (lo + (k : Int))), l6] [] (MS m I' A L) Q := by
      intro I' l6 q1 q2 q3 q4
      have hnx := ih (k + 1) I' l6 (by omega) (k1.tr q1) (q2.trans k2) (q3.trans k3) q4
      rw [show lo + ((k + 1 : Nat) : Int) = lo + (k : Int) + 1 by omega] at hnx
      refine Ex_step (tk_M_overlays rfl) ?_
      refine Ex_step (tk_M_overlays rfl) ?_
      exact hnx
    refine Ex_step (tk_M_overlays rfl) ?_
    refine Ex_step (tk_M_overlays rfl) ?_
    refine Ex_step (tk_M_overlays rfl) ?_
    refine Ex_cV0 (av := [vI i]) (tk_M_overlays rfl) mk_M_wideOf ⟨rfl, rfl, by decide, rfl, Nat.le_of_ble_eq_true rfl, Nat.le_of_ble_eq_true rfl⟩ (hM.k) (fun _ h => f_wideOf hM hda hi h) ?_
    refine Ex_step (tk_M_overlays rfl) ⟨fun h62 => ?_, fun h62 => ?_⟩
    · try simp (disch := omega) only [cmpI, w32_b2i, b2i_0, b2i_1, w32_id, Classical.not_not, not_true_eq_false, not_false_eq_true] at h62
      omega
    · try simp (disch := omega) only [cmpI, w32_b2i, b2i_0, b2i_1, w32_id, Classical.not_not, not_true_eq_false, not_false_eq_true] at h62
      exact f_bestC hM hWa hWb (by omega) hdy b1 b2 b3 b4 (BB.x k hs) hI h149
set_option maxRecDepth 100000 in
theorem f_bestY (hM : MW m) (hda : a ≤ 5) (hi : i = (a : Int)) (hWa : DsW (A 3) a) (hWb : DsW (A 3) b) (b1 : BitR (L 15) (pSo (A 3) a)) (b2 : BitR (L 16) (pAs (A 3) a)) (b3 : BitR (L 17) (pDk (A 3) b t)) (b4 : BitR (L 18) (pDo (A 3) b t)) {lo lox : Int} (hlo : -9 ≤ lo ∧ lo ≤ 0) (hlox : -9 ≤ lox ∧ lox ≤ 0) {N NX : Nat} (hN : lo + (N : Int) = A 3 (bD a + 2)) (hNX : lox + (NX : Int) = A 3 (bD a + 1)) {s : BSt} (hs : BB s) {l2 : Option AV} {I0 : Nat → Int} (hx : lox = 1 - I0 15) (h : ∀ (I' : Nat → Int) (l4 l5 l6 : Option AV), KpI I0 I' → BSI I' (bY (A 3) a b t lox lo NX N s) → Ex (d + 2) M_overlays 161 [some (vR aM), some (vI i), l2, some (vI (t : Int)), l4, l5, l6] [] (MS m I' A L) Q) : ∀ (r k : Nat) (I : Nat → Int) (l5 l6 : Option AV), k + r = N → KpI I0 I → I 15 = I0 15 → I 16 = I0 16 → BSI I (bY (A 3) a b t lox lo NX k s) → Ex (d + 2) M_overlays 37 [some (vR aM), some (vI i), l2, some (vI (t : Int)), some (vI (lo + (k : Int))), l5, l6] [] (MS m I A L) Q := by
  have hh := hWa.2.2.1
  intro r
  induction r with
  | zero =>
    intro k I l5 l6 hk k1 k2 k3 hI
    have : k = N := by omega
    subst this
    refine Ex_step (tk_M_overlays rfl) ?_
    refine Ex_step (tk_M_overlays rfl) ?_
    refine Ex_step (tk_M_overlays rfl) ?_
    refine Ex_cV0 (av := [vI i]) (tk_M_overlays rfl) mk_M_highOf ⟨rfl, rfl, by decide, rfl, Nat.le_of_ble_eq_true rfl, Nat.le_of_ble_eq_true rfl⟩ (hM.k) (fun _ h => f_highOf hM hda hi h) ?_
    refine Ex_step (tk_M_overlays rfl) ⟨fun h44 => ?_, fun h44 => ?_⟩
    · try simp (disch := omega) only [cmpI, w32_b2i, b2i_0, b2i_1, w32_id, Classical.not_not, not_true_eq_false, not_false_eq_true] at h44
      exact h _ _ _ _ k1 hI
    · try simp (disch := omega) only [cmpI, w32_b2i, b2i_0, b2i_1, w32_id, Classical.not_not, not_true_eq_false, not_false_eq_true] at h44
      omega
  | succ r ih =>
    intro k I l5 l6 hk k1 k2 k3 hI
    have h155 : ∀ (I' : Nat → Int) (l5 l6 : Option AV), KpI I I' → I' 15 = I 15 → I' 16 = I 16 → BSI I' (bX (A 3) a b t (lo + (k : Int)) lox NX (bY (A 3) a b t lox lo NX k s)) → Ex (d + 2) M_overlays 155 [some (vR aM), some (vI i), l2, some (vI (t : Int)), some (vI (lo + (k : Int))), l5, l6] [] (MS m I' A L) Q := by
      intro I' l5 l6 q1 q2 q3 q4
      have hnx := ih (k + 1) I' l5 l6 (by omega) (k1.tr q1) (q2.trans k2) (q3.trans k3) q4
      rw [show lo + ((k + 1 : Nat) : Int) = lo + (k : Int) + 1 by omega] at hnx
      refine Ex_step (tk_M_overlays rfl) ?_
      refine Ex_step (tk_M_overlays rfl) ?_
      exact hnx
    have h55 := f_bestX (d := d) (t := t) (l2 := l2) hM hda hi hWa hWb (dy := lo + (k : Int)) (by omega) b1 b2 b3 b4 hlox hNX (BB.y k hs) h155 NX 0 I l6 (by omega) (KpI.rf I) rfl rfl hI
    rw [show lox + ((0 : Nat) : Int) = 1 - I 15 by rw [k2]; omega] at h55
    refine Ex_step (tk_M_overlays rfl) ?_
    refine Ex_step (tk_M_overlays rfl) ?_
    refine Ex_step (tk_M_overlays rfl) ?_
    refine Ex_cV0 (av := [vI i]) (tk_M_overlays rfl) mk_M_highOf ⟨rfl, rfl, by decide, rfl, Nat.le_of_ble_eq_true rfl, Nat.le_of_ble_eq_true rfl⟩ (hM.k) (fun _ h => f_highOf hM hda hi h) ?_
    refine Ex_step (tk_M_overlays rfl) ⟨fun h44 => ?_, fun h44 => ?_⟩
    · try simp (disch := omega) only [cmpI, w32_b2i, b2i_0, b2i_1, w32_id, Classical.not_not, not_true_eq_false, not_false_eq_true] at h44
      omega
    · try simp (disch := omega) only [cmpI, w32_b2i, b2i_0, b2i_1, w32_id, Classical.not_not, not_true_eq_false, not_false_eq_true] at h44
      refine Ex_step (tk_M_overlays rfl) ?_
      refine Ex_step (tk_M_overlays rfl) ?_
      refine gMI (tk_M_overlays rfl) hM ?_
      refine Ex_step (tk_M_overlays rfl) ?_
      refine Ex_step (tk_M_overlays rfl) ?_
      exact h55
set_option maxRecDepth 100000 in
theorem f_overlays (hM : MW m) (hda : a ≤ 5) (hdb : b ≤ 5) (hi : i = (a : Int)) (hj : j = (b : Int)) (hWa : DsW (A 3) a) (hWb : DsW (A 3) b) (h : ∀ (I' r : Nat → Int) (L' : Nat → Nat → Int), KpI I I' → BSI I' (bestS (A 3) a b) → (∀ k, k < 15 ∨ 18 < k → L' k = L k) → Q 0 none (MS m I' (up1 A 14 r) L')) : Ex (d + 4) M_overlays 0 [some (vR aM), some (vI i), some (vI j), none, none, none, none] [] (MS m I A L) Q := by
  have hwa := hWa.2.1
  have hha := hWa.2.2.1
  have hB0 : BB (-1, 1, I 26, I 27, I 28) := ⟨⟨show (-1 : Int) ≤ -1 by decide, show (-1 : Int) ≤ 100 by decide⟩, show (1 : Int) ≤ 1 by decide, show (1 : Int) ≤ 300 by decide, show (-1 : Int) ≤ 1 by decide⟩
  have he : bT (A 3) a b (-1, 1, I 26, I 27, I 28) 8 = bestS (A 3) a b := bT_ind hWa hWb rfl rfl 8 (by decide)
  have hall : ∀ (r t : Nat) (I1 rr : Nat → Int) (L1 : Nat → Nat → Int) (l4 l5 l6 : Option AV), t + r = 8 → KpI I I1 → BSI I1 (bT (A 3) a b (-1, 1, I 26, I 27, I 28) t) → BitR (L1 15) (pSo (A 3) a) → BitR (L1 16) (pAs (A 3) a) → (∀ k, k < 15 ∨ 18 < k → L1 k = L k) → Ex (d + 4) M_overlays 17 [some (vR aM), some (vI i), some (vI j), some (vI (t : Int)), l4, l5, l6] [] (MS m I1 (up1 A 14 rr) L1) Q := by
    intro r
    induction r with
    | zero =>
      intro t I1 rr L1 l4 l5 l6 ht k1 hI b1 b2 kL
      have : t = 8 := by omega
      subst this
      rw [he] at hI
      refine Ex_step (tk_M_overlays rfl) ?_
      refine Ex_step (tk_M_overlays rfl) ?_
      refine Ex_step (tk_M_overlays rfl) ⟨fun h20 => ?_, fun h20 => ?_⟩
      · try simp (disch := omega) only [cmpI, w32_b2i, b2i_0, b2i_1, w32_id, Classical.not_not, not_true_eq_false, not_false_eq_true] at h20
        refine Ex_step (tk_M_overlays rfl) ⟨rfl, ?_⟩
        exact h _ _ _ k1 hI kL
      · try simp (disch := omega) only [cmpI, w32_b2i, b2i_0, b2i_1, w32_id, Classical.not_not, not_true_eq_false, not_false_eq_true] at h20
        omega
    | succ r ih =>
      intro t I1 rr L1 l4 l5 l6 ht k1 hI b1 b2 kL
      have hwh := tWH t hWb.2.1 hWb.2.2.1
      have key : ∀ D E rr : Nat → Int, BitR D (pDk (A 3) b t) → BitR E (pDo (A 3) b t) → Ex (d + 4) M_overlays 29 [some (vR aM), some (vI i), some (vI j), some (vI (t : Int)), l4, l5, l6] [] (MS m (F2 15 16 I1 (tW (A 3 (bD b + 1)) (A 3 (bD b + 2)) t) (tH (A 3 (bD b + 1)) (A 3 (bD b + 2)) t)) (up1 A 14 rr) (F2 17 18 L1 D E)) Q := by
        intro D E rr q1 q2
        have h161 : ∀ (I' : Nat → Int) (l4 l5 l6 : Option AV), KpI (F2 15 16 I1 (tW (A 3 (bD b + 1)) (A 3 (bD b + 2)) t) (tH (A 3 (bD b + 1)) (A 3 (bD b + 2)) t)) I' → BSI I' (bTn (A 3) a b t (bT (A 3) a b (-1, 1, I 26, I 27, I 28) t)) → Ex (d + 4) M_overlays 161 [some (vR aM), some (vI i), some (vI j), some (vI (t : Int)), l4, l5, l6] [] (MS m I' (up1 A 14 rr) (F2 17 18 L1 D E)) Q := by
          intro I' l4 l5 l6 p1 p2
          have hnx := ih (t + 1) I' rr (F2 17 18 L1 D E) l4 l5 l6 (by omega) ((k1.f2 (by decide) (by decide) _ _).tr p1) p2 b1 b2 (fun k hk => by rw [F2_o (by omega) (by omega)]; exact kL k hk)
          refine Ex_step (tk_M_overlays rfl) ?_
          refine Ex_step (tk_M_overlays rfl) ?_
          exact hnx
        have h37 := f_bestY (d := d + 2) (t := t) (l2 := some (vI j)) (A := up1 A 14 rr) (L := F2 17 18 L1 D E) hM hda hi hWa hWb b1 b2 q1 q2 (lo := 1 - tH (A 3 (bD b + 1)) (A 3 (bD b + 2)) t) (lox := 1 - tW (A 3 (bD b + 1)) (A 3 (bD b + 2)) t) (by omega) (by omega) (N := (A 3 (bD a + 2) + tH (A 3 (bD b + 1)) (A 3 (bD b + 2)) t - 1).toNat) (NX := (A 3 (bD a + 1) + tW (A 3 (bD b + 1)) (A 3 (bD b + 2)) t - 1).toNat) (by show _ = A 3 (bD a + 2); omega) (by show _ = A 3 (bD a + 1); omega) (hB0.t t) (I0 := F2 15 16 I1 (tW (A 3 (bD b + 1)) (A 3 (bD b + 2)) t) (tH (A 3 (bD b + 1)) (A 3 (bD b + 2)) t)) rfl h161 _ 0 _ l5 l6 (Nat.zero_add _) (KpI.rf _) rfl rfl hI
        rw [show 1 - tH (A 3 (bD b + 1)) (A 3 (bD b + 2)) t + ((0 : Nat) : Int) = 1 - tH (A 3 (bD b + 1)) (A 3 (bD b + 2)) t by omega] at h37
        refine Ex_step (tk_M_overlays rfl) ?_
        refine Ex_step (tk_M_overlays rfl) ?_
        refine gMI (tk_M_overlays rfl) hM ?_
        rw [F2_b (by decide)]
        refine Ex_step (tk_M_overlays rfl) ?_
        refine Ex_step (tk_M_overlays rfl) ?_
        exact h37
      refine Ex_step (tk_M_overlays rfl) ?_
      refine Ex_step (tk_M_overlays rfl) ?_
      refine Ex_step (tk_M_overlays rfl) ⟨fun h20 => ?_, fun h20 => ?_⟩
      · try simp (disch := omega) only [cmpI, w32_b2i, b2i_0, b2i_1, w32_id, Classical.not_not, not_true_eq_false, not_false_eq_true] at h20
        omega
      · try simp (disch := omega) only [cmpI, w32_b2i, b2i_0, b2i_1, w32_id, Classical.not_not, not_true_eq_false, not_false_eq_true] at h20
        refine Ex_step (tk_M_overlays rfl) ?_
        refine Ex_step (tk_M_overlays rfl) ?_
        refine Ex_step (tk_M_overlays rfl) ?_
        refine Ex_cVK (av := [vI j, vI (t : Int)]) (tk_M_overlays rfl) mk_M_laysB ⟨rfl, rfl, by decide, rfl, Nat.le_of_ble_eq_true rfl, Nat.le_of_ble_eq_true rfl⟩ (hM.k) (f_laysB (A := up1 A 14 rr) hM hdb hj hWb (by omega) (fun r2 D E q1 q2 => ⟨rfl, ?_⟩))
        rw [up1_same]
        exact key D E r2 q1 q2
  refine Ex_step (tk_M_overlays rfl) ?_
  refine Ex_step (tk_M_overlays rfl) ?_
  refine pMI (tk_M_overlays rfl) hM ?_
  refine Ex_step (tk_M_overlays rfl) ?_
  refine Ex_step (tk_M_overlays rfl) ?_
  refine pMI (tk_M_overlays rfl) hM ?_
  refine Ex_step (tk_M_overlays rfl) ?_
  refine Ex_step (tk_M_overlays rfl) ?_
  refine Ex_cVK (av := [vI i]) (tk_M_overlays rfl) mk_M_laysA ⟨rfl, rfl, by decide, rfl, Nat.le_of_ble_eq_true rfl, Nat.le_of_ble_eq_true rfl⟩ (hM.k) (f_laysA hM hda hi hWa (fun D E q1 q2 => ⟨rfl, ?_⟩))
  refine Ex_step (tk_M_overlays rfl) ?_
  refine Ex_step (tk_M_overlays rfl) ?_
  have h17 := hall 8 0 (up1 (up1 I 24 (-1)) 25 1) (A 14) (F2 15 16 L D E) none none none (by omega) (((KpI.rf I).up (by decide) _).up (by decide) _) ⟨rfl, rfl, rfl, rfl, rfl⟩ q1 q2 (fun k hk => F2_o (by omega) (by omega) _ _ _)
  rw [up1_self rfl] at h17
  exact h17
end MBest2
