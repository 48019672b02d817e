/-! ===== the class: a best overlay's numbers ===== -/
section CBest
variable {d a b : Nat} {s al so ao : Int} {m : Mem} {F A L : Nat → Nat → Int} {Q : Nat → Option AV → Mem → Prop}
set_option maxRecDepth 100000 in
theorem c_bBegin {x y : Int} (hk1 : mK m a = 1) (hq : Q 0 none (CM m (upF (upF (upF (upF (upF F 65 a 0) 66 a 1) 67 a 0) 68 a x) 69 a y) A L)) : Ex d Best_begin 0 [some (vR a), some (vI x), some (vI y)] [] (CM m F A L) Q := by
  refine Ex_step (tk_Best_begin rfl) ?_
  refine Ex_step (tk_Best_begin rfl) ?_
  refine pCI (tk_Best_begin rfl) (hk1) ?_
  refine Ex_step (tk_Best_begin rfl) ?_
  refine Ex_step (tk_Best_begin rfl) ?_
  refine pCI (tk_Best_begin rfl) (hk1) ?_
  refine Ex_step (tk_Best_begin rfl) ?_
  refine Ex_step (tk_Best_begin rfl) ?_
  refine pCI (tk_Best_begin rfl) (hk1) ?_
  refine Ex_step (tk_Best_begin rfl) ?_
  refine Ex_step (tk_Best_begin rfl) ?_
  refine pCI (tk_Best_begin rfl) (hk1) ?_
  refine Ex_step (tk_Best_begin rfl) ?_
  refine Ex_step (tk_Best_begin rfl) ?_
  refine pCI (tk_Best_begin rfl) (hk1) ?_
  refine Ex_step (tk_Best_begin rfl) ⟨rfl, ?_⟩
  exact hq
set_option maxRecDepth 100000 in
theorem c_isWhole (hk1 : mK m a = 1) (hs : F 65 a = s) (ha : F 66 a = al) (bs : -1000 ≤ s ∧ s ≤ 1000) (ba : -1000 ≤ al ∧ al ≤ 1000) (hq : Q 0 (some (vI (b2i (s = al)))) (CM m F A L)) : Ex d Best_isWhole 0 [some (vR a)] [] (CM m F A L) Q := by
  refine Ex_step (tk_Best_isWhole rfl) ?_
  refine gCI (tk_Best_isWhole rfl) (hk1) ?_
  rw [hs]
  refine Ex_step (tk_Best_isWhole rfl) ?_
  refine gCI (tk_Best_isWhole rfl) (hk1) ?_
  rw [ha]
  refine Ex_step (tk_Best_isWhole rfl) ⟨fun h8 => ?_, fun h8 => ?_⟩
  · try simp (disch := omega) only [cmpI, w32_b2i, b2i_0, b2i_1, w32_id, Classical.not_not, not_true_eq_false, not_false_eq_true] at h8
    refine Ex_step (tk_Best_isWhole rfl) ?_
    refine Ex_step (tk_Best_isWhole rfl) ⟨rfl, by first | exact Or.inl rfl | exact Or.inr rfl | exact b2i_01 _ | assumption, ?_⟩
    first | (rw [b2i_t (by omega)] at hq; exact hq) | (rw [b2i_f (by omega)] at hq; exact hq)
  · try simp (disch := omega) only [cmpI, w32_b2i, b2i_0, b2i_1, w32_id, Classical.not_not, not_true_eq_false, not_false_eq_true] at h8
    refine Ex_step (tk_Best_isWhole rfl) ?_
    refine Ex_step (tk_Best_isWhole rfl) ?_
    refine Ex_step (tk_Best_isWhole rfl) ⟨rfl, by first | exact Or.inl rfl | exact Or.inr rfl | exact b2i_01 _ | assumption, ?_⟩
    first | (rw [b2i_t (by omega)] at hq; exact hq) | (rw [b2i_f (by omega)] at hq; exact hq)
set_option maxRecDepth 100000 in
theorem c_isBelow (hk1 : mK m a = 1) (hs : F 65 a = s) (ha : F 66 a = al) (bs : 0 ≤ s ∧ s ≤ 300) (ba : 0 ≤ al ∧ al ≤ 300) (bso : 0 ≤ so ∧ so ≤ 300) (bao : 0 ≤ ao ∧ ao ≤ 300) (hq : Q 0 (some (vI (b2i (s * ao < so * al)))) (CM m F A L)) : Ex d Best_isBelow 0 [some (vR a), some (vI so), some (vI ao)] [] (CM m F A L) Q := by
  have m1 := mul_b (x := so) (y := al) bso (by omega)
  have m2 := mul_b (x := s) (y := ao) bs (by omega)
  refine Ex_step (tk_Best_isBelow rfl) ?_
  refine Ex_step (tk_Best_isBelow rfl) ?_
  refine gCI (tk_Best_isBelow rfl) (hk1) ?_
  rw [ha]
  refine Ex_step (tk_Best_isBelow rfl) ?_
  refine Ex_step (tk_Best_isBelow rfl) ?_
  refine gCI (tk_Best_isBelow rfl) (hk1) ?_
  rw [hs]
  refine Ex_step (tk_Best_isBelow rfl) ?_
  refine Ex_step (tk_Best_isBelow rfl) ?_
  refine Ex_step (tk_Best_isBelow rfl) ⟨fun h12 => ?_, fun h12 => ?_⟩
  · try simp (disch := omega) only [cmpI, w32_b2i, b2i_0, b2i_1, w32_id, Classical.not_not, not_true_eq_false, not_false_eq_true] at h12
    refine Ex_step (tk_Best_isBelow rfl) ?_
    refine Ex_step (tk_Best_isBelow rfl) ⟨rfl, by first | exact Or.inl rfl | exact Or.inr rfl | exact b2i_01 _ | assumption, ?_⟩
    first | (rw [b2i_t (by omega)] at hq; exact hq) | (rw [b2i_f (by omega)] at hq; exact hq)
  · try simp (disch := omega) only [cmpI, w32_b2i, b2i_0, b2i_1, w32_id, Classical.not_not, not_true_eq_false, not_false_eq_true] at h12
    refine Ex_step (tk_Best_isBelow rfl) ?_
    refine Ex_step (tk_Best_isBelow rfl) ?_
    refine Ex_step (tk_Best_isBelow rfl) ⟨rfl, by first | exact Or.inl rfl | exact Or.inr rfl | exact b2i_01 _ | assumption, ?_⟩
    first | (rw [b2i_t (by omega)] at hq; exact hq) | (rw [b2i_f (by omega)] at hq; exact hq)
set_option maxRecDepth 100000 in
theorem c_isAbove (hk1 : mK m a = 1) (hkb : mK m b = 1) (hs : F 65 a = s) (ha : F 66 a = al) (hso : F 65 b = so) (hao : F 66 b = ao) (bs : 0 ≤ s ∧ s ≤ 300) (ba : 0 ≤ al ∧ al ≤ 300) (bso : 0 ≤ so ∧ so ≤ 300) (bao : 0 ≤ ao ∧ ao ≤ 300) (hq : Q 0 (some (vI (b2i (so * al < s * ao)))) (CM m F A L)) : Ex (d + 1) Best_isAbove 0 [some (vR a), some (vR b)] [] (CM m F A L) Q := by
  refine Ex_step (tk_Best_isAbove rfl) ?_
  refine Ex_step (tk_Best_isAbove rfl) ?_
  refine gCI (tk_Best_isAbove rfl) (hk1) ?_
  rw [hs]
  refine Ex_step (tk_Best_isAbove rfl) ?_
  refine gCI (tk_Best_isAbove rfl) (hk1) ?_
  rw [ha]
  refine Ex_cV0 (av := [vI s, vI al]) (tk_Best_isAbove rfl) mk_Best_isBelow ⟨rfl, rfl, by decide, rfl, Nat.le_of_ble_eq_true rfl, Nat.le_of_ble_eq_true rfl⟩ (hkb) (fun _ h => c_isBelow hkb hso hao bso bao bs ba h) ?_
  refine Ex_step (tk_Best_isAbove rfl) ⟨rfl, by first | exact Or.inl rfl | exact Or.inr rfl | exact b2i_01 _ | assumption, ?_⟩
  exact hq
set_option maxRecDepth 100000 in
theorem c_thou (hk1 : mK m a = 1) (hs : F 65 a = s) (ha : F 66 a = al) (bs : 0 ≤ s ∧ s ≤ 300) (ba : 1 ≤ al ∧ al ≤ 300) (hq : Q 0 (some (vI (1000 * s / al))) (CM m F A L)) : Ex d Best_thousandths 0 [some (vR a)] [] (CM m F A L) Q := by
  have e : iDiv (s * 1000) al = 1000 * s / al := by
    rw [iDiv_nn (by omega) (by omega) (by omega) (by omega), Int.mul_comm]
  rw [← e] at hq
  refine Ex_step (tk_Best_thousandths rfl) ?_
  refine gCI (tk_Best_thousandths rfl) (hk1) ?_
  rw [ha]
  refine Ex_step (tk_Best_thousandths rfl) ⟨fun h4 => ?_, fun h4 => ?_⟩
  · try simp (disch := omega) only [cmpI, w32_b2i, b2i_0, b2i_1, w32_id, Classical.not_not, not_true_eq_false, not_false_eq_true] at h4
    refine Ex_step (tk_Best_thousandths rfl) ?_
    refine gCI (tk_Best_thousandths rfl) (hk1) ?_
    rw [hs]
    refine Ex_step (tk_Best_thousandths rfl) ?_
    refine Ex_step (tk_Best_thousandths rfl) ?_
    refine Ex_step (tk_Best_thousandths rfl) ?_
    refine gCI (tk_Best_thousandths rfl) (hk1) ?_
    rw [ha]
    refine Ex_step (tk_Best_thousandths rfl) ⟨by rw [w32_id (by omega) (by omega)]; omega, ?_⟩
    refine Ex_step (tk_Best_thousandths rfl) ⟨rfl, ?_⟩
    exact hq
  · try simp (disch := omega) only [cmpI, w32_b2i, b2i_0, b2i_1, w32_id, Classical.not_not, not_true_eq_false, not_false_eq_true] at h4
    omega
set_option maxRecDepth 100000 in
theorem c_gcd {p q : Nat} (hp : p ≤ 1000) (hq2 : q ≤ 1000) (hq : Q 0 (some (vI ((Nat.gcd p q : Nat) : Int))) m) : Ex d Best_greatestCommon 0 [some (vI (p : Int)), some (vI (q : Int)), none, none, none, none] [] m Q := by
  have hloop : ∀ (n u v c : Nat) (l5 : Option AV), v < n → v + c ≤ 1000 → u ≤ 1000 → Nat.gcd u v = Nat.gcd p q → Ex d Best_greatestCommon 7 [some (vI (p : Int)), some (vI (q : Int)), some (vI (u : Int)), some (vI (v : Int)), some (vI (c : Int)), l5] [] m Q := by
    intro n
    induction n with
    | zero => intro u v c l5 hv; omega
    | succ n ih =>
      intro u v c l5 hv hc hu hg
      by_cases h0 : v = 0
      · subst h0
        rw [Nat.gcd_zero_right] at hg
        rw [← hg] at hq
        refine Ex_step (tk_Best_greatestCommon rfl) ?_
        refine Ex_step (tk_Best_greatestCommon rfl) ?_
        refine Ex_step (tk_Best_greatestCommon rfl) ⟨fun h12 => ?_, fun h12 => ?_⟩
        · try simp (disch := omega) only [cmpI, w32_b2i, b2i_0, b2i_1, w32_id, Classical.not_not, not_true_eq_false, not_false_eq_true] at h12
          refine Ex_step (tk_Best_greatestCommon rfl) ?_
          refine Ex_step (tk_Best_greatestCommon rfl) ⟨rfl, ?_⟩
          exact hq
        · try simp (disch := omega) only [cmpI, w32_b2i, b2i_0, b2i_1, w32_id, Classical.not_not, not_true_eq_false, not_false_eq_true] at h12
          refine Ex_step (tk_Best_greatestCommon rfl) ?_
          refine Ex_step (tk_Best_greatestCommon rfl) ⟨fun h16 => ?_, fun h16 => ?_⟩
          · try simp (disch := omega) only [cmpI, w32_b2i, b2i_0, b2i_1, w32_id, Classical.not_not, not_true_eq_false, not_false_eq_true] at h16
            refine Ex_step (tk_Best_greatestCommon rfl) ?_
            refine Ex_step (tk_Best_greatestCommon rfl) ⟨rfl, ?_⟩
            exact hq
          · try simp (disch := omega) only [cmpI, w32_b2i, b2i_0, b2i_1, w32_id, Classical.not_not, not_true_eq_false, not_false_eq_true] at h16
            omega
      · have hlt : u % v < v := Nat.mod_lt _ (by omega)
        have e : iRem (u : Int) (v : Int) = ((u % v : Nat) : Int) := by rw [iRem_nn (by omega) (by omega) (by omega) (by omega)]; rfl
        have hgq : Nat.gcd v (u % v) = Nat.gcd p q := by rw [← hg, Nat.gcd_comm u v, Nat.gcd_rec v u, Nat.gcd_comm]
        have hnx := ih v (u % v) (c + 1) (some (vI ((u % v : Nat) : Int))) (by omega) (by omega) (by omega) hgq
        rw [← e] at hnx
        refine Ex_step (tk_Best_greatestCommon rfl) ?_
        refine Ex_step (tk_Best_greatestCommon rfl) ?_
        refine Ex_step (tk_Best_greatestCommon rfl) ⟨fun h12 => ?_, fun h12 => ?_⟩
        · try simp (disch := omega) only [cmpI, w32_b2i, b2i_0, b2i_1, w32_id, Classical.not_not, not_true_eq_false, not_false_eq_true] at h12
          omega
        · try simp (disch := omega) only [cmpI, w32_b2i, b2i_0, b2i_1, w32_id, Classical.not_not, not_true_eq_false, not_false_eq_true] at h12
          refine Ex_step (tk_Best_greatestCommon rfl) ?_
          refine Ex_step (tk_Best_greatestCommon rfl) ⟨fun h16 => ?_, fun h16 => ?_⟩
          · try simp (disch := omega) only [cmpI, w32_b2i, b2i_0, b2i_1, w32_id, Classical.not_not, not_true_eq_false, not_false_eq_true] at h16
            omega
          · try simp (disch := omega) only [cmpI, w32_b2i, b2i_0, b2i_1, w32_id, Classical.not_not, not_true_eq_false, not_false_eq_true] at h16
            refine Ex_step (tk_Best_greatestCommon rfl) ?_
            refine Ex_step (tk_Best_greatestCommon rfl) ?_
            refine Ex_step (tk_Best_greatestCommon rfl) ⟨by rw [w32_id (by omega) (by omega)]; omega, ?_⟩
            refine Ex_step (tk_Best_greatestCommon rfl) ?_
            refine Ex_step (tk_Best_greatestCommon rfl) ?_
            refine Ex_step (tk_Best_greatestCommon rfl) ?_
            refine Ex_step (tk_Best_greatestCommon rfl) ?_
            refine Ex_step (tk_Best_greatestCommon rfl) ?_
            refine Ex_step (tk_Best_greatestCommon rfl) ?_
            refine Ex_step (tk_Best_greatestCommon rfl) ?_
            exact hnx
  have h7 := hloop 1001 p q 0 none (by omega) (by omega) hp rfl
  refine Ex_step (tk_Best_greatestCommon rfl) ?_
  refine Ex_step (tk_Best_greatestCommon rfl) ?_
  refine Ex_step (tk_Best_greatestCommon rfl) ?_
  refine Ex_step (tk_Best_greatestCommon rfl) ?_
  refine Ex_step (tk_Best_greatestCommon rfl) ?_
  refine Ex_step (tk_Best_greatestCommon rfl) ?_
  exact h7
set_option maxRecDepth 100000 in
theorem c_lowered {sn an n : Nat} (hk1 : mK m a = 1) (hs : F 65 a = (sn : Int)) (ha : F 66 a = (an : Int)) (bs : sn ≤ 300) (ba : 1 ≤ an ∧ an ≤ 300) (bn : n ≤ 300) (hq : Q 0 (some (vI ((n / Nat.gcd an sn : Nat) : Int))) (CM m F A L)) : Ex (d + 1) Best_lowered 0 [some (vR a), some (vI (n : Int)), none] [] (CM m F A L) Q := by
  have g1 : 1 ≤ Nat.gcd an sn := Nat.gcd_pos_of_pos_left sn (by omega)
  have g2 : Nat.gcd an sn ≤ an := Nat.gcd_le_left sn (by omega)
  have e : iDiv (n : Int) ((Nat.gcd an sn : Nat) : Int) = ((n / Nat.gcd an sn : Nat) : Int) := by rw [iDiv_nn (by omega) (by omega) (by omega) (by omega)]; rfl
  rw [← e] at hq
  refine Ex_step (tk_Best_lowered rfl) ?_
  refine gCI (tk_Best_lowered rfl) (hk1) ?_
  rw [ha]
  refine Ex_step (tk_Best_lowered rfl) ?_
  refine gCI (tk_Best_lowered rfl) (hk1) ?_
  rw [hs]
  refine Ex_cS0 (av := [vI (an : Int), vI (sn : Int)]) (tk_Best_lowered rfl) mk_Best_greatestCommon ⟨rfl, by decide, rfl, rfl, rfl, Nat.le_of_ble_eq_true rfl, Nat.le_of_ble_eq_true rfl⟩ (fun _ h => c_gcd (by omega) (by omega) h) ?_
  refine Ex_step (tk_Best_lowered rfl) ?_
  refine Ex_step (tk_Best_lowered rfl) ?_
  refine Ex_step (tk_Best_lowered rfl) ⟨fun h13 => ?_, fun h13 => ?_⟩
  · try simp (disch := omega) only [cmpI, w32_b2i, b2i_0, b2i_1, w32_id, Classical.not_not, not_true_eq_false, not_false_eq_true] at h13
    refine Ex_step (tk_Best_lowered rfl) ?_
    refine Ex_step (tk_Best_lowered rfl) ?_
    refine Ex_step (tk_Best_lowered rfl) ⟨by rw [w32_id (by omega) (by omega)]; omega, ?_⟩
    refine Ex_step (tk_Best_lowered rfl) ⟨rfl, ?_⟩
    exact hq
  · try simp (disch := omega) only [cmpI, w32_b2i, b2i_0, b2i_1, w32_id, Classical.not_not, not_true_eq_false, not_false_eq_true] at h13
    omega
set_option maxRecDepth 100000 in
theorem trm_0 {sn an : Nat} (ha : 1 ≤ an) (h0 : sn = 0 → an = 1) : ((sn / Nat.gcd an sn : Nat) : Int) = trm sn an 0 ∧ ((an / Nat.gcd an sn : Nat) : Int) = trm sn an 1 := by
  unfold trm
  by_cases q : sn = 0
  · rw [if_pos q, if_pos q, h0 q, q]
    exact ⟨rfl, rfl⟩
  · rw [if_neg q, if_neg q, if_pos rfl, if_neg (by decide), Nat.gcd_comm an sn]
    exact ⟨rfl, rfl⟩
set_option maxRecDepth 100000 in
theorem c_above {sn an : Nat} (hk1 : mK m a = 1) (hs : F 65 a = (sn : Int)) (ha : F 66 a = (an : Int)) (bs : sn ≤ 300) (ba : 1 ≤ an ∧ an ≤ 300) (h0 : sn = 0 → an = 1) (hq : Q 0 (some (vI (trm sn an 0))) (CM m F A L)) : Ex (d + 2) Best_above 0 [some (vR a)] [] (CM m F A L) Q := by
  rw [← (trm_0 ba.1 h0).1] at hq
  refine Ex_step (tk_Best_above rfl) ?_
  refine Ex_step (tk_Best_above rfl) ?_
  refine gCI (tk_Best_above rfl) (hk1) ?_
  rw [hs]
  refine Ex_cV0 (av := [vI (sn : Int)]) (tk_Best_above rfl) mk_Best_lowered ⟨rfl, rfl, by decide, rfl, Nat.le_of_ble_eq_true rfl, Nat.le_of_ble_eq_true rfl⟩ (hk1) (fun _ h => c_lowered hk1 hs ha bs ba bs h) ?_
  refine Ex_step (tk_Best_above rfl) ⟨rfl, ?_⟩
  exact hq
set_option maxRecDepth 100000 in
theorem c_below {sn an : Nat} (hk1 : mK m a = 1) (hs : F 65 a = (sn : Int)) (ha : F 66 a = (an : Int)) (bs : sn ≤ 300) (ba : 1 ≤ an ∧ an ≤ 300) (h0 : sn = 0 → an = 1) (hq : Q 0 (some (vI (trm sn an 1))) (CM m F A L)) : Ex (d + 2) Best_below 0 [some (vR a)] [] (CM m F A L) Q := by
  rw [← (trm_0 ba.1 h0).2] at hq
  refine Ex_step (tk_Best_below rfl) ?_
  refine Ex_step (tk_Best_below rfl) ?_
  refine gCI (tk_Best_below rfl) (hk1) ?_
  rw [ha]
  refine Ex_cV0 (av := [vI (an : Int)]) (tk_Best_below rfl) mk_Best_lowered ⟨rfl, rfl, by decide, rfl, Nat.le_of_ble_eq_true rfl, Nat.le_of_ble_eq_true rfl⟩ (hk1) (fun _ h => c_lowered hk1 hs ha bs ba ba.2 h) ?_
  refine Ex_step (tk_Best_below rfl) ⟨rfl, ?_⟩
  exact hq
end CBest
/-! ===== the class: edges, looks ===== -/
section CEdge
variable {d a c dd : Nat} {T : Nat → Int} {m : Mem} {F A L : Nat → Nat → Int} {Q : Nat → Option AV → Mem → Prop}
set_option maxRecDepth 100000 in
theorem c_edgeC (hD : DW m a) (hG : DG F A a (T (bD dd + 1)) (T (bD dd + 2)) (srt T dd)) (hW : DsW T dd) {l0 : Option AV} {c0 x z : Int} (hx : 0 ≤ x ∧ x ≤ 9) (hz : 0 ≤ z ∧ z ≤ 9) (h : Ex (d + 2) Shp_edgeOf 114 [l0, some (vR a), some (vI (c0 + edC T dd x z)), some (vI z), some (vI x)] [] (CM m F A L) Q) : Ex (d + 2) Shp_edgeOf 24 [l0, some (vR a), some (vI c0), some (vI z), some (vI x)] [] (CM m F A L) Q := by
  have hk3 := hD.1
  have hF := srt_FG hW
  have o1 : okI x := by unfold okI; omega
  have o2 : okI z := by unfold okI; omega
  have o3 : okI (x - 1) := by unfold okI; omega
  have o4 : okI (x + 1) := by unfold okI; omega
  have o5 : okI (z - 1) := by unfold okI; omega
  have o6 : okI (z + 1) := by unfold okI; omega
  unfold edC at h
  by_cases hq : dkP T dd x z
  · rw [if_pos hq, show c0 + (lit T dd (x - 1) z + lit T dd (x + 1) z + lit T dd x (z - 1) + lit T dd x (z + 1)) = c0 + lit T dd (x - 1) z + lit T dd (x + 1) z + lit T dd x (z - 1) + lit T dd x (z + 1) by omega] at h
    have h112 : ∀ v, v = lit T dd x (z + 1) → Ex (d + 2) Shp_edgeOf 112 [l0, some (vR a), some (vI (c0 + lit T dd (x - 1) z + lit T dd (x + 1) z + lit T dd x (z - 1))), some (vI z), some (vI x)] [vI v, vI (c0 + lit T dd (x - 1) z + lit T dd (x + 1) z + lit T dd x (z - 1))] (CM m F A L) Q := by
      intro v hv
      subst hv
      refine Ex_step (tk_Shp_edgeOf rfl) ?_
      refine Ex_step (tk_Shp_edgeOf rfl) ?_
      exact h
    have h92 : ∀ v, v = lit T dd x (z - 1) → Ex (d + 2) Shp_edgeOf 92 [l0, some (vR a), some (vI (c0 + lit T dd (x - 1) z + lit T dd (x + 1) z)), some (vI z), some (vI x)] [vI v, vI (c0 + lit T dd (x - 1) z + lit T dd (x + 1) z)] (CM m F A L) Q := by
      intro v hv
      subst hv
      refine Ex_step (tk_Shp_edgeOf rfl) ?_
      refine Ex_step (tk_Shp_edgeOf rfl) ?_
      refine Ex_step (tk_Shp_edgeOf rfl) ?_
      refine Ex_step (tk_Shp_edgeOf rfl) ?_
      refine Ex_step (tk_Shp_edgeOf rfl) ?_
      refine Ex_step (tk_Shp_edgeOf rfl) ?_
      refine Ex_step (tk_Shp_edgeOf rfl) ?_
      refine Ex_step (tk_Shp_edgeOf rfl) ?_
      refine Ex_cV0 (av := [vI x, vI (z + 1)]) (tk_Shp_edgeOf rfl) mk_Des_isDark ⟨rfl, rfl, by decide, rfl, Nat.le_of_ble_eq_true rfl, Nat.le_of_ble_eq_true rfl⟩ (hk3) (fun _ h => c_isDark hD hG hF o1 o6 h) ?_
      refine Ex_step (tk_Shp_edgeOf rfl) ⟨fun h104 => ?_, fun h104 => ?_⟩
      · try simp (disch := omega) only [cmpI, w32_b2i, b2i_0, b2i_1, w32_id, Classical.not_not, not_true_eq_false, not_false_eq_true] at h104
        have hx := h112 1 (if_neg h104).symm
        refine Ex_step (tk_Shp_edgeOf rfl) ?_
        exact hx
      · try simp (disch := omega) only [cmpI, w32_b2i, b2i_0, b2i_1, w32_id, Classical.not_not, not_true_eq_false, not_false_eq_true] at h104
        have hx := h112 0 (if_pos h104).symm
        refine Ex_step (tk_Shp_edgeOf rfl) ?_
        refine Ex_step (tk_Shp_edgeOf rfl) ?_
        exact hx
    have h72 : ∀ v, v = lit T dd (x + 1) z → Ex (d + 2) Shp_edgeOf 72 [l0, some (vR a), some (vI (c0 + lit T dd (x - 1) z)), some (vI z), some (vI x)] [vI v, vI (c0 + lit T dd (x - 1) z)] (CM m F A L) Q := by
      intro v hv
      subst hv
      refine Ex_step (tk_Shp_edgeOf rfl) ?_
      refine Ex_step (tk_Shp_edgeOf rfl) ?_
      refine Ex_step (tk_Shp_edgeOf rfl) ?_
      refine Ex_step (tk_Shp_edgeOf rfl) ?_
      refine Ex_step (tk_Shp_edgeOf rfl) ?_
      refine Ex_step (tk_Shp_edgeOf rfl) ?_
      refine Ex_step (tk_Shp_edgeOf rfl) ?_
      refine Ex_step (tk_Shp_edgeOf rfl) ?_
      refine Ex_cV0 (av := [vI x, vI (z - 1)]) (tk_Shp_edgeOf rfl) mk_Des_isDark ⟨rfl, rfl, by decide, rfl, Nat.le_of_ble_eq_true rfl, Nat.le_of_ble_eq_true rfl⟩ (hk3) (fun _ h => c_isDark hD hG hF o1 o5 h) ?_
      refine Ex_step (tk_Shp_edgeOf rfl) ⟨fun h84 => ?_, fun h84 => ?_⟩
      · try simp (disch := omega) only [cmpI, w32_b2i, b2i_0, b2i_1, w32_id, Classical.not_not, not_true_eq_false, not_false_eq_true] at h84
        have hx := h92 1 (if_neg h84).symm
        refine Ex_step (tk_Shp_edgeOf rfl) ?_
        exact hx
      · try simp (disch := omega) only [cmpI, w32_b2i, b2i_0, b2i_1, w32_id, Classical.not_not, not_true_eq_false, not_false_eq_true] at h84
        have hx := h92 0 (if_pos h84).symm
        refine Ex_step (tk_Shp_edgeOf rfl) ?_
        refine Ex_step (tk_Shp_edgeOf rfl) ?_
        exact hx
    have h52 : ∀ v, v = lit T dd (x - 1) z → Ex (d + 2) Shp_edgeOf 52 [l0, some (vR a), some (vI c0), some (vI z), some (vI x)] [vI v, vI c0] (CM m F A L) Q := by
      intro v hv
      subst hv
      refine Ex_step (tk_Shp_edgeOf rfl) ?_
      refine Ex_step (tk_Shp_edgeOf rfl) ?_
      refine Ex_step (tk_Shp_edgeOf rfl) ?_
      refine Ex_step (tk_Shp_edgeOf rfl) ?_
      refine Ex_step (tk_Shp_edgeOf rfl) ?_
      refine Ex_step (tk_Shp_edgeOf rfl) ?_
      refine Ex_step (tk_Shp_edgeOf rfl) ?_
      refine Ex_step (tk_Shp_edgeOf rfl) ?_
      refine Ex_cV0 (av := [vI (x + 1), vI z]) (tk_Shp_edgeOf rfl) mk_Des_isDark ⟨rfl, rfl, by decide, rfl, Nat.le_of_ble_eq_true rfl, Nat.le_of_ble_eq_true rfl⟩ (hk3) (fun _ h => c_isDark hD hG hF o4 o2 h) ?_
      refine Ex_step (tk_Shp_edgeOf rfl) ⟨fun h64 => ?_, fun h64 => ?_⟩
      · try simp (disch := omega) only [cmpI, w32_b2i, b2i_0, b2i_1, w32_id, Classical.not_not, not_true_eq_false, not_false_eq_true] at h64
        have hx := h72 1 (if_neg h64).symm
        refine Ex_step (tk_Shp_edgeOf rfl) ?_
        exact hx
      · try simp (disch := omega) only [cmpI, w32_b2i, b2i_0, b2i_1, w32_id, Classical.not_not, not_true_eq_false, not_false_eq_true] at h64
        have hx := h72 0 (if_pos h64).symm
        refine Ex_step (tk_Shp_edgeOf rfl) ?_
        refine Ex_step (tk_Shp_edgeOf rfl) ?_
        exact hx
    refine Ex_step (tk_Shp_edgeOf rfl) ?_
    refine Ex_step (tk_Shp_edgeOf rfl) ?_
    refine Ex_step (tk_Shp_edgeOf rfl) ?_
    refine Ex_cV0 (av := [vI x, vI z]) (tk_Shp_edgeOf rfl) mk_Des_isDark ⟨rfl, rfl, by decide, rfl, Nat.le_of_ble_eq_true rfl, Nat.le_of_ble_eq_true rfl⟩ (hk3) (fun _ h => c_isDark hD hG hF o1 o2 h) ?_
    refine Ex_step (tk_Shp_edgeOf rfl) ⟨fun h31 => ?_, fun h31 => ?_⟩
    · try simp (disch := omega) only [cmpI, w32_b2i, b2i_0, b2i_1, w32_id, Classical.not_not, not_true_eq_false, not_false_eq_true] at h31
      exact absurd hq h31
    · try simp (disch := omega) only [cmpI, w32_b2i, b2i_0, b2i_1, w32_id, Classical.not_not, not_true_eq_false, not_false_eq_true] at h31
      refine Ex_step (tk_Shp_edgeOf rfl) ?_
      refine Ex_step (tk_Shp_edgeOf rfl) ?_
      refine Ex_step (tk_Shp_edgeOf rfl) ?_
      refine Ex_step (tk_Shp_edgeOf rfl) ?_
      refine Ex_step (tk_Shp_edgeOf rfl) ?_
      refine Ex_step (tk_Shp_edgeOf rfl) ?_
      refine Ex_cV0 (av := [vI (x - 1), vI z]) (tk_Shp_edgeOf rfl) mk_Des_isDark ⟨rfl, rfl, by decide, rfl, Nat.le_of_ble_eq_true rfl, Nat.le_of_ble_eq_true rfl⟩ (hk3) (fun _ h => c_isDark hD hG hF o3 o2 h) ?_
      refine Ex_step (tk_Shp_edgeOf rfl) ⟨fun h44 => ?_, fun h44 => ?_⟩
      · try simp (disch := omega) only [cmpI, w32_b2i, b2i_0, b2i_1, w32_id, Classical.not_not, not_true_eq_false, not_false_eq_true] at h44
        have hx := h52 1 (if_neg h44).symm
        refine Ex_step (tk_Shp_edgeOf rfl) ?_
        exact hx
      · try simp (disch := omega) only [cmpI, w32_b2i, b2i_0, b2i_1, w32_id, Classical.not_not, not_true_eq_false, not_false_eq_true] at h44
        have hx := h52 0 (if_pos h44).symm
        refine Ex_step (tk_Shp_edgeOf rfl) ?_
        refine Ex_step (tk_Shp_edgeOf rfl) ?_
        exact hx
  · rw [if_neg hq, Int.add_zero] at h
    refine Ex_step (tk_Shp_edgeOf rfl) ?_
    refine Ex_step (tk_Shp_edgeOf rfl) ?_
    refine Ex_step (tk_Shp_edgeOf rfl) ?_
    refine Ex_cV0 (av := [vI x, vI z]) (tk_Shp_edgeOf rfl) mk_Des_isDark ⟨rfl, rfl, by decide, rfl, Nat.le_of_ble_eq_true rfl, Nat.le_of_ble_eq_true rfl⟩ (hk3) (fun _ h => c_isDark hD hG hF o1 o2 h) ?_
    refine Ex_step (tk_Shp_edgeOf rfl) ⟨fun h31 => ?_, fun h31 => ?_⟩
    · try simp (disch := omega) only [cmpI, w32_b2i, b2i_0, b2i_1, w32_id, Classical.not_not, not_true_eq_false, not_false_eq_true] at h31
      exact h
    · try simp (disch := omega) only [cmpI, w32_b2i, b2i_0, b2i_1, w32_id, Classical.not_not, not_true_eq_false, not_false_eq_true] at h31
      exact absurd h31 hq
set_option maxRecDepth 100000 in
theorem c_edgeOf (hD : DW m a) (hG : DG F A a (T (bD dd + 1)) (T (bD dd + 2)) (srt T dd)) (hW : DsW T dd) (hq : Q 0 (some (vI (edS T dd))) (CM m F A L)) {l0 : Option AV} : Ex (d + 2) Shp_edgeOf 0 [l0, some (vR a), none, none, none] [] (CM m F A L) Q := by
  have hk3 := hD.1
  have hw := hW.2.1
  have hh := hW.2.2.1
  obtain ⟨w, hwe⟩ : ∃ w : Nat, (w : Int) = T (bD dd + 1) := ⟨(T (bD dd + 1)).toNat, by omega⟩
  obtain ⟨g, hge⟩ : ∃ g : Nat, (g : Int) = T (bD dd + 2) := ⟨(T (bD dd + 2)).toNat, by omega⟩
  rw [show edS T dd = edA T dd w g by unfold edS; rw [show (T (bD dd + 1)).toNat = w by omega, show (T (bD dd + 2)).toNat = g by omega]] at hq
  have hrow : ∀ (y : Nat) (c0 : Int), y < g → (∀ l4 : Option AV, Ex (d + 2) Shp_edgeOf 120 [l0, some (vR a), some (vI (c0 + edR T dd y w)), some (vI (y : Int)), l4] [] (CM m F A L) Q) → ∀ (r k : Nat), k + r = w → Ex (d + 2) Shp_edgeOf 15 [l0, some (vR a), some (vI (c0 + edR T dd y k)), some (vI (y : Int)), some (vI (k : Int))] [] (CM m F A L) Q := by
    intro y c0 hy h2 r
    induction r with
    | zero =>
      intro k hk
      have : k = w := by omega
      subst this
      refine Ex_step (tk_Shp_edgeOf rfl) ?_
      refine Ex_step (tk_Shp_edgeOf rfl) ?_
      refine gCI (tk_Shp_edgeOf rfl) (hk3) ?_
      rw [hG.1]
      refine Ex_step (tk_Shp_edgeOf rfl) ⟨fun h21 => ?_, fun h21 => ?_⟩
      · try simp (disch := omega) only [cmpI, w32_b2i, b2i_0, b2i_1, w32_id, Classical.not_not, not_true_eq_false, not_false_eq_true] at h21
        exact h2 _
      · try simp (disch := omega) only [cmpI, w32_b2i, b2i_0, b2i_1, w32_id, Classical.not_not, not_true_eq_false, not_false_eq_true] at h21
        omega
    | succ r ih =>
      intro k hk
      have hnx := ih (k + 1) (by omega)
      unfold edR at hnx
      rw [← Int.add_assoc] at hnx
      have h114 : Ex (d + 2) Shp_edgeOf 114 [l0, some (vR a), some (vI (c0 + edR T dd y k + edC T dd (k : Nat) (y : Nat))), some (vI (y : Int)), some (vI (k : Int))] [] (CM m F A L) Q := by
        refine Ex_step (tk_Shp_edgeOf rfl) ?_
        refine Ex_step (tk_Shp_edgeOf rfl) ?_
        exact hnx
      refine Ex_step (tk_Shp_edgeOf rfl) ?_
      refine Ex_step (tk_Shp_edgeOf rfl) ?_
      refine gCI (tk_Shp_edgeOf rfl) (hk3) ?_
      rw [hG.1]
      refine Ex_step (tk_Shp_edgeOf rfl) ⟨fun h21 => ?_, fun h21 => ?_⟩
      · try simp (disch := omega) only [cmpI, w32_b2i, b2i_0, b2i_1, w32_id, Classical.not_not, not_true_eq_false, not_false_eq_true] at h21
        omega
      · try simp (disch := omega) only [cmpI, w32_b2i, b2i_0, b2i_1, w32_id, Classical.not_not, not_true_eq_false, not_false_eq_true] at h21
        exact c_edgeC hD hG hW (by omega) (by omega) h114
  have hall : ∀ (r y : Nat) (l4 : Option AV), y + r = g → Ex (d + 2) Shp_edgeOf 4 [l0, some (vR a), some (vI (edA T dd w y)), some (vI (y : Int)), l4] [] (CM m F A L) Q := by
    intro r
    induction r with
    | zero =>
      intro y l4 hy
      have : y = g := by omega
      subst this
      refine Ex_step (tk_Shp_edgeOf rfl) ?_
      refine Ex_step (tk_Shp_edgeOf rfl) ?_
      refine gCI (tk_Shp_edgeOf rfl) (hk3) ?_
      rw [hG.2.1]
      refine Ex_step (tk_Shp_edgeOf rfl) ⟨fun h9 => ?_, fun h9 => ?_⟩
      · try simp (disch := omega) only [cmpI, w32_b2i, b2i_0, b2i_1, w32_id, Classical.not_not, not_true_eq_false, not_false_eq_true] at h9
        refine Ex_step (tk_Shp_edgeOf rfl) ?_
        refine Ex_step (tk_Shp_edgeOf rfl) ⟨rfl, ?_⟩
        exact hq
      · try simp (disch := omega) only [cmpI, w32_b2i, b2i_0, b2i_1, w32_id, Classical.not_not, not_true_eq_false, not_false_eq_true] at h9
        omega
    | succ r ih =>
      intro y l4 hy
      have h120 : ∀ l4 : Option AV, Ex (d + 2) Shp_edgeOf 120 [l0, some (vR a), some (vI (edA T dd w y + edR T dd y w)), some (vI (y : Int)), l4] [] (CM m F A L) Q := by
        intro l4
        have hnx := ih (y + 1) l4 (by omega)
        unfold edA at hnx
        refine Ex_step (tk_Shp_edgeOf rfl) ?_
        refine Ex_step (tk_Shp_edgeOf rfl) ?_
        exact hnx
      have h15 := hrow y (edA T dd w y) (by omega) h120 w 0 (by omega)
      rw [show edR T dd y 0 = 0 from rfl, Int.add_zero] at h15
      refine Ex_step (tk_Shp_edgeOf rfl) ?_
      refine Ex_step (tk_Shp_edgeOf rfl) ?_
      refine gCI (tk_Shp_edgeOf rfl) (hk3) ?_
      rw [hG.2.1]
      refine Ex_step (tk_Shp_edgeOf rfl) ⟨fun h9 => ?_, fun h9 => ?_⟩
      · try simp (disch := omega) only [cmpI, w32_b2i, b2i_0, b2i_1, w32_id, Classical.not_not, not_true_eq_false, not_false_eq_true] at h9
        omega
      · try simp (disch := omega) only [cmpI, w32_b2i, b2i_0, b2i_1, w32_id, Classical.not_not, not_true_eq_false, not_false_eq_true] at h9
        refine Ex_step (tk_Shp_edgeOf rfl) ?_
        refine Ex_step (tk_Shp_edgeOf rfl) ?_
        exact h15
  refine Ex_step (tk_Shp_edgeOf rfl) ?_
  refine Ex_step (tk_Shp_edgeOf rfl) ?_
  refine Ex_step (tk_Shp_edgeOf rfl) ?_
  refine Ex_step (tk_Shp_edgeOf rfl) ?_
  exact hall g 0 none (by omega)
end CEdge
