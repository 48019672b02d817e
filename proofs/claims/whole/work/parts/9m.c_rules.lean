/-! ===== the class: the loop's steps as rules ===== -/
section CRules
variable {d rr tp sz p no br : Nat} {cs pl : List Int} {at_ cm : Int} {m : Mem} {F0 A0 L : Nat → Nat → Int} {Q : Nat → Option AV → Mem → Prop}
set_option maxRecDepth 100000 in
theorem sk_sz {f : Nat → Int} {sz p : Nat} (hp : p ≤ sz) : p ≤ sk f sz p ∧ sk f sz p ≤ sz := by
  have h := sk_le f sz (sz + 1) p (by omega)
  omega
set_option maxRecDepth 100000 in
theorem bt_lt {f : Nat → Int} {sz q : Nat} {c : Int} (h : bt f sz q = c) (hc : c ≠ -1) : q < sz := by
  unfold bt at h
  by_cases z : q < sz
  · exact z
  · rw [if_neg z] at h
    exact absurd h.symm hc
set_option maxRecDepth 100000 in
theorem nmE_lt {f : Nat → Int} {sz q : Nat} (h : dgt (bt f sz q)) : q + 1 ≤ nmE f sz q := by
  have key : ∀ (n q : Nat), sz - q < n → q ≤ nmE f sz q := by
    intro n
    induction n with
    | zero => intro q hq; omega
    | succ n ih =>
      intro q hq
      by_cases z : dgt (bt f sz q)
      · rw [nmE_go z]
        have := (bt_d z).1
        have := ih (q + 1) (by omega)
        omega
      · rw [nmE_stay z]
        exact Nat.le_refl _
  rw [nmE_go h]
  exact key (sz + 1) (q + 1) (by omega)
set_option maxRecDepth 100000 in
/-- "not" -/
theorem rl_N (hR : RlW m rr tp sz F0 A0 L) (hp : p ≤ sz) (hn : no + br ≤ 20) (hl : pl.length < 32) (hw : wdP (A0 tp) sz 2 (sk (A0 tp) sz p)) (h1 : no + br < 4 → RG d m rr sz F0 A0 L Q 1 (sk (A0 tp) sz p + 3) cs (-13 :: pl) (no + 1) br 1 cm) (h0 : ¬ no + br < 4 → RE m rr sz F0 A0 L Q 4 ((sk (A0 tp) sz p : Nat) : Int)) : RG d m rr sz F0 A0 L Q 1 p cs pl no br 1 cm := by
  have hsk := sk_sz (f := A0 tp) hp
  have hsz := hR.2.2.1
  refine c_rlV (R := fun v F2 A2 => v = 0 ∧ (no + br < 4 ∧ RD F2 A2 rr sz (sk (A0 tp) sz p + 3) 0 (-1) cs (-13 :: pl) (no + 1) br 1 cm ∨ ¬ no + br < 4 ∧ RD F2 A2 rr sz (sk (A0 tp) sz p) 4 ((sk (A0 tp) sz p : Nat) : Int) cs pl no br 1 cm)) hR hp (fun F A k hD Q1 hq => ?_) (fun v F2 A2 rd l3 k hr hrd => ?_)
  · obtain ⟨hA, hC⟩ := hR.c k
    exact c_tvN hR.1 hR.2.1 hD hn hl hsz (by omega) (by rw [hA]; exact hR.2.2.2.1) hC (by rw [hA]; exact hw) (fun F' A' k1 k2 => hq 0 F' A' (k.tr k1) ⟨rfl, k2⟩)
  · obtain ⟨rfl, hr⟩ := hr
    refine ⟨Or.inl rfl, ?_⟩
    rcases hr with ⟨z, hr⟩ | ⟨z, hr⟩
    · exact h1 z F2 A2 (rd + 1) l3 k hr (by omega)
    · exact c_rlE (rd := rd + 1) hR (h0 z) (by decide) k hr (by omega)
set_option maxRecDepth 100000 in
/-- "(" -/
theorem rl_B (hR : RlW m rr tp sz F0 A0 L) (hp : p ≤ sz) (hat : at_ = 0 ∨ at_ = 1) (hn : no + br ≤ 20) (hl : pl.length < 32) (hw : ¬ (at_ = 1 ∧ wdP (A0 tp) sz 2 (sk (A0 tp) sz p))) (hc : bt (A0 tp) sz (sk (A0 tp) sz p) = 40) (h1 : no + br < 4 → RG d m rr sz F0 A0 L Q 1 (sk (A0 tp) sz p + 1) cs (-10 :: pl) no (br + 1) 0 cm) (h0 : ¬ no + br < 4 → RE m rr sz F0 A0 L Q 4 ((sk (A0 tp) sz p : Nat) : Int)) : RG d m rr sz F0 A0 L Q 1 p cs pl no br at_ cm := by
  have hsk := sk_sz (f := A0 tp) hp
  have hsz := hR.2.2.1
  have hlt := bt_lt hc (by decide)
  refine c_rlV (R := fun v F2 A2 => v = 0 ∧ (no + br < 4 ∧ RD F2 A2 rr sz (sk (A0 tp) sz p + 1) 0 (-1) cs (-10 :: pl) no (br + 1) 0 cm ∨ ¬ no + br < 4 ∧ RD F2 A2 rr sz (sk (A0 tp) sz p) 4 ((sk (A0 tp) sz p : Nat) : Int) cs pl no br 0 cm)) hR hp (fun F A k hD Q1 hq => ?_) (fun v F2 A2 rd l3 k hr hrd => ?_)
  · obtain ⟨hA, hC⟩ := hR.c k
    rw [hc]
    refine c_tv27 hR.1 hR.2.1 hD hat hsz (by omega) (by rw [hA]; exact hR.2.2.2.1) hC (by rw [hA]; exact hw) ?_
    exact c_tvB hR.1 hR.2.1.1 hD.start hn hl hsz hlt (fun F' A' k1 k2 => hq 0 F' A' ((k.tr (KQ.r rr F A 455 0)).tr k1) ⟨rfl, k2⟩)
  · obtain ⟨rfl, hr⟩ := hr
    refine ⟨Or.inl rfl, ?_⟩
    rcases hr with ⟨z, hr⟩ | ⟨z, hr⟩
    · exact h1 z F2 A2 (rd + 1) l3 k hr (by omega)
    · exact c_rlE (rd := rd + 1) hR (h0 z) (by decide) k hr (by omega)
set_option maxRecDepth 100000 in
/-- a number -/
theorem rl_D (hR : RlW m rr tp sz F0 A0 L) (hp : p ≤ sz) (hat : at_ = 0 ∨ at_ = 1) (hcl : cs.length < 800) (hw : ¬ (at_ = 1 ∧ wdP (A0 tp) sz 2 (sk (A0 tp) sz p))) (hc : dgt (bt (A0 tp) sz (sk (A0 tp) sz p))) (h1 : ¬ 9999 < nmV (A0 tp) sz (sk (A0 tp) sz p) 0 → RG d m rr sz F0 A0 L Q 0 (nmE (A0 tp) sz (sk (A0 tp) sz p)) (nmV (A0 tp) sz (sk (A0 tp) sz p) 0 :: cs) pl no br 0 cm) (h0 : 9999 < nmV (A0 tp) sz (sk (A0 tp) sz p) 0 → RE m rr sz F0 A0 L Q 2 ((sk (A0 tp) sz p : Nat) : Int)) : RG d m rr sz F0 A0 L Q 1 p cs pl no br at_ cm := by
  have hsk := sk_sz (f := A0 tp) hp
  have hsz := hR.2.2.1
  have hne := nmE_lt hc
  refine c_rlV (R := fun v F2 A2 => v = 1 ∧ (¬ 9999 < nmV (A0 tp) sz (sk (A0 tp) sz p) 0 ∧ RD F2 A2 rr sz (nmE (A0 tp) sz (sk (A0 tp) sz p)) 0 (-1) (nmV (A0 tp) sz (sk (A0 tp) sz p) 0 :: cs) pl no br 0 cm ∨ 9999 < nmV (A0 tp) sz (sk (A0 tp) sz p) 0 ∧ RD F2 A2 rr sz (sk (A0 tp) sz p) 2 ((sk (A0 tp) sz p : Nat) : Int) (0 :: cs) pl no br 0 cm)) hR hp (fun F A k hD Q1 hq => ?_) (fun v F2 A2 rd l3 k hr hrd => ?_)
  · obtain ⟨hA, hC⟩ := hR.c k
    refine c_tv27 hR.1 hR.2.1 hD hat hsz (by omega) (by rw [hA]; exact hR.2.2.2.1) hC (by rw [hA]; exact hw) ?_
    exact c_tvD hR.1 hR.2.1 hD.start hcl hsz (by omega) (by rw [hA]; exact hR.2.2.2.1) hc (fun F' A' k1 k2 => hq 1 F' A' ((k.tr (KQ.r rr F A 455 0)).tr k1) ⟨rfl, by rw [hA] at k2; exact k2⟩)
  · obtain ⟨rfl, hr⟩ := hr
    refine ⟨Or.inr rfl, ?_⟩
    rcases hr with ⟨z, hr⟩ | ⟨z, hr⟩
    · exact h1 z F2 A2 (rd + 1) l3 k hr (by omega)
    · exact c_rlE (rd := rd + 1) hR (h0 z) (by decide) k hr (by omega)
set_option maxRecDepth 100000 in
/-- a fact, or nothing that may stand there -/
theorem rl_F (hR : RlW m rr tp sz F0 A0 L) (hp : p ≤ sz) (hat : at_ = 0 ∨ at_ = 1) (hcl : cs.length < 800) (hw : ¬ (at_ = 1 ∧ wdP (A0 tp) sz 2 (sk (A0 tp) sz p))) (hc : ¬ dgt (bt (A0 tp) sz (sk (A0 tp) sz p))) (hc4 : bt (A0 tp) sz (sk (A0 tp) sz p) ≠ 40) (h1 : ∀ k, k < 5 → wdP (A0 tp) sz (3 + k) (sk (A0 tp) sz p) → (∀ j, j < k → ¬ wdP (A0 tp) sz (3 + j) (sk (A0 tp) sz p)) → RG d m rr sz F0 A0 L Q 0 (sk (A0 tp) sz p + wn (3 + k)) ((-1 - (k : Int)) :: cs) pl no br 0 cm) (h0 : (∀ j, j < 5 → ¬ wdP (A0 tp) sz (3 + j) (sk (A0 tp) sz p)) → RE m rr sz F0 A0 L Q 1 ((sk (A0 tp) sz p : Nat) : Int)) : RG d m rr sz F0 A0 L Q 1 p cs pl no br at_ cm := by
  have hsk := sk_sz (f := A0 tp) hp
  have hsz := hR.2.2.1
  have hwn : ∀ k, k < 5 → 1 ≤ wn (3 + k) := by decide
  refine c_rlV (R := fun v F2 A2 => (∃ k, k < 5 ∧ v = 1 ∧ wdP (A0 tp) sz (3 + k) (sk (A0 tp) sz p) ∧ (∀ j, j < k → ¬ wdP (A0 tp) sz (3 + j) (sk (A0 tp) sz p)) ∧ RD F2 A2 rr sz (sk (A0 tp) sz p + wn (3 + k)) 0 (-1) ((-1 - (k : Int)) :: cs) pl no br 0 cm) ∨ (v = 0 ∧ (∀ j, j < 5 → ¬ wdP (A0 tp) sz (3 + j) (sk (A0 tp) sz p)) ∧ RD F2 A2 rr sz (sk (A0 tp) sz p) 1 ((sk (A0 tp) sz p : Nat) : Int) cs pl no br 0 cm)) hR hp (fun F A k hD Q1 hq => ?_) (fun v F2 A2 rd l3 k hr hrd => ?_)
  · obtain ⟨hA, hC⟩ := hR.c k
    have hC2 : CLow m (upF F 455 rr 0) A L := hC.k (fun j hj => upF_a _ _ _ (by have := hR.2.2.2.2.2.1; omega)) (fun _ _ => rfl)
    refine c_tv27 hR.1 hR.2.1 hD hat hsz (by omega) (by rw [hA]; exact hR.2.2.2.1) hC (by rw [hA]; exact hw) ?_
    refine c_tvF hR.1 hR.2.1 hD.start hcl hsz (by omega) (by rw [hA]; exact hR.2.2.2.1) hC2 hc (bt_range hR.2.2.2.1 hsz _) hc4 (fun kk hk z1 z2 F' A' k1 k2 => ?_) (fun z F' A' k1 k2 => ?_)
    · rw [hA] at z1 z2
      exact hq 1 F' A' ((k.tr (KQ.r rr F A 455 0)).tr k1) (Or.inl ⟨kk, hk, rfl, z1, z2, k2⟩)
    · rw [hA] at z
      exact hq 0 F' A' ((k.tr (KQ.r rr F A 455 0)).tr k1) (Or.inr ⟨rfl, z, k2⟩)
  · rcases hr with ⟨kk, hk, rfl, z1, z2, hr⟩ | ⟨rfl, z, hr⟩
    · exact ⟨Or.inr rfl, h1 kk hk z1 z2 F2 A2 (rd + 1) l3 k hr (by have := hwn kk hk; omega)⟩
    · exact ⟨Or.inl rfl, c_rlE (rd := rd + 1) hR (h0 z) (by decide) k hr (by omega)⟩
set_option maxRecDepth 100000 in
/-- ")" -/
theorem rl_C (hR : RlW m rr tp sz F0 A0 L) (hp : p ≤ sz) (hcm : cm = 0 ∨ cm = 1) (ho : okL pl) (hl : pl.length ≤ 32) (hcl : cs.length + pl.length ≤ 800) (hc : bt (A0 tp) sz (sk (A0 tp) sz p) = 41) {x : Int} {r : List Int} (hx : relP 1 pl = x :: r) (hbr : 1 ≤ br ∧ br ≤ 9) (h1 : RG d m rr sz F0 A0 L Q 0 (sk (A0 tp) sz p + 1) (relC 1 pl cs) r no (br - 1) at_ cm) : RG d m rr sz F0 A0 L Q 0 p cs pl no br at_ cm := by
  have hsk := sk_sz (f := A0 tp) hp
  have hsz := hR.2.2.1
  have hlt := bt_lt hc (by decide)
  refine c_rlS (R := fun v F2 A2 => v = 0 ∧ RD F2 A2 rr sz (sk (A0 tp) sz p + 1) 0 (-1) (relC 1 pl cs) r no (br - 1) at_ cm) hR hp hcm hbr.2 (fun z => by rw [hc] at z; omega) (fun F A k hD Q1 hq => ?_) (fun v F2 A2 rd l3 k hr hrd => ?_)
  · rw [hc]
    exact c_sgB hR.1 hR.2.1.1 hD ho hl hcl hsz hlt hx hbr (fun F' A' k1 k2 => hq 0 F' A' (k.tr k1) ⟨rfl, k2⟩)
  · obtain ⟨rfl, hr⟩ := hr
    exact h1 F2 A2 (rd + 1) l3 k hr (by omega)
set_option maxRecDepth 100000 in
/-- "or", "and" -/
theorem rl_J (hR : RlW m rr tp sz F0 A0 L) (hp : p ≤ sz) (hm1 : cm = 1 ∧ br = 0) (ho : okL pl) (hl : pl.length ≤ 31) (hcl : cs.length + pl.length ≤ 800) (hc : bt (A0 tp) sz (sk (A0 tp) sz p) ≠ 59) (hw : wdP (A0 tp) sz 9 (sk (A0 tp) sz p) ∨ wdP (A0 tp) sz 8 (sk (A0 tp) sz p)) (h9 : wdP (A0 tp) sz 9 (sk (A0 tp) sz p) → RG d m rr sz F0 A0 L Q 1 (sk (A0 tp) sz p + 2) (relC 1 pl cs) (-11 :: relP 1 pl) 0 br 1 0) (h8 : ¬ wdP (A0 tp) sz 9 (sk (A0 tp) sz p) → RG d m rr sz F0 A0 L Q 1 (sk (A0 tp) sz p + 3) (relC 2 pl cs) (-12 :: relP 2 pl) 0 br 1 0) : RG d m rr sz F0 A0 L Q 0 p cs pl no br at_ cm := by
  have hsk := sk_sz (f := A0 tp) hp
  have hsz := hR.2.2.1
  have hcr := bt_range hR.2.2.2.1 hsz (sk (A0 tp) sz p)
  refine c_rlS (R := fun v F2 A2 => v = 1 ∧ (wdP (A0 tp) sz 9 (sk (A0 tp) sz p) ∧ RD F2 A2 rr sz (sk (A0 tp) sz p + 2) 0 (-1) (relC 1 pl cs) (-11 :: relP 1 pl) 0 br 1 0 ∨ ¬ wdP (A0 tp) sz 9 (sk (A0 tp) sz p) ∧ RD F2 A2 rr sz (sk (A0 tp) sz p + 3) 0 (-1) (relC 2 pl cs) (-12 :: relP 2 pl) 0 br 1 0)) hR hp (Or.inr hm1.1) (by omega) (fun z => hc z.1) (fun F A k hD Q1 hq => ?_) (fun v F2 A2 rd l3 k hr hrd => ?_)
  · obtain ⟨hA, hC⟩ := hR.c k
    refine c_sg26 hR.1 hD hcr (by omega) (fun z => by omega) ?_
    exact c_sgJ hR.1 hR.2.1 hD hm1 ho hl hcl hsz (by omega) (by rw [hA]; exact hR.2.2.2.1) hC (by rw [hA]; exact hw) (fun F' A' k1 k2 => hq 1 F' A' (k.tr k1) ⟨rfl, by rw [hA] at k2; exact k2⟩)
  · obtain ⟨rfl, hr⟩ := hr
    rcases hr with ⟨z, hr⟩ | ⟨z, hr⟩
    · exact h9 z F2 A2 (rd + 1) l3 k hr (by omega)
    · exact h8 z F2 A2 (rd + 1) l3 k hr (by omega)
set_option maxRecDepth 100000 in
/-- another sign, or nothing that may stand there -/
theorem rl_S (hR : RlW m rr tp sz F0 A0 L) (hp : p ≤ sz) (hcm : cm = 0 ∨ cm = 1) (hbr : br ≤ 9) (ho : okL pl) (hl : pl.length ≤ 31) (hcl : cs.length + pl.length ≤ 800) (hc : ¬ (bt (A0 tp) sz (sk (A0 tp) sz p) = 59 ∧ cm = 1 ∧ br = 0)) (hc2 : ¬ (bt (A0 tp) sz (sk (A0 tp) sz p) = 41 ∧ 0 < br)) (hw : ¬ ((cm = 1 ∧ br = 0) ∧ (wdP (A0 tp) sz 9 (sk (A0 tp) sz p) ∨ wdP (A0 tp) sz 8 (sk (A0 tp) sz p)))) (h1 : sgn (bt (A0 tp) sz (sk (A0 tp) sz p)) ≠ 0 → ¬ (isCmp (sgn (bt (A0 tp) sz (sk (A0 tp) sz p))) ∧ (cm = 1 ∨ 0 < br)) → RG d m rr sz F0 A0 L Q 1 (sk (A0 tp) sz p + 1) (relC (bnd (sgn (bt (A0 tp) sz (sk (A0 tp) sz p)))) pl cs) (sgn (bt (A0 tp) sz (sk (A0 tp) sz p)) :: relP (bnd (sgn (bt (A0 tp) sz (sk (A0 tp) sz p)))) pl) no br at_ (b2i (cm = 1 ∨ isCmp (sgn (bt (A0 tp) sz (sk (A0 tp) sz p)))))) (h0 : (sgn (bt (A0 tp) sz (sk (A0 tp) sz p)) = 0 ∨ isCmp (sgn (bt (A0 tp) sz (sk (A0 tp) sz p))) ∧ (cm = 1 ∨ 0 < br)) → RE m rr sz F0 A0 L Q 1 ((sk (A0 tp) sz p : Nat) : Int)) : RG d m rr sz F0 A0 L Q 0 p cs pl no br at_ cm := by
  have hsk := sk_sz (f := A0 tp) hp
  have hsz := hR.2.2.1
  have hcr := bt_range hR.2.2.2.1 hsz (sk (A0 tp) sz p)
  have hlt : sgn (bt (A0 tp) sz (sk (A0 tp) sz p)) ≠ 0 → sk (A0 tp) sz p < sz := fun z => bt_lt rfl (fun e => z (by rw [e]; rfl))
  refine c_rlS (R := fun v F2 A2 => (v = 1 ∧ (sgn (bt (A0 tp) sz (sk (A0 tp) sz p)) ≠ 0 ∧ ¬ (isCmp (sgn (bt (A0 tp) sz (sk (A0 tp) sz p))) ∧ (cm = 1 ∨ 0 < br))) ∧ RD F2 A2 rr sz (sk (A0 tp) sz p + 1) 0 (-1) (relC (bnd (sgn (bt (A0 tp) sz (sk (A0 tp) sz p)))) pl cs) (sgn (bt (A0 tp) sz (sk (A0 tp) sz p)) :: relP (bnd (sgn (bt (A0 tp) sz (sk (A0 tp) sz p)))) pl) no br at_ (b2i (cm = 1 ∨ isCmp (sgn (bt (A0 tp) sz (sk (A0 tp) sz p)))))) ∨ (v = 0 ∧ (sgn (bt (A0 tp) sz (sk (A0 tp) sz p)) = 0 ∨ isCmp (sgn (bt (A0 tp) sz (sk (A0 tp) sz p))) ∧ (cm = 1 ∨ 0 < br)) ∧ RD F2 A2 rr sz (sk (A0 tp) sz p) 1 ((sk (A0 tp) sz p : Nat) : Int) cs pl no br at_ cm)) hR hp hcm hbr hc (fun F A k hD Q1 hq => ?_) (fun v F2 A2 rd l3 k hr hrd => ?_)
  · obtain ⟨hA, hC⟩ := hR.c k
    refine c_sg26 hR.1 hD hcr hbr hc2 ?_
    refine c_sg57 hR.1 hR.2.1 hD hcm hbr hsz (by omega) (by rw [hA]; exact hR.2.2.2.1) hC (by rw [hA]; exact hw) (fun l2 => ?_)
    exact c_sgS hR.1 hR.2.1.1 hD hcm hcr hbr ho hl hcl hsz hlt (fun z1 z2 F' A' k1 k2 => hq 1 F' A' (k.tr k1) (Or.inl ⟨rfl, ⟨z1, z2⟩, k2⟩)) (fun z F' k1 k2 => hq 0 F' A (k.tr k1) (Or.inr ⟨rfl, z, k2⟩))
  · rcases hr with ⟨rfl, ⟨z1, z2⟩, hr⟩ | ⟨rfl, z, hr⟩
    · exact h1 z1 z2 F2 A2 (rd + 1) l3 k hr (by omega)
    · exact c_rlE (rd := rd + 1) hR (h0 z) (by decide) k hr (by omega)
end CRules
