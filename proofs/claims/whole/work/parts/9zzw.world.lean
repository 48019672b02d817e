/-! ===== what the Statement gives: the world at the law's entry ===== -/
def gvC : Cond := Jvm.Cond.and given_1 narrow_1
def sNone : String × Nat × String := ("", 0, "")
def sTm (i : Nat) : Term := .string (sSite.getD i sNone).1 (sSite.getD i sNone).2.1
def sVal (i : Nat) : Term := .field (sTm i) "java/lang/String" "value" "[B"
def sAtm (i : Nat) : List Cond := [.exactly (sTm i) "java/lang/String", .eq (.field (sTm i) "java/lang/String" "coder" "B") (.int 0), .arrayOf (sVal i) .byte, .eq (.length (sVal i)) (.int (Int32.ofNat (sB i).length))] ++ (List.range (sB i).length).map (fun j => Cond.eq (.elem (sVal i) (.int (Int32.ofNat j))) (.int ((sB i).getD j 0)))
def sPos : List Nat := [82, 112, 123, 133, 143, 156, 172, 187, 202, 217, 232, 249, 278, 306, 343, 367, 390, 413, 439, 468, 496, 524, 552, 581]
set_option maxRecDepth 100000 in
theorem sAtm_in : (List.range 24).all (fun i => decide (((flatC gvC).drop (sPos.getD i 0)).take (sAtm i).length = sAtm i)) = true := by decide +kernel
set_option maxRecDepth 100000 in
theorem sAtm_mem {i : Nat} (hi : i < 24) {w : Cond} (hw : w ∈ sAtm i) : w ∈ flatC gvC := by
  have h := of_decide_eq_true (List.all_eq_true.mp sAtm_in i (List.mem_range.mpr hi))
  rw [← h] at hw
  exact List.mem_of_mem_drop (List.mem_of_mem_take hw)
set_option maxRecDepth 100000 in
theorem sRef_in : (List.range 24).all (fun i => decide (Cond.stringRef (sSite.getD i sNone).1 (sSite.getD i sNone).2.1 (sSite.getD i sNone).2.2 ∈ lw_tbl)) = true := by decide +kernel
set_option maxRecDepth 100000 in
theorem sB_len : ∀ i, i < 24 → (sB i).length ≤ 100 := by decide
set_option maxRecDepth 100000 in
theorem okW2_mk {w : Cond} (h : okW2 w = true) {A : Array Value} {U : State} (hb : w.before A U = true) : va_Nw w U := by
  unfold okW2 at h
  split at h
  · exact va_Nw.of rfl hb
  · exact va_Nw.of rfl hb
  · exact hb
  · cases h
section World0
variable {s : State} {args : Array Value} {A : Nat → Prop}
set_option maxRecDepth 100000 in
theorem w_str (hs : ∀ w ∈ flatC gvC, w.before args s = true) (hA : ∀ a : Nat, a < s.heap.size → ¬ A a) {i : Nat} (hi : i < 24) : ∃ q : Nat × Nat, vk_S 1 [(sB i).length] [sB i] (fun _ => q.1) (fun _ => q.2) A s s.heap ∧ (sTm i).eval args s none [] s = some (.ref q.1) := by
  have hm : ∀ w ∈ sAtm i, w.before args s = true := fun w hw => hs w (sAtm_mem hi hw)
  have hl := sB_len i hi
  have e0 : ∀ j : Nat, j < 1 → j = 0 := fun j hj => by omega
  obtain ⟨adK, adV, h1, h2⟩ := vk_Sof (args := args) (s := s) (N := 1) (tm := fun _ => sTm i) (len := [(sB i).length]) (byt := [sB i]) (A := A)
    (fun j hj => by
      rw [e0 j hj]
      show (sB i).length < 2 ^ 31
      exact Nat.lt_of_le_of_lt hl (Nat.lt_of_lt_of_le (by decide : 100 < 101) (by decide)))
    (fun j hj => hm _ (List.mem_append_left _ List.mem_cons_self))
    (fun j hj => hm _ (List.mem_append_left _ (List.mem_cons_of_mem _ List.mem_cons_self)))
    (fun j hj => hm _ (List.mem_append_left _ (List.mem_cons_of_mem _ (List.mem_cons_of_mem _ List.mem_cons_self))))
    (fun j hj => by
      rw [e0 j hj]
      exact hm _ (List.mem_append_left _ (List.mem_cons_of_mem _ (List.mem_cons_of_mem _ (List.mem_cons_of_mem _ List.mem_cons_self)))))
    (fun j hj k hk => by
      rw [e0 j hj] at hk ⊢
      exact hm _ (List.mem_append_right _ (List.mem_map.mpr ⟨k, List.mem_range.mpr hk, rfl⟩)))
    (fun j k hj hk hne => absurd ((e0 j hj).trans (e0 k hk).symm) hne) hA
  refine ⟨(adK 0, adV 0), ⟨fun j hj => ?_, fun j k hj hk _ => (e0 j hj).trans (e0 k hk).symm⟩, h2 0 (by decide)⟩
  rw [e0 j hj]
  exact h1.1 0 (by decide)
set_option maxRecDepth 100000 in
theorem w_cls (hts : ∀ w ∈ lw_tbl, w.before args s = true) : ∃ D : va_G, va_K D vwCl [] s := by
  have h0 : ∀ k : Nat, ∃ q : ClassId × (Nat → Nat), ∀ c, vwCl[k]? = some c → u_Kn s c.1 c.2.1 c.2.2 q.1 q.2 := by
    intro k
    cases hc : vwCl[k]? with
    | none => exact ⟨(0, fun _ => 0), fun c h => by cases h⟩
    | some c =>
      have ok := clOk_all hc
      obtain ⟨cC, iS, h⟩ := u_known (C := c.1) (T := c.2.1) (N := c.2.2) (n := c.2.2) hts (fun w hw => (List.mem_filter.mp (ok.1 w hw)).1) (hts _ (List.mem_filter.mp ok.2.2.2.2.1).1)
      refine ⟨(cC, iS), fun c2 h2 => ?_⟩
      cases h2
      exact h
  obtain ⟨f, hf⟩ := Classical.axiomOfChoice h0
  exact ⟨(fun k => (f k).1, fun k => (f k).2), fun k c hc => hf k c hc, fun k q h => by simp at h⟩
set_option maxRecDepth 100000 in
theorem w_world {b L : Nat} {xs : Nat → Int32} (hts : ∀ w ∈ lw_tbl, w.before args s = true) (hgv : gvC.before args s = true) (hX : va_X b L xs s s.heap) (hbl : b < s.heap.size) (hL : L ≤ 3584) : ∃ (adK adV : Nat → Nat) (D : va_G) (gf : Option Nat), Wd (s.heap.size, b, L, xs, adK, adV, D, gf) s s.heap := by
  have hs : ∀ w ∈ flatC gvC, w.before args s = true := flat_of_before gvC hgv
  have hA : ∀ a : Nat, a < s.heap.size → ¬ (fun q : Nat => s.heap.size ≤ q) a := fun a ha => Nat.not_le.mpr ha
  obtain ⟨D, hD⟩ := w_cls hts
  have h0 : ∀ i : Nat, ∃ q : Nat × Nat, i < 24 → vk_S 1 [(sB i).length] [sB i] (fun _ => q.1) (fun _ => q.2) (fun q : Nat => s.heap.size ≤ q) s s.heap ∧ (sTm i).eval args s none [] s = some (.ref q.1) := by
    intro i
    by_cases hi : i < 24
    · obtain ⟨q, hq⟩ := w_str hs hA hi
      exact ⟨q, fun _ => hq⟩
    · exact ⟨(0, 0), fun h => absurd h hi⟩
  obtain ⟨ad, had⟩ := Classical.axiomOfChoice h0
  have z1 : vx_Zq Bundle.tN "UNASSIGNED_STACK" Bundle.steD (fun q : Nat => s.heap.size ≤ q) s s.heap := vx_Zqof (hts (.laysStatic Bundle.tN "UNASSIGNED_STACK" Bundle.steD) (by decide +kernel)) (hts (.initialized Bundle.tN) (by decide +kernel)) (hs (.isRef (.static Bundle.tN "UNASSIGNED_STACK" Bundle.steD)) (by decide +kernel)) hA
  have z2 : vx_Zq Bundle.tN "SUPPRESSED_SENTINEL" Bundle.listD (fun q : Nat => s.heap.size ≤ q) s s.heap := vx_Zqof (hts (.laysStatic Bundle.tN "SUPPRESSED_SENTINEL" Bundle.listD) (by decide +kernel)) (hts (.initialized Bundle.tN) (by decide +kernel)) (hs (.isRef (.static Bundle.tN "SUPPRESSED_SENTINEL" Bundle.listD)) (by decide +kernel)) hA
  have z3 : va_Z "java/lang/String" "COMPACT_STRINGS" "Z" (.int 1) (fun q : Nat => s.heap.size ≤ q) s s.heap := va_Zof (hts (.laysStatic "java/lang/String" "COMPACT_STRINGS" "Z") (by decide +kernel)) (hts (.initialized "java/lang/String") (by decide +kernel)) (va_eqt (hs (.eq (.static "java/lang/String" "COMPACT_STRINGS" "Z") (.int 1)) (by decide +kernel))) hA
  have z4 : ∃ gf : Option Nat, va_Z "jdk/internal/util/Preconditions" "SIOOBE_FORMATTER" "Ljava/util/function/BiFunction;" (va_rf gf) (fun q : Nat => s.heap.size ≤ q) s s.heap := by
    rcases va_Zqof (A := fun q : Nat => s.heap.size ≤ q) (hts (.laysStatic "jdk/internal/util/Preconditions" "SIOOBE_FORMATTER" "Ljava/util/function/BiFunction;") (by decide +kernel)) (hts (.initialized "jdk/internal/util/Preconditions") (by decide +kernel)) (hs (.isRef (.static "jdk/internal/util/Preconditions" "SIOOBE_FORMATTER" "Ljava/util/function/BiFunction;")) (by decide +kernel)) hA with h | ⟨t, h⟩
    · exact ⟨none, h⟩
    · exact ⟨some t, h⟩
  obtain ⟨gf, z4⟩ := z4
  have zn : va_Nc "java/lang/IllegalArgumentException" "java/util/NoSuchElementException" s := va_Nc.of (hs (.not (.castable "java/lang/IllegalArgumentException" "java/util/NoSuchElementException")) (by decide +kernel))
  refine ⟨fun i => (ad i).1, fun i => (ad i).2, D, gf, hD, fun i hi => (had i hi).1, hX, hbl, ⟨Nat.lt_of_le_of_lt hL (Nat.lt_of_lt_of_le (by decide : 3584 < 3585) (by decide)), fun w hw h2 => okW2_mk h2 (hts w hw), zn⟩, fun i q hq => ?_, z1, z2, z3, z4⟩
  have hi : i < 24 := by
    have := (List.getElem?_eq_some_iff.mp hq).1
    exact this
  have eq : sSite.getD i sNone = q := by rw [List.getD_eq_getElem?_getD, hq]; rfl
  have m := of_decide_eq_true (List.all_eq_true.mp sRef_in i (List.mem_range.mpr hi))
  have ev := (had i hi).2
  unfold sTm at ev
  rw [eq] at m ev
  exact vk_R.of (hts _ m) ev
end World0
