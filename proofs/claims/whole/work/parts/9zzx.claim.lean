/-! ===== the first memory ===== -/
def mem0 (L : Nat) (xs : Nat → Int32) : Mem := (0, 0, fun a => if a = 1 then 13 else kLow a, fun a => if a = 1 then L else (sB ((a - 3) / 2)).length, fun _ _ => 0, fun f a => if f = 1280 then a + 1 else 0, fun a => if a = 1 then fun j => (xs j).toInt else fun j => ((sB ((a - 3) / 2)).getD j 0).toInt, fun _ _ => 0, fun _ _ => 0)
def wdI (w : Nat) : Nat := if w = 8 then 10 else if w = 9 then 9 else 1 + w
set_option maxRecDepth 100000 in
theorem txt0 {L i w : Nat} {xs : Nat → Int32} (hi : i < 24) (h : (sB i).length = wn w ∧ wn w ≤ 100 ∧ ∀ j, j < wn w → ((sB i).getD j 0).toInt = wg w j ∧ 0 ≤ wg w j ∧ wg w j ≤ 127) : Txt (mem0 L xs) (2 + 2 * i) (3 + 2 * i) (wn w) (wg w) := by
  have e1 : (3 + 2 * i - 3) / 2 = i := by omega
  refine ⟨?_, ?_, rfl, ?_, ?_, h.2.1, fun j hj => ⟨?_, (h.2.2 j hj).2⟩⟩
  · show (if 2 + 2 * i = 1 then 13 else if 2 + 2 * i < 2 then 0 else if (2 + 2 * i - 2) / 2 < 24 then (if (2 + 2 * i) % 2 = 0 then 20 else 21) else 0) = 20
    rw [if_neg (by omega), if_neg (by omega), if_pos (by omega), if_pos (by omega)]
  · show (if 1280 = 1280 then 2 + 2 * i + 1 else 0) = 3 + 2 * i
    rw [if_pos rfl]
    omega
  · show (if 3 + 2 * i = 1 then 13 else if 3 + 2 * i < 2 then 0 else if (3 + 2 * i - 2) / 2 < 24 then (if (3 + 2 * i) % 2 = 0 then 20 else 21) else 0) = 21
    rw [if_neg (by omega), if_neg (by omega), if_pos (by omega), if_neg (by omega)]
  · show (if 3 + 2 * i = 1 then L else (sB ((3 + 2 * i - 3) / 2)).length) = wn w
    rw [if_neg (by omega), e1]
    exact h.1
  · show (if 3 + 2 * i = 1 then fun j => (xs j).toInt else fun j => ((sB ((3 + 2 * i - 3) / 2)).getD j 0).toInt) j = wg w j
    rw [if_neg (by omega), e1]
    exact (h.2.2 j hj).1
set_option maxRecDepth 100000 in
theorem wds_r : ∀ w, w < 10 → (sB (14 + w)).length = wn w ∧ wn w ≤ 100 ∧ ∀ j, j < wn w → ((sB (14 + w)).getD j 0).toInt = wg w j ∧ 0 ≤ wg w j ∧ wg w j ≤ 127 := by decide +kernel
set_option maxRecDepth 100000 in
theorem wds_c : ∀ w, w < 10 → (sB (wdI w)).length = wn w ∧ wn w ≤ 100 ∧ ∀ j, j < wn w → ((sB (wdI w)).getD j 0).toInt = wg w j ∧ 0 ≤ wg w j ∧ wg w j ≤ 127 := by decide +kernel
set_option maxRecDepth 100000 in
theorem mem0_ref (L : Nat) (xs : Nat → Int32) : LowW (mem0 L xs) := fun w hw => by
  have z := txt0 (L := L) (xs := xs) (i := 14 + w) (by omega) (wds_r w hw)
  rw [show 2 + 2 * (14 + w) = 30 + 2 * w by omega, show 3 + 2 * (14 + w) = 31 + 2 * w by omega] at z
  exact z
set_option maxRecDepth 100000 in
theorem wdI_a {w : Nat} (hw : w < 10) : wdI w < 24 ∧ cwA w = 2 + 2 * wdI w := by
  unfold wdI cwA
  by_cases h8 : w = 8
  · rw [if_pos h8, if_pos h8]; decide
  · rw [if_neg h8, if_neg h8]
    by_cases h9 : w = 9
    · rw [if_pos h9, if_pos h9]; decide
    · rw [if_neg h9, if_neg h9]; omega
set_option maxRecDepth 100000 in
theorem mem0_cls (L : Nat) (xs : Nat → Int32) : CLow (mem0 L xs) (mFI (mem0 L xs)) (mAI (mem0 L xs)) (mAL (mem0 L xs)) := fun w hw => by
  have c := wdI_a hw
  have z := txt0 (L := L) (xs := xs) (i := wdI w) c.1 (wds_c w hw)
  rw [show 3 + 2 * wdI w = 2 + 2 * wdI w + 1 by omega, ← c.2] at z
  exact z
set_option maxRecDepth 100000 in
theorem mem0_low {N b L : Nat} {xs : Nat → Int32} {aK aV : Nat → Nat} {D : va_G} {gf : Option Nat} : low (N, b, L, xs, aK, aV, D, gf) (mem0 L xs) := by
  refine ⟨rfl, rfl, fun j _ => rfl, fun a _ ha => if_neg ha, fun i hi => ⟨?_, rfl, ?_, fun j _ => ?_⟩⟩
  · show (if 1280 = 1280 then 2 + 2 * i + 1 else 0) = 3 + 2 * i
    rw [if_pos rfl]
    omega
  · show (if 3 + 2 * i = 1 then L else (sB ((3 + 2 * i - 3) / 2)).length) = (sB i).length
    rw [if_neg (by omega), show (3 + 2 * i - 3) / 2 = i by omega]
  · show (if 3 + 2 * i = 1 then fun j => (xs j).toInt else fun j => ((sB ((3 + 2 * i - 3) / 2)).getD j 0).toInt) j = _
    rw [if_neg (by omega), show (3 + 2 * i - 3) / 2 = i by omega]
set_option maxRecDepth 100000 in
theorem mem0_rep {b L : Nat} {xs : Nat → Int32} {aK aV : Nat → Nat} {D : va_G} {gf : Option Nat} {s : State} : Rep (s.heap.size, b, L, xs, aK, aV, D, gf) (mem0 L xs) s s.heap := by
  refine ⟨rfl, fun a ha => ?_, mem0_low, fun a h1 h2 => ?_⟩
  · have ha' : 100 ≤ a := Nat.le_trans (Nat.le_add_right _ _) ha
    show (if a = 1 then 13 else if a < 2 then 0 else if (a - 2) / 2 < 24 then (if a % 2 = 0 then 20 else 21) else 0) = 0
    rw [if_neg (by omega), if_neg (by omega), if_neg (by omega)]
  · have h2' : a < 100 + 0 := h2
    omega
/-! ===== the claim out of one walk of the law's body ===== -/
def R_law : String := "DesignDeskLaw"
def lw_P (b : Addr) (xs : List Int32) (args : Array Value) (s : State) : Prop := args = #[.ref b] ∧ s.IntsAt b xs ∧ xs.length ≤ 3584 ∧ (Jvm.Cond.and given_1 narrow_1).before args s = true
def lw_Q (_ : Array Value) (s : State) (o : Outcome) (t : State) : Prop := o = .returned (some (.int 1)) ∧ Framed s o t [] 601024 7293033
def lw_Z (below : List Frame) (a : Array Value) (s : State) : State → Prop := fun t => ∃ o, t.status = .running ∧ Ended t below o ∧ lw_Q a s o t
/-- what holds at the law's entry -/
def lw_At (p : Program) (s : State) (m : MethodId) (meth : Method) (c : Code) (b L : Nat) (xs : Nat → Int32) : Prop :=
  p.tables.exec = Jvm.exec ∧ c.code = code ∧ meth.sig.returnType = ret ∧ c.maxLocals = 7 ∧ s.vm.findClass R_law = some m.cls ∧ (∀ w ∈ lw_tbl, w.before #[Value.ref b] s = true) ∧ va_X b L xs s s.heap ∧ b < s.heap.size ∧ meth.locks = false ∧ (Jvm.Cond.and given_1 narrow_1).before #[Value.ref b] s = true ∧ c.exceptionTable.toList = [] ∧ meth.name = "law"
set_option maxRecDepth 100000 in
/-- old cells are as they were: what was written lies in new ones -/
theorem new_only {s t : State} {L : List Loc} {k n k2 n2 : Nat} (h : s.sameButNew t L k n) (hf : ∀ q ∈ L, s.heap.size ≤ q.base) (hk : k ≤ k2) (hn : n ≤ n2) : s.sameButNew t [] k2 n2 := by
  obtain ⟨h1, h2, h3, h4, h5, h6⟩ := h
  refine ⟨h1, h2, Nat.le_trans h3 (Nat.add_le_add_left hk _), h4, Nat.le_trans h5 hn, fun a c hc => ?_⟩
  obtain ⟨c', g1, g2, g3, g4⟩ := h6 a c hc
  refine ⟨c', g1, g2, g3, fun i _ => g4 i (fun hm => ?_)⟩
  exact absurd (hf _ hm) (Nat.not_le.mpr (Array.getElem?_eq_some_iff.mp hc).1)
set_option maxRecDepth 100000 in
theorem tr_off {l : Launch} (h : l.flags = flags0) : l.stackTraces = false := by
  unfold Launch.stackTraces
  rw [h]
  decide +kernel
set_option maxRecDepth 100000 in
theorem law_Ex (L : Nat) (xs : Nat → Int32) (hL : L ≤ 3584) : Ex 58 Law_law 0 [some (vR 1), none, none, none, none, none, none] [] (mem0 L xs) (fun o v m' => o = 0 ∧ v = some (vI 1) ∧ mN m' ≤ 601024 ∧ mZ m' ≤ 7293033) := by
  have hS : ∀ j, okI ((fun j => (xs j).toInt) j) := fun j => by
    have h1 := Int32.le_toInt (xs j)
    have h2 := Int32.toInt_lt (xs j)
    exact ⟨by show (-2147483648 : Int) ≤ (xs j).toInt; omega, by show (xs j).toInt ≤ (2147483647 : Int); omega⟩
  exact law_0 (d := 0) (sn := L) (S := fun j => (xs j).toInt) (m := mem0 L xs) (F := mFI (mem0 L xs)) (A := mAI (mem0 L xs)) (L := mAL (mem0 L xs)) hS hL (fun k M I R lv hk => ⟨rfl, rfl, Nat.le_trans lv.2.2.2.2.2.2.1 (by omega), Nat.le_trans lv.2.2.2.2.2.2.2 (by omega)⟩) rfl rfl ⟨rfl, rfl, rfl⟩ (mem0_cls L xs) (mem0_ref L xs)
set_option maxRecDepth 100000 in
theorem whole_start {p : Program} {e : Env} {s : State} {m : MethodId} {below : List Frame} {meth : Method} {c : Code} (l : Launch) (hflags : l.flags = flags0) {b L : Nat} {xs : Nat → Int32} (hL : L ≤ 3584) (C0 : lw_At p s m meth c b L xs) : W p l e room_1 s m #[Value.ref b] below meth c s.heap [] 0 0 (lw_Z below #[Value.ref b] s) (entryFrame m ([Value.ref b] : List Value).toArray 7) := by
  obtain ⟨hx, hb, hr, hml, hown, hts, hX, hbl, hlocks, hgv, htab, hname⟩ := C0
  obtain ⟨aK, aV, D, gf, hW⟩ := w_world hts hgv hX hbl hL
  obtain ⟨o, v, m', ⟨rfl, rfl, q1, q2⟩, h1, h2, hE⟩ := law_Ex L xs hL
  have hl := LR_entry (s.heap.size, b, L, xs, aK, aV, D, gf) (y := Law_law) (av := [vR 1]) (by decide)
  have w := hE (s.heap.size, b, L, xs, aK, aV, D, gf) p l e room_1 s m #[Value.ref b] below meth c 0 0 s.heap [] _ ⟨hx, hb, hr, hml, hown, fun w hw => hts w (List.mem_filter.mp hw).1, hlocks, htab, hname, hW, Nat.le_refl _, tr_off hflags, Nat.le_of_ble_eq_true rfl, Nat.le_of_ble_eq_true rfl⟩ q1 q2 (Nat.le_refl _) (Nat.le_refl _) mem0_rep va_S.rf hl
  rw [lg_entry_eq]
  intro T hT X
  obtain ⟨t, a1, o, b1, b2, b3⟩ := w T hT X
  refine ⟨t, a1, o, b1, b2, ?_⟩
  rcases b3 with ⟨⟨-, ho, -, -⟩, Lc, ⟨f1, f2, f3⟩, hf⟩ | ⟨q, ho, E, ce, Lc, ⟨hne, -⟩, -⟩
  · have e1 : Int32.ofInt 1 = 1 := by decide
    have ho2 : o = Outcome.returned (some (Value.int (Int32.ofInt 1))) := ho
    rw [e1] at ho2
    exact ⟨ho2, f1, f2, new_only f3 hf q1 q2⟩
  · exact absurd rfl hne
