/-! ===== where things lie: the base, the script's cell, length and ints, the texts and their bytes, the classes, a formatter ===== -/
abbrev Gm : Type := Nat × Nat × Nat × (Nat → Int32) × (Nat → Nat) × (Nat → Nat) × va_G × Option Nat
def gBase (G : Gm) : Nat := G.1
def gB (G : Gm) : Nat := G.2.1
def gL (G : Gm) : Nat := G.2.2.1
def gX (G : Gm) : Nat → Int32 := G.2.2.2.1
def gAK (G : Gm) : Nat → Nat := G.2.2.2.2.1
def gAV (G : Gm) : Nat → Nat := G.2.2.2.2.2.1
def gD (G : Gm) : va_G := G.2.2.2.2.2.2.1
def gF (G : Gm) : Option Nat := G.2.2.2.2.2.2.2
def gA (G : Gm) : Nat → Prop := fun q => gBase G ≤ q
def rho (G : Gm) (a : Nat) : Nat := if a = 1 then gB G else if a < 100 then (if a % 2 = 0 then gAK G ((a - 2) / 2) else gAV G ((a - 2) / 2)) else gBase G + (a - 100)
def rfo (G : Gm) (a : Nat) : Option Nat := if a = 0 then none else if a = 99 then gF G else some (rho G a)
def up (G : Gm) : AV → Value
  | .inl x => .int (Int32.ofInt x)
  | .inr (.inl x) => .long (Int64.ofInt x)
  | .inr (.inr a) => va_rf (rfo G a)
theorem rho_hi (G : Gm) {a : Nat} (h : 100 ≤ a) : rho G a = gBase G + (a - 100) := by
  unfold rho
  rw [if_neg (by omega), if_neg (by omega)]
theorem rfo_hi (G : Gm) {a : Nat} (h : 100 ≤ a) : rfo G a = some (rho G a) := by
  unfold rfo
  rw [if_neg (by omega), if_neg (by omega)]
theorem up_hi (G : Gm) {a : Nat} (h : 100 ≤ a) : up G (vR a) = .ref (rho G a) := by
  show va_rf (rfo G a) = _
  rw [rfo_hi G h]
  rfl
theorem up_lo (G : Gm) {a : Nat} (h : 0 < a) (h2 : a < 99) : up G (vR a) = .ref (rho G a) := by
  show va_rf (rfo G a) = _
  unfold rfo
  rw [if_neg (by omega), if_neg (by omega)]
  rfl
/-- words of the tables that are kept by laws of their own -/
def okW2 : Cond → Bool
  | .declares _ => true
  | .castable _ _ => true
  | .arrayOver _ => true
  | _ => false
theorem okW2_warm {w : Cond} (h : okW2 w = true) {s U : State} (hW : s.WarmedH U.vm) (hZ : va_Nw w s) : va_Nw w U := by
  unfold okW2 at h
  split at h
  · exact va_Nw.warmD hW hZ
  · exact va_Nw.warmC hW hZ
  · next ty =>
    have h1 : (Cond.arrayOver ty).before #[] (s.setVm U.vm) = true := by rw [Cond.arrayOver_setVmC hW.alike]; exact hZ
    exact h1
  · cases h
theorem okW2_use {w : Cond} (h : okW2 w = true) {A : Array Value} {U : State} (hZ : va_Nw w U) : w.before A U = true := by
  unfold okW2 at h
  split at h
  · exact va_Nw.use rfl hZ
  · exact va_Nw.use rfl hZ
  · exact hZ
  · cases h
def Wn (U : State) : Prop := (∀ w ∈ lw_tbl, okW2 w = true → va_Nw w U) ∧ va_Nc "java/lang/IllegalArgumentException" "java/util/NoSuchElementException" U
def Wd (G : Gm) (U : State) (H : Heap) : Prop :=
  va_K (gD G) vwCl [] U ∧ (∀ i, i < nS → vk_S 1 [(sB i).length] [sB i] (fun _ => gAK G i) (fun _ => gAV G i) (gA G) U H) ∧ va_X (gB G) (gL G) (gX G) U H ∧ gB G < gBase G ∧ (gL G < 2 ^ 31 ∧ Wn U) ∧
  (∀ i q, sSite[i]? = some q → vk_R q.1 q.2.1 q.2.2 (gAK G i) U) ∧
  vx_Zq Bundle.tN "UNASSIGNED_STACK" Bundle.steD (gA G) U H ∧ vx_Zq Bundle.tN "SUPPRESSED_SENTINEL" Bundle.listD (gA G) U H ∧
  va_Z "java/lang/String" "COMPACT_STRINGS" "Z" (.int 1) (gA G) U H ∧ va_Z "jdk/internal/util/Preconditions" "SIOOBE_FORMATTER" "Ljava/util/function/BiFunction;" (va_rf (gF G)) (gA G) U H
/-! ===== the heap that a memory stands for ===== -/
def arTy : Nat → Option FieldType
  | 13 => some .int
  | 14 => some .long
  | 15 => some .boolean
  | 16 => some (.object RX0)
  | 17 => some (.object RX1)
  | 18 => some (.object RX2)
  | 19 => some (.array .int)
  | _ => none
def fval (G : Gm) (m : Mem) (k a j : Nat) : Value := if (clTy k j).isReference = true then up G (vR (mFR m (64 * (k + 1) + j) a)) else .int (Int32.ofInt (mFI m (64 * (k + 1) + j) a))
def flds (G : Gm) (m : Mem) (k a N : Nat) : List Value := (List.range N).map (fval G m k a)
def aval (G : Gm) (m : Mem) (k a j : Nat) : Value := if k = 14 then .long (Int64.ofInt (mAL m a j)) else if 16 ≤ k then up G (vR (mAR m a j)) else .int (Int32.ofInt (mAI m a j))
def cOK (G : Gm) (U : State) (m : Mem) (a : Nat) (H : Heap) : Prop :=
  (∀ k q, vwCl[k]? = some q → mK m a = k + 1 → va_at (gD G) vwCl (rho G a, .inr (k, flds G m k a q.2.2)) H) ∧
  (∀ k ty, arTy k = some ty → mK m a = k → ∃ cA, H[rho G a]? = some (arrV cA (mLen m a) (aval G m k a)) ∧ ArrOfT U cA ty ∧ va_RA U cA ty) ∧ mK m a ≠ 20 ∧ mK m a ≠ 21
def kLow (a : Nat) : Nat := if a < 2 then 0 else if (a - 2) / 2 < nS then (if a % 2 = 0 then 20 else 21) else 0
def low (G : Gm) (m : Mem) : Prop :=
  mK m 1 = 13 ∧ mLen m 1 = gL G ∧ (∀ j, j < gL G → mAI m 1 j = (gX G j).toInt) ∧ (∀ a, a < 100 → a ≠ 1 → mK m a = kLow a) ∧
  ∀ i, i < nS → mFR m 1280 (2 + 2 * i) = 3 + 2 * i ∧ mFI m 1281 (2 + 2 * i) = 0 ∧ mLen m (3 + 2 * i) = (sB i).length ∧ ∀ j, j < (sB i).length → mAI m (3 + 2 * i) j = ((sB i).getD j 0).toInt
def Rep (G : Gm) (m : Mem) (U : State) (H : Heap) : Prop :=
  H.size = gBase G + mN m ∧ (∀ a, 100 + mN m ≤ a → mK m a = 0) ∧ low G m ∧ ∀ a, 100 ≤ a → a < 100 + mN m → cOK G U m a H
theorem Rep.dom {G : Gm} {m : Mem} {U : State} {H : Heap} (h : Rep G m U H) {a : Nat} (hk : mK m a ≠ 0) (ha : 100 ≤ a) : a < 100 + mN m := by
  rcases Nat.lt_or_ge a (100 + mN m) with q | q
  · exact q
  · exact absurd (h.2.1 a q) hk
/-- the same, but for what the cell a holds -/
def offA (m m' : Mem) (a : Nat) : Prop := mN m' = mN m ∧ mK m' = mK m ∧ mLen m' = mLen m ∧ ∀ b, b ≠ a → (∀ f, mFI m' f b = mFI m f b) ∧ (∀ f, mFR m' f b = mFR m f b) ∧ mAI m' b = mAI m b ∧ mAL m' b = mAL m b ∧ mAR m' b = mAR m b
theorem va_at.kept' {D : va_G} {cl : List vw_C} {q : Nat × va_E} {H H1 : Heap} (h : va_at D cl q H) (h1 : H1[q.1]? = H[q.1]?) : va_at D cl q H1 := by
  obtain ⟨a, e⟩ := q
  cases e with
  | inl x => show H1[a]? = _; exact h1.trans h
  | inr x =>
    obtain ⟨r, e1, e2⟩ := h
    exact ⟨r, e1, e2.kept h1⟩
theorem cOK.off {G : Gm} {U : State} {m m' : Mem} {H H' : Heap} {b : Nat} (h : cOK G U m b H) (hK : mK m' b = mK m b) (hL : mLen m' b = mLen m b) (h1 : ∀ f, mFI m' f b = mFI m f b) (h2 : ∀ f, mFR m' f b = mFR m f b) (h3 : mAI m' b = mAI m b) (h4 : mAL m' b = mAL m b) (h5 : mAR m' b = mAR m b) (hH : H'[rho G b]? = H[rho G b]?) : cOK G U m' b H' := by
  have e1 : ∀ k N, flds G m' k b N = flds G m k b N := by
    intro k N
    unfold flds
    refine List.map_congr_left fun j _ => ?_
    unfold fval
    rw [h1, h2]
  have e2 : ∀ k, aval G m' k b = aval G m k b := by
    intro k
    funext j
    unfold aval
    rw [h3, h4, h5]
  refine ⟨fun k q hq hk => ?_, fun k ty ht hk => ?_, by rw [hK]; exact h.2.2⟩
  · rw [e1]
    exact va_at.kept' (h.1 k q hq (by rw [← hK]; exact hk)) hH
  · obtain ⟨cA, q1, q2⟩ := h.2.1 k ty ht (by rw [← hK]; exact hk)
    exact ⟨cA, by rw [hH, e2, hL]; exact q1, q2⟩
theorem low.off {G : Gm} {m m' : Mem} {a : Nat} (h : low G m) (ha : 100 ≤ a) (o : offA m m' a) : low G m' := by
  obtain ⟨-, oK, oL, oo⟩ := o
  obtain ⟨h1, h2, h3, h4, h5⟩ := h
  refine ⟨by rw [oK]; exact h1, by rw [oL]; exact h2, fun j hj => by rw [(oo 1 (by omega)).2.2.1]; exact h3 j hj, fun b hb hb1 => by rw [oK]; exact h4 b hb hb1, fun i hi => ?_⟩
  have hi' : i < 24 := hi
  obtain ⟨g1, g2, g3, g4⟩ := h5 i hi
  refine ⟨?_, ?_, by rw [oL]; exact g3, fun j hj => ?_⟩
  · rw [(oo (2 + 2 * i) (by omega)).2.1]; exact g1
  · rw [(oo (2 + 2 * i) (by omega)).1]; exact g2
  · rw [(oo (3 + 2 * i) (by omega)).2.2.1]; exact g4 j hj
theorem Rep.upd {G : Gm} {U : State} {m m' : Mem} {H H' : Heap} {a : Nat} (h : Rep G m U H) (ha : 100 ≤ a) (o : offA m m' a) (hsz : H'.size = H.size) (hoff : ∀ q, q ≠ rho G a → H'[q]? = H[q]?) (hc : cOK G U m' a H') : Rep G m' U H' := by
  obtain ⟨r1, r2, r3, r4⟩ := h
  have o' := o
  obtain ⟨oN, oK, oL, oo⟩ := o'
  refine ⟨by rw [hsz, oN]; exact r1, fun b hb => by rw [oK]; exact r2 b (by rw [← oN]; exact hb), r3.off ha o, fun b hb hb2 => ?_⟩
  by_cases e : b = a
  · rw [e]; exact hc
  · obtain ⟨o1, o2, o3, o4, o5⟩ := oo b e
    refine (r4 b hb (by rw [← oN]; exact hb2)).off (by rw [oK]) (by rw [oL]) o1 o2 o3 o4 o5 (hoff _ ?_)
    rw [rho_hi G hb, rho_hi G ha]
    omega
theorem Rep.new {G : Gm} {U : State} {m : Mem} {H H' : Heap} {k len sz : Nat} (h : Rep G m U H) (hsz : H'.size = H.size + 1) (hoff : ∀ q, q < H.size → H'[q]? = H[q]?) (hc : cOK G U (alloc m k len sz) (100 + mN m) H') : Rep G (alloc m k len sz) U H' := by
  obtain ⟨r1, r2, r3, r4⟩ := h
  have hn : mN (alloc m k len sz) = mN m + 1 := rfl
  have eK : ∀ b, b ≠ 100 + mN m → mK (alloc m k len sz) b = mK m b := fun b hb => if_neg hb
  have eL : ∀ b, b ≠ 100 + mN m → mLen (alloc m k len sz) b = mLen m b := fun b hb => if_neg hb
  have e1 : ∀ b, b ≠ 100 + mN m → ∀ f, mFI (alloc m k len sz) f b = mFI m f b := fun b hb f => if_neg hb
  have e2 : ∀ b, b ≠ 100 + mN m → ∀ f, mFR (alloc m k len sz) f b = mFR m f b := fun b hb f => if_neg hb
  have e3 : ∀ b, b ≠ 100 + mN m → mAI (alloc m k len sz) b = mAI m b := fun b hb => if_neg hb
  have e4 : ∀ b, b ≠ 100 + mN m → mAL (alloc m k len sz) b = mAL m b := fun b hb => if_neg hb
  have e5 : ∀ b, b ≠ 100 + mN m → mAR (alloc m k len sz) b = mAR m b := fun b hb => if_neg hb
  refine ⟨by rw [hsz, hn, r1]; omega, fun b hb => ?_, ?_, fun b hb hb2 => ?_⟩
  · rw [hn] at hb
    rw [eK b (by omega)]
    exact r2 b (by omega)
  · obtain ⟨h1, h2, h3, h4, h5⟩ := r3
    refine ⟨by rw [eK 1 (by omega)]; exact h1, by rw [eL 1 (by omega)]; exact h2, fun j hj => by rw [e3 1 (by omega)]; exact h3 j hj, fun b hb hb1 => by rw [eK b (by omega)]; exact h4 b hb hb1, fun i hi => ?_⟩
    have hi' : i < 24 := hi
    obtain ⟨g1, g2, g3, g4⟩ := h5 i hi
    exact ⟨by rw [e2 _ (by omega)]; exact g1, by rw [e1 _ (by omega)]; exact g2, by rw [eL _ (by omega)]; exact g3, fun j hj => by rw [e3 _ (by omega)]; exact g4 j hj⟩
  · rw [hn] at hb2
    by_cases e : b = 100 + mN m
    · rw [e]; exact hc
    · refine (r4 b hb (by omega)).off (eK b e) (eL b e) (e1 b e) (e2 b e) (e3 b e) (e4 b e) (e5 b e) (hoff _ ?_)
      rw [rho_hi G hb, r1]
      omega
theorem cOK.moved {G : Gm} {u U : State} {m : Mem} {a : Nat} {H : Heap} (hvm : u.vm.Alike U.vm) (h : cOK G u m a H) : cOK G U m a H :=
  ⟨h.1, fun k ty ht hk => by
    obtain ⟨cA, q1, q2, q3⟩ := h.2.1 k ty ht hk
    exact ⟨cA, q1, arrOfT_moved hvm q2, q3.moved hvm⟩, h.2.2⟩
theorem Rep.moved {G : Gm} {u U : State} {m : Mem} {H : Heap} (hvm : u.vm.Alike U.vm) (h : Rep G m u H) : Rep G m U H := ⟨h.1, h.2.1, h.2.2.1, fun a h1 h2 => (h.2.2.2 a h1 h2).moved hvm⟩
theorem Wd.moved {G : Gm} {u U : State} {H : Heap} (hW : u.WarmedH U.vm) (h : Wd G u H) : Wd G U H := by
  obtain ⟨h1, h2, h3, h4, h5, h6, h7, h8, h9, h10⟩ := h
  exact ⟨va_K.moved hW.alike h1, fun i hi => (h2 i hi).moved hW.alike, h3.moved hW.alike, h4, ⟨h5.1, fun w hw hg => okW2_warm hg hW (h5.2.1 w hw hg), h5.2.2.moved hW.alike⟩, fun i q hq => (h6 i q hq).warm hW, h7.moved hW.alike, h8.moved hW.alike, h9.moved hW.alike, h10.moved hW.alike⟩
theorem Wd.kept {G : Gm} {U : State} {H H1 : Heap} (hb : gBase G ≤ H.size) (h : Wd G U H) (hq : ∀ a : Nat, a < H.size → ¬ gA G a → H1[a]? = H[a]?) : Wd G U H1 := by
  obtain ⟨h1, h2, h3, h4, h5, h6, h7, h8, h9, h10⟩ := h
  refine ⟨h1, fun i hi => (h2 i hi).kept hq, ?_, h4, h5, h6, h7.kept hq, h8.kept hq, h9.kept hq, h10.kept hq⟩
  obtain ⟨scr, g1, g2⟩ := h3
  exact ⟨scr, by rw [hq _ (by omega) (by unfold gA; omega)]; exact g1, g2⟩
/-! ===== locals ===== -/
def LR (G : Gm) (mls : Array Slot) (nL : Nat) (ls : Ls) : Prop := mls.size = nL ∧ lv_wf mls ∧ ∀ (i : Nat) (v : AV), ls[i]? = some (some v) → mls[i]? = some (.val (up G v))
def asc (G : Gm) (ls : Ls) : List (Nat × Value) := (List.range ls.length).filterMap fun i => match ls[i]? with
  | some (some v) => some (i, up G v)
  | _ => none
theorem mem_asc {G : Gm} {ls : Ls} {q : Nat × Value} : q ∈ asc G ls ↔ ∃ v, ls[q.1]? = some (some v) ∧ q.2 = up G v := by
  obtain ⟨i, w⟩ := q
  unfold asc
  rw [List.mem_filterMap]
  constructor
  · rintro ⟨j, hj, he⟩
    split at he
    · next v hv =>
      cases he
      exact ⟨v, hv, rfl⟩
    · cases he
  · rintro ⟨v, h1, h2⟩
    dsimp only at h1 h2
    refine ⟨i, List.mem_range.mpr (List.getElem?_eq_some_iff.mp h1).1, ?_⟩
    rw [h1, h2]
theorem LR.has {G : Gm} {mls : Array Slot} {nL : Nat} {ls : Ls} (h : LR G mls nL ls) : lv_has mls nL (asc G ls) := ⟨h.1, h.2.1, fun q hq => by
  obtain ⟨v, h1, h2⟩ := mem_asc.mp hq
  rw [h2]
  exact h.2.2 _ _ h1⟩
theorem up_cat (G : Gm) (v : AV) : (up G v).category = (match v with | .inr (.inl _) => 2 | _ => 1) := by
  match v with
  | .inl x => rfl
  | .inr (.inl x) => rfl
  | .inr (.inr a) =>
    show (va_rf (rfo G a)).category = 1
    cases rfo G a <;> rfl
theorem stL_get {ls : Ls} {i j : Nat} {v w : AV} (h : (stL ls i v)[j]? = some (some w)) : (j = i ∧ w = v) ∨ (j ≠ i ∧ ls[j]? = some (some w) ∧ (j + 1 = i → ∀ x, w ≠ .inr (.inl x))) := by
  unfold stL at h
  cases i with
  | zero =>
    dsimp only at h
    rw [List.getElem?_set] at h
    split at h
    · next e =>
      split at h
      · exact Or.inl ⟨e.symm, by cases h; rfl⟩
      · cases h
    · next e => exact Or.inr ⟨fun q => e q.symm, h, fun q => by omega⟩
  | succ i =>
    dsimp only at h
    split at h
    · next x hx =>
      rw [List.getElem?_set] at h
      split at h
      · next e =>
        split at h
        · exact Or.inl ⟨e.symm, by cases h; rfl⟩
        · cases h
      · next e =>
        rw [List.getElem?_set] at h
        split at h
        · split at h <;> cases h
        · next e2 => exact Or.inr ⟨fun q => e q.symm, h, fun q => absurd q (by omega)⟩
    · next hx =>
      rw [List.getElem?_set] at h
      split at h
      · next e =>
        split at h
        · exact Or.inl ⟨e.symm, by cases h; rfl⟩
        · cases h
      · next e =>
        refine Or.inr ⟨fun q => e q.symm, h, fun q x hw => ?_⟩
        have : j = i := by omega
        subst this
        subst hw
        exact hx x h
theorem LR.store {G : Gm} {mls' : Array Slot} {nL : Nat} {ls : Ls} {i : Nat} {v : AV} (h : lv_has mls' nL ((i, up G v) :: (asc G ls).filter (fun q => !(q.1 == i) && !(q.1 + 1 == i && q.2.category == 2)))) : LR G mls' nL (stL ls i v) := by
  refine ⟨h.1, h.2.1, fun j w hj => ?_⟩
  rcases stL_get hj with ⟨rfl, rfl⟩ | ⟨h1, h2, h3⟩
  · exact h.2.2 (j, up G w) List.mem_cons_self
  · refine h.2.2 (j, up G w) (List.mem_cons_of_mem _ (List.mem_filter.mpr ⟨mem_asc.mpr ⟨w, h2, rfl⟩, ?_⟩))
    have : ¬ (j + 1 = i ∧ (up G w).category = 2) := by
      rintro ⟨q1, q2⟩
      rw [up_cat] at q2
      match w, q2 with
      | .inr (.inl x), _ => exact h3 q1 x rfl
    simp only [Bool.and_eq_true, Bool.not_eq_true', Bool.and_eq_false_iff, beq_eq_false_iff_ne, ne_eq]
    refine ⟨h1, ?_⟩
    by_cases e : j + 1 = i
    · exact Or.inr fun q => this ⟨e, q⟩
    · exact Or.inl e
theorem LR.store2 {G : Gm} {mls' : Array Slot} {nL : Nat} {ls : Ls} {i : Nat} {x : Int} (h : lv_has mls' nL ((i, up G (vL x)) :: (asc G ls).filter (fun q => !(q.1 == i) && (!(q.1 == i + 1) && !(q.1 + 1 == i && q.2.category == 2))))) : LR G mls' nL (stL2 ls i x) := by
  refine ⟨h.1, h.2.1, fun j w hj => ?_⟩
  unfold stL2 at hj
  rw [List.getElem?_set] at hj
  split at hj
  · split at hj <;> cases hj
  · next hne =>
    rcases stL_get hj with ⟨rfl, rfl⟩ | ⟨h1, h2, h3⟩
    · exact h.2.2 (j, up G (vL x)) List.mem_cons_self
    · refine h.2.2 (j, up G w) (List.mem_cons_of_mem _ (List.mem_filter.mpr ⟨mem_asc.mpr ⟨w, h2, rfl⟩, ?_⟩))
      have : ¬ (j + 1 = i ∧ (up G w).category = 2) := by
        rintro ⟨q1, q2⟩
        rw [up_cat] at q2
        match w, q2 with
        | .inr (.inl x), _ => exact h3 q1 x rfl
      simp only [Bool.and_eq_true, Bool.not_eq_true', Bool.and_eq_false_iff, beq_eq_false_iff_ne, ne_eq]
      refine ⟨h1, fun q => hne q.symm, ?_⟩
      by_cases e : j + 1 = i
      · exact Or.inr fun q => this ⟨e, q⟩
      · exact Or.inl e
