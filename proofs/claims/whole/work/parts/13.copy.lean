theorem m_outer (c : ClassId) (N h0 : Nat) : ∀ i : Nat, Jvm.Free.Multi.outerC c N h0 i = arrV c N (fun j => va_rf (if j < i then some (h0 + 1 + j) else none))
  | 0 => by
    show ({ cls := c, slots := Array.replicate N .null, vm := .none } : Cell) = _
    rw [arrV_new]
    refine congrArg (arrV c N) (funext fun j => ?_)
    simp [va_rf]
  | i + 1 => by
    show (Jvm.Free.Multi.outerC c N h0 i).setSlot i (.ref (h0 + 1 + i)) = _
    rw [m_outer c N h0 i, arrV_store]
    refine congrArg (arrV c N) (funext fun j => ?_)
    by_cases e : j = i
    · subst e
      simp [updV, va_rf]
    · by_cases h : j < i
      · simp [updV, e, h, Nat.lt_succ_of_lt h]
      · simp [updV, e, h, show ¬ j < i + 1 by omega]
theorem catS_eq (G : Gm) (r : List AV) : ((r.map (up G)).map fun v => v.category).sum = catS r := by
  unfold catS
  rw [List.map_map]
  congr 1
  refine List.map_congr_left fun v _ => ?_
  exact up_cat G v
section MCopy
variable {p : Program} {l : Launch} {e : Env} {R : Room} {s : State} {m : MethodId} {args : Array Value} {below : List Frame} {meth : Method} {c : Code} {H : Heap} {locs : List Loc} {cells slots : Nat} {Q : State → Prop}
variable {cc : ByteArray} {pc : Nat} {ls : Array Slot} {rest : List Value} {A : Nat → Prop} {a : Nat} {H0 : Heap}
/-- System.arraycopy of ints (after va_copyi of the kit): what else there is stays -/
theorem m_copy (hexec : p.tables.exec = Jvm.exec) (hb : c.code = cc) (hml : c.maxLocals = ls.size) {own : String} {index : Nat} (hown : s.vm.findClass own = some m.cls) (hlink : (Cond.methodLink own index arraycopyName).before args s = true) (hnat : (Cond.native arraycopyName).before args s = true) (hstat : (Cond.static arraycopyName).before args s = true) (hini : (Cond.initialized "java/lang/System").before args s = true)
    (hS : va_S A H0 H locs) {a0 : Nat} {c0 c1 : ClassId} {n0 n1 : Nat} {f g : Nat → Int32} (hc0 : H[a0]? = some (vp_cell c0 (n0, .inl f))) (hc1 : H[a]? = some (vp_cell c1 (n1, .inl g))) (ht0 : ArrOfT s c0 .int) (ht1 : ArrOfT s c1 .int) (hAa : A a)
    {sp dp n : Int32} (h1 : ¬ sp < 0) (h2 : ¬ dp < 0) (h3 : ¬ n < 0) (h4 : sp.toNatClampNeg + n.toNatClampNeg ≤ n0) (h5 : dp.toNatClampNeg + n.toNatClampNeg ≤ n1)
    (hframes : 1 ≤ R.frames) (hlocals : (rest.map fun v => v.category).sum + (nativeFrameWords "java/lang/System" "arraycopy" 5 + 11) ≤ R.locals) (hdg : decode cc pc = .ok (.invokestatic index, 3))
    (kk : ∀ (H1 : Heap) (locs1 : List Loc), H1.size = H.size → (∀ q, q ≠ a → H1[q]? = H[q]?) → H1[a]? = some (vp_cell c1 (n1, .inl (va_cpy f g sp.toNatClampNeg dp.toNatClampNeg n.toNatClampNeg))) → va_S A H0 H1 locs1 → W p l e R s m args below meth c H1 locs1 cells slots Q (F0 m (pc + 3) ls rest)) : W p l e R s m args below meth c H locs cells slots Q (F0 m pc ls (.int n :: .int dp :: .ref a :: .int sp :: .ref a0 :: rest)) := by
  have nn : ∀ z : Int32, ¬ z < 0 → z.toInt = (z.toNatClampNeg : Int) := by
    intro z hz
    have hz0 : (0 : Int) ≤ z.toInt := by
      have := Int32.not_lt.mp hz
      simpa using Int32.le_iff_toInt_le.mp this
    show z.toInt = ((z.toInt.toNat : Nat) : Int)
    omega
  intro T hT X
  obtain ⟨-, k0, hk0, cm0, hkk0⟩ := ht0 n0 (fun j => .int (f j))
  obtain ⟨-, k1, hk1, cm1, hkk1⟩ := ht1 n1 (fun j => .int (g j))
  obtain ⟨vm', X', step⟩ := X.arraycopy hexec hown hlink hnat hstat hini (src := a0) (dst := a) (cs := vp_cell c0 (n0, .inl f)) (cd := vp_cell c1 (n1, .inl g)) (srcPos := sp) (destPos := dp) (n := n) (by rw [hT]; exact hc0) (by rw [hT]; exact hc1)
    (fun _ h => by cases h) (fun _ h => by cases h) (fun h => by cases h) (fun h => by cases h) hk0 hk1 hkk0 hkk1 (by simp [refKind]) h1 h2 h3
    (by rw [nn sp h1, nn n h3]; show ¬ _ > ((arrV c0 n0 (fun j => .int (f j))).slots.size : Int); rw [arrV_size]; omega)
    (by rw [nn dp h2, nn n h3]; show ¬ _ > ((arrV c1 n1 (fun j => .int (g j))).slots.size : Int); rw [arrV_size]; omega)
    (fun vm₁ _ i hi => by
      have e : (vp_cell c0 (n0, .inl f)).slots.getD (sp.toNatClampNeg + i) .null = .int (f (sp.toNatClampNeg + i)) := by
        show (arrV c0 n0 (fun j => .int (f j))).slots.getD _ _ = _
        rw [Array.getD_eq_getD_getElem?, arrV_read _ _ (by omega)]
        rfl
      refine ⟨?_, ?_⟩
      · rw [e]
        rfl
      · rw [e]
        exact trivial)
    (g := F0 m pc ls (.int n :: .int dp :: .ref a :: .int sp :: .ref a0 :: rest)) rfl (by rw [hml]) (rest := rest) rfl (by rw [hb]; exact hdg) hframes (by show 2 * 0 + _ + _ ≤ _; omega)
  have e1 : copied (vp_cell c0 (n0, .inl f)) (vp_cell c1 (n1, .inl g)) sp dp n = vp_cell c1 (n1, .inl (va_cpy f g sp.toNatClampNeg dp.toNatClampNeg n.toNatClampNeg)) := va_copied (fun z => .int z) c0 c1 f g h4
  rw [e1] at X' step
  have hl : a < H.size := (Array.getElem?_eq_some_iff.mp hc1).1
  have hheap : ((T.setVm vm').setCell a (vp_cell c1 (n1, .inl (va_cpy f g sp.toNatClampNeg dp.toNatClampNeg n.toNatClampNeg)))).heap = H.setIfInBounds a (vp_cell c1 (n1, .inl (va_cpy f g sp.toNatClampNeg dp.toNatClampNeg n.toNatClampNeg))) := by rw [← hT]; rfl
  have oq : ∀ q : Nat, q ≠ a → (H.setIfInBounds a (vp_cell c1 (n1, .inl (va_cpy f g sp.toNatClampNeg dp.toNatClampNeg n.toNatClampNeg))))[q]? = H[q]? := fun q hq => by simp [Array.getElem?_setIfInBounds, Ne.symm hq]
  obtain ⟨t, a1, b1⟩ := kk _ _ (by simp) oq (show (H.setIfInBounds a _)[a]? = some _ by simp [Array.getElem?_setIfInBounds, hl]) ⟨by simp; exact hS.1, fun q g1 g2 => by
      rw [oq q (fun e => g2 (by rw [e]; exact hAa))]
      exact hS.2.1 q g1 g2, fun q hq => by
      rcases List.mem_append.mp hq with h | h
      · exact hS.2.2 q h
      · obtain ⟨z, -, hz⟩ := List.mem_map.mp h
        rw [← hz]
        exact hAa⟩ _ hheap X'
  exact ⟨t, step t a1, b1⟩
end MCopy
theorem allocs_N (m : Mem) (k len sz : Nat) : ∀ n, mN (allocs m k len sz n) = mN m + n
  | 0 => rfl
  | n + 1 => by
    show mN (allocs m k len sz n) + 1 = _
    rw [allocs_N m k len sz n]
    omega
theorem allocs_Z (m : Mem) (k len sz : Nat) : ∀ n, mZ (allocs m k len sz n) = mZ m + n * sz
  | 0 => by simp [allocs]
  | n + 1 => by
    show mZ (allocs m k len sz n) + sz = _
    rw [allocs_Z m k len sz n, Nat.add_mul]
    omega
theorem allocs_off (m : Mem) (k len sz : Nat) {a : Nat} : ∀ n, (a < 100 + mN m ∨ 100 + mN m + n ≤ a) → mK (allocs m k len sz n) a = mK m a ∧ mLen (allocs m k len sz n) a = mLen m a ∧ (∀ f, mFI (allocs m k len sz n) f a = mFI m f a) ∧ (∀ f, mFR (allocs m k len sz n) f a = mFR m f a) ∧ mAI (allocs m k len sz n) a = mAI m a ∧ mAL (allocs m k len sz n) a = mAL m a ∧ mAR (allocs m k len sz n) a = mAR m a
  | 0, _ => ⟨rfl, rfl, fun _ => rfl, fun _ => rfl, rfl, rfl, rfl⟩
  | n + 1, h => by
    obtain ⟨h1, h2, h3, h4, h5, h6, h7⟩ := allocs_off m k len sz n (a := a) (by omega)
    have hne : a ≠ 100 + mN (allocs m k len sz n) := by rw [allocs_N]; omega
    exact ⟨(if_neg hne).trans h1, (if_neg hne).trans h2, fun f => (if_neg hne).trans (h3 f), fun f => (if_neg hne).trans (h4 f), (if_neg hne).trans h5, (if_neg hne).trans h6, (if_neg hne).trans h7⟩
theorem allocs_in (m : Mem) (k len sz : Nat) : ∀ n j, j < n → mK (allocs m k len sz n) (100 + mN m + j) = k ∧ mLen (allocs m k len sz n) (100 + mN m + j) = len ∧ mAI (allocs m k len sz n) (100 + mN m + j) = (fun _ => 0)
  | 0, _, h => absurd h (by omega)
  | n + 1, j, h => by
    by_cases e : j = n
    · subst e
      have he : 100 + mN m + j = 100 + mN (allocs m k len sz j) := by rw [allocs_N]; omega
      exact ⟨if_pos he, if_pos he, if_pos he⟩
    · obtain ⟨h1, h2, h3⟩ := allocs_in m k len sz n j (by omega)
      have hne : 100 + mN m + j ≠ 100 + mN (allocs m k len sz n) := by rw [allocs_N]; omega
      exact ⟨(if_neg hne).trans h1, (if_neg hne).trans h2, (if_neg hne).trans h3⟩
section Steps7
variable {d y pc : Nat} {ls : Ls} {st : List AV} {m : Mem} {Q : Nat → Option AV → Mem → Prop} {nx : Nat} {rs : List Nat} {c0 : Int} {r : List AV}
theorem s_copy {idx a b : Nat} {sp dp n : Int} (hk : okE y pc (.invokestatic idx, nx, rs, c0)) (h9 : n1 (.invokestatic idx, nx, rs, c0) = 998) (h : mK m a = 13 ∧ mK m b = 13 ∧ 100 ≤ a ∧ 100 ≤ b ∧ a ≠ b ∧ catS r ≤ 8 ∧ 0 ≤ w32 sp ∧ 0 ≤ w32 dp ∧ 0 ≤ w32 n ∧ w32 sp + w32 n ≤ (mLen m a : Int) ∧ w32 dp + w32 n ≤ (mLen m b : Int) ∧
        Ex d y nx ls r (sAI m b (cpy1 (mAI m a) (mAI m b) (ix sp) (ix dp) (ix n))) Q) : Ex d y pc ls (vI n :: vI dp :: vR b :: vI sp :: vR a :: r) m Q := by
  obtain ⟨k1, z2, k3⟩ := hk.use
  have k2 : nx = pc + 3 := z2
  clear z2 hk
  subst k2
  obtain ⟨hka, hkb, ha, hb, hne, hcat, g1, g2, g3, g4, g5, h⟩ := h
  change (bif Nat.beq (n1 (.invokestatic idx, pc + 3, rs, c0)) 998 then wAt (n2 (.invokestatic idx, pc + 3, rs, c0)) (.methodLink (mC y) idx arraycopyName) && wAt (n3 (.invokestatic idx, pc + 3, rs, c0)) (.native arraycopyName) && wAt (rs.getD 3 0) (.static arraycopyName) && wAt (rs.getD 4 0) (.initialized "java/lang/System") else _) = true at k3
  rw [h9, show Nat.beq 998 998 = true from rfl] at k3
  simp only [cond_true, Bool.and_eq_true] at k3
  have neg : ∀ z : Int, 0 ≤ w32 z → ¬ Int32.ofInt z < 0 := by
    intro z hz q
    have := Int32.lt_iff_toInt_lt.mp q
    have e0 : (0 : Int32).toInt = 0 := by decide
    unfold w32 at hz
    omega
  refine Ex_write h rfl rfl fun {G _ _ _ R s9 _ _ _ _ _ H _ _ _ _ _} C hR hS hL k => ?_
  obtain ⟨-, cA, q1, q2, q3⟩ := hR.arr (k := 13) rfl hka (Or.inr (by omega))
  obtain ⟨-, cB, p1, p2, p3⟩ := hR.arr (k := 13) rfl hkb (Or.inr (by omega))
  have hfr : frD d ≤ R.frames := C.2.2.2.2.2.2.2.2.2.2.2.2.1
  have hlo : loD d ≤ R.locals := C.2.2.2.2.2.2.2.2.2.2.2.2.2
  unfold frD at hfr
  unfold loD at hlo
  have eA : ∀ x, aval G m 13 x = fun j => Value.int (Int32.ofInt (mAI m x j)) := fun x => rfl
  simp only [List.map_cons]
  rw [up_hi G ha, up_hi G hb]
  refine m_copy (f := fun j => Int32.ofInt (mAI m a j)) (g := fun j => Int32.ofInt (mAI m b j)) C.1 C.2.1 (C.2.2.2.1.trans hL.1.symm) C.2.2.2.2.1 (C.2.2.2.2.2.1 _ (wAt_mem k3.1.1.1)) (C.2.2.2.2.2.1 _ (wAt_mem k3.1.1.2)) (C.2.2.2.2.2.1 _ (wAt_mem k3.1.2)) (C.2.2.2.2.2.1 _ (wAt_mem k3.2)) hS (n0 := mLen m a) (n1 := mLen m b) q1 p1 q2 p2 (rho_A G hb) (neg _ g1) (neg _ g2) (neg _ g3) ?_ ?_ (by omega) ?_ k1 (fun H1 locs1 z1 z2 z3 z4 => ?_)
  · show ix sp + ix n ≤ _
    unfold ix
    omega
  · show ix dp + ix n ≤ _
    unfold ix
    omega
  · rw [catS_eq]
    have : nativeFrameWords "java/lang/System" "arraycopy" 5 + 11 ≤ 100 := by decide
    omega
  · refine k H1 locs1 (hR.upd hb (offA_sAI m b _) z1 z2 (cOK_arr (m := m) (k := 13) (cA := cB) rfl hkb rfl ?_ p2 p3)) z4
    rw [z3, vp_cell_i]
    show some (arrV cB (mLen m b) _) = some (arrV cB (mLen m b) _)
    congr 2
    funext j
    rw [aval_I (Or.inl rfl), show mAI (sAI m b (cpy1 (mAI m a) (mAI m b) (ix sp) (ix dp) (ix n))) b = cpy1 (mAI m a) (mAI m b) (ix sp) (ix dp) (ix n) from if_pos rfl]
    show Value.int (va_cpy _ _ (ix sp) (ix dp) (ix n) j) = _
    unfold va_cpy cpy1
    split <;> rfl
theorem s_mna {idx dd : Nat} {x z : Int} (hk : okE y pc (.multianewarray idx dd, nx, rs, c0)) (h : 0 ≤ w32 x ∧ w32 x ≤ 10000 ∧ 0 ≤ w32 z ∧ w32 z ≤ 10000 ∧
      Ex d y nx ls (vR (100 + mN m) :: r) (sAR (allocs (alloc m 19 (ix x) (ix x)) 13 (ix z) (ix z) (ix x)) (100 + mN m) (fun j => if j < ix x then 101 + mN m + j else 0)) Q) : Ex d y pc ls (vI z :: vI x :: r) m Q := by
  obtain ⟨k1, z2, k3⟩ := hk.use
  have k2 : nx = pc + 4 := z2
  clear z2 hk
  subst k2
  obtain ⟨g1, g2, g3, g4, h⟩ := h
  change (decide (dd = 2) && wAt (n1 (.multianewarray idx dd, pc + 4, rs, c0)) (.classLink (mC y) idx "[[I") && wAtN (n2 (.multianewarray idx dd, pc + 4, rs, c0)) (.arrayOver (.array .int)) && wAt (n3 (.multianewarray idx dd, pc + 4, rs, c0)) (.arrayClass .int)) = true at k3
  simp only [Bool.and_eq_true, decide_eq_true_eq] at k3
  obtain ⟨⟨⟨rfl, w1⟩, w2⟩, w3⟩ := k3
  obtain ⟨nx1, bx1⟩ := ix_bound g1 (by omega)
  obtain ⟨nz1, bz1⟩ := ix_bound g3 (by omega)
  have bx : ix x ≤ 10000 := by unfold ix; omega
  have bz : ix z ≤ 10000 := by unfold ix; omega
  have hmn : mN (alloc m 19 (ix x) (ix x)) = mN m + 1 := rfl
  generalize hF : sAR (allocs (alloc m 19 (ix x) (ix x)) 13 (ix z) (ix z) (ix x)) (100 + mN m) (fun j => if j < ix x then 101 + mN m + j else 0) = mF at h
  have eN : mN mF = mN m + (1 + ix x) := by
    rw [← hF]
    show mN (allocs _ _ _ _ _) = _
    rw [allocs_N, hmn]
    omega
  have eZ : mZ mF = mZ m + (ix x + ix x * ix z) := by
    rw [← hF]
    show mZ (allocs _ _ _ _ _) = _
    rw [allocs_Z]
    show mZ m + ix x + _ = _
    omega
  have eOff : ∀ a, (a < 100 + mN m ∨ 101 + mN m + ix x ≤ a) → mK mF a = mK m a ∧ mLen mF a = mLen m a ∧ (∀ f, mFI mF f a = mFI m f a) ∧ (∀ f, mFR mF f a = mFR m f a) ∧ mAI mF a = mAI m a ∧ mAL mF a = mAL m a ∧ mAR mF a = mAR m a := by
    intro a ha
    obtain ⟨h1, h2, h3, h4, h5, h6, h7⟩ := allocs_off (alloc m 19 (ix x) (ix x)) 13 (ix z) (ix z) (a := a) (ix x) (by rw [hmn]; omega)
    have hne : a ≠ 100 + mN m := by omega
    rw [← hF]
    exact ⟨h1.trans (if_neg hne), h2.trans (if_neg hne), fun f => (h3 f).trans (if_neg hne), fun f => (h4 f).trans (if_neg hne), h5.trans (if_neg hne), h6.trans (if_neg hne), (if_neg hne).trans (h7.trans (if_neg hne))⟩
  have eOut : mK mF (100 + mN m) = 19 ∧ mLen mF (100 + mN m) = ix x ∧ mAR mF (100 + mN m) = fun j => if j < ix x then 101 + mN m + j else 0 := by
    obtain ⟨h1, h2, -⟩ := allocs_off (alloc m 19 (ix x) (ix x)) 13 (ix z) (ix z) (a := 100 + mN m) (ix x) (by rw [hmn]; omega)
    rw [← hF]
    exact ⟨h1.trans (if_pos rfl), h2.trans (if_pos rfl), if_pos rfl⟩
  have eIn : ∀ j, j < ix x → mK mF (101 + mN m + j) = 13 ∧ mLen mF (101 + mN m + j) = ix z ∧ mAI mF (101 + mN m + j) = fun _ => 0 := by
    intro j hj
    have := allocs_in (alloc m 19 (ix x) (ix x)) 13 (ix z) (ix z) (ix x) j hj
    rw [hmn] at this
    rw [← hF, show 101 + mN m + j = 100 + (mN m + 1) + j by omega]
    exact this
  refine Ex_alloc (kc := 1 + ix x) (ks := ix x + ix x * ix z) h eN eZ fun {G _ _ _ R s9 _ _ _ _ _ H _ cells slots _ mls} C hR hS hL hc hs k => ?_
  intro T hT Xs
  obtain ⟨vm₁, cA, comp, -, fA, fC, hO, hI, X', step⟩ := Xs.multianewarray2F (ty := .int) C.1 C.2.2.2.2.1 (C.2.2.2.2.2.1 _ (wAt_mem w1)) (okW2_use (wAtN_use w2).2 (C.2.2.2.2.2.2.2.2.2.1.2.2.2.2.1.2.1 _ (wAtN_use w2).1 (wAtN_use w2).2)) (C.2.2.2.2.2.1 _ (wAt_mem w3)) (g := F0 _ pc mls (.int (Int32.ofInt z) :: .int (Int32.ofInt x) :: r.map (up G))) rfl (by rw [C.2.1]; exact k1) rfl nx1 nz1 (by rw [ix_eq]; omega) (by rw [ix_eq]; show _ * 4 ≤ _; omega) (by rw [ix_eq]; omega) rfl rfl hc hs
  rw [ix_eq, ix_eq] at X' step
  generalize hFF : Jvm.Free.Multi.fill (T.setVm vm₁) cA comp (ix x) (ix z) (defaultValue .int) (ix x) = F at X' step
  have hTh : (T.setVm vm₁).heap = H := hT
  obtain ⟨f1, f2, -, -⟩ := Jvm.Free.Multi.fill_facts (T.setVm vm₁) cA comp (ix x) (ix z) (defaultValue .int) (ix x)
  rw [hFF, hTh] at f1 f2
  have hold : ∀ q : Nat, q < H.size → F.heap[q]? = H[q]? := fun q hq => by
    have := Jvm.Free.Multi.fill_old (T.setVm vm₁) cA comp (ix x) (ix z) (defaultValue .int) (a := q) (by rw [hTh]; exact hq) (ix x)
    rw [hFF, hTh] at this
    exact this
  have hrow : ∀ j : Nat, j < ix x → F.heap[H.size + 1 + j]? = some (arrV comp (ix z) (fun _ => .int 0)) := fun j hj => by
    have := Jvm.Free.Multi.fill_inner (T.setVm vm₁) cA comp (ix x) (ix z) (defaultValue .int) (ix x) j hj
    rw [hFF, hTh] at this
    rw [this]
    exact congrArg some (arrV_new comp (ix z) (.int 0))
  rw [m_outer] at f2
  have hsz := hR.1
  have hAr1 : ArrOfT s9 cA (.array .int) := fun N v => by
    obtain ⟨⟨-, kA, q1, q2⟩, -⟩ := hO 0 0 0
    exact ⟨(fun k h => by cases h), kA, q1, q2⟩
  have hAr2 : ArrOfT s9 comp .int := fun N v => by
    obtain ⟨⟨-, kA, q1, q2⟩, -⟩ := hI 0 .null
    exact ⟨(fun k h => by cases h), kA, q1, q2⟩
  have hRF : Rep G mF s9 F.heap := by
    obtain ⟨r1, r2, r3, r4⟩ := hR
    refine ⟨by rw [f1, eN]; omega, fun a ha => ?_, ?_, fun a ha1 ha2 => ?_⟩
    · rw [eN] at ha
      rw [(eOff a (by omega)).1]
      exact r2 a (by omega)
    · obtain ⟨h1, h2, h3, h4, h5⟩ := r3
      refine ⟨by rw [(eOff 1 (by omega)).1]; exact h1, by rw [(eOff 1 (by omega)).2.1]; exact h2, fun j hj => by rw [(eOff 1 (by omega)).2.2.2.2.1]; exact h3 j hj, fun b hb hb1 => by rw [(eOff b (by omega)).1]; exact h4 b hb hb1, fun i hi => ?_⟩
      have hi' : i < 24 := hi
      obtain ⟨g1, g2, g3, g4⟩ := h5 i hi
      exact ⟨by rw [(eOff _ (by omega)).2.2.2.1]; exact g1, by rw [(eOff _ (by omega)).2.2.1]; exact g2, by rw [(eOff _ (by omega)).2.1]; exact g3, fun j hj => by rw [(eOff _ (by omega)).2.2.2.2.1]; exact g4 j hj⟩
    · rw [eN] at ha2
      by_cases e1 : a < 100 + mN m
      · obtain ⟨o1, o2, o3, o4, o5, o6, o7⟩ := eOff a (by omega)
        refine (r4 a ha1 e1).off o1 o2 o3 o4 o5 o6 o7 (hold _ ?_)
        rw [rho_hi G ha1]
        omega
      · by_cases e2 : a = 100 + mN m
        · subst e2
          refine cOK_arr (m := mF) (k := 19) (cA := cA) rfl eOut.1 rfl ?_ hAr1 fA
          rw [rho_new, ← hsz, f2, eOut.2.1]
          congr 2
          funext j
          rw [aval_R (by omega), eOut.2.2]
          show _ = up G (vR (if j < ix x then 101 + mN m + j else 0))
          by_cases e3 : j < ix x
          · rw [if_pos e3, if_pos e3, up_hi G (by omega), rho_hi G (by omega)]
            have e5 : H.size + 1 + j = gBase G + (101 + mN m + j - 100) := by omega
            rw [e5]
            rfl
          · rw [if_neg e3, if_neg e3]
            rfl
        · obtain ⟨j, hj, rfl⟩ : ∃ j, j < ix x ∧ a = 101 + mN m + j := ⟨a - (101 + mN m), by omega, by omega⟩
          obtain ⟨i1, i2, i3⟩ := eIn j hj
          refine cOK_arr (m := mF) (k := 13) (cA := comp) rfl i1 rfl ?_ hAr2 fC
          rw [rho_hi G (by omega), show gBase G + (101 + mN m + j - 100) = H.size + 1 + j by omega, hrow j hj, i2]
          congr 2
          funext q
          rw [aval_I (Or.inl rfl), i3]
          rfl
  have k9 := k F.heap hRF hold (by rw [f1]; omega)
  rw [List.map_cons, up_new, ← hsz] at k9
  obtain ⟨t, a1, b1⟩ := k9 F rfl (by rw [show cells + (1 + ix x) = cells + 1 + ix x by omega, show slots + (ix x + ix x * ix z) = slots + ix x + ix x * ix z by omega]; exact X')
  refine ⟨t, step t ?_, b1⟩
  rw [hT]
  exact a1
end Steps7
