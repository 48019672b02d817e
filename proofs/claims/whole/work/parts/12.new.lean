/-! ===== rows that make cells ===== -/
theorem Ex_alloc {d y pc nx kc ks : Nat} {ls : Ls} {st st' : List AV} {m m2 : Mem} {Q : Nat → Option AV → Mem → Prop} (h : Ex d y nx ls st' m2 Q) (hN : mN m2 = mN m + kc) (hZ : mZ m2 = mZ m + ks)
    (row : ∀ {G : Gm} {p : Program} {l : Launch} {e : Env} {R : Room} {s : State} {mi : MethodId} {args : Array Value} {below : List Frame} {meth : Method} {c : Code} {H : Heap} {locs : List Loc} {cells slots : Nat} {Qf : State → Prop} {mls : Array Slot},
      Cx G y d p l R s mi args meth c → Rep G m s H → va_S (gA G) s.heap H locs → LR G mls (mL y) ls → cells + kc ≤ R.cells → slots + ks ≤ R.slots →
      (∀ H', Rep G m2 s H' → (∀ q, q < H.size → H'[q]? = H[q]?) → H.size ≤ H'.size → W p l e R s mi args below meth c H' locs (cells + kc) (slots + ks) Qf (F0 mi nx mls (st'.map (up G)))) →
      W p l e R s mi args below meth c H locs cells slots Qf (F0 mi pc mls (st.map (up G)))) : Ex d y pc ls st m Q := by
  obtain ⟨o, v, m', hQ, h1, h2, hE⟩ := h
  rw [hN] at h1
  rw [hZ] at h2
  refine ⟨o, v, m', hQ, by omega, by omega, fun G p l e R s mi args below meth c n0 z0 H locs mls C c1 c2 c3 c4 hR hS hL => ?_⟩
  refine row C hR hS hL (by omega) (by omega) fun H' hR' ho hsz => ?_
  have w := hE G p l e R s mi args below meth c n0 z0 H' locs mls C c1 c2 (by omega) (by omega) hR' ⟨Nat.le_trans hS.1 hsz, fun x x1 x2 => (ho x (Nat.lt_of_lt_of_le x1 hS.1)).trans (hS.2.1 x x1 x2), hS.2.2⟩ hL
  rw [hN, hZ] at w
  rw [show mN m - n0 + kc = mN m + kc - n0 by omega, show mZ m - z0 + ks = mZ m + ks - z0 by omega]
  exact w
theorem clTy_def {k j : Nat} {q : vw_C} (hq : vwCl[k]? = some q) (hj : j < q.2.2) : defaultValue (clTy k j) = if (clTy k j).isReference = true then .null else .int 0 := by
  have all : ∀ k, k < 12 → ∀ j, j < 37 → defaultValue (clTy k j) = if (clTy k j).isReference = true then .null else .int 0 := by decide +kernel
  refine all k (vwCl_lt hq) j ?_
  have b : ∀ k, k < 12 → ((vwCl[k]?).map (fun q => q.2.2)).getD 0 ≤ 37 := by decide +kernel
  have := b k (vwCl_lt hq)
  rw [hq] at this
  exact Nat.lt_of_lt_of_le hj this
theorem fval_new (G : Gm) (m : Mem) (kk len sz k j : Nat) : fval G (alloc m kk len sz) k (100 + mN m) j = if (clTy k j).isReference = true then .null else .int 0 := by
  unfold fval
  rw [show mFR (alloc m kk len sz) (64 * (k + 1) + j) (100 + mN m) = 0 from if_pos rfl, show mFI (alloc m kk len sz) (64 * (k + 1) + j) (100 + mN m) = 0 from if_pos rfl]
  rfl
theorem aval_new (G : Gm) (m : Mem) (kk len sz k j : Nat) : aval G (alloc m kk len sz) k (100 + mN m) j = if k = 14 then .long 0 else if 16 ≤ k then .null else .int 0 := by
  unfold aval
  rw [show mAL (alloc m kk len sz) (100 + mN m) = fun _ => 0 from if_pos rfl, show mAR (alloc m kk len sz) (100 + mN m) = fun _ => 0 from if_pos rfl, show mAI (alloc m kk len sz) (100 + mN m) = fun _ => 0 from if_pos rfl]
  rfl
theorem cOK_newA {G : Gm} {U : State} {m : Mem} {k len sz : Nat} {ty : FieldType} {H' : Heap} {cA : ClassId} {f : Nat → Value} (ht : arTy k = some ty) (hv : H'[rho G (100 + mN m)]? = some (arrV cA len f)) (hf : ∀ j, f j = if k = 14 then .long 0 else if 16 ≤ k then .null else .int 0) (h1 : ArrOfT U cA ty) (h2 : va_RA U cA ty) : cOK G U (alloc m k len sz) (100 + mN m) H' := by
  have h13 := arTy_13 ht
  have hK : mK (alloc m k len sz) (100 + mN m) = k := if_pos rfl
  have hL : mLen (alloc m k len sz) (100 + mN m) = len := if_pos rfl
  refine ⟨fun k' q' hq' hk' => ?_, fun k' ty' ht' hk' => ?_, by rw [hK]; omega⟩
  · have := vwCl_lt hq'
    rw [hK] at hk'
    omega
  · rw [hK] at hk'
    subst hk'
    cases Option.some.inj (ht.symm.trans ht')
    refine ⟨cA, ?_, h1, h2⟩
    rw [hv, hL]
    congr 2
    funext j
    rw [hf, aval_new]
theorem rho_new (G : Gm) (m : Mem) : rho G (100 + mN m) = gBase G + mN m := by
  rw [rho_hi G (by omega)]
  omega
theorem up_new (G : Gm) (m : Mem) : up G (vR (100 + mN m)) = .ref (gBase G + mN m) := by
  rw [up_hi G (by omega), rho_new]
theorem ix_bound {x : Int} (h0 : 0 ≤ w32 x) (h : w32 x ≤ 100000) : ¬ Int32.ofInt x < 0 ∧ ix x ≤ 100000 := by
  refine ⟨fun q => ?_, by unfold ix; omega⟩
  have := Int32.lt_iff_toInt_lt.mp q
  have e0 : (0 : Int32).toInt = 0 := by decide
  unfold w32 at h0
  omega
section Steps6
variable {d y pc : Nat} {ls : Ls} {st : List AV} {m : Mem} {Q : Nat → Option AV → Mem → Prop} {nx : Nat} {rs : List Nat} {c0 : Int} {r : List AV}
theorem s_new {idx : Nat} (hk : okE y pc (.new idx, nx, rs, c0)) (h : n1 (.new idx, nx, rs, c0) ≤ 12 ∧ Ex d y nx ls (vR (100 + mN m) :: st) (alloc m (n1 (.new idx, nx, rs, c0)) 0 (n2 (.new idx, nx, rs, c0))) Q) : Ex d y pc ls st m Q := by
  obtain ⟨k1, z2, k3⟩ := hk.use
  have k2 : nx = pc + 3 := z2
  clear z2 hk
  subst k2
  obtain ⟨-, h⟩ := h
  change (match vwCl[n1 (.new idx, pc + 3, rs, c0) - 1]? with
    | some q => decide (1 ≤ n1 (.new idx, pc + 3, rs, c0)) && decide (n2 (.new idx, pc + 3, rs, c0) = q.2.2) && wAt (n3 (.new idx, pc + 3, rs, c0)) (.classLink (mC y) idx q.1)
    | none => false) = true at k3
  generalize he : ((.new idx, pc + 3, rs, c0) : Ent) = e at k3 h
  split at k3
  · next q hq =>
    simp only [Bool.and_eq_true, decide_eq_true_eq] at k3
    obtain ⟨⟨g1, g2⟩, g3⟩ := k3
    refine Ex_alloc (kc := 1) (ks := n2 e) h rfl rfl fun {G _ _ _ _ _ _ _ _ _ _ _ _ _ _ _ _} C hR hS hL hc hs k => ?_
    have ok := clOk_all hq
    have hKn := C.2.2.2.2.2.2.2.2.2.1.1.1 _ _ hq
    refine W.newcK C.1 C.2.1 C.2.2.2.2.1 (C.2.2.2.2.2.1 _ (wAt_mem g3)) (n := n2 e) (by rw [g2]; exact C.2.2.2.2.2.1 _ ok.2.2.2.2.1) (C.2.2.2.2.2.1 _ ok.2.2.2.2.2) rfl k1 hc hs hKn.2.1 rfl fun H1 kC hkC e1 z1 o1 => ?_
    have hsz := hR.1
    have k9 := k H1 (hR.new z1 o1 ?_) o1 (by omega)
    · rw [List.map_cons, up_new] at k9
      rw [hsz]
      exact k9
    · have hK : mK (alloc m (n1 e) 0 (n2 e)) (100 + mN m) = n1 e := if_pos rfl
      have hk12 := vwCl_lt hq
      refine ⟨fun k' q' hq' hk' => ?_, fun k' ty ht hk' => ?_, by rw [hK]; omega⟩
      · rw [hK] at hk'
        have e9 : k' = n1 e - 1 := by omega
        subst e9
        cases Option.some.inj (hq.symm.trans hq')
        refine ⟨q, hq, ?_⟩
        rw [rho_new, ← hsz]
        refine (u_born _ C.2.2.2.2.2.1 ok.1 hKn hkC e1 ok.2.1).to fun j hj => ?_
        rw [clTy_def hq hj]
        unfold vp_V
        rw [List.getD_eq_getElem?_getD, flds_get G _ _ _ hj, fval_new]
        rfl
      · have := arTy_13 ht
        rw [hK] at hk'
        omega
  · cases k3
theorem s_newarray {t : ArrayType} {x : Int} (hk : okE y pc (.newarray t, nx, rs, c0)) (h : 0 ≤ w32 x ∧ w32 x ≤ 100000 ∧ Ex d y nx ls (vR (100 + mN m) :: r) (alloc m (n1 (.newarray t, nx, rs, c0)) (ix x) (ix x)) Q) : Ex d y pc ls (vI x :: r) m Q := by
  obtain ⟨k1, z2, k3⟩ := hk.use
  have k2 : nx = pc + 2 := z2
  clear z2 hk
  subst k2
  obtain ⟨h0, hx, h⟩ := h
  change (decide (kindOf t = n1 (.newarray t, pc + 2, rs, c0) ∧ n1 (.newarray t, pc + 2, rs, c0) ≠ 0) && wAt (n2 (.newarray t, pc + 2, rs, c0)) (.arrayClass (newarray.typeOf t))) = true at k3
  generalize he : ((.newarray t, pc + 2, rs, c0) : Ent) = e at k3 h
  simp only [Bool.and_eq_true, decide_eq_true_eq] at k3
  obtain ⟨⟨g1, g2⟩, g3⟩ := k3
  obtain ⟨hn, hb⟩ := ix_bound h0 hx
  have ht : arTy (n1 e) = some (newarray.typeOf t) ∧ (∀ j : Nat, (fun _ => defaultValue (newarray.typeOf t)) j = if n1 e = 14 then Value.long 0 else if 16 ≤ n1 e then .null else .int 0) ∧ componentBytes (newarray.typeOf t) ≤ 8 := by
    rw [← g1]
    rw [← g1] at g2
    cases t <;> first | exact absurd rfl g2 | exact ⟨rfl, fun _ => rfl, by decide⟩
  refine Ex_alloc (kc := 1) (ks := ix x) h rfl rfl fun {G _ _ _ _ _ _ _ _ _ _ _ _ _ _ _ _} C hR hS hL hc hs k => ?_
  have hsz := hR.1
  refine va_newaK C.1 C.2.1 (C.2.2.2.2.2.1 _ (wAt_mem g3)) rfl k1 rfl hn (N := ix x) rfl ?_ hc hs rfl fun H1 cA e1 z1 o1 hAr hNm => ?_
  · have := Nat.mul_le_mul hb ht.2.2
    omega
  · have k9 := k H1 (hR.new z1 o1 (cOK_newA (cA := cA) ht.1 (by rw [rho_new, ← hsz]; exact e1) ht.2.1 hAr ?_)) o1 (by omega)
    · rw [List.map_cons, up_new] at k9
      rw [hsz]
      exact k9
    · cases t <;> exact hNm
theorem s_anewarray {idx : Nat} {x : Int} (hk : okE y pc (.anewarray idx, nx, rs, c0)) (h : 0 ≤ w32 x ∧ w32 x ≤ 100000 ∧ Ex d y nx ls (vR (100 + mN m) :: r) (alloc m (n1 (.anewarray idx, nx, rs, c0)) (ix x) (ix x)) Q) : Ex d y pc ls (vI x :: r) m Q := by
  obtain ⟨k1, z2, k3⟩ := hk.use
  have k2 : nx = pc + 3 := z2
  clear z2 hk
  subst k2
  obtain ⟨h0, hx, h⟩ := h
  obtain ⟨hn, hb⟩ := ix_bound h0 hx
  change (match arTy (n1 (.anewarray idx, pc + 3, rs, c0)) with
    | some (.object C) => decide (16 ≤ n1 (.anewarray idx, pc + 3, rs, c0) ∧ n1 (.anewarray idx, pc + 3, rs, c0) ≤ 18) && wAt (n2 (.anewarray idx, pc + 3, rs, c0)) (.classLink (mC y) idx C) && wAtN (n3 (.anewarray idx, pc + 3, rs, c0)) (.arrayOver (.object C))
    | _ => false) = true at k3
  generalize he : ((.anewarray idx, pc + 3, rs, c0) : Ent) = e at k3 h
  split at k3
  · next C9 hC =>
    simp only [Bool.and_eq_true, decide_eq_true_eq] at k3
    obtain ⟨⟨g1, g2⟩, g3⟩ := k3
    refine Ex_alloc (kc := 1) (ks := ix x) h rfl rfl fun {G _ _ _ _ s9 _ _ _ _ _ H _ _ _ _ _} C hR hS hL hc hs k => ?_
    have hsz := hR.1
    refine W.anew C.1 C.2.1 C.2.2.2.2.1 (C.2.2.2.2.2.1 _ (wAt_mem g2)) (okW2_use (wAtN_use g3).2 (C.2.2.2.2.2.2.2.2.2.1.2.2.2.2.1.2.1 _ (wAtN_use g3).1 (wAtN_use g3).2)) rfl k1 rfl hn (by rw [ix_eq]; omega) hc hs fun cA kA comp f1 f2 f3 f4 => ?_
    generalize hH1 : H.push ({ cls := cA, slots := Array.replicate (Int32.ofInt x).toNatClampNeg .null, vm := .none } : Cell) = H1
    have z1 : H1.size = H.size + 1 := by rw [← hH1, Array.size_push]
    have e1 : H1[H.size]? = some (arrV cA (ix x) (fun _ => .null)) := by rw [← hH1, Array.getElem?_push_size, ← arrV_new]; rfl
    have o1 : ∀ q : Nat, q < H.size → H1[q]? = H[q]? := fun q hq => by rw [← hH1, Array.getElem?_push, if_neg (Nat.ne_of_lt hq)]
    have hAr : ArrOfT s9 cA (.object C9) := fun N z => ⟨(fun k h => by cases h), kA, f2, comp, f3⟩
    have k9 := k _ (hR.new z1 o1 (cOK_newA (cA := cA) hC (f := fun _ => .null) (by rw [rho_new, ← hsz]; exact e1) (fun j => by rw [if_neg (by omega), if_pos g1.1]) hAr ⟨kA, comp, f2, f3, f4, f1⟩)) o1 (by omega)
    rw [List.map_cons, up_new, ← hsz] at k9
    exact k9
  · cases k3
theorem s_objInit {idx a : Nat} (hk : okE y pc (.invokespecial idx, nx, rs, c0)) (h : n1 (.invokespecial idx, nx, rs, c0) = 999 ∧ Ex d y nx ls r m Q) (h100 : 100 ≤ a) (hr : catS r ≤ 8) : Ex d y pc ls (vR a :: r) m Q := by
  obtain ⟨k1, z2, k3⟩ := hk.use
  have k2 : nx = pc + 3 := z2
  clear z2 hk
  subst k2
  obtain ⟨h9, h⟩ := h
  change (bif Nat.beq (n1 (.invokespecial idx, pc + 3, rs, c0)) 999 then wAt (n2 (.invokespecial idx, pc + 3, rs, c0)) (.methodLink (mC y) idx objectInit) && wAt (n3 (.invokespecial idx, pc + 3, rs, c0)) (.instanceMethod objectInit) && wAt (rs.getD 3 0) (.code objectInit ⟨#[0xb1]⟩ 1 none) else _) = true at k3
  rw [h9, show Nat.beq 999 999 = true from rfl] at k3
  simp only [cond_true, Bool.and_eq_true] at k3
  refine Ex_pure h fun {G _ _ _ R s9 _ _ _ _ _ H _ _ _ _ _} C hR hS hL k => ?_
  rw [List.map_cons, up_hi G h100]
  have hfr : frD d ≤ R.frames := C.2.2.2.2.2.2.2.2.2.2.2.2.1
  have hlo : loD d ≤ R.locals := C.2.2.2.2.2.2.2.2.2.2.2.2.2
  unfold frD at hfr
  unfold loD at hlo
  refine W.objInit C.1 C.2.1 C.2.2.2.2.1 (C.2.2.2.2.2.1 _ (wAt_mem k3.1.1)) (C.2.2.2.2.2.1 _ (wAt_mem k3.1.2)) (C.2.2.2.2.2.1 _ (wAt_mem k3.2)) rfl (hL.1.trans C.2.2.2.1.symm) rfl k1 (by omega) ?_ (k _ hL)
  have e1 : ((r.map (up G)).map fun v => v.category).sum = catS r := by
    unfold catS
    rw [List.map_map]
    congr 1
    refine List.map_congr_left fun v _ => ?_
    exact up_cat G v
  rw [e1]
  show 2 * 0 + _ + 12 ≤ _
  omega
/-! ===== constants ===== -/
theorem s_ldcI {idx : Nat} (hk : okE y pc (.ldc idx, nx, rs, c0)) (h1 : n1 (.ldc idx, nx, rs, c0) = 0) (h : Ex d y nx ls (vI c0 :: st) m Q) : Ex d y pc ls st m Q := by
  obtain ⟨k1, k2, k3⟩ := hk.use
  have k2 : nx = pc + 2 := k2
  subst k2
  refine Ex_pure h fun C hR hS hL k => ?_
  change (bif Nat.beq (n1 (.ldc idx, pc + 2, rs, c0)) 0 then wAt (n2 (.ldc idx, pc + 2, rs, c0)) (.constant (mC y) idx (Int32.ofInt c0)) else _) = true at k3
  rw [h1] at k3
  exact lv_ldc C.1 C.2.1 C.2.2.2.2.1 (C.2.2.2.2.2.1 _ (wAt_mem k3)) k1 (k _ hL)
theorem s_ldcS {idx : Nat} (hk : okE y pc (.ldc idx, nx, rs, c0)) (h1 : n1 (.ldc idx, nx, rs, c0) ≠ 0) (h : Ex d y nx ls (vR (n2 (.ldc idx, nx, rs, c0)) :: st) m Q) : Ex d y pc ls st m Q := by
  obtain ⟨k1, k2, k3⟩ := hk.use
  have k2 : nx = pc + 2 := k2
  subst k2
  change (bif Nat.beq (n1 (.ldc idx, pc + 2, rs, c0)) 0 then _ else decide (n2 (.ldc idx, pc + 2, rs, c0) % 2 = 0 ∧ 2 ≤ n2 (.ldc idx, pc + 2, rs, c0) ∧ n2 (.ldc idx, pc + 2, rs, c0) < 98) && decide ((sSite[(n2 (.ldc idx, pc + 2, rs, c0) - 2) / 2]?).map (fun q => (q.1, q.2.1)) = some (mC y, idx))) = true at k3
  have hb : Nat.beq (n1 (.ldc idx, pc + 2, rs, c0)) 0 = false := by
    cases hx : Nat.beq (n1 (.ldc idx, pc + 2, rs, c0)) 0 with
    | false => rfl
    | true => exact absurd (Nat.eq_of_beq_eq_true hx) h1
  rw [hb] at k3
  generalize n2 (.ldc idx, pc + 2, rs, c0) = a at k3 h
  simp only [cond_false, Bool.and_eq_true, decide_eq_true_eq] at k3
  obtain ⟨⟨g1, g2, g3⟩, g4⟩ := k3
  refine Ex_pure h fun {G _ _ _ _ _ _ _ _ _ _ _ _ _ _ _ _} C hR hS hL k => ?_
  have k9 := k _ hL
  rw [List.map_cons, up_lo G (by omega) (by omega)] at k9
  cases hq : sSite[(a - 2) / 2]? with
  | none => rw [hq] at g4; cases g4
  | some q =>
    rw [hq] at g4
    have g4 : (q.1, q.2.1) = (mC y, idx) := Option.some.inj g4
    have e1 : q.1 = mC y := congrArg Prod.fst g4
    have e2 : q.2.1 = idx := congrArg Prod.snd g4
    have hR9 := C.2.2.2.2.2.2.2.2.2.1.2.2.2.2.2.1 _ q hq
    rw [e1, e2] at hR9
    have e3 : rho G a = gAK G ((a - 2) / 2) := by
      unfold rho
      rw [if_neg (by omega), if_pos (by omega), if_pos g1]
    rw [e3] at k9
    exact va_ldcS C.1 C.2.1 C.2.2.2.2.1 hR9 k1 k9
theorem s_ldcw {idx : Nat} (hk : okE y pc (.ldc_w idx, nx, rs, c0)) (h : Ex d y nx ls (vI c0 :: st) m Q) : Ex d y pc ls st m Q := by
  obtain ⟨k1, k2, k3⟩ := hk.use
  have k2 : nx = pc + 3 := k2
  subst k2
  refine Ex_pure h fun C hR hS hL k => ?_
  change wAt (n1 (.ldc_w idx, pc + 3, rs, c0)) (.constant (mC y) idx (Int32.ofInt c0)) = true at k3
  exact lv_ldcw C.1 C.2.1 C.2.2.2.2.1 (C.2.2.2.2.2.1 _ (wAt_mem k3)) k1 (k _ hL)
theorem s_ldc2 {idx : Nat} (hk : okE y pc (.ldc2_w idx, nx, rs, c0)) (h : Ex d y nx ls (vL c0 :: st) m Q) : Ex d y pc ls st m Q := by
  obtain ⟨k1, k2, k3⟩ := hk.use
  have k2 : nx = pc + 3 := k2
  subst k2
  refine Ex_pure h fun C hR hS hL k => ?_
  change wAt (n1 (.ldc2_w idx, pc + 3, rs, c0)) (.constantLong (mC y) idx (Int64.ofInt c0)) = true at k3
  exact lv_ldc2 C.1 C.2.1 C.2.2.2.2.1 (C.2.2.2.2.2.1 _ (wAt_mem k3)) k1 (k _ hL)
theorem s_getstatic {idx : Nat} (hk : okE y pc (.getstatic idx, nx, rs, c0)) (h : Ex d y nx ls ((bif Nat.beq (n1 (.getstatic idx, nx, rs, c0)) 0 then vI c0 else vR 99) :: st) m Q) : Ex d y pc ls st m Q := by
  obtain ⟨k1, k2, k3⟩ := hk.use
  have k2 : nx = pc + 3 := k2
  subst k2
  change (bif Nat.beq (n1 (.getstatic idx, pc + 3, rs, c0)) 0 then decide (c0 = 1) && wAt (n2 (.getstatic idx, pc + 3, rs, c0)) (.fieldLink (mC y) idx "java/lang/String" "COMPACT_STRINGS" "Z") else wAt (n2 (.getstatic idx, pc + 3, rs, c0)) (.fieldLink (mC y) idx "jdk/internal/util/Preconditions" "SIOOBE_FORMATTER" "Ljava/util/function/BiFunction;")) = true at k3
  refine Ex_pure h fun {G _ _ _ _ _ _ _ _ _ _ _ _ _ _ _ _} C hR hS hL k => ?_
  have k9 := k _ hL
  have hw := C.2.2.2.2.2.2.2.2.2.1
  cases hb : Nat.beq (n1 (.getstatic idx, pc + 3, rs, c0)) 0 with
  | true =>
    rw [hb] at k3 k9
    simp only [cond_true, Bool.and_eq_true, decide_eq_true_eq] at k3
    obtain ⟨rfl, g⟩ := k3
    exact va_gets C.1 C.2.1 hw.2.2.2.2.2.2.2.2.1 hS C.2.2.2.2.1 (C.2.2.2.2.2.1 _ (wAt_mem g)) (fun x hx => hx) k1 k9
  | false =>
    rw [hb] at k3 k9
    simp only [cond_false] at k3
    exact va_gets C.1 C.2.1 hw.2.2.2.2.2.2.2.2.2 hS C.2.2.2.2.1 (C.2.2.2.2.2.1 _ (wAt_mem k3)) (fun x hx => hx) k1 k9
theorem lsw_off {pc : Nat} {d0 x : Int} {dt : Nat} (hd : (pc : Int) + d0 = (dt : Int)) : ∀ ps : List (Int × Int), (∀ q ∈ ps, 0 ≤ q.1 ∧ 0 ≤ (pc : Int) + q.2) → (pc : Int) + Op.lookupswitch.offset ps d0 x = (lsw (ps.flatMap fun q => [q.1.toNat, ((pc : Int) + q.2).toNat]) dt x : Nat)
  | [], _ => hd
  | (a, o) :: r, h => by
    have h0 := h (a, o) List.mem_cons_self
    have ih := lsw_off (x := x) hd r (fun q hq => h q (List.mem_cons_of_mem _ hq))
    rw [Op.lookupswitch.offset_cons]
    show _ = ((lsw (a.toNat :: ((pc : Int) + o).toNat :: r.flatMap fun q => [q.1.toNat, ((pc : Int) + q.2).toNat]) dt x : Nat) : Int)
    unfold lsw
    by_cases e : a = x
    · rw [if_pos e, if_pos (by omega)]
      omega
    · rw [if_neg e, if_neg (by omega)]
      exact ih
theorem s_lookup {df : Int} {ps : Array (Int × Int)} {x : Int} (hk : okE y pc (.lookupswitch df ps, nx, rs, c0)) (h : Ex d y (lsw (rs.drop 1) (n1 (.lookupswitch df ps, nx, rs, c0)) (w32 x)) ls r m Q) : Ex d y pc ls (vI x :: r) m Q := by
  obtain ⟨k1, -, k3⟩ := hk.use
  unfold okX at k3
  simp only [Bool.and_eq_true, decide_eq_true_eq, List.all_eq_true] at k3
  obtain ⟨⟨⟨g1, g2⟩, g3⟩, g4⟩ := k3
  refine Ex_pure h fun C hR hS hL k => ?_
  refine lv_lookup C.1 C.2.1 k1 ?_ rfl (tgt := lsw (rs.drop 1) (n1 (.lookupswitch df ps, nx, rs, c0)) (w32 x)) ?_ (k _ hL)
  · rw [List.all_eq_true]
    intro q hq
    exact decide_eq_true (g4 q hq)
  · rw [g2]
    exact lsw_off g1 ps.toList g3
/-! ===== ends ===== -/
theorem Ex_ret {v : Option AV} (hq : Q 0 v m) (row : ∀ {G : Gm} {p : Program} {l : Launch} {e : Env} {R : Room} {s : State} {mi : MethodId} {args : Array Value} {below : List Frame} {meth : Method} {c : Code} {H : Heap} {locs : List Loc} {cells slots : Nat} {mls : Array Slot},
      Cx G y d p l R s mi args meth c → (∀ t : State, t.heap = H → s.WarmedH t.vm → QR G m 0 v args s (.returned (v.map (up G))) t) → (∀ q ∈ locs, gA G q.base) →
      W p l e R s mi args below meth c H locs cells slots (MQ below (QR G m 0 v) args s cells slots (gA G)) (F0 mi pc mls (st.map (up G)))) : Ex d y pc ls st m Q := by
  refine ⟨0, v, m, hq, Nat.le_refl _, Nat.le_refl _, fun G p l e R s mi args below meth c n0 z0 H locs mls C c1 c2 c3 c4 hR hS hL => ?_⟩
  exact vx_ret (row C (fun t ht hW => ⟨rfl, rfl, by rw [ht]; exact hR.moved hW.alike, hS.F ht⟩) hS.2.2)
theorem s_return (hk : okE y pc (.return_, nx, rs, c0)) (h : Q 0 none m) : Ex d y pc ls [] m Q := by
  obtain ⟨k1, -, k3⟩ := hk.use
  refine Ex_ret h fun C hq hf => ?_
  exact W.vret C.1 C.2.1 (C.2.2.1.trans (of_decide_eq_true k3)) hq hf k1 C.2.2.2.2.2.2.1
theorem s_lreturn {x : Int} (hk : okE y pc (.lreturn, nx, rs, c0)) (h : Q 0 (some (vL x)) m) : Ex d y pc ls [vL x] m Q := by
  obtain ⟨k1, -, k3⟩ := hk.use
  refine Ex_ret h fun C hq hf => ?_
  exact W.lret C.1 C.2.1 (C.2.2.1.trans (of_decide_eq_true k3)) hq hf k1 C.2.2.2.2.2.2.1
theorem s_areturn {a : Nat} (hk : okE y pc (.areturn, nx, rs, c0)) (h : Q 0 (some (vR a)) m) : Ex d y pc ls [vR a] m Q := by
  obtain ⟨k1, -, k3⟩ := hk.use
  change (match mR y with
    | some (.object _) => true
    | some (.array _) => true
    | _ => false) = true at k3
  refine Ex_ret h fun {G _ _ _ _ _ _ _ _ _ _ _ _ _ _ _} C hq hf => ?_
  split at k3
  · next e => exact W.aret C.1 C.2.1 (C.2.2.1.trans e) (Or.inl ⟨_, rfl⟩) (up_ref G a) hq hf k1 C.2.2.2.2.2.2.1
  · next e => exact W.aret C.1 C.2.1 (C.2.2.1.trans e) (Or.inr ⟨_, rfl⟩) (up_ref G a) hq hf k1 C.2.2.2.2.2.2.1
  · cases k3
theorem nar_c : ∀ n : Nat, n < 128 → narrow .char (.int (Int32.ofNat n)) = .int (Int32.ofNat n) ∧ narrow .byte (.int (Int32.ofNat n)) = .int (Int32.ofNat n) := by decide +kernel
theorem s_ireturn {x : Int} (hk : okE y pc (.ireturn, nx, rs, c0)) (h : match n1 (.ireturn, nx, rs, c0) with
    | 0 => Q 0 (some (vI x)) m
    | 1 => (x = 0 ∨ x = 1) ∧ Q 0 (some (vI x)) m
    | _ => (0 ≤ x ∧ x ≤ 127) ∧ Q 0 (some (vI x)) m) : Ex d y pc ls [vI x] m Q := by
  obtain ⟨k1, -, k3⟩ := hk.use
  change (match n1 (.ireturn, nx, rs, c0) with
    | 0 => decide (mR y = some .int)
    | 1 => decide (mR y = some .boolean)
    | _ => decide (mR y = some .char) || decide (mR y = some .byte)) = true at k3
  generalize n1 (.ireturn, nx, rs, c0) = t at k3 h
  match t, k3, h with
  | 0, k3, h =>
    refine Ex_ret h fun C hq hf => ?_
    exact W.iret C.1 C.2.1 (C.2.2.1.trans (of_decide_eq_true k3)) hq hf k1 C.2.2.2.2.2.2.1
  | 1, k3, h =>
    refine Ex_ret h.2 fun C hq hf => ?_
    refine W.zret C.1 C.2.1 (C.2.2.1.trans (of_decide_eq_true k3)) ?_ hq hf k1 C.2.2.2.2.2.2.1
    rcases h.1 with rfl | rfl <;> decide +kernel
  | t + 2, k3, h =>
    refine Ex_ret h.2 fun C hq hf => ?_
    obtain ⟨⟨h1, h2⟩, -⟩ := h
    obtain ⟨n, rfl⟩ := Int.eq_ofNat_of_zero_le h1
    have hn := nar_c n (by omega)
    rw [← Int32.ofInt_eq_ofNat] at hn
    have k3 : (decide (mR y = some .char) || decide (mR y = some .byte)) = true := k3
    simp only [Bool.or_eq_true, decide_eq_true_eq] at k3
    rcases k3 with e | e
    · exact W.zret C.1 C.2.1 (C.2.2.1.trans e) hn.1 hq hf k1 C.2.2.2.2.2.2.1
    · exact W.zret C.1 C.2.1 (C.2.2.1.trans e) hn.2 hq hf k1 C.2.2.2.2.2.2.1
end Steps6
