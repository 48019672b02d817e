/-! ===== arrays ===== -/
theorem not_in {i : Int} {n : Nat} (h : inR i n) : ¬ (Int32.ofInt i < 0 ∨ n ≤ (Int32.ofInt i).toNatClampNeg) := by
  obtain ⟨h1, h2⟩ := h
  unfold w32 at h1 h2
  rintro (q | q)
  · have := Int32.lt_iff_toInt_lt.mp q
    have e0 : (0 : Int32).toInt = 0 := by decide
    omega
  · have : (Int32.ofInt i).toNatClampNeg = (Int32.ofInt i).toInt.toNat := rfl
    omega
theorem ix_eq (i : Int) : (Int32.ofInt i).toNatClampNeg = ix i := rfl
theorem arrV_get (cA : ClassId) (n : Nat) (f : Nat → Value) {j : Nat} (hj : j < n) : (arrV cA n f).slots[j]? = some (f j) := by
  simp [arrV, hj]
theorem ix_lt {i : Int} {n : Nat} (h : inR i n) : ix i < n := by
  obtain ⟨h1, h2⟩ := h
  unfold ix
  omega
/-- an array's cell behind a write -/
theorem cOK_arr {G : Gm} {U : State} {m m2 : Mem} {a k : Nat} {ty : FieldType} {H' : Heap} {cA : ClassId} (ht : arTy k = some ty) (hk : mK m a = k) (hK : mK m2 = mK m) (hv : H'[rho G a]? = some (arrV cA (mLen m2 a) (aval G m2 k a))) (h1 : ArrOfT U cA ty) (h2 : va_RA U cA ty) : cOK G U m2 a H' := by
  have h13 := arTy_13 ht
  refine ⟨fun k' q' hq' hk' => ?_, fun k' ty' ht' hk' => ?_, by rw [hK, hk]; omega⟩
  · have := vwCl_lt hq'
    rw [hK, hk] at hk'
    omega
  · rw [hK, hk] at hk'
    subst hk'
    cases Option.some.inj (ht.symm.trans ht')
    exact ⟨cA, hv, h1, h2⟩
theorem aval_I {G : Gm} {m : Mem} {k a j : Nat} (h : k = 13 ∨ k = 15) : aval G m k a j = .int (Int32.ofInt (mAI m a j)) := by
  unfold aval
  rw [if_neg (by omega), if_neg (by omega)]
theorem aval_L {G : Gm} {m : Mem} {a j : Nat} : aval G m 14 a j = .long (Int64.ofInt (mAL m a j)) := rfl
theorem aval_R {G : Gm} {m : Mem} {k a j : Nat} (h : 16 ≤ k) : aval G m k a j = up G (vR (mAR m a j)) := by
  unfold aval
  rw [if_neg (by omega), if_pos h]
section Steps5
variable {d y pc : Nat} {ls : Ls} {st : List AV} {m : Mem} {Q : Nat → Option AV → Mem → Prop} {nx : Nat} {rs : List Nat} {c0 : Int} {r : List AV}
theorem s_iaload {a : Nat} {i : Int} (hk : okE y pc (.iaload, nx, rs, c0)) (h : mK m a = 13 ∧ inR i (mLen m a) ∧ Ex d y nx ls (vI (mAI m a (ix i)) :: r) m Q) : Ex d y pc ls (vI i :: vR a :: r) m Q := by
  obtain ⟨k1, k2, -⟩ := hk.use
  have k2 : nx = pc + 1 := k2
  subst k2
  obtain ⟨hka, hin, h⟩ := h
  refine Ex_pure h fun {G _ _ _ _ _ _ _ _ _ _ _ _ _ _ _ _} C hR hS hL k => ?_
  have k9 := k _ hL
  by_cases ha1 : a = 1
  · subst ha1
    have hw := C.2.2.2.2.2.2.2.2.2.1
    have hbb := C.2.2.2.2.2.2.2.2.2.2.1
    have hlt9 := hw.2.2.2.1
    rw [List.map_cons, List.map_cons, up_lo G (by omega) (by omega), show rho G 1 = gB G from rfl]
    have hl := hR.2.2.1
    rw [hl.2.1] at hin
    have e1 := hl.2.2.1 _ (ix_lt hin)
    rw [e1] at k9
    refine va_sld C.1 C.2.1 hw.2.2.1 (by omega) (by unfold gA; omega) hS (not_in hin) k1 ?_
    rw [List.map_cons] at k9
    have e2 : up G (vI (gX G (ix i)).toInt) = .int (gX G (ix i)) := by show Value.int _ = _; rw [Int32.ofInt_toInt]
    rw [e2] at k9
    exact k9
  · obtain ⟨ha, cA, g1, g2, g3⟩ := hR.arr (k := 13) rfl hka (Or.inr ha1)
    rw [List.map_cons, List.map_cons, up_hi G ha]
    refine W.iald C.1 C.2.1 g1 (g2 _ _) (fun q => by cases q) (by rw [arrV_size]; exact not_in hin) (arrV_get _ _ _ (ix_lt hin)) rfl rfl k1 ?_
    rw [aval_I (Or.inl rfl)]
    exact k9
theorem s_baload {a : Nat} {i : Int} (hk : okE y pc (.baload, nx, rs, c0)) (h : (mK m a = 15 ∨ mK m a = 21) ∧ inR i (mLen m a) ∧ Ex d y nx ls (vI (mAI m a (ix i)) :: r) m Q) : Ex d y pc ls (vI i :: vR a :: r) m Q := by
  obtain ⟨k1, k2, -⟩ := hk.use
  have k2 : nx = pc + 1 := k2
  subst k2
  obtain ⟨hka, hin, h⟩ := h
  refine Ex_pure h fun {G _ _ _ _ _ _ _ _ _ _ _ _ _ _ _ _} C hR hS hL k => ?_
  have k9 := k _ hL
  rcases hka with hka | hka
  · obtain ⟨ha, cA, g1, g2, g3⟩ := hR.arr (k := 15) rfl hka (Or.inl (by omega))
    rw [List.map_cons, List.map_cons, up_hi G ha]
    refine W.zald C.1 C.2.1 g1 (g2 _ _) (fun q => by cases q) (by rw [arrV_size]; exact not_in hin) (arrV_get _ _ _ (ix_lt hin)) rfl rfl k1 ?_
    rw [aval_I (Or.inr rfl)]
    exact k9
  · obtain ⟨j, hj, rfl⟩ := hR.byt hka
    have hj' : j < 24 := hj
    obtain ⟨l1, l2, l3, l4⟩ := hR.2.2.1.2.2.2.2 j hj
    rw [l3] at hin
    have hst := ((C.2.2.2.2.2.2.2.2.2.1.2.1 j hj).1 0 (by omega)).2.2.2.kept hS.2.1
    obtain ⟨cell, q1, q2, q3, q4, q5, q6, q7⟩ := hst
    rw [List.map_cons, List.map_cons, up_lo G (by omega) (by omega), rho_v G hj]
    have hlt : ix i < (sB j).length := ix_lt hin
    have hN : ([(sB j).length] : List Nat).getD 0 0 = (sB j).length := rfl
    rw [hN] at q4 q6
    refine W.bald C.1 C.2.1 q1 q2 q3 (fun z => not_in hin (z.elim Or.inl (fun z => Or.inr (Nat.le_trans q4 z)))) (q6 _ hlt) rfl rfl k1 ?_
    rw [l4 _ hlt] at k9
    rw [List.map_cons] at k9
    have e2 : up G (vI ((sB j).getD (ix i) 0).toInt) = .int ((sB j).getD (ix i) 0) := by show Value.int _ = _; rw [Int32.ofInt_toInt]
    rw [e2] at k9
    exact k9
theorem s_laload {a : Nat} {i : Int} (hk : okE y pc (.laload, nx, rs, c0)) (h : mK m a = 14 ∧ inR i (mLen m a) ∧ Ex d y nx ls (vL (mAL m a (ix i)) :: r) m Q) : Ex d y pc ls (vI i :: vR a :: r) m Q := by
  obtain ⟨k1, k2, -⟩ := hk.use
  have k2 : nx = pc + 1 := k2
  subst k2
  obtain ⟨hka, hin, h⟩ := h
  refine Ex_pure h fun {G _ _ _ _ _ _ _ _ _ _ _ _ _ _ _ _} C hR hS hL k => ?_
  have k9 := k _ hL
  obtain ⟨ha, cA, g1, g2, g3⟩ := hR.arr (k := 14) rfl hka (Or.inl (by omega))
  rw [List.map_cons, List.map_cons, up_hi G ha]
  exact W.lald C.1 C.2.1 g1 (g2 _ _) (fun q => by cases q) (by rw [arrV_size]; exact not_in hin) (arrV_get _ _ _ (ix_lt hin)) rfl rfl k1 k9
theorem arTy_ref {k : Nat} (h1 : 16 ≤ k) (h2 : k ≤ 19) : ∃ ty, arTy k = some ty ∧ ty.isReference = true := by
  rcases (by omega : k = 16 ∨ k = 17 ∨ k = 18 ∨ k = 19) with rfl | rfl | rfl | rfl <;> exact ⟨_, rfl, rfl⟩
theorem s_aaload {a : Nat} {i : Int} (hk : okE y pc (.aaload, nx, rs, c0)) (h : 16 ≤ mK m a ∧ mK m a ≤ 19 ∧ inR i (mLen m a) ∧ Ex d y nx ls (vR (mAR m a (ix i)) :: r) m Q) : Ex d y pc ls (vI i :: vR a :: r) m Q := by
  obtain ⟨k1, k2, -⟩ := hk.use
  have k2 : nx = pc + 1 := k2
  subst k2
  obtain ⟨hka, hkb, hin, h⟩ := h
  refine Ex_pure h fun {G _ _ _ _ _ _ _ _ _ _ _ _ _ _ _ _} C hR hS hL k => ?_
  have k9 := k _ hL
  obtain ⟨ty, ht, htr⟩ := arTy_ref hka hkb
  obtain ⟨ha, cA, g1, g2, g3⟩ := hR.arr ht rfl (Or.inl (by omega))
  rw [List.map_cons, List.map_cons, up_hi G ha]
  refine W.aald C.1 C.2.1 g1 (g2 _ _) htr (fun q => by cases q) (by rw [arrV_size]; exact not_in hin) (arrV_get _ _ _ (ix_lt hin)) rfl rfl k1 ?_
  rw [aval_R hka]
  exact k9
theorem s_alen {a : Nat} (hk : okE y pc (.arraylength, nx, rs, c0)) (h : isArr (mK m a) ∧ Ex d y nx ls (vI (mLen m a : Int) :: r) m Q) : Ex d y pc ls (vR a :: r) m Q := by
  obtain ⟨k1, k2, -⟩ := hk.use
  have k2 : nx = pc + 1 := k2
  subst k2
  obtain ⟨hka, h⟩ := h
  refine Ex_pure h fun {G _ _ _ _ _ _ _ _ _ _ _ _ _ _ _ _} C hR hS hL k => ?_
  have k9 := k _ hL
  have e0 : ∀ n : Nat, up G (vI (n : Int)) = .int (Int32.ofNat n) := fun n => by show Value.int _ = _; rw [Int32.ofInt_eq_ofNat]
  rw [List.map_cons, e0] at k9
  by_cases ha1 : a = 1
  · subst ha1
    have hw := C.2.2.2.2.2.2.2.2.2.1
    have hbb := C.2.2.2.2.2.2.2.2.2.2.1
    have hlt9 := hw.2.2.2.1
    rw [hR.2.2.1.2.1] at k9
    rw [List.map_cons, up_lo G (by omega) (by omega), show rho G 1 = gB G from rfl]
    exact va_slen C.1 C.2.1 hw.2.2.1 (by omega) (by unfold gA; omega) hS k1 k9
  · by_cases h21 : mK m a = 21
    · obtain ⟨j, hj, rfl⟩ := hR.byt h21
      have hj' : j < 24 := hj
      obtain ⟨l1, l2, l3, l4⟩ := hR.2.2.1.2.2.2.2 j hj
      have hst := ((C.2.2.2.2.2.2.2.2.2.1.2.1 j hj).1 0 (by omega)).2.2.2.kept hS.2.1
      obtain ⟨cell, q1, q2, q3, q4, q5, q6, q7⟩ := hst
      rw [List.map_cons, up_lo G (by omega) (by omega), rho_v G hj]
      rw [l3] at k9
      exact W.alen C.1 C.2.1 q1 q2 q5 rfl rfl k1 k9
    · have : ∃ ty, arTy (mK m a) = some ty := by
        unfold isArr at hka
        rcases hka with e | e | e | e | e | e | e | e <;> first | (rw [e]; exact ⟨_, rfl⟩) | exact absurd e h21
      obtain ⟨ty, ht⟩ := this
      obtain ⟨ha, cA, g1, g2, g3⟩ := hR.arr ht rfl (Or.inr ha1)
      rw [List.map_cons, up_hi G ha]
      exact W.alen C.1 C.2.1 g1 (g2 _ _) (by rw [arrV_size]) rfl rfl k1 k9
theorem s_iastore {a : Nat} {i x : Int} (hk : okE y pc (.iastore, nx, rs, c0)) (h : mK m a = 13 ∧ a ≠ 1 ∧ inR i (mLen m a) ∧ Ex d y nx ls r (sAI m a (up1 (mAI m a) (ix i) x)) Q) : Ex d y pc ls (vI x :: vI i :: vR a :: r) m Q := by
  obtain ⟨k1, k2, -⟩ := hk.use
  have k2 : nx = pc + 1 := k2
  subst k2
  obtain ⟨hka, ha1, hin, h⟩ := h
  refine Ex_write h rfl rfl fun {G _ _ _ _ _ _ _ _ _ _ _ _ _ _ _ _} C hR hS hL k => ?_
  obtain ⟨ha, cA, g1, g2, g3⟩ := hR.arr (k := 13) rfl hka (Or.inr ha1)
  rw [List.map_cons, List.map_cons, List.map_cons, up_hi G ha]
  refine W.iast C.1 C.2.1 g1 (g2 _ _) (fun q => by cases q) (by rw [arrV_size]; exact not_in hin) rfl rfl k1 (fun H1 z1 z2 z3 => ?_)
  refine k H1 _ (hR.upd ha (offA_sAI m a _) z2 z3 (cOK_arr (m := m) (k := 13) (cA := cA) rfl hka rfl ?_ g2 g3)) (hS.put z2 z3 (rho_A G ha))
  rw [z1, arrV_store]
  congr 2
  funext j
  rw [aval_I (Or.inl rfl)]
  rw [show mAI (sAI m a (up1 (mAI m a) (ix i) x)) a = up1 (mAI m a) (ix i) x from if_pos rfl]
  unfold updV up1
  by_cases e : j = ix i
  · rw [ix_eq, if_pos e, if_pos e]
  · rw [ix_eq, if_neg e, if_neg e, aval_I (Or.inl rfl)]
theorem s_bastore {a : Nat} {i x : Int} (hk : okE y pc (.bastore, nx, rs, c0)) (h : mK m a = 15 ∧ inR i (mLen m a) ∧ (x = 0 ∨ x = 1) ∧ Ex d y nx ls r (sAI m a (up1 (mAI m a) (ix i) x)) Q) : Ex d y pc ls (vI x :: vI i :: vR a :: r) m Q := by
  obtain ⟨k1, k2, -⟩ := hk.use
  have k2 : nx = pc + 1 := k2
  subst k2
  obtain ⟨hka, hin, hx01, h⟩ := h
  refine Ex_write h rfl rfl fun {G _ _ _ _ _ _ _ _ _ _ _ _ _ _ _ _} C hR hS hL k => ?_
  obtain ⟨ha, cA, g1, g2, g3⟩ := hR.arr (k := 15) rfl hka (Or.inl (by omega))
  rw [List.map_cons, List.map_cons, List.map_cons, up_hi G ha]
  refine W.zast C.1 C.2.1 g1 (g2 _ _) (fun q => by cases q) (by rw [arrV_size]; exact not_in hin) rfl rfl k1 (fun H1 z1 z2 z3 => ?_)
  refine k H1 _ (hR.upd ha (offA_sAI m a _) z2 z3 (cOK_arr (m := m) (k := 15) (cA := cA) rfl hka rfl ?_ g2 g3)) (hS.put z2 z3 (rho_A G ha))
  have e8 : narrow .boolean (.int (Int32.ofInt x)) = .int (Int32.ofInt x) := by
    rcases hx01 with rfl | rfl <;> decide +kernel
  rw [z1, e8, arrV_store]
  congr 2
  funext j
  rw [aval_I (Or.inr rfl)]
  rw [show mAI (sAI m a (up1 (mAI m a) (ix i) x)) a = up1 (mAI m a) (ix i) x from if_pos rfl]
  unfold updV up1
  by_cases e : j = ix i
  · rw [ix_eq, if_pos e, if_pos e]
  · rw [ix_eq, if_neg e, if_neg e, aval_I (Or.inr rfl)]
theorem s_lastore {a : Nat} {i x : Int} (hk : okE y pc (.lastore, nx, rs, c0)) (h : mK m a = 14 ∧ inR i (mLen m a) ∧ Ex d y nx ls r (sAL m a (up1 (mAL m a) (ix i) x)) Q) : Ex d y pc ls (vL x :: vI i :: vR a :: r) m Q := by
  obtain ⟨k1, k2, -⟩ := hk.use
  have k2 : nx = pc + 1 := k2
  subst k2
  obtain ⟨hka, hin, h⟩ := h
  refine Ex_write h rfl rfl fun {G _ _ _ _ _ _ _ _ _ _ _ _ _ _ _ _} C hR hS hL k => ?_
  obtain ⟨ha, cA, g1, g2, g3⟩ := hR.arr (k := 14) rfl hka (Or.inl (by omega))
  rw [List.map_cons, List.map_cons, List.map_cons, up_hi G ha]
  refine W.last C.1 C.2.1 g1 (g2 _ _) (fun q => by cases q) (by rw [arrV_size]; exact not_in hin) rfl rfl k1 (fun H1 z1 z2 z3 => ?_)
  refine k H1 _ (hR.upd ha (offA_sAL m a _) z2 z3 (cOK_arr (m := m) (k := 14) (cA := cA) rfl hka rfl ?_ g2 g3)) (hS.put z2 z3 (rho_A G ha))
  rw [z1, arrV_store]
  congr 2
  funext j
  rw [aval_L]
  rw [show mAL (sAL m a (up1 (mAL m a) (ix i) x)) a = up1 (mAL m a) (ix i) x from if_pos rfl]
  unfold updV up1
  by_cases e : j = ix i
  · rw [ix_eq, if_pos e, if_pos e]
  · rw [ix_eq, if_neg e, if_neg e, aval_L]
theorem s_aastore {a v : Nat} {i : Int} (hk : okE y pc (.aastore, nx, rs, c0)) (h : 16 ≤ mK m a ∧ mK m a ≤ 18 ∧ mK m v = mK m a - 15 ∧ inR i (mLen m a) ∧ Ex d y nx ls r (sAR m a (up1 (mAR m a) (ix i) v)) Q) : Ex d y pc ls (vR v :: vI i :: vR a :: r) m Q := by
  obtain ⟨k1, k2, -⟩ := hk.use
  have k2 : nx = pc + 1 := k2
  subst k2
  obtain ⟨hka, hkb, hkv, hin, h⟩ := h
  refine Ex_write h rfl rfl fun {G _ _ _ _ _ _ _ _ _ _ _ _ _ _ _ _} C hR hS hL k => ?_
  obtain ⟨q, hq, ht⟩ : ∃ q, vwCl[mK m a - 16]? = some q ∧ arTy (mK m a) = some (.object q.1) := by
    rcases (by omega : mK m a = 16 ∨ mK m a = 17 ∨ mK m a = 18) with e | e | e <;> rw [e] <;> exact ⟨_, rfl, rfl⟩
  obtain ⟨ha, cA, g1, g2, g3⟩ := hR.arr ht rfl (Or.inl (by omega))
  obtain ⟨hav, r9, hr9, cv, q1, q2, q3, -⟩ := hR.obj hq (a := v) (by omega)
  obtain ⟨kA, comp, f1, f2, f3, f4⟩ := g3
  obtain ⟨-, hfc, kC, hkC, -⟩ := C.2.2.2.2.2.2.2.2.2.1.1.1 _ _ hq
  cases Option.some.inj (f3.symm.trans hfc)
  rw [List.map_cons, List.map_cons, List.map_cons, up_hi G ha, up_hi G hav]
  have hni := not_in hin
  refine W.aast C.1 C.2.1 g1 (fun q => fun e => by cases e) (fun q => by cases q) f1 f2 rfl hkC ⟨fun e => hni (Or.inl e), by rw [arrV_size]; exact Nat.not_le.mp (fun e => hni (Or.inr e))⟩ q1 (fun q e => by rw [q3] at e; cases e) (by rw [q2]; exact hkC) (by rw [q2]; exact va_asg _ _) rfl rfl k1 (fun H1 z1 z2 z3 => ?_)
  refine k H1 _ (hR.upd ha (offA_sAR m a _) z2 z3 (cOK_arr (m := m) (cA := cA) ht rfl rfl ?_ g2 ⟨kA, _, f1, f2, hfc, f4⟩)) (hS.put z2 z3 (rho_A G ha))
  rw [z1, arrV_store]
  congr 2
  funext j
  rw [aval_R hka]
  rw [show mAR (sAR m a (up1 (mAR m a) (ix i) v)) a = up1 (mAR m a) (ix i) v from if_pos rfl]
  unfold updV up1
  by_cases e : j = ix i
  · rw [ix_eq, if_pos e, if_pos e, up_hi G hav]
  · rw [ix_eq, if_neg e, if_neg e, aval_R hka]
end Steps5
