/-! ===== rows that write: what else there is stays (after va_put, va_putF of the kit) ===== -/
section MPut
variable {p : Program} {l : Launch} {e : Env} {R : Room} {s : State} {m : MethodId} {args : Array Value} {below : List Frame} {meth : Method} {c : Code} {H : Heap} {locs : List Loc} {cells slots : Nat} {Q : State → Prop}
variable {cc : ByteArray} {pc : Nat} {ls : Array Slot} {rest : List Value} {D : va_G} {cl : List vw_C} {A : Nat → Prop} {a : Nat} {H0 : Heap}
theorem m_put (hexec : p.tables.exec = Jvm.exec) (hb : c.code = cc) {own C : String} {T : u_T} {N ci index : Nat} {Ts : List Cond} (hts : ∀ w ∈ Ts, w.before args s = true) (hin : ∀ w ∈ u_ws C T N, w ∈ Ts) (ty0 : Nat → FieldType) (hty : ∀ k, k < N → parseFieldDescriptor (T k).2.2.1 = some (ty0 k)) (hnm : ∀ a, a < N → ∀ b, b < N → a ≠ b → (T a).2.1 ≠ (T b).2.1) (hown : s.vm.findClass own = some m.cls) (hK : va_K D cl [] s) (hS0 : va_S A H0 H locs) {fs : List Value} (he : va_at D cl (a, .inr (ci, fs)) H) (hc : cl[ci]? = some (C, T, N)) (k : Nat) (hk : k < N) (hlink : (Cond.fieldLink own index (T k).1 (T k).2.1 (T k).2.2.1).before args s = true)
    (hfin : (T k).2.2.2 = false ∨ (meth.name = "<init>" ∧ (T k).1 = own)) {v : Value} (hn : narrow (ty0 k) v = v) (hfit : fits (ty0 k) v = true) (hl : k < fs.length) (ha : A a)
    (hdg : decode cc pc = .ok (.putfield index, 3)) (kk : ∀ (H1 : Heap) (locs1 : List Loc), H1.size = H.size → (∀ q, q ≠ a → H1[q]? = H[q]?) → va_at D cl (a, .inr (ci, fs.set k v)) H1 → va_S A H0 H1 locs1 → W p l e R s m args below meth c H1 locs1 cells slots Q (F0 m (pc + 3) ls rest)) : W p l e R s m args below meth c H locs cells slots Q (F0 m pc ls (v :: .ref a :: rest)) := by
  have hap := va_apart (own := own) hts hin ty0 hty hnm hK hc
  have hd := hty k hk
  obtain ⟨r, h1, cell, q1, q2, q3, q4⟩ := he
  have hr : r = (C, T, N) := Option.some.inj (h1.symm.trans hc)
  subst hr
  obtain ⟨hS, hfc, kC, hkC, hkind⟩ := hK.1 ci _ hc
  obtain ⟨cf, kf, fi, f, hi, hsl⟩ := hS k hk
  have hlay := hts _ (hin _ (u_in_lay hk))
  unfold u_lay at hlay
  have hst := (u_facts hfc hkC (u_lays hts hin hk) hi).1
  cases hf : (T k).2.2.2 with
  | false =>
    rw [if_neg (by rw [hf]; decide)] at hlay
    have h6 := u_store hfc hkC hkind hlay hi hd hn hfit
    refine W.putK hexec hb (f := f) ⟨hown, hlink, ⟨_, _, _, hi⟩, hst⟩ (by rw [q2]; exact h6) q1 q3 (by rw [hsl]; exact k2_hasslot (q4 k hk)) rfl rfl hdg fun H' e1 e2 e3 => ?_
    rw [hsl] at e1 ⊢
    exact kk H' _ e2 e3 ⟨_, hc, t_OB.to (V := updV (vp_V fs) k v) ⟨_, e1, q2, q3, t_set q4 hap hk v⟩ (fun j _ => vp_updV_set hl v j)⟩ (hS0.put e2 e3 ha)
  | true =>
    have hf2 : meth.name = "<init>" ∧ (T k).1 = own := by
      rcases hfin with q | q
      · rw [hf] at q; cases q
      · exact q
    rw [if_pos hf] at hlay
    have hcf : m.cls = cf := by
      obtain ⟨_, _, c', _, _, _, -, -, hf', -, -, -, hown2, -⟩ := Cond.laysFinal_spec hlay
      have e1 : c' = cf := by have := hi.symm.trans hf'; simp at this; exact this.1.symm
      rw [hf2.2] at hown2
      rw [← e1]; exact Option.some.inj (hown.symm.trans hown2)
    have h6 := u_fits hfc hkC hkind (Or.inr hlay) hi hd hn hfit
    refine W.putFinK hexec hb hown hlink hi hst hcf hf2.1 (by rw [q2]; exact h6) q1 q3 (by rw [hsl]; exact k2_hasslot (q4 k hk)) rfl rfl hdg fun H' e1 e2 e3 => ?_
    rw [hsl] at e1 ⊢
    exact kk H' _ e2 e3 ⟨_, hc, t_OB.to (V := updV (vp_V fs) k v) ⟨_, e1, q2, q3, t_set q4 hap hk v⟩ (fun j _ => vp_updV_set hl v j)⟩ (hS0.put e2 e3 ha)
end MPut
/-- one step that writes an old cell -/
theorem Ex_write {d y pc nx : Nat} {ls : Ls} {st st' : List AV} {m m2 : Mem} {Q : Nat → Option AV → Mem → Prop} (h : Ex d y nx ls st' m2 Q) (hN : mN m2 = mN m) (hZ : mZ m2 = mZ m)
    (row : ∀ {G : Gm} {p : Program} {l : Launch} {e : Env} {R : Room} {s : State} {mi : MethodId} {args : Array Value} {below : List Frame} {meth : Method} {c : Code} {H : Heap} {locs : List Loc} {cells slots : Nat} {Qf : State → Prop} {mls : Array Slot},
      Cx G y d p l R s mi args meth c → Rep G m s H → va_S (gA G) s.heap H locs → LR G mls (mL y) ls →
      (∀ H' locs', Rep G m2 s H' → va_S (gA G) s.heap H' locs' → W p l e R s mi args below meth c H' locs' cells slots Qf (F0 mi nx mls (st'.map (up G)))) →
      W p l e R s mi args below meth c H locs cells slots Qf (F0 mi pc mls (st.map (up G)))) : Ex d y pc ls st m Q := by
  obtain ⟨o, v, m', hQ, h1, h2, hE⟩ := h
  refine ⟨o, v, m', hQ, by rw [← hN]; exact h1, by rw [← hZ]; exact h2, fun G p l e R s mi args below meth c n0 z0 H locs mls C c1 c2 c3 c4 hR hS hL => ?_⟩
  refine row C hR hS hL fun H' locs' hR' hS' => ?_
  rw [← hN, ← hZ]
  exact hE G p l e R s mi args below meth c n0 z0 H' locs' mls C c1 c2 (by rw [hN]; exact c3) (by rw [hZ]; exact c4) hR' hS' hL
theorem arTy_13 {k : Nat} {ty : FieldType} (h : arTy k = some ty) : 13 ≤ k ∧ k ≤ 19 := by
  unfold arTy at h
  split at h <;> cases h <;> omega
theorem narrow_ref {ty : FieldType} (h : ty.isReference = true) (v : Value) : narrow ty v = v := by
  cases ty <;> cases h <;> cases v <;> rfl
theorem fits_ref {ty : FieldType} (h : ty.isReference = true) (G : Gm) (a : Nat) : fits ty (up G (vR a)) = true := by
  rcases up_ref G a with e | ⟨q, e⟩ <;> rw [e] <;> cases ty <;> cases h <;> rfl
theorem rho_A (G : Gm) {a : Nat} (h : 100 ≤ a) : gA G (rho G a) := by
  rw [rho_hi G h]
  unfold gA
  omega
theorem pOk_use {y : Nat} {e : Ent} {q : vw_C} (hq : vwCl[n2 e - 1]? = some q) (h : pOk y e = true) : (q.2.1 (n1 e - 64 * n2 e)).2.2.2 = false ∨ ((mNm y).name = "<init>" ∧ (q.2.1 (n1 e - 64 * n2 e)).1 = mC y) := by
  unfold pOk at h
  rw [hq] at h
  simp only [Bool.or_eq_true, Bool.not_eq_true', Bool.and_eq_true, decide_eq_true_eq] at h
  exact h
/-- a field's cell behind a write -/
theorem cOK_put {G : Gm} {U : State} {m m2 : Mem} {a k j : Nat} {q : vw_C} {H' : Heap} {v : Value} (hq : vwCl[k]? = some q) (hk : mK m a = k + 1) (hj : j < q.2.2) (hK : mK m2 = mK m) (hf : ∀ i, i < q.2.2 → fval G m2 k a i = if i = j then v else fval G m k a i)
    (hv : va_at (gD G) vwCl (rho G a, .inr (k, (flds G m k a q.2.2).set j v)) H') : cOK G U m2 a H' := by
  have hk12 := vwCl_lt hq
  refine ⟨fun k' q' hq' hk' => ?_, fun k' ty ht hk' => ?_, by rw [hK, hk]; omega⟩
  · rw [hK, hk] at hk'
    have e : k' = k := by omega
    subst e
    cases Option.some.inj (hq.symm.trans hq')
    have e2 : flds G m2 k' a q.2.2 = (flds G m k' a q.2.2).set j v := by
      refine List.ext_getElem? fun i => ?_
      by_cases hi : i < q.2.2
      · rw [flds_get G m2 k' a hi, hf i hi, List.getElem?_set, flds_length]
        by_cases e : i = j
        · subst e; simp [hi]
        · rw [if_neg e, if_neg (fun z => e z.symm), flds_get G m k' a hi]
      · rw [List.getElem?_eq_none (by rw [flds_length]; omega), List.getElem?_eq_none (by rw [List.length_set, flds_length]; omega)]
    rw [e2]
    exact hv
  · rw [hK, hk] at hk'
    have := arTy_13 ht
    omega
section Steps4
variable {d y pc : Nat} {ls : Ls} {st : List AV} {m : Mem} {Q : Nat → Option AV → Mem → Prop} {nx : Nat} {rs : List Nat} {c0 : Int} {r : List AV}
theorem offA_sFI (m : Mem) (f a : Nat) (x : Int) : offA m (sFI m f a x) a := ⟨rfl, rfl, rfl, fun b hb => ⟨fun f' => if_neg (fun z => hb z.2), fun _ => rfl, rfl, rfl, rfl⟩⟩
theorem offA_sFR (m : Mem) (f a : Nat) (x : Nat) : offA m (sFR m f a x) a := ⟨rfl, rfl, rfl, fun b hb => ⟨fun _ => rfl, fun f' => if_neg (fun z => hb z.2), rfl, rfl, rfl⟩⟩
theorem offA_sAI (m : Mem) (a : Nat) (x : Nat → Int) : offA m (sAI m a x) a := ⟨rfl, rfl, rfl, fun b hb => ⟨fun _ => rfl, fun _ => rfl, if_neg hb, rfl, rfl⟩⟩
theorem offA_sAL (m : Mem) (a : Nat) (x : Nat → Int) : offA m (sAL m a x) a := ⟨rfl, rfl, rfl, fun b hb => ⟨fun _ => rfl, fun _ => rfl, rfl, if_neg hb, rfl⟩⟩
theorem offA_sAR (m : Mem) (a : Nat) (x : Nat → Nat) : offA m (sAR m a x) a := ⟨rfl, rfl, rfl, fun b hb => ⟨fun _ => rfl, fun _ => rfl, rfl, rfl, if_neg hb⟩⟩
theorem s_putI {idx a : Nat} {x : Int} (hk : okE y pc (.putfield idx, nx, rs, c0)) (h : mK m a = n2 (.putfield idx, nx, rs, c0) ∧ (bif Nat.beq (n3 (.putfield idx, nx, rs, c0)) 1 then x = 0 ∨ x = 1 else True) ∧ n3 (.putfield idx, nx, rs, c0) < 2 ∧ Ex d y nx ls r (sFI m (n1 (.putfield idx, nx, rs, c0)) a x) Q) : Ex d y pc ls (vI x :: vR a :: r) m Q := by
  obtain ⟨k1, z2, k3⟩ := hk.use
  have k2 : nx = pc + 3 := z2
  clear z2 hk
  subst k2
  obtain ⟨hka, hb, ht, h⟩ := h
  change (fOk y (.putfield idx, pc + 3, rs, c0) idx && pOk y (.putfield idx, pc + 3, rs, c0) && !(Nat.beq (n2 (.putfield idx, pc + 3, rs, c0)) 20)) = true at k3
  generalize he : ((.putfield idx, pc + 3, rs, c0) : Ent) = e at k3 hka h hb ht
  simp only [Bool.and_eq_true, Bool.not_eq_true'] at k3
  obtain ⟨⟨g0, gp⟩, g20⟩ := k3
  have h20 : n2 e ≠ 20 := fun z => by rw [z] at g20; exact absurd g20 (by decide)
  obtain ⟨q, hq, g1, g2, g3, g4, g5⟩ := fOk_own g0 h20
  have hka' : mK m a = (n2 e - 1) + 1 := by omega
  refine Ex_write h rfl rfl fun {G _ _ _ _ _ _ _ _ _ _ _ _ _ _ _ _} C hR hS hL k => ?_
  obtain ⟨ha, hv⟩ := hR.obj hq hka'
  have ok := clOk_all hq
  rw [List.map_cons, List.map_cons, up_hi G ha]
  have hty : (n3 e = 0 ∧ clTy (n2 e - 1) (n1 e - 64 * n2 e) = .int) ∨ (n3 e = 1 ∧ clTy (n2 e - 1) (n1 e - 64 * n2 e) = .boolean) := by
    rcases g5 with z | z | z
    · exact Or.inl z
    · exact Or.inr z
    · omega
  have hnf : narrow (clTy (n2 e - 1) (n1 e - 64 * n2 e)) (up G (vI x)) = up G (vI x) ∧ fits (clTy (n2 e - 1) (n1 e - 64 * n2 e)) (up G (vI x)) = true ∧ (clTy (n2 e - 1) (n1 e - 64 * n2 e)).isReference = false := by
    rcases hty with ⟨z1, z2⟩ | ⟨z1, z2⟩
    · rw [z2]; exact ⟨rfl, rfl, rfl⟩
    · rw [z1] at hb
      rw [z2]
      have hb : x = 0 ∨ x = 1 := hb
      rcases hb with rfl | rfl
      · exact ⟨(by decide +kernel : narrow .boolean (.int (Int32.ofInt 0)) = .int (Int32.ofInt 0)), (by decide +kernel : fits .boolean (.int (Int32.ofInt 0)) = true), rfl⟩
      · exact ⟨(by decide +kernel : narrow .boolean (.int (Int32.ofInt 1)) = .int (Int32.ofInt 1)), (by decide +kernel : fits .boolean (.int (Int32.ofInt 1)) = true), rfl⟩
  refine m_put (D := gD G) (cl := vwCl) (C := q.1) (T := q.2.1) (N := q.2.2) (index := idx) C.1 C.2.1 C.2.2.2.2.2.1 ok.1 (clTy (n2 e - 1)) ok.2.1 ok.2.2.1 C.2.2.2.2.1 C.2.2.2.2.2.2.2.2.2.1.1 hS hv hq _ g3 (C.2.2.2.2.2.1 _ g4) ?_ hnf.1 hnf.2.1 (by rw [flds_length]; exact g3) (rho_A G ha) k1 (fun H1 locs1 z1 z2 z3 z4 => ?_)
  · rcases pOk_use hq gp with z | ⟨z1, z2⟩
    · exact Or.inl z
    · exact Or.inr ⟨by rw [C.2.2.2.2.2.2.2.2.1]; exact z1, z2⟩
  · refine k H1 locs1 (hR.upd ha (offA_sFI m _ a x) z1 z2 (cOK_put hq hka' g3 rfl (fun i hi => ?_) z3)) z4
    unfold fval
    have e9 : 64 * (n2 e - 1 + 1) + (n1 e - 64 * n2 e) = n1 e := by omega
    by_cases ei : i = n1 e - 64 * n2 e
    · rw [if_pos ei, ei, if_neg (by rw [hnf.2.2]; decide)]
      show Value.int (Int32.ofInt (if _ ∧ _ then x else _)) = _
      rw [if_pos ⟨e9, rfl⟩]
      rfl
    · rw [if_neg ei]
      have e8 : 64 * (n2 e - 1 + 1) + i ≠ n1 e := by omega
      have e7 : mFI (sFI m (n1 e) a x) (64 * (n2 e - 1 + 1) + i) a = mFI m (64 * (n2 e - 1 + 1) + i) a := if_neg (fun z => e8 z.1)
      rw [e7]
      rfl
theorem s_putR {idx a v : Nat} (hk : okE y pc (.putfield idx, nx, rs, c0)) (h : mK m a = n2 (.putfield idx, nx, rs, c0) ∧ n3 (.putfield idx, nx, rs, c0) = 2 ∧ Ex d y nx ls r (sFR m (n1 (.putfield idx, nx, rs, c0)) a v) Q) : Ex d y pc ls (vR v :: vR a :: r) m Q := by
  obtain ⟨k1, z2, k3⟩ := hk.use
  have k2 : nx = pc + 3 := z2
  clear z2 hk
  subst k2
  obtain ⟨hka, ht, h⟩ := h
  change (fOk y (.putfield idx, pc + 3, rs, c0) idx && pOk y (.putfield idx, pc + 3, rs, c0) && !(Nat.beq (n2 (.putfield idx, pc + 3, rs, c0)) 20)) = true at k3
  generalize he : ((.putfield idx, pc + 3, rs, c0) : Ent) = e at k3 hka h ht
  simp only [Bool.and_eq_true, Bool.not_eq_true'] at k3
  obtain ⟨⟨g0, gp⟩, g20⟩ := k3
  have h20 : n2 e ≠ 20 := fun z => by rw [z] at g20; exact absurd g20 (by decide)
  obtain ⟨q, hq, g1, g2, g3, g4, g5⟩ := fOk_own g0 h20
  have hka' : mK m a = (n2 e - 1) + 1 := by omega
  refine Ex_write h rfl rfl fun {G _ _ _ _ _ _ _ _ _ _ _ _ _ _ _ _} C hR hS hL k => ?_
  obtain ⟨ha, hv⟩ := hR.obj hq hka'
  have ok := clOk_all hq
  rw [List.map_cons, List.map_cons, up_hi G ha]
  have hty : (clTy (n2 e - 1) (n1 e - 64 * n2 e)).isReference = true := by
    rcases g5 with z | z | z
    · omega
    · omega
    · exact z.2
  refine m_put (D := gD G) (cl := vwCl) (C := q.1) (T := q.2.1) (N := q.2.2) (index := idx) C.1 C.2.1 C.2.2.2.2.2.1 ok.1 (clTy (n2 e - 1)) ok.2.1 ok.2.2.1 C.2.2.2.2.1 C.2.2.2.2.2.2.2.2.2.1.1 hS hv hq _ g3 (C.2.2.2.2.2.1 _ g4) ?_ (narrow_ref hty _) (fits_ref hty G v) (by rw [flds_length]; exact g3) (rho_A G ha) k1 (fun H1 locs1 z1 z2 z3 z4 => ?_)
  · rcases pOk_use hq gp with z | ⟨z1, z2⟩
    · exact Or.inl z
    · exact Or.inr ⟨by rw [C.2.2.2.2.2.2.2.2.1]; exact z1, z2⟩
  · refine k H1 locs1 (hR.upd ha (offA_sFR m _ a v) z1 z2 (cOK_put hq hka' g3 rfl (fun i hi => ?_) z3)) z4
    unfold fval
    have e9 : 64 * (n2 e - 1 + 1) + (n1 e - 64 * n2 e) = n1 e := by omega
    by_cases ei : i = n1 e - 64 * n2 e
    · rw [if_pos ei, ei, if_pos hty]
      show up G (vR (if _ ∧ _ then v else _)) = _
      rw [if_pos ⟨e9, rfl⟩]
    · rw [if_neg ei]
      have e8 : 64 * (n2 e - 1 + 1) + i ≠ n1 e := by omega
      have e7 : mFR (sFR m (n1 e) a v) (64 * (n2 e - 1 + 1) + i) a = mFR m (64 * (n2 e - 1 + 1) + i) a := if_neg (fun z => e8 z.1)
      rw [e7]
      rfl
end Steps4
