/-! ===== a call in a method with a table, whose handlers store, push a number and return it ===== -/
def catchOk (y pc o : Nat) (n : Int) : Prop := ∃ (pre : List ExceptionTableEntry) (x : ExceptionTableEntry) (suf : List ExceptionTableEntry) (i ln : Nat), tableOf (mH y) = pre ++ x :: suf ∧
  (∀ z ∈ pre, covers z pc = false ∨ (z.catchType ≠ 0 ∧ Cond.classLink (mC y) z.catchType "java/util/NoSuchElementException" ∈ lw_good ∧ exN o = "java/lang/IllegalArgumentException")) ∧ covers x pc = true ∧ x.catchType ≠ 0 ∧ Cond.classLink (mC y) x.catchType (exN o) ∈ lw_good ∧ Cond.castable (exN o) (exN o) ∈ lw_tbl ∧
  i < mL y ∧ ((decode (mB y) x.handlerPc = .ok (.astore i, 2) ∧ ln = 2) ∨ (∃ k : Fin 4, k.val = i ∧ decode (mB y) x.handlerPc = .ok (.astore_n k, 1) ∧ ln = 1)) ∧ decode (mB y) (x.handlerPc + ln) = .ok (.iconst n, 1) ∧ decode (mB y) (x.handlerPc + ln + 1) = .ok (.ireturn, 1) ∧ mR y = some .int
theorem Ex_afterC {d y pc : Nat} {ls : Ls} {st r : List AV} {m m1 : Mem} {o1 : Nat} {v1 : Option AV} {Q : Nat → Option AV → Mem → Prop} {n : Int} (hrun : RunOK d y pc ls st r m m1 o1 v1) (h1 : mN m ≤ mN m1) (h2 : mZ m ≤ mZ m1) (ho : o1 ≠ 0) (hc : catchOk y pc o1 n) (hq : Q 0 (some (vI n)) m1) : Ex (d + 1) y pc ls st m Q := by
  obtain ⟨pre, x, suf, i, ln, t1, t2, t3, t4, t5, t6, t7, t8, t9, t10, t11⟩ := hc
  refine ⟨0, some (vI n), m1, hq, h1, h2, fun G p l e R s mi args below meth c n0 z0 H locs mls C c1 c2 c3 c4 hR hS hL => ?_⟩
  intro T hT X
  obtain ⟨a, hr⟩ := hrun G p l e R s mi args below meth c H locs (mN m - n0) (mZ m - z0) mls C hR hS hL (by omega) (by omega)
  have hw := C.2.2.2.2.2.2.2.2.2.1
  rcases hr T hT X with ⟨v0, st₀, t, T', L, h0, X', hLf, e1, e2, ⟨h00, -⟩, -⟩ | ⟨q, st₀, t, T', L, E, ce, h0, X', hLf, e1, e2, ⟨hne, hE, hR1, hF⟩, hce, hcv, hcl, st1⟩
  · exact absurd h00 ho
  · subst hE
    obtain ⟨k1, k2, k3⟩ := vx_keep (A0 := gA G) h0 e1 hS (fun _ _ z => z) (fun _ z => z) hLf hF
    have hal : t.vm.Alike s.vm := by rw [← e2]; exact X'.warmed.alike.symm
    have hR' : Rep G m1 s T'.heap := by rw [e1]; exact hR1.moved hal
    have fin : ∀ mls9 : Array Slot, W p l e R s mi args below meth c T'.heap (locs ++ L) (mN m1 - n0) (mZ m1 - z0) (vx_MQ below (QR G m1 0 (some (vI n))) (QX G m1 0) args s (mN m1 - n0) (mZ m1 - z0) (gA G)) (F0 mi (x.handlerPc + ln) mls9 []) := by
      intro mls9
      refine lv_iconst C.1 C.2.1 t9 rfl ?_
      exact vx_ret (W.iret C.1 C.2.1 (C.2.2.1.trans t11) (fun t9 ht9 hW9 => ⟨rfl, rfl, by rw [ht9]; exact hR'.moved hW9.alike, k3.F ht9⟩) k3.2.2 t10 C.2.2.2.2.2.2.1)
    have hx : W p l e R s mi args below meth c T'.heap (locs ++ L) (mN m1 - n0) (mZ m1 - z0) (vx_MQ below (QR G m1 0 (some (vI n))) (QX G m1 0) args s (mN m1 - n0) (mZ m1 - z0) (gA G)) (F0 mi x.handlerPc mls [.ref q]) := by
      rcases t8 with ⟨t8, rfl⟩ | ⟨k, rfl, t8, rfl⟩
      · exact lv_astore C.1 C.2.1 t8 hL.has t7 rfl (fun ls9 _ => fin ls9)
      · exact lv_astore_n C.1 C.2.1 t8 rfl hL.has t7 rfl (fun ls9 _ => fin ls9)
    have hv : vx_W p l e R s mi args below meth c T'.heap (locs ++ L) (mN m1 - n0) (mZ m1 - z0) (vx_MQ below (QR G m1 0 (some (vI n))) (QX G m1 0) args s (mN m1 - n0) (mZ m1 - z0) (gA G)) (F0 mi pc mls (r.map (up G))) q := by
      refine vx_catch C.2.2.2.2.1 pre x suf (by rw [C.2.2.2.2.2.2.2.1]; exact t1) (fun z hz => ?_) t3 t4 (C.2.2.2.2.2.1 _ t5) (va_Nw.use rfl (hw.2.2.2.2.1.2.1 _ t6 rfl)) (by rw [e1]; exact hce) hcv hcl hx
      rcases t2 z hz with g | ⟨g1, g2, g3⟩
      · exact Or.inl g
      · refine Or.inr ⟨g1, _, C.2.2.2.2.2.1 _ g2, ?_⟩
        rw [g3]
        exact hw.2.2.2.2.1.2.2
    rw [show mN m1 - n0 = mN m - n0 + (mN m1 - mN m) by omega, show mZ m1 - z0 = mZ m - z0 + (mZ m1 - mZ m) by omega] at hv
    obtain ⟨t2, a1, b1⟩ := hv T' rfl X'
    refine ⟨t2, st1.trans a1, ?_⟩
    rw [show mN m1 - n0 = mN m - n0 + (mN m1 - mN m) by omega, show mZ m1 - z0 = mZ m - z0 + (mZ m1 - mZ m) by omega]
    exact b1
theorem run_SX {d y pc : Nat} {ls : Ls} {r : List AV} {m m1 : Mem} {o1 : Nat} {v1 : Option AV} {y1 idx nx : Nat} {rs : List Nat} {c0 : Int} {av : List AV} (hk : okE y pc (.invokestatic idx, nx, rs, c0)) (h9 : n1 (.invokestatic idx, nx, rs, c0) = y1) (h998 : y1 ≠ 998) (hm : mOk y1) (hst : mI y1 0 = 1) {a9 : Nat × Nat × Nat × Nat} {b9 : List (Nat × Nat × Nat × Nat)} (hmh : mH y1 = a9 :: b9) (hn : av.length = mI y1 2) (hcat : catS r ≤ 8) (hlen : (laySl av).length ≤ mL y1) (h : Ev d y1 0 (entL y1 av) [] m m1 o1 v1) :
    RunOK d y pc ls (av.reverse ++ r) r m m1 o1 v1 := by
  obtain ⟨k1, -, k3⟩ := hk.use
  change (bif Nat.beq (n1 (.invokestatic idx, nx, rs, c0)) 998 then _ else wAt (n2 (.invokestatic idx, nx, rs, c0)) (.methodLink (mC y) idx (mNm (n1 (.invokestatic idx, nx, rs, c0))))) = true at k3
  rw [h9] at k3
  have hb : Nat.beq y1 998 = false := by
    cases hx : Nat.beq y1 998 with
    | false => rfl
    | true => exact absurd (Nat.eq_of_beq_eq_true hx) h998
  rw [hb] at k3
  simp only [cond_false] at k3
  intro G p l e R s mi args below meth c H locs cells slots mls C hR hS hL hc hs
  have hfr : frD (d + 1) ≤ R.frames := C.2.2.2.2.2.2.2.2.2.2.2.2.1
  have hlo : loD (d + 1) ≤ R.locals := C.2.2.2.2.2.2.2.2.2.2.2.2.2
  have hL30 := hm.2.2.2.2.2.1
  have hg : ∀ w ∈ wsO y1, w ∈ lw_good := fun w hw => (List.mem_cons.mp hw).elim (fun e => by rw [e]; exact hm.1) id
  have hh : headW y1 = .codeWith (mNm y1) (mB y1) (mL y1) (mR y1) (a9 :: b9) := by unfold headW; rw [hmh]
  refine ⟨_, vx_runSX (As := av.map (up G)) (n := mI y1 2) (hh := a9 :: b9) (bytes := mB y1) (maxL := mL y1) (ret := mR y1) ⟨C.1, C.2.1, C.2.2.2.1, C.2.2.2.2.1, C.2.2.2.2.2.1⟩ (Met_of hm hlen h l C.2.2.2.2.2.2.2.2.2.2.2.1 G) ⟨⟨rfl, rfl, ?_, ?_, pay_in C.2.2.2.2.2.1 (fun w hw => ⟨hg w hw, good_word (hg w hw)⟩), by rw [← hh]; exact List.mem_cons_self⟩, by rw [← hh]; exact C.2.2.2.2.2.1 _ hm.1, C.2.2.2.2.2.1 _ hm.2.2.1, hm.2.2.2.1, fun sig hs => ?_, C.2.2.2.2.2.1 _ (wAt_mem k3), C.2.2.2.2.2.1 _ (hm.2.2.2.2.2.2.1 hst)⟩ ⟨PcO_blind G av m, Pre_O C.2.2.2.2.2.2.2.2.2.1 C.2.2.2.2.2.2.2.2.2.2.1 hR hS⟩ rfl (by rw [List.length_map]; exact hn) hL.1 ?_ ?_ k1 ⟨hc, hs⟩⟩
  · show frD d + 1 ≤ _
    unfold frD at hfr ⊢
    omega
  · show 8 + (mL y1 + 11) + loD d ≤ _
    unfold loD at hlo ⊢
    omega
  · have := hm.2.2.2.2.1
    rw [hs] at this
    exact (Option.some.inj this).symm
  · show (av.reverse ++ r).map (up G) = _
    rw [List.map_append, List.map_reverse]
  · rw [catS_eq]
    show 2 * 0 + _ ≤ 8
    omega
/-! ===== calls as steps: what the callee ends with goes on here ===== -/
section CallSteps
variable {d y pc : Nat} {ls : Ls} {r : List AV} {m : Mem} {Q Q1 : Nat → Option AV → Mem → Prop} {nx idx : Nat} {rs : List Nat} {c0 : Int} {av : List AV}
theorem Ex_cV {y1 a : Nat} (hk : okE y pc (.invokevirtual idx, nx, rs, c0)) (hm : mOk y1) (h9 : n1 (.invokevirtual idx, nx, rs, c0) = y1 ∧ mI y1 0 = 0 ∧ (mNm y1).name ≠ "<init>" ∧ av.length = mI y1 2 ∧ catS r ≤ 8 ∧ (laySl (vR a :: av)).length ≤ mL y1) (hka : mK m a = mI y1 1) (h : Ex d y1 0 (entL y1 (vR a :: av)) [] m Q1)
    (hQ : ∀ o v m', Q1 o v m' → (o = 0 → Ex (d + 1) y nx ls (v.toList ++ r) m' Q) ∧ (o ≠ 0 → mH y = [] ∧ Q o none m')) : Ex (d + 1) y pc ls (av.reverse ++ vR a :: r) m Q := by
  obtain ⟨o, v, m', hq, hE⟩ := h
  have k2 : nx = pc + 3 := hk.use.2.1
  subst k2
  exact Ex_after (run_V hk h9.1 hm h9.2.1 h9.2.2.1 h9.2.2.2.1 h9.2.2.2.2.1 hka h9.2.2.2.2.2 hE) hE.1 hE.2.1 (hQ o v m' hq)
theorem Ex_cS {y1 : Nat} (hk : okE y pc (.invokestatic idx, nx, rs, c0)) (hm : mOk y1) (h9 : n1 (.invokestatic idx, nx, rs, c0) = y1 ∧ y1 ≠ 998 ∧ mI y1 0 = 1 ∧ mH y1 = [] ∧ av.length = mI y1 2 ∧ catS r ≤ 8 ∧ (laySl av).length ≤ mL y1) (h : Ex d y1 0 (entL y1 av) [] m Q1)
    (hQ : ∀ o v m', Q1 o v m' → (o = 0 → Ex (d + 1) y nx ls (v.toList ++ r) m' Q) ∧ (o ≠ 0 → mH y = [] ∧ Q o none m')) : Ex (d + 1) y pc ls (av.reverse ++ r) m Q := by
  obtain ⟨o, v, m', hq, hE⟩ := h
  have k2 : nx = pc + 3 := hk.use.2.1
  subst k2
  exact Ex_after (run_S hk h9.1 h9.2.1 hm h9.2.2.1 h9.2.2.2.1 h9.2.2.2.2.1 h9.2.2.2.2.2.1 h9.2.2.2.2.2.2 hE) hE.1 hE.2.1 (hQ o v m' hq)
theorem Ex_cI {y1 a : Nat} (hk : okE y pc (.invokespecial idx, nx, rs, c0)) (hm : mOk y1) (h9 : n1 (.invokespecial idx, nx, rs, c0) = y1 ∧ y1 ≠ 999 ∧ mI y1 0 = 0 ∧ mR y1 = none ∧ av.length = mI y1 2 ∧ catS r ≤ 8 ∧ (laySl (vR a :: av)).length ≤ mL y1) (ha : 100 ≤ a) (h : Ex d y1 0 (entL y1 (vR a :: av)) [] m Q1)
    (hQ : ∀ o v m', Q1 o v m' → (o = 0 → Ex (d + 1) y nx ls (v.toList ++ r) m' Q) ∧ (o ≠ 0 → mH y = [] ∧ Q o none m')) : Ex (d + 1) y pc ls (av.reverse ++ vR a :: r) m Q := by
  obtain ⟨o, v, m', hq, hE⟩ := h
  have k2 : nx = pc + 3 := hk.use.2.1
  subst k2
  exact Ex_after (run_I hk h9.1 h9.2.1 hm h9.2.2.1 h9.2.2.2.1 h9.2.2.2.2.1 h9.2.2.2.2.2.1 ha h9.2.2.2.2.2.2 hE) hE.1 hE.2.1 (hQ o v m' hq)
theorem Ex_cSX {y1 : Nat} {a9 : Nat × Nat × Nat × Nat} {b9 : List (Nat × Nat × Nat × Nat)} (hk : okE y pc (.invokestatic idx, nx, rs, c0)) (hm : mOk y1) (h9 : n1 (.invokestatic idx, nx, rs, c0) = y1 ∧ y1 ≠ 998 ∧ mI y1 0 = 1 ∧ mH y1 = a9 :: b9 ∧ av.length = mI y1 2 ∧ catS r ≤ 8 ∧ (laySl av).length ≤ mL y1) (h : Ex d y1 0 (entL y1 av) [] m Q1)
    (hQ : ∀ o v m', Q1 o v m' → (o = 0 → Ex (d + 1) y nx ls (v.toList ++ r) m' Q) ∧ (o ≠ 0 → mH y = [] ∧ Q o none m')) : Ex (d + 1) y pc ls (av.reverse ++ r) m Q := by
  obtain ⟨o, v, m', hq, hE⟩ := h
  have k2 : nx = pc + 3 := hk.use.2.1
  subst k2
  exact Ex_after (run_SX hk h9.1 h9.2.1 hm h9.2.2.1 h9.2.2.2.1 h9.2.2.2.2.1 h9.2.2.2.2.2.1 h9.2.2.2.2.2.2 hE) hE.1 hE.2.1 (hQ o v m' hq)
/-- the call of a wrapper: the callee ends, or throws what the table takes -/
theorem Ex_cVC {y1 a : Nat} (hk : okE y pc (.invokevirtual idx, nx, rs, c0)) (hm : mOk y1) (h9 : n1 (.invokevirtual idx, nx, rs, c0) = y1 ∧ mI y1 0 = 0 ∧ (mNm y1).name ≠ "<init>" ∧ av.length = mI y1 2 ∧ catS r ≤ 8 ∧ (laySl (vR a :: av)).length ≤ mL y1) (hka : mK m a = mI y1 1) (h : Ex d y1 0 (entL y1 (vR a :: av)) [] m Q1)
    (hQ : ∀ o v m', Q1 o v m' → (o = 0 → Ex (d + 1) y nx ls (v.toList ++ r) m' Q) ∧ (o ≠ 0 → ∃ n, catchOk y pc o n ∧ Q 0 (some (vI n)) m')) : Ex (d + 1) y pc ls (av.reverse ++ vR a :: r) m Q := by
  obtain ⟨o, v, m', hq, hE⟩ := h
  have k2 : nx = pc + 3 := hk.use.2.1
  subst k2
  have hr := run_V (ls := ls) hk h9.1 hm h9.2.1 h9.2.2.1 h9.2.2.2.1 h9.2.2.2.2.1 hka h9.2.2.2.2.2 hE
  by_cases ho : o = 0
  · exact Ex_after hr hE.1 hE.2.1 ⟨(hQ o v m' hq).1, fun z => absurd ho z⟩
  · obtain ⟨n, hc, hq9⟩ := (hQ o v m' hq).2 ho
    exact Ex_afterC hr hE.1 hE.2.1 ho hc hq9
end CallSteps
