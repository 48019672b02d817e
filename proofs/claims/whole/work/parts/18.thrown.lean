/-! ===== 'throw new E("text")' as one step ===== -/
abbrev exNames : List String := ["java/lang/RuntimeException", "java/lang/Exception"]
def thAt (y ic o ix : Nat) (rx : ByteArray) : List Cond := (Bundle.ownAtomsX (mC y) ic (exN o) ix rx exNames).filter vx_no
/-- the five instructions, their words and text -/
def thOk (y pc o : Nat) : Prop := ∃ (ik is ic ix i : Nat) (rx : ByteArray) (text : String), (decode (mB y) pc = .ok (.new ik, 3) ∧ decode (mB y) (pc + 3) = .ok (.dup, 1) ∧ decode (mB y) (pc + 4) = .ok (.ldc is, 2) ∧ decode (mB y) (pc + 6) = .ok (.invokespecial ic, 3) ∧ decode (mB y) (pc + 9) = .ok (.athrow, 1)) ∧
  (decode rx 0 = .ok (.aload_n 0, 1) ∧ decode rx 1 = .ok (.aload_n 1, 1) ∧ decode rx 2 = .ok (.invokespecial ix, 3) ∧ decode rx 5 = .ok (.return_, 1)) ∧
  sSite[i]? = some (mC y, is, text) ∧ Cond.classLink (mC y) ik (exN o) ∈ lw_good ∧ Cond.initialized (exN o) ∈ lw_good ∧ (∀ w ∈ thAt y ic o ix rx, w ∈ lw_tbl ∧ (goodWord w = true ∨ (okW2 w = true ∧ w.onTables = true)))
theorem exN_fit (o : Nat) : Bundle.fit (exN o) = true := by
  unfold exN
  split <;> decide +kernel
set_option maxHeartbeats 4000000 in
theorem Ex_throw {d y pc o : Nat} {ls : Ls} {st : List AV} {m : Mem} {Q : Nat → Option AV → Mem → Prop} (hT : thOk y pc o) (ho : o ≠ 0) (hmh : mH y = []) (hcat : catS st ≤ 8) (hQ : Q o none (alloc m 22 0 6)) : Ex d y pc ls st m Q := by
  obtain ⟨ik, is, ic, ix, i, rx, text, ⟨d0, d3, d4, d6, d9⟩, ⟨x0, x1, x2, x5⟩, hs, w1, w2, w3⟩ := hT
  refine ⟨o, none, _, hQ, Nat.le_succ _, Nat.le_add_right _ _, fun G p l e R s mi args below meth c n0 z0 H locs mls C c1 c2 c3 c4 hR hS hL => ?_⟩
  have hw := C.2.2.2.2.2.2.2.2.2.1
  have hfr : frD d ≤ R.frames := C.2.2.2.2.2.2.2.2.2.2.2.2.1
  have hlo : loD d ≤ R.locals := C.2.2.2.2.2.2.2.2.2.2.2.2.2
  unfold frD at hfr
  unfold loD at hlo
  have hin : ∀ w ∈ thAt y ic o ix rx, w.before args s = true := fun w hw9 => by
    rcases w3 w hw9 with ⟨z1, z2 | ⟨z2, z3⟩⟩
    · exact C.2.2.2.2.2.1 w (List.mem_filter.mpr ⟨z1, z2⟩)
    · exact va_Nw.use z3 (hw.2.2.2.2.1.2.1 w z1 z2)
  have hN : mN (alloc m 22 0 6) = mN m + 1 := rfl
  have hZ : mZ (alloc m 22 0 6) = mZ m + 6 := rfl
  rw [hN] at c1
  rw [hZ] at c2
  refine m_throwX (names := exNames) (ix := ix) (A := gA G) C.1 C.2.1 C.2.2.2.2.2.2.2.2.2.2.2.1 x0 x1 x2 x5 C.2.2.2.2.1 (exN_fit o) (by decide +kernel) (C.2.2.2.2.2.1 _ w1) (C.2.2.2.2.2.1 _ w2) (hw.2.2.2.2.2.1 i _ hs) hin ?_ hw.2.2.2.2.2.2.1 hw.2.2.2.2.2.2.2.1 hS (hL.1.trans C.2.2.2.1.symm) d0 d3 d4 d6 d9 ?_ ?_ ?_ (by omega) (by omega) C.2.2.2.2.2.2.1 ?_ hS.2.2 (by rw [hN]; omega) (by rw [hZ]; omega)
  · intro w hw9
    unfold vx_ot
    rcases List.mem_cons.mp hw9 with e1 | hw9
    · rw [e1]; rfl
    · rcases List.mem_cons.mp hw9 with e1 | hw9
      · rw [e1]; rfl
      · rcases w3 w hw9 with ⟨-, z2 | ⟨-, z3⟩⟩
        · rw [z2, Bool.or_true]
        · rw [z3, Bool.true_or]
  · intro x hx
    rw [C.2.2.2.2.2.2.2.1, hmh] at hx
    cases hx
  · show 2 + 3 < _
    omega
  · rw [catS_eq]
    show _ + (13 * (2 + 1) + 43) ≤ _
    omega
  · intro t ha hsz hold
    have hR9 : Rep G m t H := hR.moved ha
    refine ⟨ho, rfl, hR9.new hsz hold ?_, ?_, ?_⟩
    · have hK : mK (alloc m 22 0 6) (100 + mN m) = 22 := if_pos rfl
      refine ⟨fun k' q' hq' hk' => ?_, fun k' ty ht hk' => ?_, by rw [hK]; omega⟩
      · have := vwCl_lt hq'
        rw [hK] at hk'
        omega
      · have := arTy_13 ht
        rw [hK] at hk'
        omega
    · rw [hsz]
      have := hS.1
      omega
    · intro q h1 h2
      rw [hold q (Nat.lt_of_lt_of_le h1 hS.1)]
      exact hS.2.1 q h1 h2
