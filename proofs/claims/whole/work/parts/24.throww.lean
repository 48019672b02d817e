/-! ===== the same, the text by a wide index ===== -/
section MThrowW
variable {p : Program} {l : Launch} {e : Env} {R : Room} {s : State} {m : MethodId} {args : Array Value} {below : List Frame} {meth : Method} {c : Code} {H : Heap} {locs : List Loc} {cells slots : Nat} {Q : State → Prop}
variable {mc ms : Nat} {free : Addr → Prop} {A0 A1 : Nat → Prop} {H0 : Heap} {a : Array Value} {ls : Array Slot} {st0 rest : List Value}
variable {Qc : Array Value → State → Outcome → State → Prop} {XC : String → State → State → Prop}
theorem m_throwXW {cc : ByteArray} {pc : Nat} (hexec : p.tables.exec = Jvm.exec) (hb : c.code = cc) (hl : l.stackTraces = false) {own cls text : String} {names : List String} {ik is ic ix mc ms sa : Nat} {rx : ByteArray} (x0 : decode rx 0 = .ok (.aload_n 0, 1)) (x1 : decode rx 1 = .ok (.aload_n 1, 1)) (x2 : decode rx 2 = .ok (.invokespecial ix, 3)) (x5 : decode rx 5 = .ok (.return_, 1)) {A : Nat → Prop}
    (hown : s.vm.findClass own = some m.cls) (hcls : Bundle.fit cls = true) (hnames : ∀ n ∈ names, Bundle.fit n = true)
    (hk : (Cond.classLink own ik cls).before args s = true) (hini : (Cond.initialized cls).before args s = true) (hstr : vk_R own is text sa s) (hat : ∀ w ∈ (Bundle.ownAtomsX own ic cls ix rx names).filter vx_no, w.before args s = true)
    (hgood : ∀ w ∈ Cond.classLink own ik cls :: Cond.initialized cls :: (Bundle.ownAtomsX own ic cls ix rx names).filter vx_no, vx_ot w = true)
    (hU : vx_Zq Bundle.tN "UNASSIGNED_STACK" Bundle.steD A s s.heap) (hN : vx_Zq Bundle.tN "SUPPRESSED_SENTINEL" Bundle.listD A s s.heap) (hS : va_S A s.heap H locs) (hsize : ls.size = c.maxLocals)
    (d0 : decode cc pc = .ok (.new ik, 3)) (d3 : decode cc (pc + 3) = .ok (.dup, 1)) (d4 : decode cc (pc + 4) = .ok (.ldc_w is, 3)) (d7 : decode cc (pc + 7) = .ok (.invokespecial ic, 3)) (d10 : decode cc (pc + 10) = .ok (.athrow, 1))
    (hout : ∀ x ∈ c.exceptionTable.toList, covers x (pc + 10) = false)
    (hRframes : names.length + 3 < R.frames) (hRlocals : (rest.map fun v => v.category).sum + (13 * (names.length + 1) + 43) ≤ R.locals) (hRcells : cells + 1 ≤ R.cells) (hRslots : slots + 6 ≤ R.slots) (hlocks : meth.locks = false)
    (hx : ∀ t : State, s.vm.Alike t.vm → t.heap.size = H.size + 1 → (∀ q : Nat, q < H.size → t.heap[q]? = H[q]?) → XC cls s t)
    (hf : ∀ z ∈ locs, free z.base) (hc : cells + 1 ≤ mc) (hs : slots + 6 ≤ ms) :
    W p l e R s m args below meth c H locs cells slots (vx_MQ below Qc XC args s mc ms free) (F0 m pc ls rest) := by
  intro T hT X
  have htr : e.platform.stackTraces = false := (show e.platform.stackTraces = l.stackTraces by rw [X.admits.platform]).trans hl
  have Y := vx_rebase X (R' := { frames := R.frames, locals := R.locals, cells := 1, slots := 6 }) (Nat.le_refl _) (Nat.le_refl _) hRcells hRslots
  obtain ⟨s', hA⟩ : ∃ z, z = (T.setVm s.vm).setFrames (.invoking m args :: below) := ⟨_, rfl⟩
  rw [← hA] at Y
  have hvm : s'.vm = s.vm := by rw [hA]; rfl
  have hhp : s'.heap = H := by rw [hA]; exact hT
  have hW0 : s.WarmedH s'.vm := by rw [hvm]; exact State.WarmedH.refl s
  have hat' : ∀ w ∈ (Bundle.ownAtomsX own ic cls ix rx names).filter vx_no, w.before args s' = true := fun w hw => vx_ot_at hW0 hvm.symm (hgood w (List.mem_cons_of_mem _ (List.mem_cons_of_mem _ hw))) (hat w hw)
  have hk' : (Cond.classLink own ik cls).before args s' = true := vx_ot_at hW0 hvm.symm (hgood _ List.mem_cons_self) hk
  have hini' : (Cond.initialized cls).before args s' = true := vx_ot_at hW0 hvm.symm (hgood _ (List.mem_cons_of_mem _ List.mem_cons_self)) hini
  have hU' : vx_Zq Bundle.tN "UNASSIGNED_STACK" Bundle.steD A s' s'.heap := by rw [hhp]; exact vx_Zq.moved hW0.alike (hU.kept hS.2.1)
  have hN' : vx_Zq Bundle.tN "SUPPRESSED_SENTINEL" Bundle.listD A s' s'.heap := by rw [hhp]; exact vx_Zq.moved hW0.alike (hN.kept hS.2.1)
  have h : ∀ w ∈ Bundle.ownAtomsX own ic cls ix rx names, w.before args s' = true := vx_own hat' (vx_isRefq hU'.1) (vx_isRefq hN'.1) hU'.2.word hN'.2.word
  have hown' : s'.vm.findClass own = some m.cls := by rw [hvm]; exact hown
  have hins : (Cond.instantiable cls 6).before args s' = true := h _ (by simp [Bundle.ownAtomsX])
  obtain ⟨vm₁, cX, kX, hfX, hkX, -, -, X₁, st1⟩ := Y.newCold hexec (own := own) (C := cls) (index := ik) (n := 6) hown' hk' hins hini'
    (g := F0 m pc ls rest) rfl (by rw [hb]; exact d0) (Nat.le_refl _) (Nat.le_refl _)
  generalize hT1 : (T.setVm vm₁).pushCell { cls := cX, slots := kX.instanceTypes.map defaultValue, vm := .none } = T1 at X₁ st1
  have hcat : (Value.ref T.heap.size).category = 1 := rfl
  have hcellA : T1.heap[T.heap.size]? = some (freshCell cX kX) := by rw [← hT1]; exact State.heap_pushCell_size _ _
  have d3' : decode c.code (pc + 3) = .ok (.dup, 1) := by rw [hb]; exact d3
  have d4' : decode c.code (pc + 4) = .ok (.ldc_w is, 3) := by rw [hb]; exact d4
  have hstr' : vk_R own is text sa s' := vk_R.warm hW0 hstr
  obtain ⟨U, hsteps, hrun, hend, hW, hsame, ce, hce, hOv, hOc⟩ := m_ctorX X₁ hexec htr x0 x1 x2 x5 (own := own) (cls := cls) (names := names) (ic := ic) hown' hcls hnames h (fun x hx => nomatch hx) hfX hkX hcellA (by rw [hhp, hT]; exact Nat.le_refl _) (msg := .ref sa) rfl
    (g := { method := m, pc := pc + 7, locals := ls, stack := .ref sa :: .ref T.heap.size :: .ref T.heap.size :: rest, locked := none }) rfl hsize rfl rfl (rest := rest) rfl
    (by rw [hb]; exact d7) (by rw [hb]; exact d10) hout hRframes (by simp only [List.map_cons, List.sum_cons, hcat]; omega) hlocks
  obtain ⟨f1, f2⟩ := vx_frame hsame
  have f9 : U.heap.size = H.size + 1 := by
    have g1 := hsame.2.2.1
    have g2 : U.heap.size ≤ s'.heap.size + (0 + 1) := g1
    have g3 := (Array.getElem?_eq_some_iff.mp hce).1
    rw [hhp] at g2
    rw [hT] at g3
    omega
  rw [hhp] at f1 f2
  have hWs : s.WarmedH U.vm := State.WarmedH.trans hW0 hW
  have hcl : s.vm.findClass cls = some ce.cls := by
    have h9 := hOc
    rw [hvm] at h9
    exact h9
  have hall : s.sameButNew ({ U with vm := s.vm } : State) locs mc ms := by
    subst hA
    obtain ⟨e1, e2⟩ := hsame
    rw [State.setFrames_setFrames] at e1
    have h2 : (T.setVm s.vm).sameButNew ({ U with vm := s.vm } : State) [] (0 + 1) (0 + 6) := ⟨e1, e2⟩
    have h3 := X.same.trans h2
    rw [List.append_nil] at h3
    exact h3.mono hc hs
  refine ⟨U, ?_, .threw T.heap.size, hrun, hend, Or.inr ⟨T.heap.size, rfl, cls, ce, locs, hx U hWs.alike f9 (fun q hq => f2 q hq (fun z hz => nomatch hz)), hce, hOv, hcl, hWs, hall, hf⟩⟩
  refine st1 _ ?_
  show Steps p.tables e below (T1.setTop { method := m, pc := pc + 3, locals := ls, stack := .ref T.heap.size :: rest, locked := none }) _
  jvm_step X₁.here [X₁.here.top, hexec, d3', Value.category]
  exact X₁.ldcStringW hexec (own := own) (text := text) (index := is) (a := sa) hown' hstr'.1 hstr'.2
    (g := { method := m, pc := pc + 4, locals := ls, stack := .ref T.heap.size :: .ref T.heap.size :: rest, locked := none }) rfl d4' _ hsteps
end MThrowW
/-- the five instructions, their words and text -/
def thOkW (y pc o : Nat) : Prop := ∃ (ik is ic ix i : Nat) (rx : ByteArray) (text : String), (decode (mB y) pc = .ok (.new ik, 3) ∧ decode (mB y) (pc + 3) = .ok (.dup, 1) ∧ decode (mB y) (pc + 4) = .ok (.ldc_w is, 3) ∧ decode (mB y) (pc + 7) = .ok (.invokespecial ic, 3) ∧ decode (mB y) (pc + 10) = .ok (.athrow, 1)) ∧
  (decode rx 0 = .ok (.aload_n 0, 1) ∧ decode rx 1 = .ok (.aload_n 1, 1) ∧ decode rx 2 = .ok (.invokespecial ix, 3) ∧ decode rx 5 = .ok (.return_, 1)) ∧
  sSite[i]? = some (mC y, is, text) ∧ Cond.classLink (mC y) ik (exN o) ∈ lw_good ∧ Cond.initialized (exN o) ∈ lw_good ∧ (∀ w ∈ thAt y ic o ix rx, w ∈ lw_tbl ∧ (goodWord w = true ∨ (okW2 w = true ∧ w.onTables = true)))
set_option maxHeartbeats 4000000 in
theorem Ex_throwW {d y pc o : Nat} {ls : Ls} {st : List AV} {m : Mem} {Q : Nat → Option AV → Mem → Prop} (hT : thOkW y pc o) (ho : o ≠ 0) (hmh : mH y = []) (hcat : catS st ≤ 8) (hQ : Q o none (alloc m 22 0 6)) : Ex d y pc ls st m Q := by
  obtain ⟨ik, is, ic, ix, i, rx, text, ⟨d0, d3, d4, d7, d10⟩, ⟨x0, x1, x2, x5⟩, hs, w1, w2, w3⟩ := hT
  refine ⟨o, none, _, hQ, Nat.le_succ _, Nat.le_add_right _ _, fun G p l e R s mi args below meth c n0 z0 H locs mls C c1 c2 c3 c4 hR hS hL => ?_⟩
  have hw := C.2.2.2.2.2.2.2.2.2.1
  have hfr : frD d ≤ R.frames := C.2.2.2.2.2.2.2.2.2.2.2.2.1
  have hlo : loD d ≤ R.locals := C.2.2.2.2.2.2.2.2.2.2.2.2.2
  unfold frD at hfr
  unfold loD at hlo
  have hin : ∀ w ∈ thAt y ic o ix rx, w.before args s = true := fun w hw9 => by
    rcases w3 w hw9 with ⟨z1, z2 | ⟨z2, z3⟩⟩
    · exact C.2.2.2.2.2.1 w (List.mem_filter.mpr ⟨z1, z2⟩)
    · exact va_Nw.use z3 (hw.2.2.2.2.1.2.1 w z1 z2)
  have hN : mN (alloc m 22 0 6) = mN m + 1 := rfl
  have hZ : mZ (alloc m 22 0 6) = mZ m + 6 := rfl
  rw [hN] at c1
  rw [hZ] at c2
  refine m_throwXW (names := exNames) (ix := ix) (A := gA G) C.1 C.2.1 C.2.2.2.2.2.2.2.2.2.2.2.1 x0 x1 x2 x5 C.2.2.2.2.1 (exN_fit o) (by decide +kernel) (C.2.2.2.2.2.1 _ w1) (C.2.2.2.2.2.1 _ w2) (hw.2.2.2.2.2.1 i _ hs) hin ?_ hw.2.2.2.2.2.2.1 hw.2.2.2.2.2.2.2.1 hS (hL.1.trans C.2.2.2.1.symm) d0 d3 d4 d7 d10 ?_ ?_ ?_ (by omega) (by omega) C.2.2.2.2.2.2.1 ?_ hS.2.2 (by rw [hN]; omega) (by rw [hZ]; omega)
  · intro w hw9
    unfold vx_ot
    rcases List.mem_cons.mp hw9 with e1 | hw9
    · rw [e1]; rfl
    · rcases List.mem_cons.mp hw9 with e1 | hw9
      · rw [e1]; rfl
      · rcases w3 w hw9 with ⟨-, z2 | ⟨-, z3⟩⟩
        · rw [z2, Bool.or_true]
        · rw [z3, Bool.true_or]
  · intro x hx
    rw [C.2.2.2.2.2.2.2.1, hmh] at hx
    cases hx
  · show 2 + 3 < _
    omega
  · rw [catS_eq]
    show _ + (13 * (2 + 1) + 43) ≤ _
    omega
  · intro t ha hsz hold
    have hR9 : Rep G m t H := hR.moved ha
    refine ⟨ho, rfl, hR9.new hsz hold ?_, ?_, ?_⟩
    · have hK : mK (alloc m 22 0 6) (100 + mN m) = 22 := if_pos rfl
      refine ⟨fun k' q' hq' hk' => ?_, fun k' ty ht hk' => ?_, by rw [hK]; omega⟩
      · have := vwCl_lt hq'
        rw [hK] at hk'
        omega
      · have := arTy_13 ht
        rw [hK] at hk'
        omega
    · rw [hsz]
      have := hS.1
      omega
    · intro q h1 h2
      rw [hold q (Nat.lt_of_lt_of_le h1 hS.1)]
      exact hS.2.1 q h1 h2
/-! ===== Math.max, Math.min as steps ===== -/
set_option maxRecDepth 100000 in
theorem mw_max : ∀ w ∈ ([.static Lib.Math.max.name, .initialized "java/lang/Math", .code Lib.Math.max.name Lib.Math.max.code 2 (some .int)] : List Cond), w ∈ lw_good := good_mem (by decide +kernel)
set_option maxRecDepth 100000 in
theorem mw_min : ∀ w ∈ ([.static Lib.Math.min.name, .initialized "java/lang/Math", .code Lib.Math.min.name Lib.Math.min.code 2 (some .int)] : List Cond), w ∈ lw_good := good_mem (by decide +kernel)
set_option maxRecDepth 100000 in
theorem mw_maxL : ∀ w ∈ ([.static Lib.MathLoose.max_long.x, .initialized "java/lang/Math", .code Lib.MathLoose.max_long.x Lib.MathLoose.max_long.code 4 (some .long)] : List Cond), w ∈ lw_good := good_mem (by decide +kernel)
set_option maxRecDepth 100000 in
theorem mw_minL : ∀ w ∈ ([.static Lib.MathLoose.min_long.x, .initialized "java/lang/Math", .code Lib.MathLoose.min_long.x Lib.MathLoose.min_long.code 4 (some .long)] : List Cond), w ∈ lw_good := good_mem (by decide +kernel)
theorem Ex_pure2 {d y pc nx : Nat} {ls : Ls} {st st' : List AV} {m : Mem} {Q : Nat → Option AV → Mem → Prop} (h : Ex d y nx ls st' m Q)
    (row : ∀ {G : Gm} {p : Program} {l : Launch} {e : Env} {R : Room} {s : State} {mi : MethodId} {args : Array Value} {below : List Frame} {meth : Method} {c : Code} {H : Heap} {locs : List Loc} {cells slots : Nat} {Qf : State → Prop} {mls : Array Slot},
      Cx G y d p l R s mi args meth c → LR G mls (mL y) ls → cells ≤ R.cells → slots ≤ R.slots →
      W p l e R s mi args below meth c H locs cells slots Qf (F0 mi nx mls (st'.map (up G))) →
      W p l e R s mi args below meth c H locs cells slots Qf (F0 mi pc mls (st.map (up G)))) : Ex d y pc ls st m Q := by
  obtain ⟨o, v, m', hQ, h1, h2, hE⟩ := h
  refine ⟨o, v, m', hQ, h1, h2, fun G p l e R s mi args below meth c n0 z0 H locs mls C c1 c2 c3 c4 hR hS hL => ?_⟩
  exact row C hL (by omega) (by omega) (hE G p l e R s mi args below meth c n0 z0 H locs mls C c1 c2 c3 c4 hR hS hL)
theorem mlink {y pc nx idx y1 : Nat} {rs : List Nat} {c0 : Int} (hk : okE y pc (.invokestatic idx, nx, rs, c0)) (h9 : n1 (.invokestatic idx, nx, rs, c0) = y1) (h998 : Nat.beq y1 998 = false) : decode (mB y) pc = .ok (.invokestatic idx, 3) ∧ nx = pc + 3 ∧ Cond.methodLink (mC y) idx (mNm y1) ∈ lw_good := by
  obtain ⟨k1, k2, k3⟩ := hk.use
  change (bif Nat.beq (n1 (.invokestatic idx, nx, rs, c0)) 998 then _ else wAt (n2 (.invokestatic idx, nx, rs, c0)) (.methodLink (mC y) idx (mNm (n1 (.invokestatic idx, nx, rs, c0))))) = true at k3
  rw [h9, h998] at k3
  exact ⟨k1, k2, wAt_mem k3⟩
section MathSteps
variable {d y pc : Nat} {ls : Ls} {r : List AV} {m : Mem} {Q : Nat → Option AV → Mem → Prop} {nx idx : Nat} {rs : List Nat} {c0 : Int}
theorem Ex_max {x z : Int} (hk : okE y pc (.invokestatic idx, nx, rs, c0)) (h9 : n1 (.invokestatic idx, nx, rs, c0) = Math_max_II) (hcat : catS r ≤ 8) (h : Ex d y nx ls (vI (if w32 x < w32 z then z else x) :: r) m Q) : Ex d y pc ls (vI z :: vI x :: r) m Q := by
  obtain ⟨k1, rfl, k3⟩ := mlink hk h9 rfl
  refine Ex_pure2 h fun {G _ _ _ R _ _ _ _ _ _ _ _ _ _ _ _} C hL hc hs k => ?_
  have hfr : frD d ≤ R.frames := C.2.2.2.2.2.2.2.2.2.2.2.2.1
  have hlo : loD d ≤ R.locals := C.2.2.2.2.2.2.2.2.2.2.2.2.2
  unfold frD at hfr
  unfold loD at hlo
  refine va_mmax C.1 C.2.1 (C.2.2.2.1.trans hL.1.symm) C.2.2.2.2.1 (C.2.2.2.2.2.1 _ k3) (C.2.2.2.2.2.1 _ (mw_max _ (by simp))) (C.2.2.2.2.2.1 _ (mw_max _ (by simp))) (C.2.2.2.2.2.1 _ (mw_max _ (by simp))) (by omega) (by rw [catS_eq]; omega) hc hs k1 ?_
  have e1 : (if Int32.ofInt x < Int32.ofInt z then Int32.ofInt z else Int32.ofInt x) = Int32.ofInt (if w32 x < w32 z then z else x) := by
    by_cases hq : w32 x < w32 z
    · rw [if_pos hq, if_pos (Int32.lt_iff_toInt_lt.mpr hq)]
    · rw [if_neg hq, if_neg (fun z => hq (Int32.lt_iff_toInt_lt.mp z))]
  rw [e1]
  exact k
theorem Ex_min {x z : Int} (hk : okE y pc (.invokestatic idx, nx, rs, c0)) (h9 : n1 (.invokestatic idx, nx, rs, c0) = Math_min_II) (hcat : catS r ≤ 8) (h : Ex d y nx ls (vI (if w32 z < w32 x then z else x) :: r) m Q) : Ex d y pc ls (vI z :: vI x :: r) m Q := by
  obtain ⟨k1, rfl, k3⟩ := mlink hk h9 rfl
  refine Ex_pure2 h fun {G _ _ _ R _ _ _ _ _ _ _ _ _ _ _ _} C hL hc hs k => ?_
  have hfr : frD d ≤ R.frames := C.2.2.2.2.2.2.2.2.2.2.2.2.1
  have hlo : loD d ≤ R.locals := C.2.2.2.2.2.2.2.2.2.2.2.2.2
  unfold frD at hfr
  unfold loD at hlo
  refine va_mmin C.1 C.2.1 (C.2.2.2.1.trans hL.1.symm) C.2.2.2.2.1 (C.2.2.2.2.2.1 _ k3) (C.2.2.2.2.2.1 _ (mw_min _ (by simp))) (C.2.2.2.2.2.1 _ (mw_min _ (by simp))) (C.2.2.2.2.2.1 _ (mw_min _ (by simp))) (by omega) (by rw [catS_eq]; omega) hc hs k1 ?_
  have e1 : (if Int32.ofInt z < Int32.ofInt x then Int32.ofInt z else Int32.ofInt x) = Int32.ofInt (if w32 z < w32 x then z else x) := by
    by_cases hq : w32 z < w32 x
    · rw [if_pos hq, if_pos (Int32.lt_iff_toInt_lt.mpr hq)]
    · rw [if_neg hq, if_neg (fun z => hq (Int32.lt_iff_toInt_lt.mp z))]
  rw [e1]
  exact k
theorem Ex_maxL {x z : Int} (hk : okE y pc (.invokestatic idx, nx, rs, c0)) (h9 : n1 (.invokestatic idx, nx, rs, c0) = Math_max_JJ) (hcat : catS r ≤ 8) (h : Ex d y nx ls (vL (if w64 z < w64 x then x else z) :: r) m Q) : Ex d y pc ls (vL z :: vL x :: r) m Q := by
  obtain ⟨k1, rfl, k3⟩ := mlink hk h9 rfl
  refine Ex_pure2 h fun {G _ _ _ R _ _ _ _ _ _ _ _ _ _ _ _} C hL hc hs k => ?_
  have hfr : frD d ≤ R.frames := C.2.2.2.2.2.2.2.2.2.2.2.2.1
  have hlo : loD d ≤ R.locals := C.2.2.2.2.2.2.2.2.2.2.2.2.2
  unfold frD at hfr
  unfold loD at hlo
  refine va_mmax_long C.1 C.2.1 (C.2.2.2.1.trans hL.1.symm) C.2.2.2.2.1 (C.2.2.2.2.2.1 _ k3) (C.2.2.2.2.2.1 _ (mw_maxL _ (by simp))) (C.2.2.2.2.2.1 _ (mw_maxL _ (by simp))) (C.2.2.2.2.2.1 _ (mw_maxL _ (by simp))) (by omega) (by rw [catS_eq]; omega) hc hs k1 ?_
  have e1 : (if Int64.ofInt z < Int64.ofInt x then Int64.ofInt x else Int64.ofInt z) = Int64.ofInt (if w64 z < w64 x then x else z) := by
    by_cases hq : w64 z < w64 x
    · rw [if_pos hq, if_pos (Int64.lt_iff_toInt_lt.mpr hq)]
    · rw [if_neg hq, if_neg (fun z => hq (Int64.lt_iff_toInt_lt.mp z))]
  rw [e1]
  exact k
theorem Ex_minL {x z : Int} (hk : okE y pc (.invokestatic idx, nx, rs, c0)) (h9 : n1 (.invokestatic idx, nx, rs, c0) = Math_min_JJ) (hcat : catS r ≤ 8) (h : Ex d y nx ls (vL (if w64 z < w64 x then z else x) :: r) m Q) : Ex d y pc ls (vL z :: vL x :: r) m Q := by
  obtain ⟨k1, rfl, k3⟩ := mlink hk h9 rfl
  refine Ex_pure2 h fun {G _ _ _ R _ _ _ _ _ _ _ _ _ _ _ _} C hL hc hs k => ?_
  have hfr : frD d ≤ R.frames := C.2.2.2.2.2.2.2.2.2.2.2.2.1
  have hlo : loD d ≤ R.locals := C.2.2.2.2.2.2.2.2.2.2.2.2.2
  unfold frD at hfr
  unfold loD at hlo
  refine va_mmin_long C.1 C.2.1 (C.2.2.2.1.trans hL.1.symm) C.2.2.2.2.1 (C.2.2.2.2.2.1 _ k3) (C.2.2.2.2.2.1 _ (mw_minL _ (by simp))) (C.2.2.2.2.2.1 _ (mw_minL _ (by simp))) (C.2.2.2.2.2.1 _ (mw_minL _ (by simp))) (by omega) (by rw [catS_eq]; omega) hc hs k1 ?_
  have e1 : (if Int64.ofInt z < Int64.ofInt x then Int64.ofInt z else Int64.ofInt x) = Int64.ofInt (if w64 z < w64 x then z else x) := by
    by_cases hq : w64 z < w64 x
    · rw [if_pos hq, if_pos (Int64.lt_iff_toInt_lt.mpr hq)]
    · rw [if_neg hq, if_neg (fun z => hq (Int64.lt_iff_toInt_lt.mp z))]
  rw [e1]
  exact k
end MathSteps
