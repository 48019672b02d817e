section VXIA
variable {p : Program} {l : Launch} {e : Env} {R : Room} {s : State} {m : MethodId} {args : Array Value} {below : List Frame} {meth : Method} {c : Code} {T : State} {locs : List Loc} {cells slots : Nat}
theorem vx_callI (X : Stand p l e R s m args below meth c T locs cells slots) (hexec : p.tables.exec = Jvm.exec) {own : String} {index : Nat} {y : MethodName} {bytes : ByteArray} {maxL : Nat}
    (hown : s.vm.findClass own = some m.cls) (hy1 : y.name = "<init>") (hlink : (Cond.methodLink own index y).before args s = true) (hinst : (Cond.instanceMethod y).before args s = true)
    (hcode : (Cond.code y bytes maxL none).before args s = true) (hy : y.cls ≠ "java/lang/invoke/MethodHandle" ∧ y.cls ≠ "java/lang/invoke/VarHandle")
    {W9 : Nat} {Pre : Pt → Array Value → Prop} {Post : Pt → Array Value → Option Value → Pt → Prop} {PostX : Pt → Array Value → Addr → Pt → Prop} (hK : vx_Back l R p e below s args y 3 W9 Pre Post PostX)
    {g : JFrame} (hg : g.method = m) (hsize : g.locals.size = c.maxLocals) {a : Addr} {argsL rest : List Value} (hlen : ∀ sig, parseMethodDescriptor y.desc = some sig → argsL.length = sig.parameters.length)
    (hstack : g.stack = argsL.reverse ++ .ref a :: rest) (hW : 2 * g.monitorRoom + (rest.map fun v => v.category).sum ≤ W9) (hdg : decode c.code g.pc = .ok (.invokespecial index, 3))
    (hpre : ∀ vm₁, s.WarmedH vm₁ → Pre ⟨T.setVm vm₁, locs, cells, slots⟩ (Value.ref a :: argsL).toArray) :
    (∃ (v : Option Value) (vm₁ : Vm) (B : Pt), s.WarmedH vm₁ ∧ Stand p l e R s m args below meth c B.U B.locs B.cells B.slots ∧ Post ⟨T.setVm vm₁, locs, cells, slots⟩ (Value.ref a :: argsL).toArray v B ∧
      ∀ target, Steps p.tables e below (B.U.setTop { g with pc := g.pc + 3, stack := v.toList ++ rest }) target → Steps p.tables e below (T.setTop g) target) ∨
    (∃ (q : Addr) (vm₁ : Vm) (B : Pt), s.WarmedH vm₁ ∧ Stand p l e R s m args below meth c B.U B.locs B.cells B.slots ∧ PostX ⟨T.setVm vm₁, locs, cells, slots⟩ (Value.ref a :: argsL).toArray q B ∧
      Steps p.tables e below (T.setTop g) ((B.U.setTop { g with stack := rest }).pushFrame (.throwing q))) := by
  subst hg
  have hpl : e.platform.magicAccessors = ({} : Platform).magicAccessors := by rw [X.admits.platform]
  obtain ⟨mk, methM, cM, kP, vm₁, hnamed, hmethM, hcodeM, -, hlocalsM, -, hkP, -, hW₁, hstep₁⟩ := Steps.initColdArgs (e := e) X.here hexec X.warmed hpl hown hy1 hy hlink hinst hcode (f := g) rfl hlen hstack hdg
  have X₁ := X.noted hW₁
  rcases hK g.method meth c ⟨T.setVm vm₁, locs, cells, slots⟩ { g with stack := rest } (.invokespecial index) mk (Value.ref a :: argsL).toArray X₁ rfl hsize hdg hW (X₁.named hnamed) (hpre vm₁ X₁.warmed) with ⟨v, B, X', hpost, hsteps⟩ | ⟨q, B, X', hpost, hsteps⟩
  · exact Or.inl ⟨v, vm₁, B, X₁.warmed, X', hpost, fun target h => hstep₁ _ fun acts => by rw [doInvoke_state]; exact hsteps.trans h⟩
  · exact Or.inr ⟨q, vm₁, B, X₁.warmed, X', hpost, hstep₁ _ fun acts => by rw [doInvoke_state]; exact hsteps⟩
end VXIA
section VXIB
variable {p : Program} {l : Launch} {e : Env} {R : Room} {s : State} {m : MethodId} {args : Array Value} {below : List Frame} {meth : Method} {c : Code} {H : Heap} {locs : List Loc} {cells slots : Nat}
variable {y : MethodName} {bytes cc : ByteArray} {maxL nL mc ms n index : Nat} {ret : Option FieldType} {ws : List Cond} {rm : Room} {Pc : Array Value → State → Prop} {Qc : Array Value → State → Outcome → State → Prop} {XC : String → State → State → Prop} {free : Addr → Prop} {Ts : List Cond} {own C : String} {b : Addr} {As rest : List Value} {g : JFrame}
theorem vx_runI (S : CallFix p m c cc nL s args Ts own) (hM : vx_Met l y ws rm Pc Qc XC mc ms free) (cw : CallB R s args own index y bytes maxL none ws rm mc ms n ∧ y.name = "<init>" ∧ (Cond.instanceMethod y).before args s = true) (hp : PreS s H Pc (.ref b :: As))
    (hg : g.method = m) (hn : As.length = n) (hsize : g.locals.size = nL) (hstack : g.stack = As.reverse ++ .ref b :: rest) (hW : 2 * g.monitorRoom + (rest.map fun v => v.category).sum ≤ 8) (hdg : decode cc g.pc = .ok (.invokespecial index, 3)) (hf : cells + mc ≤ R.cells ∧ slots + ms ≤ R.slots) :
    vx_Run p l e R s m args below meth c H locs cells slots mc ms g rest (Qc (Value.ref b :: As).toArray) XC free := by
  have hK : vx_Back l R p e below s args y 3 8 (PreOf R mc ms Pc) (PostOf Qc mc ms free) (vx_Post XC mc ms free) := vx_callBack cw.1 hM hp.1
  obtain ⟨⟨-, -, -, -, -, -, hcode, -, hy, hlen, hl⟩, hy1, hin⟩ := cw
  obtain ⟨hx, hb, hml, ho, -⟩ := S
  have hPc := hp.2
  intro T hT X
  rcases vx_callI X hx (bytes := bytes) (maxL := maxL) ho hy1 hl hin hcode hy hK hg (hsize.trans hml.symm) (a := b) (argsL := As) (rest := rest) (fun sig h => hn.trans (hlen sig h)) hstack hW (by rw [hb]; exact hdg)
    (fun vm₁ hW₁ => ⟨hf.1, hf.2, hPc (T.setVm vm₁) hT hW₁⟩) with ⟨v, vm₁, ⟨U', l2, c2, s2⟩, hW₁, X', ⟨g', mk, t, L, e1, e2, hq, h1, hL, h2, h3⟩, st⟩ | ⟨q, vm₁, ⟨U', l2, c2, s2⟩, hW₁, X', ⟨g', mk, t, L, E, ce, e1, e2, hq, hce, hcv, hcl, h1, hL, h2, h3⟩, st⟩
  · dsimp only [Pt.U, Pt.locs, Pt.cells, Pt.slots] at X' e1 e2 h1 h2 h3 st
    subst h1; subst h2; subst h3
    exact Or.inl ⟨v, (T.setVm vm₁).calling g' mk (Value.ref b :: As).toArray, t, U', L, hT, X', hL, e1, e2, hq, st⟩
  · dsimp only [Pt.U, Pt.locs, Pt.cells, Pt.slots] at X' e1 e2 h1 h2 h3 st hcl
    subst h1; subst h2; subst h3
    exact Or.inr ⟨q, (T.setVm vm₁).calling g' mk (Value.ref b :: As).toArray, t, U', L, E, ce, hT, X', hL, e1, e2, hq, hce, hcv, vx_cls hW₁ hcl, st⟩
end VXIB
/-! ===== calls ===== -/
def laySl : List AV → Ls
  | [] => []
  | .inr (.inl x) :: r => some (vL x) :: none :: laySl r
  | .inl x :: r => some (vI x) :: laySl r
  | .inr (.inr a) :: r => some (vR a) :: laySl r
def entL (y : Nat) (av : List AV) : Ls := laySl av ++ List.replicate (mL y - (laySl av).length) none
theorem lay_len (G : Gm) : ∀ av : List AV, (lg_sl (av.map (up G))).length = (laySl av).length
  | [] => rfl
  | v :: r => by
    have ih := lay_len G r
    show (lg_sl (up G v :: r.map (up G))).length = _
    have e : lg_sl (up G v :: r.map (up G)) = (if (up G v).category = 2 then [.val (up G v), .second] else [.val (up G v)]) ++ lg_sl (r.map (up G)) := rfl
    rw [e, List.length_append, ih, up_cat]
    match v with
    | .inl x => show 1 + _ = (laySl r).length + 1; omega
    | .inr (.inl x) => show 2 + _ = (laySl r).length + 1 + 1; omega
    | .inr (.inr a) => show 1 + _ = (laySl r).length + 1; omega
theorem lay_args (G : Gm) : ∀ (av : List AV) (j i : Nat) (v : AV), (laySl av)[i]? = some (some v) → (j + i, up G v) ∈ lv_args j (av.map (up G))
  | [], j, i, v, h => by cases h
  | w :: r, j, i, v, h => by
    show _ ∈ (j, up G w) :: lv_args (if (up G w).category = 2 then j + 2 else j + 1) (r.map (up G))
    rw [up_cat]
    match w, h with
    | .inl x, h =>
      match i, h with
      | 0, h => cases h; exact List.mem_cons_self
      | i + 1, h =>
        refine List.mem_cons_of_mem _ ?_
        have := lay_args G r (j + 1) i v h
        rw [show j + 1 + i = j + (i + 1) by omega] at this
        exact this
    | .inr (.inl x), h =>
      match i, h with
      | 0, h => cases h; exact List.mem_cons_self
      | 1, h => cases h
      | i + 2, h =>
        refine List.mem_cons_of_mem _ ?_
        have := lay_args G r (j + 2) i v h
        rw [show j + 2 + i = j + (i + 2) by omega] at this
        exact this
    | .inr (.inr a), h =>
      match i, h with
      | 0, h => cases h; exact List.mem_cons_self
      | i + 1, h =>
        refine List.mem_cons_of_mem _ ?_
        have := lay_args G r (j + 1) i v h
        rw [show j + 1 + i = j + (i + 1) by omega] at this
        exact this
theorem LR_entry (G : Gm) {y : Nat} {av : List AV} (hlen : (laySl av).length ≤ mL y) : LR G ((lg_sl (av.map (up G)) ++ List.replicate (mL y - (lg_sl (av.map (up G))).length) Slot.unset).toArray) (mL y) (entL y av) := by
  obtain ⟨h1, h2, h3⟩ := lv_entry (av.map (up G)) (n := mL y) (by rw [lay_len]; exact hlen)
  refine ⟨h1, h2, fun i v h => ?_⟩
  unfold entL at h
  rw [List.getElem?_append] at h
  split at h
  · have := lay_args G av 0 i v h
    rw [Nat.zero_add] at this
    exact h3 (i, up G v) this
  · rw [List.getElem?_replicate] at h
    split at h <;> cases h
def headW (y : Nat) : Cond := match mH y with
  | [] => .code (mNm y) (mB y) (mL y) (mR y)
  | h :: t => .codeWith (mNm y) (mB y) (mL y) (mR y) (h :: t)
def wsO (y : Nat) : List Cond := headW y :: lw_good
def mOk (y : Nat) : Prop := headW y ∈ lw_good ∧ plainName (mC y) = true ∧ Cond.initialized (mC y) ∈ lw_good ∧ (mC y ≠ "java/lang/invoke/MethodHandle" ∧ mC y ≠ "java/lang/invoke/VarHandle") ∧ (parseMethodDescriptor (mNm y).desc).map (fun d => d.parameters.length) = some (mI y 2) ∧ mL y ≤ 30 ∧
  (mI y 0 = 1 → Cond.static (mNm y) ∈ lw_good) ∧ (mI y 0 = 0 → Cond.instanceMethod (mNm y) ∈ lw_good) ∧ (mI y 0 = 0 → (mNm y).name ≠ "<init>" → Cond.selects (mC y) (mNm y) (mNm y) ∈ lw_good) ∧
  (mI y 0 = 0 → (mI y 1 = 20 ∧ mC y = "java/lang/String") ∨ (1 ≤ mI y 1 ∧ ∃ q, vwCl[mI y 1 - 1]? = some q ∧ q.1 = mC y)) ∧ (mI y 0 = 0 → mH y = [])
def rmO (d : Nat) (m m' : Mem) : Room := { frames := frD d, cells := mN m' - mN m, slots := mZ m' - mZ m, locals := loD d }
def PcO (G : Gm) (av : List AV) (m : Mem) : Array Value → State → Prop := va_Pc (av.map (up G)) (fun U => Rep G m U U.heap ∧ Wd G U U.heap ∧ gBase G ≤ U.heap.size)
theorem good_word {w : Cond} (h : w ∈ lw_good) : (w.onTables && w.keeps) = true ∨ ∃ ty, w = .arrayClass ty := good_of_word (List.mem_filter.mp h).2
theorem Met_of {d y : Nat} {av : List AV} {m m' : Mem} {o : Nat} {v : Option AV} (hm : mOk y) (hlen : (laySl av).length ≤ mL y) (h : Ev d y 0 (entL y av) [] m m' o v) (l : Launch) (hl : l.stackTraces = false) (G : Gm) :
    vx_Met l (mNm y) (wsO y) (rmO d m m') (PcO G av m) (QR G m' o v) (QX G m' o) (mN m' - mN m) (mZ m' - mZ m) (gA G) := by
  obtain ⟨h1, h2, hE⟩ := h
  have body : ∀ (p : Program) (e : Env) (s : State) (mi : MethodId) (args : Array Value) (below : List Frame) (meth : Method) (c : Code) (s₁ : State), BodyLoose p l (mNm y) (headSpec (wsO y) (rmO d m m')) (mB y) (mL y) (mR y) e s mi args below meth c s₁ → c.maxLocals = mL y → c.exceptionTable.toList = tableOf (mH y) → PcO G av m args s →
      W p l e (headSpec (wsO y) (rmO d m m')).room s mi args below meth c s.heap [] 0 0 (vx_MQ below (QR G m' o v) (QX G m' o) args s (mN m' - mN m) (mZ m' - mZ m) (gA G)) (entryFrame mi args (mL y)) := by
    intro p e s mi args below meth c s₁ B hml htab hP
    obtain ⟨rfl, hR, hW, hb⟩ := hP
    have hts : ∀ w ∈ wsO y, w.before (av.map (up G)).toArray s = true := atoms_spec (ws := wsO y) B.pre
    rw [lg_entry_eq]
    have w := hE G p l e (headSpec (wsO y) (rmO d m m')).room s mi (av.map (up G)).toArray below meth c (mN m) (mZ m) s.heap [] _ ⟨B.exec, B.bytes, B.returns, hml, findClass_of_methodNamed B.named, fun w hw => hts w (List.mem_cons_of_mem _ hw), B.notSynchronized, htab, (name_of_methodNamed B.named B.method).1, hW, hb, hl, Nat.le_refl _, Nat.le_refl _⟩ (Nat.le_refl _) (Nat.le_refl _) (Nat.le_refl _) (Nat.le_refl _) hR va_S.rf (LR_entry G hlen)
    rw [Nat.sub_self, Nat.sub_self] at w
    exact w
  cases hh : mH y with
  | nil =>
    refine vx_ofW (cc := mB y) (maxL := mL y) (ret := mR y) (ws' := lw_good) hm.2.1 ?_ ?_
    · unfold wsO headW
      rw [hh]
    · intro p e s mi args below meth c s₁ B hml ht hP
      refine body p e s mi args below meth c s₁ B hml ?_ hP
      rw [hh]
      cases hx : c.exceptionTable.toList with
      | nil => rfl
      | cons a b => exact (ht a (by rw [hx]; exact List.mem_cons_self)).elim
  | cons a b =>
    refine vx_ofWH (cc := mB y) (maxL := mL y) (ret := mR y) (hh := a :: b) (ws' := lw_good) hm.2.1 ?_ ?_
    · unfold wsO headW
      rw [hh]
    · intro p e s mi args below meth c s₁ B hml hP
      refine body p e s mi args below meth c s₁ B hml ?_ hP
      rw [hh]
      refine vx_table (x := mNm y) (y := mNm y) B (bytes := mB y) (maxL' := mL y) (ret' := mR y) ?_
      have := atoms_spec (ws := wsO y) B.pre (headW y) List.mem_cons_self
      unfold headW at this
      rw [hh] at this
      exact this
theorem PcO_blind (G : Gm) (av : List AV) (m : Mem) : FrameBlind (PcO G av m) := by
  intro a U g mk h
  obtain ⟨h1, h2, h3, h4⟩ := h
  have ha : U.vm.Alike (U.calling g mk a).vm := Vm.Alike.refl _
  have hw : U.WarmedH (U.calling g mk a).vm := State.WarmedH.refl U
  exact ⟨h1, h2.moved ha, h3.moved hw, h4⟩
/-- what a call does to its caller -/
def RunOK (d y pc : Nat) (ls : Ls) (st r : List AV) (m m1 : Mem) (o1 : Nat) (v1 : Option AV) : Prop :=
  ∀ (G : Gm) (p : Program) (l : Launch) (e : Env) (R : Room) (s : State) (mi : MethodId) (args : Array Value) (below : List Frame) (meth : Method) (c : Code) (H : Heap) (locs : List Loc) (cells slots : Nat) (mls : Array Slot),
    Cx G y (d + 1) p l R s mi args meth c → Rep G m s H → va_S (gA G) s.heap H locs → LR G mls (mL y) ls → cells + (mN m1 - mN m) ≤ R.cells → slots + (mZ m1 - mZ m) ≤ R.slots →
    ∃ a : Array Value, vx_Run p l e R s mi args below meth c H locs cells slots (mN m1 - mN m) (mZ m1 - mZ m) (F0 mi pc mls (st.map (up G))) (r.map (up G)) (QR G m1 o1 v1 a) (QX G m1 o1) (gA G)
theorem Ex_after {d y pc : Nat} {ls : Ls} {st r : List AV} {m m1 : Mem} {o1 : Nat} {v1 : Option AV} {Q : Nat → Option AV → Mem → Prop} (hrun : RunOK d y pc ls st r m m1 o1 v1) (h1 : mN m ≤ mN m1) (h2 : mZ m ≤ mZ m1)
    (hQ : (o1 = 0 → Ex (d + 1) y (pc + 3) ls (v1.toList ++ r) m1 Q) ∧ (o1 ≠ 0 → mH y = [] ∧ Q o1 none m1)) : Ex (d + 1) y pc ls st m Q := by
  by_cases ho : o1 = 0
  · obtain ⟨o, v, m', hq, g1, g2, hE⟩ := hQ.1 ho
    refine ⟨o, v, m', hq, by omega, by omega, fun G p l e R s mi args below meth c n0 z0 H locs mls C c1 c2 c3 c4 hR hS hL => ?_⟩
    intro T hT X
    obtain ⟨a, hr⟩ := hrun G p l e R s mi args below meth c H locs (mN m - n0) (mZ m - z0) mls C hR hS hL (by omega) (by omega)
    rcases hr T hT X with ⟨v0, st₀, t, T', L, h0, X', hLf, e1, e2, ⟨-, hv, hR1, hF⟩, st1⟩ | ⟨q, st₀, t, T', L, E, ce, h0, X', hLf, e1, e2, ⟨hne, -⟩, -⟩
    · obtain ⟨k1, k2, k3⟩ := vx_keep (A0 := gA G) h0 e1 hS (fun _ _ z => z) (fun _ z => z) hLf hF
      have hal : t.vm.Alike s.vm := by rw [← e2]; exact X'.warmed.alike.symm
      have hR' : Rep G m1 s T'.heap := by rw [e1]; exact hR1.moved hal
      have w := hE G p l e R s mi args below meth c n0 z0 T'.heap (locs ++ L) mls C c1 c2 (by omega) (by omega) hR' k3 hL
      rw [show mN m1 - n0 = mN m - n0 + (mN m1 - mN m) by omega, show mZ m1 - z0 = mZ m - z0 + (mZ m1 - mZ m) by omega] at w
      obtain ⟨t2, a1, b1⟩ := w T' rfl X'
      refine ⟨t2, st1 t2 ?_, b1⟩
      cases hv
      have ev : (v1.toList ++ r).map (up G) = (v1.map (up G)).toList ++ r.map (up G) := by cases v1 <;> rfl
      rw [ev] at a1
      exact a1
    · exact absurd ho hne
  · obtain ⟨hmh, hq⟩ := hQ.2 ho
    refine ⟨o1, none, m1, hq, h1, h2, fun G p l e R s mi args below meth c n0 z0 H locs mls C c1 c2 c3 c4 hR hS hL => ?_⟩
    intro T hT X
    obtain ⟨a, hr⟩ := hrun G p l e R s mi args below meth c H locs (mN m - n0) (mZ m - z0) mls C hR hS hL (by omega) (by omega)
    rcases hr T hT X with ⟨v0, st₀, t, T', L, h0, X', hLf, e1, e2, ⟨h00, -⟩, -⟩ | ⟨q, st₀, t, T', L, E, ce, h0, X', hLf, e1, e2, ⟨hne, hE, hR1, hF⟩, hce, hcv, hcl, st1⟩
    · exact absurd h00 ho
    · obtain ⟨k1, k2, k3⟩ := vx_keep (A0 := gA G) h0 e1 hS (fun _ _ z => z) (fun _ z => z) hLf hF
      have hal : t.vm.Alike s.vm := by rw [← e2]; exact X'.warmed.alike.symm
      have hR' : Rep G m1 s T'.heap := by rw [e1]; exact hR1.moved hal
      have hw : vx_W p l e R s mi args below meth c T'.heap (locs ++ L) (mN m - n0 + (mN m1 - mN m)) (mZ m - z0 + (mZ m1 - mZ m)) (vx_MQ below (QR G m1 o1 none) (QX G m1 o1) args s (mN m1 - n0) (mZ m1 - z0) (gA G)) (F0 mi pc mls (r.map (up G))) q := by
        refine vx_out ?_ C.2.2.2.2.2.2.1 (by rw [e1]; exact hce) hcv hcl (fun t9 ht9 ha9 => ⟨ho, hE, by rw [ht9]; exact hR'.moved ha9, k3.F ht9⟩) k3.2.2 (by omega) (by omega)
        intro x hx
        rw [C.2.2.2.2.2.2.2.1, hmh] at hx
        cases hx
      obtain ⟨t2, a1, b1⟩ := hw T' rfl X'
      exact ⟨t2, st1.trans a1, b1⟩
section CallRows
variable {d y pc : Nat} {ls : Ls} {r : List AV} {m m1 : Mem} {o1 : Nat} {v1 : Option AV}
theorem callB_O {G : Gm} {y y1 idx : Nat} {p : Program} {l : Launch} {R : Room} {s : State} {mi : MethodId} {args : Array Value} {meth : Method} {c : Code} (hm : mOk y1) (hmh : mH y1 = []) (hlink : Cond.methodLink (mC y) idx (mNm y1) ∈ lw_good) (C : Cx G y (d + 1) p l R s mi args meth c) :
    CallB R s args (mC y) idx (mNm y1) (mB y1) (mL y1) (mR y1) (wsO y1) (rmO d m m1) (mN m1 - mN m) (mZ m1 - mZ m) (mI y1 2) := by
  have hfr : frD (d + 1) ≤ R.frames := C.2.2.2.2.2.2.2.2.2.2.2.2.1
  have hlo : loD (d + 1) ≤ R.locals := C.2.2.2.2.2.2.2.2.2.2.2.2.2
  have hL30 := hm.2.2.2.2.2.1
  have hg : ∀ w ∈ wsO y1, w ∈ lw_good := fun w hw => (List.mem_cons.mp hw).elim (fun e => by rw [e]; exact hm.1) id
  have hh : headW y1 = .code (mNm y1) (mB y1) (mL y1) (mR y1) := by unfold headW; rw [hmh]
  refine ⟨rfl, rfl, ?_, ?_, pay_in C.2.2.2.2.2.1 (fun w hw => ⟨hg w hw, good_word (hg w hw)⟩), by rw [← hh]; exact List.mem_cons_self, by rw [← hh]; exact C.2.2.2.2.2.1 _ hm.1, C.2.2.2.2.2.1 _ hm.2.2.1, hm.2.2.2.1, fun sig hs => ?_, C.2.2.2.2.2.1 _ hlink⟩
  · show frD d + 1 ≤ _
    unfold frD at hfr ⊢
    omega
  · show 8 + (mL y1 + 11) + loD d ≤ _
    unfold loD at hlo ⊢
    omega
  · have := hm.2.2.2.2.1
    rw [hs] at this
    exact (Option.some.inj this).symm
theorem Pre_O {G : Gm} {av : List AV} {s : State} {H : Heap} {locs : List Loc} (hW : Wd G s s.heap) (hb : gBase G ≤ s.heap.size) (hR : Rep G m s H) (hS : va_S (gA G) s.heap H locs) : ∀ U : State, U.heap = H → s.WarmedH U.vm → PcO G av m (av.map (up G)).toArray U := by
  intro U hU hw
  refine ⟨rfl, ?_, ?_, ?_⟩
  · rw [hU]; exact hR.moved hw.alike
  · rw [hU]
    exact (hW.kept hb (fun a h1 h2 => hS.2.1 a h1 h2)).moved hw
  · rw [hU]; exact Nat.le_trans hb hS.1
theorem run_S {y1 idx nx : Nat} {rs : List Nat} {c0 : Int} {av : List AV} (hk : okE y pc (.invokestatic idx, nx, rs, c0)) (h9 : n1 (.invokestatic idx, nx, rs, c0) = y1) (h998 : y1 ≠ 998) (hm : mOk y1) (hst : mI y1 0 = 1) (hmh : mH y1 = []) (hn : av.length = mI y1 2) (hcat : catS r ≤ 8) (hlen : (laySl av).length ≤ mL y1) (h : Ev d y1 0 (entL y1 av) [] m m1 o1 v1) :
    RunOK d y pc ls (av.reverse ++ r) r m m1 o1 v1 := by
  obtain ⟨k1, -, k3⟩ := hk.use
  change (bif Nat.beq (n1 (.invokestatic idx, nx, rs, c0)) 998 then _ else wAt (n2 (.invokestatic idx, nx, rs, c0)) (.methodLink (mC y) idx (mNm (n1 (.invokestatic idx, nx, rs, c0))))) = true at k3
  rw [h9] at k3
  have hb : Nat.beq y1 998 = false := by
    cases hx : Nat.beq y1 998 with
    | false => rfl
    | true => exact absurd (Nat.eq_of_beq_eq_true hx) h998
  rw [hb] at k3
  simp only [cond_false] at k3
  intro G p l e R s mi args below meth c H locs cells slots mls C hR hS hL hc hs
  refine ⟨_, vx_runS (As := av.map (up G)) (n := mI y1 2) ⟨C.1, C.2.1, C.2.2.2.1, C.2.2.2.2.1, C.2.2.2.2.2.1⟩ (Met_of hm hlen h l C.2.2.2.2.2.2.2.2.2.2.2.1 G) ⟨callB_O hm hmh (wAt_mem k3) C, C.2.2.2.2.2.1 _ (hm.2.2.2.2.2.2.1 hst)⟩ ⟨PcO_blind G av m, Pre_O C.2.2.2.2.2.2.2.2.2.1 C.2.2.2.2.2.2.2.2.2.2.1 hR hS⟩ rfl (by rw [List.length_map]; exact hn) hL.1 ?_ ?_ k1 ⟨hc, hs⟩⟩
  · show (av.reverse ++ r).map (up G) = _
    rw [List.map_append, List.map_reverse]
  · rw [catS_eq]
    show 2 * 0 + _ ≤ 8
    omega
theorem run_I {y1 idx nx : Nat} {rs : List Nat} {c0 : Int} {av : List AV} {a : Nat} (hk : okE y pc (.invokespecial idx, nx, rs, c0)) (h9 : n1 (.invokespecial idx, nx, rs, c0) = y1) (h999 : y1 ≠ 999) (hm : mOk y1) (hst : mI y1 0 = 0) (hr0 : mR y1 = none) (hn : av.length = mI y1 2) (hcat : catS r ≤ 8) (ha : 100 ≤ a) (hlen : (laySl (vR a :: av)).length ≤ mL y1) (h : Ev d y1 0 (entL y1 (vR a :: av)) [] m m1 o1 v1) :
    RunOK d y pc ls (av.reverse ++ vR a :: r) r m m1 o1 v1 := by
  obtain ⟨k1, -, k3⟩ := hk.use
  change (bif Nat.beq (n1 (.invokespecial idx, nx, rs, c0)) 999 then _ else wAt (n2 (.invokespecial idx, nx, rs, c0)) (.methodLink (mC y) idx (mNm (n1 (.invokespecial idx, nx, rs, c0)))) && decide ((mNm (n1 (.invokespecial idx, nx, rs, c0))).name = "<init>")) = true at k3
  rw [h9] at k3
  have hb : Nat.beq y1 999 = false := by
    cases hx : Nat.beq y1 999 with
    | false => rfl
    | true => exact absurd (Nat.eq_of_beq_eq_true hx) h999
  rw [hb] at k3
  simp only [cond_false, Bool.and_eq_true, decide_eq_true_eq] at k3
  intro G p l e R s mi args below meth c H locs cells slots mls C hR hS hL hc hs
  have cb := callB_O (m := m) (m1 := m1) hm (hm.2.2.2.2.2.2.2.2.2.2 hst) (wAt_mem k3.1) C
  rw [hr0] at cb
  have pp := Pre_O (av := vR a :: av) C.2.2.2.2.2.2.2.2.2.1 C.2.2.2.2.2.2.2.2.2.2.1 hR hS
  have e1 : (vR a :: av).map (up G) = .ref (rho G a) :: av.map (up G) := by rw [List.map_cons, up_hi G ha]
  rw [e1] at pp
  refine ⟨_, vx_runI (As := av.map (up G)) (b := rho G a) (n := mI y1 2) ⟨C.1, C.2.1, C.2.2.2.1, C.2.2.2.2.1, C.2.2.2.2.2.1⟩ (Met_of hm hlen h l C.2.2.2.2.2.2.2.2.2.2.2.1 G) ⟨cb, k3.2, C.2.2.2.2.2.1 _ (hm.2.2.2.2.2.2.2.1 hst)⟩ ⟨PcO_blind G _ m, pp⟩ rfl (by rw [List.length_map]; exact hn) hL.1 ?_ ?_ k1 ⟨hc, hs⟩⟩
  · show (av.reverse ++ vR a :: r).map (up G) = _
    rw [List.map_append, List.map_reverse, List.map_cons, up_hi G ha]
  · rw [catS_eq]
    show 2 * 0 + _ ≤ 8
    omega
theorem run_V {y1 idx nx : Nat} {rs : List Nat} {c0 : Int} {av : List AV} {a : Nat} (hk : okE y pc (.invokevirtual idx, nx, rs, c0)) (h9 : n1 (.invokevirtual idx, nx, rs, c0) = y1) (hm : mOk y1) (hst : mI y1 0 = 0) (hini : (mNm y1).name ≠ "<init>") (hn : av.length = mI y1 2) (hcat : catS r ≤ 8) (hka : mK m a = mI y1 1) (hlen : (laySl (vR a :: av)).length ≤ mL y1) (h : Ev d y1 0 (entL y1 (vR a :: av)) [] m m1 o1 v1) :
    RunOK d y pc ls (av.reverse ++ vR a :: r) r m m1 o1 v1 := by
  obtain ⟨k1, -, k3⟩ := hk.use
  change wAt (n2 (.invokevirtual idx, nx, rs, c0)) (.methodLink (mC y) idx (mNm (n1 (.invokevirtual idx, nx, rs, c0)))) = true at k3
  rw [h9] at k3
  intro G p l e R s mi args below meth c H locs cells slots mls C hR hS hL hc hs
  have cb := callB_O (m := m) (m1 := m1) hm (hm.2.2.2.2.2.2.2.2.2.2 hst) (wAt_mem k3) C
  have pp := Pre_O (av := vR a :: av) C.2.2.2.2.2.2.2.2.2.1 C.2.2.2.2.2.2.2.2.2.2.1 hR hS
  have hrc : up G (vR a) = .ref (rho G a) ∧ ∃ cellB : Cell, H[rho G a]? = some cellB ∧ cellB.vm.isStatics = false ∧ s.vm.findClass (mC y1) = some cellB.cls := by
    rcases hm.2.2.2.2.2.2.2.2.2.1 hst with ⟨g1, g2⟩ | ⟨g0, q, hq, g2⟩
    · rw [g1] at hka
      obtain ⟨i, hi, rfl⟩ := hR.txt hka
      have hi' : i < 24 := hi
      have := vk_recv (C.2.2.2.2.2.2.2.2.2.1.2.1 i hi) (i := 0) (by omega) hS
      rw [rho_k G hi, g2]
      refine ⟨?_, this⟩
      rw [up_lo G (by omega) (by omega), rho_k G hi]
    · have hka' : mK m a = (mI y1 1 - 1) + 1 := by omega
      obtain ⟨ha, r9, hr9, cell, z1, z2, z3, -⟩ := hR.obj hq hka'
      refine ⟨up_hi G ha, cell, z1, by rw [z3]; rfl, ?_⟩
      rw [z2, ← g2]
      exact (C.2.2.2.2.2.2.2.2.2.1.1.1 _ _ hq).2.1
  have e1 : (vR a :: av).map (up G) = .ref (rho G a) :: av.map (up G) := by rw [List.map_cons, hrc.1]
  rw [e1] at pp
  refine ⟨_, vx_runV (As := av.map (up G)) (b := rho G a) (n := mI y1 2) (C := mC y1) ⟨C.1, C.2.1, C.2.2.2.1, C.2.2.2.2.1, C.2.2.2.2.2.1⟩ (Met_of hm hlen h l C.2.2.2.2.2.2.2.2.2.2.2.1 G) ⟨cb, C.2.2.2.2.2.1 _ (hm.2.2.2.2.2.2.2.1 hst), C.2.2.2.2.2.1 _ (hm.2.2.2.2.2.2.2.2.1 hst hini)⟩ ⟨PcO_blind G _ m, hrc.2, pp⟩ rfl (by rw [List.length_map]; exact hn) hL.1 ?_ ?_ k1 ⟨hc, hs⟩⟩
  · show (av.reverse ++ vR a :: r).map (up G) = _
    rw [List.map_append, List.map_reverse, List.map_cons, hrc.1]
  · rw [catS_eq]
    show 2 * 0 + _ ≤ 8
    omega
end CallRows
