/-! ===== what an entry must agree with: the bytes, the tables ===== -/
def wAt (p : Nat) (w : Cond) : Bool := decide (lw_tbl[p]? = some w) && goodWord w
theorem wAt_mem {p : Nat} {w : Cond} (h : wAt p w = true) : w ∈ lw_good := by
  unfold wAt at h
  simp only [Bool.and_eq_true, decide_eq_true_eq] at h
  exact good_at p h.1 h.2
def wAtN (p : Nat) (w : Cond) : Bool := decide (lw_tbl[p]? = some w) && okW2 w
theorem wAtN_use {p : Nat} {w : Cond} (h : wAtN p w = true) : w ∈ lw_tbl ∧ okW2 w = true := by
  unfold wAtN at h
  simp only [Bool.and_eq_true, decide_eq_true_eq] at h
  exact ⟨List.mem_of_getElem? h.1, h.2⟩
def ilen (pc : Nat) (e : Ent) : Nat := match e.1 with
  | .iload _ => 2 | .lload _ => 2 | .aload _ => 2 | .istore _ => 2 | .lstore _ => 2 | .astore _ => 2 | .bipush _ => 2 | .ldc _ => 2 | .newarray _ => 2
  | .sipush _ => 3 | .iinc _ _ => 3 | .goto _ => 3 | .ifCond _ _ => 3 | .if_icmp _ _ => 3 | .ifnull _ => 3 | .ifnonnull _ => 3 | .getfield _ => 3 | .putfield _ => 3 | .getstatic _ => 3
  | .invokevirtual _ => 3 | .invokestatic _ => 3 | .invokespecial _ => 3 | .new _ => 3 | .anewarray _ => 3 | .ldc_w _ => 3 | .ldc2_w _ => 3
  | .multianewarray _ _ => 4
  | .tableswitch _ _ _ _ => e.2.1 - pc | .lookupswitch _ _ => e.2.1 - pc
  | _ => 1
/-- a field's entry: (field, kind, type, place of its link) -/
def fOk (y : Nat) (e : Ent) (idx : Nat) : Bool := bif Nat.beq (n2 e) 20 then
    (bif Nat.beq (n1 e) 1280 then Nat.beq (n3 e) 2 && wAt (e.2.2.1.getD 3 0) (.fieldLink (mC y) idx "java/lang/String" "value" "[B") else Nat.beq (n1 e) 1281 && Nat.beq (n3 e) 0 && wAt (e.2.2.1.getD 3 0) (.fieldLink (mC y) idx "java/lang/String" "coder" "B"))
  else match vwCl[n2 e - 1]? with
    | some q => decide (1 ≤ n2 e) && decide (n1 e = 64 * n2 e + (n1 e - 64 * n2 e)) && decide (n1 e - 64 * n2 e < q.2.2) && wAt (e.2.2.1.getD 3 0) (.fieldLink (mC y) idx (q.2.1 (n1 e - 64 * n2 e)).1 (q.2.1 (n1 e - 64 * n2 e)).2.1 (q.2.1 (n1 e - 64 * n2 e)).2.2.1) &&
        (match n3 e with
          | 0 => decide (clTy (n2 e - 1) (n1 e - 64 * n2 e) = .int)
          | 1 => decide (clTy (n2 e - 1) (n1 e - 64 * n2 e) = .boolean)
          | 2 => (clTy (n2 e - 1) (n1 e - 64 * n2 e)).isReference
          | _ => false)
    | none => false
def pOk (y : Nat) (e : Ent) : Bool := match vwCl[n2 e - 1]? with
  | some q => !(q.2.1 (n1 e - 64 * n2 e)).2.2.2 || (decide ((mNm y).name = "<init>") && decide ((q.2.1 (n1 e - 64 * n2 e)).1 = mC y))
  | none => false
def kindOf : ArrayType → Nat
  | .int => 13
  | .long => 14
  | .boolean => 15
  | _ => 0
def okX (y pc : Nat) (e : Ent) : Bool := match e.1 with
  | .istore i => decide (i < mL y)
  | .astore i => decide (i < mL y)
  | .istore_n i => decide (i.val < mL y)
  | .astore_n i => decide (i.val < mL y)
  | .iinc i _ => decide (i < mL y)
  | .lstore i => decide (i + 1 < mL y)
  | .lstore_n i => decide (i.val + 1 < mL y)
  | .bipush n => decide ((Int8.ofInt n).toInt32 = Int32.ofInt n)
  | .sipush n => decide ((Int16.ofInt n).toInt32 = Int32.ofInt n)
  | .goto o => decide ((pc : Int) + o = (n1 e : Int))
  | .ifCond _ o => decide ((pc : Int) + o = (n1 e : Int))
  | .if_icmp _ o => decide ((pc : Int) + o = (n1 e : Int))
  | .ifnull o => decide ((pc : Int) + o = (n1 e : Int))
  | .ifnonnull o => decide ((pc : Int) + o = (n1 e : Int))
  | .tableswitch d lo hi offs => decide ((pc : Int) + d = (n1 e : Int)) && decide ((offs.size : Int) = hi - lo + 1) && (List.range offs.size).all fun j => decide ((pc : Int) + offs.toList.getD j 0 = (e.2.2.1.getD (j + 1) 0 : Nat))
  | .lookupswitch d ps => decide ((pc : Int) + d = (n1 e : Int)) && decide (e.2.2.1.drop 1 = ps.toList.flatMap fun q => [q.1.toNat, ((pc : Int) + q.2).toNat]) && ps.toList.all (fun q => decide (0 ≤ q.1) && decide (0 ≤ (pc : Int) + q.2)) && (ps.toList.zip (ps.toList.drop 1)).all (fun (a, next) => a.1 < next.1)
  | .getfield idx => fOk y e idx
  | .putfield idx => fOk y e idx && pOk y e && !(Nat.beq (n2 e) 20)
  | .ldc idx => bif Nat.beq (n1 e) 0 then wAt (n2 e) (.constant (mC y) idx (Int32.ofInt e.2.2.2)) else decide (n2 e % 2 = 0 ∧ 2 ≤ n2 e ∧ n2 e < 98) && decide ((sSite[(n2 e - 2) / 2]?).map (fun q => (q.1, q.2.1)) = some (mC y, idx))
  | .ldc_w idx => wAt (n1 e) (.constant (mC y) idx (Int32.ofInt e.2.2.2))
  | .ldc2_w idx => wAt (n1 e) (.constantLong (mC y) idx (Int64.ofInt e.2.2.2))
  | .getstatic idx => bif Nat.beq (n1 e) 0 then decide (e.2.2.2 = 1) && wAt (n2 e) (.fieldLink (mC y) idx "java/lang/String" "COMPACT_STRINGS" "Z") else wAt (n2 e) (.fieldLink (mC y) idx "jdk/internal/util/Preconditions" "SIOOBE_FORMATTER" "Ljava/util/function/BiFunction;")
  | .new idx => match vwCl[n1 e - 1]? with
    | some q => decide (1 ≤ n1 e) && decide (n2 e = q.2.2) && wAt (n3 e) (.classLink (mC y) idx q.1)
    | none => false
  | .newarray t => decide (kindOf t = n1 e ∧ n1 e ≠ 0) && wAt (n2 e) (.arrayClass (newarray.typeOf t))
  | .anewarray idx => match arTy (n1 e) with
    | some (.object C) => decide (16 ≤ n1 e ∧ n1 e ≤ 18) && wAt (n2 e) (.classLink (mC y) idx C) && wAtN (n3 e) (.arrayOver (.object C))
    | _ => false
  | .multianewarray idx d => decide (d = 2) && wAt (n1 e) (.classLink (mC y) idx "[[I") && wAtN (n2 e) (.arrayOver (.array .int)) && wAt (n3 e) (.arrayClass .int)
  | .invokespecial idx => bif Nat.beq (n1 e) 999 then wAt (n2 e) (.methodLink (mC y) idx objectInit) && wAt (n3 e) (.instanceMethod objectInit) && wAt (e.2.2.1.getD 3 0) (.code objectInit ⟨#[0xb1]⟩ 1 none) else wAt (n2 e) (.methodLink (mC y) idx (mNm (n1 e))) && decide ((mNm (n1 e)).name = "<init>")
  | .invokestatic idx => bif Nat.beq (n1 e) 998 then wAt (n2 e) (.methodLink (mC y) idx arraycopyName) && wAt (n3 e) (.native arraycopyName) && wAt (e.2.2.1.getD 3 0) (.static arraycopyName) && wAt (e.2.2.1.getD 4 0) (.initialized "java/lang/System") else wAt (n2 e) (.methodLink (mC y) idx (mNm (n1 e)))
  | .invokevirtual idx => wAt (n2 e) (.methodLink (mC y) idx (mNm (n1 e)))
  | .ireturn => match n1 e with
    | 0 => decide (mR y = some .int)
    | 1 => decide (mR y = some .boolean)
    | _ => decide (mR y = some .char) || decide (mR y = some .byte)
  | .lreturn => decide (mR y = some .long)
  | .areturn => match mR y with
    | some (.object _) => true
    | some (.array _) => true
    | _ => false
  | .return_ => decide (mR y = none)
  | _ => true
def okB (y pc : Nat) (e : Ent) : Bool := decide (decode (mB y) pc = .ok (e.1, ilen pc e)) && decide (e.2.1 = pc + ilen pc e) && okX y pc e
abbrev okE (y pc : Nat) (e : Ent) : Prop := okB y pc e = true
theorem okE.use {y pc : Nat} {e : Ent} (h : okE y pc e) : decode (mB y) pc = .ok (e.1, ilen pc e) ∧ e.2.1 = pc + ilen pc e ∧ okX y pc e = true := by
  unfold okE okB at h
  simp only [Bool.and_eq_true, decide_eq_true_eq] at h
  exact ⟨h.1.1, h.1.2, h.2⟩
/-! ===== a run from here to the method's end ===== -/
def frD (d : Nat) : Nat := d + 12
def loD (d : Nat) : Nat := 60 * d + 200
def Cx (G : Gm) (y d : Nat) (p : Program) (l : Launch) (R : Room) (s : State) (mi : MethodId) (args : Array Value) (meth : Method) (c : Code) : Prop :=
  p.tables.exec = Jvm.exec ∧ c.code = mB y ∧ meth.sig.returnType = mR y ∧ c.maxLocals = mL y ∧ s.vm.findClass (mC y) = some mi.cls ∧ (∀ w ∈ lw_good, w.before args s = true) ∧ meth.locks = false ∧ c.exceptionTable.toList = tableOf (mH y) ∧ meth.name = (mNm y).name ∧
  Wd G s s.heap ∧ gBase G ≤ s.heap.size ∧ l.stackTraces = false ∧ frD d ≤ R.frames ∧ loD d ≤ R.locals
def exN (o : Nat) : String := if o = 1 then "java/util/NoSuchElementException" else "java/lang/IllegalArgumentException"
def QR (G : Gm) (m' : Mem) (o : Nat) (v : Option AV) : Array Value → State → Outcome → State → Prop := fun _ st oc t => o = 0 ∧ oc = .returned (v.map (up G)) ∧ Rep G m' t t.heap ∧ va_F (gA G) st t
def QX (G : Gm) (m' : Mem) (o : Nat) : String → State → State → Prop := fun E st t => o ≠ 0 ∧ E = exN o ∧ Rep G m' t t.heap ∧ va_F (gA G) st t
def Ev (d y pc : Nat) (ls : Ls) (st : List AV) (m m' : Mem) (o : Nat) (v : Option AV) : Prop :=
  mN m ≤ mN m' ∧ mZ m ≤ mZ m' ∧ ∀ (G : Gm) (p : Program) (l : Launch) (e : Env) (R : Room) (s : State) (mi : MethodId) (args : Array Value) (below : List Frame) (meth : Method) (c : Code) (n0 z0 : Nat) (H : Heap) (locs : List Loc) (mls : Array Slot),
    Cx G y d p l R s mi args meth c → mN m' - n0 ≤ R.cells → mZ m' - z0 ≤ R.slots → n0 ≤ mN m → z0 ≤ mZ m → Rep G m s H → va_S (gA G) s.heap H locs → LR G mls (mL y) ls →
    W p l e R s mi args below meth c H locs (mN m - n0) (mZ m - z0) (vx_MQ below (QR G m' o v) (QX G m' o) args s (mN m' - n0) (mZ m' - z0) (gA G)) (F0 mi pc mls (st.map (up G)))
def Ex (d y pc : Nat) (ls : Ls) (st : List AV) (m : Mem) (Q : Nat → Option AV → Mem → Prop) : Prop := ∃ o v m', Q o v m' ∧ Ev d y pc ls st m m' o v
/-- one step that makes nothing and writes no heap -/
theorem Ev_pure {d y pc nx : Nat} {ls ls' : Ls} {st st' : List AV} {m m' : Mem} {o : Nat} {v : Option AV} (h : Ev d y nx ls' st' m m' o v)
    (row : ∀ {G : Gm} {p : Program} {l : Launch} {e : Env} {R : Room} {s : State} {mi : MethodId} {args : Array Value} {below : List Frame} {meth : Method} {c : Code} {H : Heap} {locs : List Loc} {cells slots : Nat} {Qf : State → Prop} {mls : Array Slot},
      Cx G y d p l R s mi args meth c → Rep G m s H → va_S (gA G) s.heap H locs → LR G mls (mL y) ls →
      (∀ mls', LR G mls' (mL y) ls' → W p l e R s mi args below meth c H locs cells slots Qf (F0 mi nx mls' (st'.map (up G)))) →
      W p l e R s mi args below meth c H locs cells slots Qf (F0 mi pc mls (st.map (up G)))) : Ev d y pc ls st m m' o v := by
  refine ⟨h.1, h.2.1, fun G p l e R s mi args below meth c n0 z0 H locs mls C h1 h2 h3 h4 hR hS hL => ?_⟩
  exact row C hR hS hL fun mls' hL' => h.2.2 G p l e R s mi args below meth c n0 z0 H locs mls' C h1 h2 h3 h4 hR hS hL'
theorem Ex_pure {d y pc nx : Nat} {ls ls' : Ls} {st st' : List AV} {m : Mem} {Q : Nat → Option AV → Mem → Prop} (h : Ex d y nx ls' st' m Q)
    (row : ∀ {G : Gm} {p : Program} {l : Launch} {e : Env} {R : Room} {s : State} {mi : MethodId} {args : Array Value} {below : List Frame} {meth : Method} {c : Code} {H : Heap} {locs : List Loc} {cells slots : Nat} {Qf : State → Prop} {mls : Array Slot},
      Cx G y d p l R s mi args meth c → Rep G m s H → va_S (gA G) s.heap H locs → LR G mls (mL y) ls →
      (∀ mls', LR G mls' (mL y) ls' → W p l e R s mi args below meth c H locs cells slots Qf (F0 mi nx mls' (st'.map (up G)))) →
      W p l e R s mi args below meth c H locs cells slots Qf (F0 mi pc mls (st.map (up G)))) : Ex d y pc ls st m Q := by
  obtain ⟨o, v, m', hQ, hE⟩ := h
  exact ⟨o, v, m', hQ, Ev_pure hE row⟩
theorem w32_inj {x y : Int} : Int32.ofInt x = Int32.ofInt y ↔ w32 x = w32 y := by
  unfold w32
  exact Int32.toInt_inj.symm
theorem w32_0 : w32 0 = 0 := by decide
theorem w32_eq0 {x : Int} : Int32.ofInt x = 0 ↔ w32 x = 0 := by
  have := w32_inj (x := x) (y := 0)
  rw [w32_0] at this
  exact this
theorem w64_eq0 {x : Int} : Int64.ofInt x = 0 ↔ w64 x = 0 := by
  unfold w64
  constructor
  · intro h; rw [h]; decide
  · intro h; exact Int64.toInt_inj.mp (by rw [h]; decide)
section Steps1
variable {d y pc : Nat} {e : Ent} {ls : Ls} {st : List AV} {m : Mem} {Q : Nat → Option AV → Mem → Prop}
abbrev KE (d y : Nat) (Q : Nat → Option AV → Mem → Prop) : Kn := fun pc' ls' st' m' => Ex d y pc' ls' st' m' Q
theorem s_iconst {i : Int} {nx : Nat} {rs : List Nat} {c0 : Int} (hk : okE y pc (.iconst i, nx, rs, c0)) (h : Ex d y nx ls (vI i :: st) m Q) : Ex d y pc ls st m Q := by
  obtain ⟨k1, k2, -⟩ := hk.use
  refine Ex_pure h fun C hR hS hL k => ?_
  have k2 : nx = pc + 1 := k2
  subst k2
  exact lv_iconst C.1 C.2.1 k1 rfl (k _ hL)
theorem s_bipush {i : Int} {nx : Nat} {rs : List Nat} {c0 : Int} (hk : okE y pc (.bipush i, nx, rs, c0)) (h : Ex d y nx ls (vI i :: st) m Q) : Ex d y pc ls st m Q := by
  obtain ⟨k1, k2, k3⟩ := hk.use
  refine Ex_pure h fun C hR hS hL k => ?_
  have k2 : nx = pc + 2 := k2
  subst k2
  exact lv_bipush C.1 C.2.1 k1 (of_decide_eq_true k3) (k _ hL)
theorem s_sipush {i : Int} {nx : Nat} {rs : List Nat} {c0 : Int} (hk : okE y pc (.sipush i, nx, rs, c0)) (h : Ex d y nx ls (vI i :: st) m Q) : Ex d y pc ls st m Q := by
  obtain ⟨k1, k2, k3⟩ := hk.use
  refine Ex_pure h fun C hR hS hL k => ?_
  have k2 : nx = pc + 3 := k2
  subst k2
  exact lv_sipush C.1 C.2.1 k1 (of_decide_eq_true k3) (k _ hL)
theorem s_iadd {x z : Int} {nx : Nat} {rs : List Nat} {c0 : Int} {r : List AV} (hk : okE y pc (.iadd, nx, rs, c0)) (h : Ex d y nx ls (vI (x + z) :: r) m Q) : Ex d y pc ls (vI z :: vI x :: r) m Q := by
  obtain ⟨k1, k2, -⟩ := hk.use
  refine Ex_pure h fun C hR hS hL k => ?_
  have k2 : nx = pc + 1 := k2
  subst k2
  refine lv_iadd C.1 C.2.1 k1 ?_
  rw [← Int32.ofInt_add]
  exact k _ hL
end Steps1
