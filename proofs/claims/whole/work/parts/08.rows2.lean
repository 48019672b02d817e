/-! ===== rows of the plain instructions, by program ===== -/
section Steps2
variable {d y pc : Nat} {ls : Ls} {st : List AV} {m : Mem} {Q : Nat → Option AV → Mem → Prop} {nx : Nat} {rs : List Nat} {c0 : Int} {r : List AV}
theorem up_ref (G : Gm) (a : Nat) : up G (vR a) = .null ∨ ∃ q, up G (vR a) = .ref q := by
  show va_rf (rfo G a) = _ ∨ ∃ q, va_rf (rfo G a) = _
  cases rfo G a with
  | none => exact Or.inl rfl
  | some q => exact Or.inr ⟨q, rfl⟩
theorem up_0 (G : Gm) : up G (vR 0) = .null := rfl
theorem up_ne (G : Gm) {a : Nat} (h : a ≠ 0) (h2 : a ≠ 99) : ∃ q, up G (vR a) = .ref q := by
  show ∃ q, va_rf (rfo G a) = _
  unfold rfo
  rw [if_neg h, if_neg h2]
  exact ⟨_, rfl⟩
theorem s_isub {x z : Int} (hk : okE y pc (.isub, nx, rs, c0)) (h : Ex d y nx ls (vI (x - z) :: r) m Q) : Ex d y pc ls (vI z :: vI x :: r) m Q := by
  obtain ⟨k1, k2, -⟩ := hk.use
  refine Ex_pure h fun {G _ _ _ _ _ _ _ _ _ _ _ _ _ _ _ _} C hR hS hL k => ?_
  have k2 : nx = pc + 1 := k2
  subst k2
  refine lv_isub C.1 C.2.1 k1 ?_
  rw [← Int32.ofInt_sub]
  exact k _ hL
theorem s_imul {x z : Int} (hk : okE y pc (.imul, nx, rs, c0)) (h : Ex d y nx ls (vI (x * z) :: r) m Q) : Ex d y pc ls (vI z :: vI x :: r) m Q := by
  obtain ⟨k1, k2, -⟩ := hk.use
  refine Ex_pure h fun {G _ _ _ _ _ _ _ _ _ _ _ _ _ _ _ _} C hR hS hL k => ?_
  have k2 : nx = pc + 1 := k2
  subst k2
  refine lv_imul C.1 C.2.1 k1 ?_
  rw [← Int32.ofInt_mul]
  exact k _ hL
theorem s_lsub {x z : Int} (hk : okE y pc (.lsub, nx, rs, c0)) (h : Ex d y nx ls (vL (x - z) :: r) m Q) : Ex d y pc ls (vL z :: vL x :: r) m Q := by
  obtain ⟨k1, k2, -⟩ := hk.use
  refine Ex_pure h fun {G _ _ _ _ _ _ _ _ _ _ _ _ _ _ _ _} C hR hS hL k => ?_
  have k2 : nx = pc + 1 := k2
  subst k2
  refine lv_lsub C.1 C.2.1 k1 ?_
  rw [← Int64.ofInt_sub]
  exact k _ hL
theorem s_lmul {x z : Int} (hk : okE y pc (.lmul, nx, rs, c0)) (h : Ex d y nx ls (vL (x * z) :: r) m Q) : Ex d y pc ls (vL z :: vL x :: r) m Q := by
  obtain ⟨k1, k2, -⟩ := hk.use
  refine Ex_pure h fun {G _ _ _ _ _ _ _ _ _ _ _ _ _ _ _ _} C hR hS hL k => ?_
  have k2 : nx = pc + 1 := k2
  subst k2
  refine lv_lmul C.1 C.2.1 k1 ?_
  rw [← Int64.ofInt_mul]
  exact k _ hL
theorem s_ladd {x z : Int} (hk : okE y pc (.ladd, nx, rs, c0)) (h : Ex d y nx ls (vL (x + z) :: r) m Q) : Ex d y pc ls (vL z :: vL x :: r) m Q := by
  obtain ⟨k1, k2, -⟩ := hk.use
  refine Ex_pure h fun {G _ _ _ _ _ _ _ _ _ _ _ _ _ _ _ _} C hR hS hL k => ?_
  have k2 : nx = pc + 1 := k2
  subst k2
  refine lv_ladd C.1 C.2.1 k1 ?_
  rw [← Int64.ofInt_add]
  exact k _ hL
theorem s_iand {x z : Int} (hk : okE y pc (.iand, nx, rs, c0)) (h : Ex d y nx ls (vI (iAnd x z) :: r) m Q) : Ex d y pc ls (vI z :: vI x :: r) m Q := by
  obtain ⟨k1, k2, -⟩ := hk.use
  refine Ex_pure h fun {G _ _ _ _ _ _ _ _ _ _ _ _ _ _ _ _} C hR hS hL k => ?_
  have k2 : nx = pc + 1 := k2
  subst k2
  refine lv_iand C.1 C.2.1 k1 ?_
  rw [show (Int32.ofInt x &&& Int32.ofInt z) = Int32.ofInt (iAnd x z) from (Int32.ofInt_toInt _).symm]
  exact k _ hL
theorem s_ior {x z : Int} (hk : okE y pc (.ior, nx, rs, c0)) (h : Ex d y nx ls (vI (iOr x z) :: r) m Q) : Ex d y pc ls (vI z :: vI x :: r) m Q := by
  obtain ⟨k1, k2, -⟩ := hk.use
  refine Ex_pure h fun {G _ _ _ _ _ _ _ _ _ _ _ _ _ _ _ _} C hR hS hL k => ?_
  have k2 : nx = pc + 1 := k2
  subst k2
  refine lv_ior C.1 C.2.1 k1 ?_
  rw [show (Int32.ofInt x ||| Int32.ofInt z) = Int32.ofInt (iOr x z) from (Int32.ofInt_toInt _).symm]
  exact k _ hL
theorem s_ixor {x z : Int} (hk : okE y pc (.ixor, nx, rs, c0)) (h : Ex d y nx ls (vI (iXor x z) :: r) m Q) : Ex d y pc ls (vI z :: vI x :: r) m Q := by
  obtain ⟨k1, k2, -⟩ := hk.use
  refine Ex_pure h fun {G _ _ _ _ _ _ _ _ _ _ _ _ _ _ _ _} C hR hS hL k => ?_
  have k2 : nx = pc + 1 := k2
  subst k2
  refine lv_ixor C.1 C.2.1 k1 ?_
  rw [show (Int32.ofInt x ^^^ Int32.ofInt z) = Int32.ofInt (iXor x z) from (Int32.ofInt_toInt _).symm]
  exact k _ hL
theorem s_ishl {x z : Int} (hk : okE y pc (.ishl, nx, rs, c0)) (h : Ex d y nx ls (vI (iShl x z) :: r) m Q) : Ex d y pc ls (vI z :: vI x :: r) m Q := by
  obtain ⟨k1, k2, -⟩ := hk.use
  refine Ex_pure h fun {G _ _ _ _ _ _ _ _ _ _ _ _ _ _ _ _} C hR hS hL k => ?_
  have k2 : nx = pc + 1 := k2
  subst k2
  refine lv_ishl C.1 C.2.1 k1 ?_
  rw [show (Int32.ofInt x <<< (Int32.ofInt z &&& 31)) = Int32.ofInt (iShl x z) from (Int32.ofInt_toInt _).symm]
  exact k _ hL
theorem s_ishr {x z : Int} (hk : okE y pc (.ishr, nx, rs, c0)) (h : Ex d y nx ls (vI (iShr x z) :: r) m Q) : Ex d y pc ls (vI z :: vI x :: r) m Q := by
  obtain ⟨k1, k2, -⟩ := hk.use
  refine Ex_pure h fun {G _ _ _ _ _ _ _ _ _ _ _ _ _ _ _ _} C hR hS hL k => ?_
  have k2 : nx = pc + 1 := k2
  subst k2
  refine lv_ishr C.1 C.2.1 k1 ?_
  rw [show (Int32.ofInt x >>> (Int32.ofInt z &&& 31)) = Int32.ofInt (iShr x z) from (Int32.ofInt_toInt _).symm]
  exact k _ hL
theorem s_land {x z : Int} (hk : okE y pc (.land, nx, rs, c0)) (h : Ex d y nx ls (vL (lAnd x z) :: r) m Q) : Ex d y pc ls (vL z :: vL x :: r) m Q := by
  obtain ⟨k1, k2, -⟩ := hk.use
  refine Ex_pure h fun {G _ _ _ _ _ _ _ _ _ _ _ _ _ _ _ _} C hR hS hL k => ?_
  have k2 : nx = pc + 1 := k2
  subst k2
  refine lv_land C.1 C.2.1 k1 ?_
  rw [show (Int64.ofInt x &&& Int64.ofInt z) = Int64.ofInt (lAnd x z) from (Int64.ofInt_toInt _).symm]
  exact k _ hL
theorem s_lor {x z : Int} (hk : okE y pc (.lor, nx, rs, c0)) (h : Ex d y nx ls (vL (lOr x z) :: r) m Q) : Ex d y pc ls (vL z :: vL x :: r) m Q := by
  obtain ⟨k1, k2, -⟩ := hk.use
  refine Ex_pure h fun {G _ _ _ _ _ _ _ _ _ _ _ _ _ _ _ _} C hR hS hL k => ?_
  have k2 : nx = pc + 1 := k2
  subst k2
  refine lv_lor C.1 C.2.1 k1 ?_
  rw [show (Int64.ofInt x ||| Int64.ofInt z) = Int64.ofInt (lOr x z) from (Int64.ofInt_toInt _).symm]
  exact k _ hL
theorem s_lxor {x z : Int} (hk : okE y pc (.lxor, nx, rs, c0)) (h : Ex d y nx ls (vL (lXor x z) :: r) m Q) : Ex d y pc ls (vL z :: vL x :: r) m Q := by
  obtain ⟨k1, k2, -⟩ := hk.use
  refine Ex_pure h fun {G _ _ _ _ _ _ _ _ _ _ _ _ _ _ _ _} C hR hS hL k => ?_
  have k2 : nx = pc + 1 := k2
  subst k2
  refine lv_lxor C.1 C.2.1 k1 ?_
  rw [show (Int64.ofInt x ^^^ Int64.ofInt z) = Int64.ofInt (lXor x z) from (Int64.ofInt_toInt _).symm]
  exact k _ hL
theorem s_iushr {x z : Int} (hk : okE y pc (.iushr, nx, rs, c0)) (h : Ex d y nx ls (vI (iUshr x z) :: r) m Q) : Ex d y pc ls (vI z :: vI x :: r) m Q := by
  obtain ⟨k1, k2, -⟩ := hk.use
  refine Ex_pure h fun {G _ _ _ _ _ _ _ _ _ _ _ _ _ _ _ _} C hR hS hL k => ?_
  have k2 : nx = pc + 1 := k2
  subst k2
  exact lv_iushr C.1 C.2.1 k1 (Int32.ofInt_toInt _).symm (k _ hL)
theorem s_lshl {x z : Int} (hk : okE y pc (.lshl, nx, rs, c0)) (h : Ex d y nx ls (vL (lShl x z) :: r) m Q) : Ex d y pc ls (vI z :: vL x :: r) m Q := by
  obtain ⟨k1, k2, -⟩ := hk.use
  refine Ex_pure h fun {G _ _ _ _ _ _ _ _ _ _ _ _ _ _ _ _} C hR hS hL k => ?_
  have k2 : nx = pc + 1 := k2
  subst k2
  exact lv_lshl C.1 C.2.1 k1 (Int64.ofInt_toInt _).symm (k _ hL)
theorem s_lshr {x z : Int} (hk : okE y pc (.lshr, nx, rs, c0)) (h : Ex d y nx ls (vL (lShr x z) :: r) m Q) : Ex d y pc ls (vI z :: vL x :: r) m Q := by
  obtain ⟨k1, k2, -⟩ := hk.use
  refine Ex_pure h fun {G _ _ _ _ _ _ _ _ _ _ _ _ _ _ _ _} C hR hS hL k => ?_
  have k2 : nx = pc + 1 := k2
  subst k2
  exact lv_lshr C.1 C.2.1 k1 (Int64.ofInt_toInt _).symm (k _ hL)
theorem s_lushr {x z : Int} (hk : okE y pc (.lushr, nx, rs, c0)) (h : Ex d y nx ls (vL (lUshr x z) :: r) m Q) : Ex d y pc ls (vI z :: vL x :: r) m Q := by
  obtain ⟨k1, k2, -⟩ := hk.use
  refine Ex_pure h fun {G _ _ _ _ _ _ _ _ _ _ _ _ _ _ _ _} C hR hS hL k => ?_
  have k2 : nx = pc + 1 := k2
  subst k2
  exact lv_lushr C.1 C.2.1 k1 (Int64.ofInt_toInt _).symm (k _ hL)
theorem w64_w32 (x : Int) : w64 (w32 x) = w32 x := by
  unfold w64 w32
  rw [Int64.toInt_ofInt_of_le]
  · have := Int32.le_toInt (Int32.ofInt x); omega
  · have := Int32.toInt_lt (Int32.ofInt x); omega
theorem s_i2l {x : Int} (hk : okE y pc (.i2l, nx, rs, c0)) (h : Ex d y nx ls (vL (w32 x) :: r) m Q) : Ex d y pc ls (vI x :: r) m Q := by
  obtain ⟨k1, k2, -⟩ := hk.use
  refine Ex_pure h fun {G _ _ _ _ _ _ _ _ _ _ _ _ _ _ _ _} C hR hS hL k => ?_
  have k2 : nx = pc + 1 := k2
  subst k2
  exact lv_i2l C.1 C.2.1 k1 (Int64.toInt_inj.mp (by rw [Int32.toInt_toInt64]; show w32 x = w64 (w32 x); exact (w64_w32 x).symm)) (k _ hL)
theorem s_i2c {x : Int} (hk : okE y pc (.i2c, nx, rs, c0)) (h : Ex d y nx ls (vI (i2cF x) :: r) m Q) : Ex d y pc ls (vI x :: r) m Q := by
  obtain ⟨k1, k2, -⟩ := hk.use
  refine Ex_pure h fun {G _ _ _ _ _ _ _ _ _ _ _ _ _ _ _ _} C hR hS hL k => ?_
  have k2 : nx = pc + 1 := k2
  subst k2
  exact lv_i2c C.1 C.2.1 k1 (Int32.ofInt_toInt _).symm (k _ hL)
theorem s_l2i {x : Int} (hk : okE y pc (.l2i, nx, rs, c0)) (h : Ex d y nx ls (vI (l2iF x) :: r) m Q) : Ex d y pc ls (vL x :: r) m Q := by
  obtain ⟨k1, k2, -⟩ := hk.use
  refine Ex_pure h fun {G _ _ _ _ _ _ _ _ _ _ _ _ _ _ _ _} C hR hS hL k => ?_
  have k2 : nx = pc + 1 := k2
  subst k2
  exact lv_l2i C.1 C.2.1 k1 (Int32.ofInt_toInt _).symm (k _ hL)
theorem s_lcmp {x z : Int} (hk : okE y pc (.lcmp, nx, rs, c0)) (h : Ex d y nx ls (vI (lCmp x z) :: r) m Q) : Ex d y pc ls (vL z :: vL x :: r) m Q := by
  obtain ⟨k1, k2, -⟩ := hk.use
  refine Ex_pure h fun {G _ _ _ _ _ _ _ _ _ _ _ _ _ _ _ _} C hR hS hL k => ?_
  have k2 : nx = pc + 1 := k2
  subst k2
  refine W.lcmp C.1 C.2.1 k1 ?_
  rw [show lg_cmp (Int64.ofInt x) (Int64.ofInt z) = Int32.ofInt (lCmp x z) from (Int32.ofInt_toInt _).symm]
  exact k _ hL
theorem s_ineg {x : Int} (hk : okE y pc (.ineg, nx, rs, c0)) (h : Ex d y nx ls (vI (-x) :: r) m Q) : Ex d y pc ls (vI x :: r) m Q := by
  obtain ⟨k1, k2, -⟩ := hk.use
  refine Ex_pure h fun {G _ _ _ _ _ _ _ _ _ _ _ _ _ _ _ _} C hR hS hL k => ?_
  have k2 : nx = pc + 1 := k2
  subst k2
  refine lv_ineg C.1 C.2.1 k1 ?_
  rw [← Int32.ofInt_neg]
  exact k _ hL
theorem s_idiv {x z : Int} (hz : w32 z ≠ 0) (hk : okE y pc (.idiv, nx, rs, c0)) (h : Ex d y nx ls (vI (iDiv x z) :: r) m Q) : Ex d y pc ls (vI z :: vI x :: r) m Q := by
  obtain ⟨k1, k2, -⟩ := hk.use
  refine Ex_pure h fun {G _ _ _ _ _ _ _ _ _ _ _ _ _ _ _ _} C hR hS hL k => ?_
  have k2 : nx = pc + 1 := k2
  subst k2
  refine lv_idiv C.1 C.2.1 k1 (fun q => hz (w32_eq0.mp q)) ?_
  rw [show (Int32.ofInt x / Int32.ofInt z) = Int32.ofInt (iDiv x z) from (Int32.ofInt_toInt _).symm]
  exact k _ hL
theorem s_irem {x z : Int} (hz : w32 z ≠ 0) (hk : okE y pc (.irem, nx, rs, c0)) (h : Ex d y nx ls (vI (iRem x z) :: r) m Q) : Ex d y pc ls (vI z :: vI x :: r) m Q := by
  obtain ⟨k1, k2, -⟩ := hk.use
  refine Ex_pure h fun {G _ _ _ _ _ _ _ _ _ _ _ _ _ _ _ _} C hR hS hL k => ?_
  have k2 : nx = pc + 1 := k2
  subst k2
  refine lv_irem C.1 C.2.1 k1 (fun q => hz (w32_eq0.mp q)) ?_
  rw [show (Int32.ofInt x - Int32.ofInt x / Int32.ofInt z * Int32.ofInt z) = Int32.ofInt (iRem x z) from (Int32.ofInt_toInt _).symm]
  exact k _ hL
theorem s_ldiv {x z : Int} (hz : w64 z ≠ 0) (hk : okE y pc (.ldiv, nx, rs, c0)) (h : Ex d y nx ls (vL (lDiv x z) :: r) m Q) : Ex d y pc ls (vL z :: vL x :: r) m Q := by
  obtain ⟨k1, k2, -⟩ := hk.use
  refine Ex_pure h fun {G _ _ _ _ _ _ _ _ _ _ _ _ _ _ _ _} C hR hS hL k => ?_
  have k2 : nx = pc + 1 := k2
  subst k2
  refine lv_ldiv C.1 C.2.1 k1 (fun q => hz (w64_eq0.mp q)) ?_
  rw [show (Int64.ofInt x / Int64.ofInt z) = Int64.ofInt (lDiv x z) from (Int64.ofInt_toInt _).symm]
  exact k _ hL
theorem s_lconst {i : Fin 2} (hk : okE y pc (.lconst i, nx, rs, c0)) (h : Ex d y nx ls (vL (i.val : Int) :: st) m Q) : Ex d y pc ls st m Q := by
  obtain ⟨k1, k2, -⟩ := hk.use
  refine Ex_pure h fun {G _ _ _ _ _ _ _ _ _ _ _ _ _ _ _ _} C hR hS hL k => ?_
  have k2 : nx = pc + 1 := k2
  subst k2
  exact lv_lconst C.1 C.2.1 k1 (by rw [← Int64.ofInt_eq_ofNat]) (k _ hL)
theorem s_aconst (hk : okE y pc (.aconst_null, nx, rs, c0)) (h : Ex d y nx ls (vR 0 :: st) m Q) : Ex d y pc ls st m Q := by
  obtain ⟨k1, k2, -⟩ := hk.use
  refine Ex_pure h fun {G _ _ _ _ _ _ _ _ _ _ _ _ _ _ _ _} C hR hS hL k => ?_
  have k2 : nx = pc + 1 := k2
  subst k2
  exact lv_null C.1 C.2.1 k1 (k _ hL)
theorem s_dupI {x : Int} (hk : okE y pc (.dup, nx, rs, c0)) (h : Ex d y nx ls (vI x :: vI x :: r) m Q) : Ex d y pc ls (vI x :: r) m Q := by
  obtain ⟨k1, k2, -⟩ := hk.use
  refine Ex_pure h fun {G _ _ _ _ _ _ _ _ _ _ _ _ _ _ _ _} C hR hS hL k => ?_
  have k2 : nx = pc + 1 := k2
  subst k2
  exact lv_dup C.1 C.2.1 k1 rfl (k _ hL)
theorem s_dupR {x : Nat} (hk : okE y pc (.dup, nx, rs, c0)) (h : Ex d y nx ls (vR x :: vR x :: r) m Q) : Ex d y pc ls (vR x :: r) m Q := by
  obtain ⟨k1, k2, -⟩ := hk.use
  refine Ex_pure h fun {G _ _ _ _ _ _ _ _ _ _ _ _ _ _ _ _} C hR hS hL k => ?_
  have k2 : nx = pc + 1 := k2
  subst k2
  exact lv_dup C.1 C.2.1 k1 (up_cat G (vR x)) (k _ hL)
theorem s_dup2 {i : Int} {x : Nat} (hk : okE y pc (.dup2, nx, rs, c0)) (h : Ex d y nx ls (vI i :: vR x :: vI i :: vR x :: r) m Q) : Ex d y pc ls (vI i :: vR x :: r) m Q := by
  obtain ⟨k1, k2, -⟩ := hk.use
  refine Ex_pure h fun {G _ _ _ _ _ _ _ _ _ _ _ _ _ _ _ _} C hR hS hL k => ?_
  have k2 : nx = pc + 1 := k2
  subst k2
  exact lv_dup2_11 C.1 C.2.1 k1 rfl (up_cat G (vR x)) (k _ hL)
theorem s_popI {x : Int} (hk : okE y pc (.pop, nx, rs, c0)) (h : Ex d y nx ls r m Q) : Ex d y pc ls (vI x :: r) m Q := by
  obtain ⟨k1, k2, -⟩ := hk.use
  refine Ex_pure h fun {G _ _ _ _ _ _ _ _ _ _ _ _ _ _ _ _} C hR hS hL k => ?_
  have k2 : nx = pc + 1 := k2
  subst k2
  exact lv_pop C.1 C.2.1 k1 rfl (k _ hL)
theorem s_popR {x : Nat} (hk : okE y pc (.pop, nx, rs, c0)) (h : Ex d y nx ls r m Q) : Ex d y pc ls (vR x :: r) m Q := by
  obtain ⟨k1, k2, -⟩ := hk.use
  refine Ex_pure h fun {G _ _ _ _ _ _ _ _ _ _ _ _ _ _ _ _} C hR hS hL k => ?_
  have k2 : nx = pc + 1 := k2
  subst k2
  exact lv_pop C.1 C.2.1 k1 (up_cat G (vR x)) (k _ hL)
theorem s_iload {i : Nat} {x : Int} (hl : ls[i]? = some (some (vI x))) (hk : okE y pc (.iload i, nx, rs, c0)) (h : Ex d y nx ls (vI x :: st) m Q) : Ex d y pc ls st m Q := by
  obtain ⟨k1, k2, -⟩ := hk.use
  refine Ex_pure h fun {G _ _ _ _ _ _ _ _ _ _ _ _ _ _ _ _} C hR hS hL k => ?_
  have k2 : nx = pc + 2 := k2
  subst k2
  exact lv_iload C.1 C.2.1 k1 (hL.2.2 _ _ hl) (k _ hL)
theorem s_iload_n {i : Fin 4} {x : Int} (hl : ls[i.val]? = some (some (vI x))) (hk : okE y pc (.iload_n i, nx, rs, c0)) (h : Ex d y nx ls (vI x :: st) m Q) : Ex d y pc ls st m Q := by
  obtain ⟨k1, k2, -⟩ := hk.use
  refine Ex_pure h fun {G _ _ _ _ _ _ _ _ _ _ _ _ _ _ _ _} C hR hS hL k => ?_
  have k2 : nx = pc + 1 := k2
  subst k2
  exact lv_iload_n C.1 C.2.1 k1 rfl (hL.2.2 _ _ hl) (k _ hL)
theorem s_lload {i : Nat} {x : Int} (hl : ls[i]? = some (some (vL x))) (hk : okE y pc (.lload i, nx, rs, c0)) (h : Ex d y nx ls (vL x :: st) m Q) : Ex d y pc ls st m Q := by
  obtain ⟨k1, k2, -⟩ := hk.use
  refine Ex_pure h fun {G _ _ _ _ _ _ _ _ _ _ _ _ _ _ _ _} C hR hS hL k => ?_
  have k2 : nx = pc + 2 := k2
  subst k2
  exact lv_lload C.1 C.2.1 k1 (hL.2.2 _ _ hl) (k _ hL)
theorem s_lload_n {i : Fin 4} {x : Int} (hl : ls[i.val]? = some (some (vL x))) (hk : okE y pc (.lload_n i, nx, rs, c0)) (h : Ex d y nx ls (vL x :: st) m Q) : Ex d y pc ls st m Q := by
  obtain ⟨k1, k2, -⟩ := hk.use
  refine Ex_pure h fun {G _ _ _ _ _ _ _ _ _ _ _ _ _ _ _ _} C hR hS hL k => ?_
  have k2 : nx = pc + 1 := k2
  subst k2
  exact lv_lload_n C.1 C.2.1 k1 rfl (hL.2.2 _ _ hl) (k _ hL)
theorem s_aload {i : Nat} {x : Nat} (hl : ls[i]? = some (some (vR x))) (hk : okE y pc (.aload i, nx, rs, c0)) (h : Ex d y nx ls (vR x :: st) m Q) : Ex d y pc ls st m Q := by
  obtain ⟨k1, k2, -⟩ := hk.use
  refine Ex_pure h fun {G _ _ _ _ _ _ _ _ _ _ _ _ _ _ _ _} C hR hS hL k => ?_
  have k2 : nx = pc + 2 := k2
  subst k2
  have hv := hL.2.2 _ _ hl
  have k9 := k _ hL
  rw [List.map_cons] at k9
  rcases up_ref G x with e | ⟨q, e⟩
  · rw [e] at hv k9
    exact lv_aloadN C.1 C.2.1 k1 hv k9
  · rw [e] at hv k9
    exact lv_aload C.1 C.2.1 k1 hv k9
theorem s_aload_n {i : Fin 4} {x : Nat} (hl : ls[i.val]? = some (some (vR x))) (hk : okE y pc (.aload_n i, nx, rs, c0)) (h : Ex d y nx ls (vR x :: st) m Q) : Ex d y pc ls st m Q := by
  obtain ⟨k1, k2, -⟩ := hk.use
  refine Ex_pure h fun {G _ _ _ _ _ _ _ _ _ _ _ _ _ _ _ _} C hR hS hL k => ?_
  have k2 : nx = pc + 1 := k2
  subst k2
  have hv := hL.2.2 _ _ hl
  have k9 := k _ hL
  rw [List.map_cons] at k9
  rcases up_ref G x with e | ⟨q, e⟩
  · rw [e] at hv k9
    exact lv_aload_nN C.1 C.2.1 k1 rfl hv k9
  · rw [e] at hv k9
    exact lv_aload_n C.1 C.2.1 k1 rfl hv k9
theorem s_istore {i : Nat} {x : Int} (hk : okE y pc (.istore i, nx, rs, c0)) (h : Ex d y nx (stL ls i (vI x)) r m Q) : Ex d y pc ls (vI x :: r) m Q := by
  obtain ⟨k1, k2, k3⟩ := hk.use
  refine Ex_pure h fun {G _ _ _ _ _ _ _ _ _ _ _ _ _ _ _ _} C hR hS hL k => ?_
  have k2 : nx = pc + 2 := k2
  subst k2
  exact lv_istore C.1 C.2.1 k1 hL.has (of_decide_eq_true k3) rfl (fun ls9 h9 => k _ (LR.store (v := vI x) h9))
theorem s_istore_n {i : Fin 4} {x : Int} (hk : okE y pc (.istore_n i, nx, rs, c0)) (h : Ex d y nx (stL ls i.val (vI x)) r m Q) : Ex d y pc ls (vI x :: r) m Q := by
  obtain ⟨k1, k2, k3⟩ := hk.use
  refine Ex_pure h fun {G _ _ _ _ _ _ _ _ _ _ _ _ _ _ _ _} C hR hS hL k => ?_
  have k2 : nx = pc + 1 := k2
  subst k2
  exact lv_istore_n C.1 C.2.1 k1 rfl hL.has (of_decide_eq_true k3) rfl (fun ls9 h9 => k _ (LR.store (v := vI x) h9))
theorem s_astore {i : Nat} {x : Nat} (hk : okE y pc (.astore i, nx, rs, c0)) (h : Ex d y nx (stL ls i (vR x)) r m Q) : Ex d y pc ls (vR x :: r) m Q := by
  obtain ⟨k1, k2, k3⟩ := hk.use
  refine Ex_pure h fun {G _ _ _ _ _ _ _ _ _ _ _ _ _ _ _ _} C hR hS hL k => ?_
  have k2 : nx = pc + 2 := k2
  subst k2
  rw [List.map_cons]
  rcases up_ref G x with e | ⟨q, e⟩
  · rw [e]
    exact lv_astoreN C.1 C.2.1 k1 hL.has (of_decide_eq_true k3) rfl (fun ls9 h9 => k _ (LR.store (v := vR x) (by rw [e]; exact h9)))
  · rw [e]
    exact lv_astore C.1 C.2.1 k1 hL.has (of_decide_eq_true k3) rfl (fun ls9 h9 => k _ (LR.store (v := vR x) (by rw [e]; exact h9)))
theorem s_astore_n {i : Fin 4} {x : Nat} (hk : okE y pc (.astore_n i, nx, rs, c0)) (h : Ex d y nx (stL ls i.val (vR x)) r m Q) : Ex d y pc ls (vR x :: r) m Q := by
  obtain ⟨k1, k2, k3⟩ := hk.use
  refine Ex_pure h fun {G _ _ _ _ _ _ _ _ _ _ _ _ _ _ _ _} C hR hS hL k => ?_
  have k2 : nx = pc + 1 := k2
  subst k2
  rw [List.map_cons]
  rcases up_ref G x with e | ⟨q, e⟩
  · rw [e]
    exact lv_astore_nN C.1 C.2.1 k1 rfl hL.has (of_decide_eq_true k3) rfl (fun ls9 h9 => k _ (LR.store (v := vR x) (by rw [e]; exact h9)))
  · rw [e]
    exact lv_astore_n C.1 C.2.1 k1 rfl hL.has (of_decide_eq_true k3) rfl (fun ls9 h9 => k _ (LR.store (v := vR x) (by rw [e]; exact h9)))
theorem s_lstore {i : Nat} {x : Int} (hk : okE y pc (.lstore i, nx, rs, c0)) (h : Ex d y nx (stL2 ls i x) r m Q) : Ex d y pc ls (vL x :: r) m Q := by
  obtain ⟨k1, k2, k3⟩ := hk.use
  refine Ex_pure h fun {G _ _ _ _ _ _ _ _ _ _ _ _ _ _ _ _} C hR hS hL k => ?_
  have k2 : nx = pc + 2 := k2
  subst k2
  exact lv_lstore C.1 C.2.1 k1 hL.has (of_decide_eq_true k3) rfl (fun ls9 h9 => k _ (LR.store2 (x := x) h9))
theorem s_lstore_n {i : Fin 4} {x : Int} (hk : okE y pc (.lstore_n i, nx, rs, c0)) (h : Ex d y nx (stL2 ls i.val x) r m Q) : Ex d y pc ls (vL x :: r) m Q := by
  obtain ⟨k1, k2, k3⟩ := hk.use
  refine Ex_pure h fun {G _ _ _ _ _ _ _ _ _ _ _ _ _ _ _ _} C hR hS hL k => ?_
  have k2 : nx = pc + 1 := k2
  subst k2
  exact lv_lstore_n C.1 C.2.1 k1 rfl hL.has (of_decide_eq_true k3) rfl (fun ls9 h9 => k _ (LR.store2 (x := x) h9))
theorem s_iinc {i : Nat} {n x : Int} (hl : ls[i]? = some (some (vI x))) (hk : okE y pc (.iinc i n, nx, rs, c0)) (h : Ex d y nx (stL ls i (vI (x + n))) st m Q) : Ex d y pc ls st m Q := by
  obtain ⟨k1, k2, k3⟩ := hk.use
  refine Ex_pure h fun {G _ _ _ _ _ _ _ _ _ _ _ _ _ _ _ _} C hR hS hL k => ?_
  have k2 : nx = pc + 3 := k2
  subst k2
  obtain ⟨j, hj⟩ := List.mem_iff_getElem?.mp (mem_asc (G := G).mpr ⟨vI x, (show ls[(i, up G (vI x)).1]? = _ from hl), rfl⟩)
  exact lv_iinc (v := Int32.ofInt (x + n)) C.1 C.2.1 k1 hL.has hj (Int32.ofInt_add _ _).symm (of_decide_eq_true k3) rfl (fun ls9 h9 => k _ (LR.store (v := vI (x + n)) h9))
theorem s_goto {o : Int} (hk : okE y pc (.goto o, nx, rs, c0)) (h : Ex d y (n1 (.goto o, nx, rs, c0)) ls st m Q) : Ex d y pc ls st m Q := by
  obtain ⟨k1, -, k3⟩ := hk.use
  refine Ex_pure h fun C hR hS hL k => ?_
  exact lv_goto C.1 C.2.1 k1 (of_decide_eq_true k3) (k _ hL)
theorem cmx_eq {x z : Int} : Int32.ofInt x = Int32.ofInt z ↔ cmpI .eq x z := w32_inj
theorem cmx_ne {x z : Int} : ¬ Int32.ofInt x = Int32.ofInt z ↔ cmpI .ne x z := not_congr w32_inj
theorem cmx_lt {x z : Int} : Int32.ofInt x < Int32.ofInt z ↔ cmpI .lt x z := Int32.lt_iff_toInt_lt
theorem cmx_ge {x z : Int} : Int32.ofInt z ≤ Int32.ofInt x ↔ cmpI .ge x z := Int32.le_iff_toInt_le
theorem cmx_gt {x z : Int} : Int32.ofInt z < Int32.ofInt x ↔ cmpI .gt x z := Int32.lt_iff_toInt_lt
theorem cmx_le {x z : Int} : Int32.ofInt x ≤ Int32.ofInt z ↔ cmpI .le x z := Int32.le_iff_toInt_le
theorem s_icmp_eq {o : Int} {x z : Int} (hk : okE y pc (.if_icmp .eq o, nx, rs, c0)) (h : (cmpI .eq x z → Ex d y (n1 (.if_icmp .eq o, nx, rs, c0)) ls r m Q) ∧ (¬ cmpI .eq x z → Ex d y nx ls r m Q)) : Ex d y pc ls (vI z :: vI x :: r) m Q := by
  obtain ⟨k1, k2, k3⟩ := hk.use
  have k2 : nx = pc + 3 := k2
  subst k2
  by_cases hc : cmpI .eq x z
  · refine Ex_pure (h.1 hc) fun C hR hS hL k => ?_
    exact lv_icmp_eq C.1 C.2.1 k1 (of_decide_eq_true k3) (fun _ => k _ hL) (fun q => absurd ((cmx_eq (x := x) (z := z)).mpr hc) q)
  · refine Ex_pure (h.2 hc) fun C hR hS hL k => ?_
    exact lv_icmp_eq C.1 C.2.1 k1 (of_decide_eq_true k3) (fun q => absurd ((cmx_eq (x := x) (z := z)).mp q) hc) (fun _ => k _ hL)
theorem s_if_eq {o : Int} {x : Int} (hk : okE y pc (.ifCond .eq o, nx, rs, c0)) (h : (cmpI .eq x 0 → Ex d y (n1 (.ifCond .eq o, nx, rs, c0)) ls r m Q) ∧ (¬ cmpI .eq x 0 → Ex d y nx ls r m Q)) : Ex d y pc ls (vI x :: r) m Q := by
  obtain ⟨k1, k2, k3⟩ := hk.use
  have k2 : nx = pc + 3 := k2
  subst k2
  by_cases hc : cmpI .eq x 0
  · refine Ex_pure (h.1 hc) fun C hR hS hL k => ?_
    exact lv_if_eq C.1 C.2.1 k1 (of_decide_eq_true k3) (fun _ => k _ hL) (fun q => absurd ((cmx_eq (x := x) (z := 0)).mpr hc) q)
  · refine Ex_pure (h.2 hc) fun C hR hS hL k => ?_
    exact lv_if_eq C.1 C.2.1 k1 (of_decide_eq_true k3) (fun q => absurd ((cmx_eq (x := x) (z := 0)).mp q) hc) (fun _ => k _ hL)
theorem s_icmp_ne {o : Int} {x z : Int} (hk : okE y pc (.if_icmp .ne o, nx, rs, c0)) (h : (cmpI .ne x z → Ex d y (n1 (.if_icmp .ne o, nx, rs, c0)) ls r m Q) ∧ (¬ cmpI .ne x z → Ex d y nx ls r m Q)) : Ex d y pc ls (vI z :: vI x :: r) m Q := by
  obtain ⟨k1, k2, k3⟩ := hk.use
  have k2 : nx = pc + 3 := k2
  subst k2
  by_cases hc : cmpI .ne x z
  · refine Ex_pure (h.1 hc) fun C hR hS hL k => ?_
    exact lv_icmp_ne C.1 C.2.1 k1 (of_decide_eq_true k3) (fun _ => k _ hL) (fun q => absurd q ((cmx_ne (x := x) (z := z)).mpr hc))
  · refine Ex_pure (h.2 hc) fun C hR hS hL k => ?_
    exact lv_icmp_ne C.1 C.2.1 k1 (of_decide_eq_true k3) (fun q => absurd ((cmx_ne (x := x) (z := z)).mp q) hc) (fun _ => k _ hL)
theorem s_if_ne {o : Int} {x : Int} (hk : okE y pc (.ifCond .ne o, nx, rs, c0)) (h : (cmpI .ne x 0 → Ex d y (n1 (.ifCond .ne o, nx, rs, c0)) ls r m Q) ∧ (¬ cmpI .ne x 0 → Ex d y nx ls r m Q)) : Ex d y pc ls (vI x :: r) m Q := by
  obtain ⟨k1, k2, k3⟩ := hk.use
  have k2 : nx = pc + 3 := k2
  subst k2
  by_cases hc : cmpI .ne x 0
  · refine Ex_pure (h.1 hc) fun C hR hS hL k => ?_
    exact lv_if_ne C.1 C.2.1 k1 (of_decide_eq_true k3) (fun _ => k _ hL) (fun q => absurd q ((cmx_ne (x := x) (z := 0)).mpr hc))
  · refine Ex_pure (h.2 hc) fun C hR hS hL k => ?_
    exact lv_if_ne C.1 C.2.1 k1 (of_decide_eq_true k3) (fun q => absurd ((cmx_ne (x := x) (z := 0)).mp q) hc) (fun _ => k _ hL)
theorem s_icmp_lt {o : Int} {x z : Int} (hk : okE y pc (.if_icmp .lt o, nx, rs, c0)) (h : (cmpI .lt x z → Ex d y (n1 (.if_icmp .lt o, nx, rs, c0)) ls r m Q) ∧ (¬ cmpI .lt x z → Ex d y nx ls r m Q)) : Ex d y pc ls (vI z :: vI x :: r) m Q := by
  obtain ⟨k1, k2, k3⟩ := hk.use
  have k2 : nx = pc + 3 := k2
  subst k2
  by_cases hc : cmpI .lt x z
  · refine Ex_pure (h.1 hc) fun C hR hS hL k => ?_
    exact lv_icmp_lt C.1 C.2.1 k1 (of_decide_eq_true k3) (fun _ => k _ hL) (fun q => absurd ((cmx_lt (x := x) (z := z)).mpr hc) q)
  · refine Ex_pure (h.2 hc) fun C hR hS hL k => ?_
    exact lv_icmp_lt C.1 C.2.1 k1 (of_decide_eq_true k3) (fun q => absurd ((cmx_lt (x := x) (z := z)).mp q) hc) (fun _ => k _ hL)
theorem s_if_lt {o : Int} {x : Int} (hk : okE y pc (.ifCond .lt o, nx, rs, c0)) (h : (cmpI .lt x 0 → Ex d y (n1 (.ifCond .lt o, nx, rs, c0)) ls r m Q) ∧ (¬ cmpI .lt x 0 → Ex d y nx ls r m Q)) : Ex d y pc ls (vI x :: r) m Q := by
  obtain ⟨k1, k2, k3⟩ := hk.use
  have k2 : nx = pc + 3 := k2
  subst k2
  by_cases hc : cmpI .lt x 0
  · refine Ex_pure (h.1 hc) fun C hR hS hL k => ?_
    exact lv_if_lt C.1 C.2.1 k1 (of_decide_eq_true k3) (fun _ => k _ hL) (fun q => absurd ((cmx_lt (x := x) (z := 0)).mpr hc) q)
  · refine Ex_pure (h.2 hc) fun C hR hS hL k => ?_
    exact lv_if_lt C.1 C.2.1 k1 (of_decide_eq_true k3) (fun q => absurd ((cmx_lt (x := x) (z := 0)).mp q) hc) (fun _ => k _ hL)
theorem s_icmp_ge {o : Int} {x z : Int} (hk : okE y pc (.if_icmp .ge o, nx, rs, c0)) (h : (cmpI .ge x z → Ex d y (n1 (.if_icmp .ge o, nx, rs, c0)) ls r m Q) ∧ (¬ cmpI .ge x z → Ex d y nx ls r m Q)) : Ex d y pc ls (vI z :: vI x :: r) m Q := by
  obtain ⟨k1, k2, k3⟩ := hk.use
  have k2 : nx = pc + 3 := k2
  subst k2
  by_cases hc : cmpI .ge x z
  · refine Ex_pure (h.1 hc) fun C hR hS hL k => ?_
    exact lv_icmp_ge C.1 C.2.1 k1 (of_decide_eq_true k3) (fun _ => k _ hL) (fun q => absurd ((cmx_ge (x := x) (z := z)).mpr hc) q)
  · refine Ex_pure (h.2 hc) fun C hR hS hL k => ?_
    exact lv_icmp_ge C.1 C.2.1 k1 (of_decide_eq_true k3) (fun q => absurd ((cmx_ge (x := x) (z := z)).mp q) hc) (fun _ => k _ hL)
theorem s_if_ge {o : Int} {x : Int} (hk : okE y pc (.ifCond .ge o, nx, rs, c0)) (h : (cmpI .ge x 0 → Ex d y (n1 (.ifCond .ge o, nx, rs, c0)) ls r m Q) ∧ (¬ cmpI .ge x 0 → Ex d y nx ls r m Q)) : Ex d y pc ls (vI x :: r) m Q := by
  obtain ⟨k1, k2, k3⟩ := hk.use
  have k2 : nx = pc + 3 := k2
  subst k2
  by_cases hc : cmpI .ge x 0
  · refine Ex_pure (h.1 hc) fun C hR hS hL k => ?_
    exact lv_if_ge C.1 C.2.1 k1 (of_decide_eq_true k3) (fun _ => k _ hL) (fun q => absurd ((cmx_ge (x := x) (z := 0)).mpr hc) q)
  · refine Ex_pure (h.2 hc) fun C hR hS hL k => ?_
    exact lv_if_ge C.1 C.2.1 k1 (of_decide_eq_true k3) (fun q => absurd ((cmx_ge (x := x) (z := 0)).mp q) hc) (fun _ => k _ hL)
theorem s_icmp_gt {o : Int} {x z : Int} (hk : okE y pc (.if_icmp .gt o, nx, rs, c0)) (h : (cmpI .gt x z → Ex d y (n1 (.if_icmp .gt o, nx, rs, c0)) ls r m Q) ∧ (¬ cmpI .gt x z → Ex d y nx ls r m Q)) : Ex d y pc ls (vI z :: vI x :: r) m Q := by
  obtain ⟨k1, k2, k3⟩ := hk.use
  have k2 : nx = pc + 3 := k2
  subst k2
  by_cases hc : cmpI .gt x z
  · refine Ex_pure (h.1 hc) fun C hR hS hL k => ?_
    exact lv_icmp_gt C.1 C.2.1 k1 (of_decide_eq_true k3) (fun _ => k _ hL) (fun q => absurd ((cmx_gt (x := x) (z := z)).mpr hc) q)
  · refine Ex_pure (h.2 hc) fun C hR hS hL k => ?_
    exact lv_icmp_gt C.1 C.2.1 k1 (of_decide_eq_true k3) (fun q => absurd ((cmx_gt (x := x) (z := z)).mp q) hc) (fun _ => k _ hL)
theorem s_if_gt {o : Int} {x : Int} (hk : okE y pc (.ifCond .gt o, nx, rs, c0)) (h : (cmpI .gt x 0 → Ex d y (n1 (.ifCond .gt o, nx, rs, c0)) ls r m Q) ∧ (¬ cmpI .gt x 0 → Ex d y nx ls r m Q)) : Ex d y pc ls (vI x :: r) m Q := by
  obtain ⟨k1, k2, k3⟩ := hk.use
  have k2 : nx = pc + 3 := k2
  subst k2
  by_cases hc : cmpI .gt x 0
  · refine Ex_pure (h.1 hc) fun C hR hS hL k => ?_
    exact lv_if_gt C.1 C.2.1 k1 (of_decide_eq_true k3) (fun _ => k _ hL) (fun q => absurd ((cmx_gt (x := x) (z := 0)).mpr hc) q)
  · refine Ex_pure (h.2 hc) fun C hR hS hL k => ?_
    exact lv_if_gt C.1 C.2.1 k1 (of_decide_eq_true k3) (fun q => absurd ((cmx_gt (x := x) (z := 0)).mp q) hc) (fun _ => k _ hL)
theorem s_icmp_le {o : Int} {x z : Int} (hk : okE y pc (.if_icmp .le o, nx, rs, c0)) (h : (cmpI .le x z → Ex d y (n1 (.if_icmp .le o, nx, rs, c0)) ls r m Q) ∧ (¬ cmpI .le x z → Ex d y nx ls r m Q)) : Ex d y pc ls (vI z :: vI x :: r) m Q := by
  obtain ⟨k1, k2, k3⟩ := hk.use
  have k2 : nx = pc + 3 := k2
  subst k2
  by_cases hc : cmpI .le x z
  · refine Ex_pure (h.1 hc) fun C hR hS hL k => ?_
    exact lv_icmp_le C.1 C.2.1 k1 (of_decide_eq_true k3) (fun _ => k _ hL) (fun q => absurd ((cmx_le (x := x) (z := z)).mpr hc) q)
  · refine Ex_pure (h.2 hc) fun C hR hS hL k => ?_
    exact lv_icmp_le C.1 C.2.1 k1 (of_decide_eq_true k3) (fun q => absurd ((cmx_le (x := x) (z := z)).mp q) hc) (fun _ => k _ hL)
theorem s_if_le {o : Int} {x : Int} (hk : okE y pc (.ifCond .le o, nx, rs, c0)) (h : (cmpI .le x 0 → Ex d y (n1 (.ifCond .le o, nx, rs, c0)) ls r m Q) ∧ (¬ cmpI .le x 0 → Ex d y nx ls r m Q)) : Ex d y pc ls (vI x :: r) m Q := by
  obtain ⟨k1, k2, k3⟩ := hk.use
  have k2 : nx = pc + 3 := k2
  subst k2
  by_cases hc : cmpI .le x 0
  · refine Ex_pure (h.1 hc) fun C hR hS hL k => ?_
    exact lv_if_le C.1 C.2.1 k1 (of_decide_eq_true k3) (fun _ => k _ hL) (fun q => absurd ((cmx_le (x := x) (z := 0)).mpr hc) q)
  · refine Ex_pure (h.2 hc) fun C hR hS hL k => ?_
    exact lv_if_le C.1 C.2.1 k1 (of_decide_eq_true k3) (fun q => absurd ((cmx_le (x := x) (z := 0)).mp q) hc) (fun _ => k _ hL)
theorem s_ifnull {o : Int} {a : Nat} (hk : okE y pc (.ifnull o, nx, rs, c0)) (h : a ≠ 99 ∧ (a = 0 → Ex d y (n1 (.ifnull o, nx, rs, c0)) ls r m Q) ∧ (a ≠ 0 → Ex d y nx ls r m Q)) : Ex d y pc ls (vR a :: r) m Q := by
  obtain ⟨k1, k2, k3⟩ := hk.use
  have k2 : nx = pc + 3 := k2
  subst k2
  by_cases hc : a = 0
  · refine Ex_pure (h.2.1 hc) fun C hR hS hL k => ?_
    subst hc
    exact lv_ifnullN C.1 C.2.1 k1 (of_decide_eq_true k3) (k _ hL)
  · refine Ex_pure (h.2.2 hc) fun {G _ _ _ _ _ _ _ _ _ _ _ _ _ _ _ _} C hR hS hL k => ?_
    obtain ⟨q, e⟩ := up_ne G hc h.1
    rw [List.map_cons, e]
    exact lv_ifnull C.1 C.2.1 k1 (k _ hL)
theorem s_ifnonnull {o : Int} {a : Nat} (hk : okE y pc (.ifnonnull o, nx, rs, c0)) (h : a ≠ 99 ∧ (a ≠ 0 → Ex d y (n1 (.ifnonnull o, nx, rs, c0)) ls r m Q) ∧ (a = 0 → Ex d y nx ls r m Q)) : Ex d y pc ls (vR a :: r) m Q := by
  obtain ⟨k1, k2, k3⟩ := hk.use
  have k2 : nx = pc + 3 := k2
  subst k2
  by_cases hc : a = 0
  · refine Ex_pure (h.2.2 hc) fun C hR hS hL k => ?_
    subst hc
    exact lv_ifnonnullN C.1 C.2.1 k1 (k _ hL)
  · refine Ex_pure (h.2.1 hc) fun {G _ _ _ _ _ _ _ _ _ _ _ _ _ _ _ _} C hR hS hL k => ?_
    obtain ⟨q, e⟩ := up_ne G hc h.1
    rw [List.map_cons, e]
    exact lv_ifnonnull C.1 C.2.1 k1 (of_decide_eq_true k3) (k _ hL)
theorem s_table {df lo hi : Int} {offs : Array Int} {x : Int} (hk : okE y pc (.tableswitch df lo hi offs, nx, rs, c0)) (h : Ex d y (tsw lo hi rs (w32 x)) ls r m Q) : Ex d y pc ls (vI x :: r) m Q := by
  obtain ⟨k1, -, k3⟩ := hk.use
  unfold okX at k3
  simp only [Bool.and_eq_true, decide_eq_true_eq, List.all_eq_true] at k3
  obtain ⟨⟨g1, g2⟩, g3⟩ := k3
  refine Ex_pure h fun C hR hS hL k => ?_
  by_cases hc : w32 x < lo ∨ hi < w32 x
  · refine lv_tableOut C.1 C.2.1 k1 hc (tgt := tsw lo hi rs (w32 x)) ?_ (k _ hL)
    rw [g1]
    unfold tsw
    rw [if_pos hc]
    rfl
  · have hj : (w32 x - lo).toNat < offs.size := by omega
    have h3 := g3 _ (List.mem_range.mpr hj)
    refine lv_tableIn C.1 C.2.1 k1 (fun q => hc (Or.inl q)) (fun q => hc (Or.inr q)) (off := offs.toList.getD (w32 x - lo).toNat 0) (tgt := tsw lo hi rs (w32 x)) ?_ ?_ (k _ hL)
    · show offs[(w32 x - lo).toNat]? = _
      rw [← Array.getElem?_toList, List.getD_eq_getElem?_getD]
      rw [List.getElem?_eq_getElem (by simpa using hj)]
      rfl
    · rw [h3]
      unfold tsw
      rw [if_neg hc]
end Steps2
