/-! ===== one step ===== -/
theorem qI_use {st : List AV} {k : Int → List AV → Prop} (h : qI st k) : ∃ x r, st = vI x :: r ∧ k x r := by
  unfold qI at h
  split at h
  · exact ⟨_, _, rfl, h⟩
  · cases h
theorem qII_use {st : List AV} {k : Int → Int → List AV → Prop} (h : qII st k) : ∃ x z r, st = vI z :: vI x :: r ∧ k x z r := by
  unfold qII at h
  split at h
  · exact ⟨_, _, _, rfl, h⟩
  · cases h
theorem qL_use {st : List AV} {k : Int → List AV → Prop} (h : qL st k) : ∃ x r, st = vL x :: r ∧ k x r := by
  unfold qL at h
  split at h
  · exact ⟨_, _, rfl, h⟩
  · cases h
theorem qLL_use {st : List AV} {k : Int → Int → List AV → Prop} (h : qLL st k) : ∃ x z r, st = vL z :: vL x :: r ∧ k x z r := by
  unfold qLL at h
  split at h
  · exact ⟨_, _, _, rfl, h⟩
  · cases h
theorem qLI_use {st : List AV} {k : Int → Int → List AV → Prop} (h : qLI st k) : ∃ x z r, st = vI z :: vL x :: r ∧ k x z r := by
  unfold qLI at h
  split at h
  · exact ⟨_, _, _, rfl, h⟩
  · cases h
theorem qR_use {st : List AV} {k : Nat → List AV → Prop} (h : qR st k) : ∃ x r, st = vR x :: r ∧ k x r := by
  unfold qR at h
  split at h
  · exact ⟨_, _, rfl, h⟩
  · cases h
theorem qRI_use {st : List AV} {k : Nat → Int → List AV → Prop} (h : qRI st k) : ∃ a i r, st = vI i :: vR a :: r ∧ k a i r := by
  unfold qRI at h
  split at h
  · exact ⟨_, _, _, rfl, h⟩
  · cases h
theorem lkI_use {ls : Ls} {i : Nat} {k : Int → Prop} (h : lkI ls i k) : ∃ x, ls[i]? = some (some (vI x)) ∧ k x := by
  unfold lkI at h
  split at h
  · next x e => exact ⟨x, e, h⟩
  · cases h
theorem lkL_use {ls : Ls} {i : Nat} {k : Int → Prop} (h : lkL ls i k) : ∃ x, ls[i]? = some (some (vL x)) ∧ k x := by
  unfold lkL at h
  split at h
  · next x e => exact ⟨x, e, h⟩
  · cases h
theorem lkR_use {ls : Ls} {i : Nat} {k : Nat → Prop} (h : lkR ls i k) : ∃ x, ls[i]? = some (some (vR x)) ∧ k x := by
  unfold lkR at h
  split at h
  · next x e => exact ⟨x, e, h⟩
  · cases h
set_option maxHeartbeats 4000000 in
theorem Ex_step {d y pc : Nat} {e : Ent} {ls : Ls} {st : List AV} {m : Mem} {Q : Nat → Option AV → Mem → Prop} (hk : okE y pc e) (h : wp1 e ls st m (KE d y Q) (Q 0)) : Ex d y pc ls st m Q := by
  obtain ⟨i, nx, rs, c0⟩ := e
  match i, hk, h with
  | .iconst i, hk, h =>
    exact s_iconst hk h
  | .bipush i, hk, h =>
    exact s_bipush hk h
  | .sipush i, hk, h =>
    exact s_sipush hk h
  | .lconst i, hk, h =>
    exact s_lconst hk h
  | .aconst_null, hk, h =>
    exact s_aconst hk h
  | .ldc i, hk, h =>
    by_cases e0 : n1 (.ldc i, nx, rs, c0) = 0
    · refine s_ldcI hk e0 ?_
      have h : Ex d y nx ls ((bif Nat.beq (n1 (.ldc i, nx, rs, c0)) 0 then vI c0 else vR (n2 (.ldc i, nx, rs, c0))) :: st) m Q := h
      rw [e0] at h
      exact h
    · refine s_ldcS hk e0 ?_
      have h : Ex d y nx ls ((bif Nat.beq (n1 (.ldc i, nx, rs, c0)) 0 then vI c0 else vR (n2 (.ldc i, nx, rs, c0))) :: st) m Q := h
      have hb : Nat.beq (n1 (.ldc i, nx, rs, c0)) 0 = false := by
        cases hx : Nat.beq (n1 (.ldc i, nx, rs, c0)) 0 with
        | false => rfl
        | true => exact absurd (Nat.eq_of_beq_eq_true hx) e0
      rw [hb] at h
      exact h
  | .ldc_w i, hk, h =>
    exact s_ldcw hk h
  | .ldc2_w i, hk, h =>
    exact s_ldc2 hk h
  | .iload i, hk, h =>
    obtain ⟨x, e, h⟩ := lkI_use h
    exact s_iload e hk h
  | .iload_n i, hk, h =>
    obtain ⟨x, e, h⟩ := lkI_use h
    exact s_iload_n e hk h
  | .lload i, hk, h =>
    obtain ⟨x, e, h⟩ := lkL_use h
    exact s_lload e hk h
  | .lload_n i, hk, h =>
    obtain ⟨x, e, h⟩ := lkL_use h
    exact s_lload_n e hk h
  | .aload i, hk, h =>
    obtain ⟨x, e, h⟩ := lkR_use h
    exact s_aload e hk h
  | .aload_n i, hk, h =>
    obtain ⟨x, e, h⟩ := lkR_use h
    exact s_aload_n e hk h
  | .istore i, hk, h =>
    obtain ⟨x, r, rfl, h⟩ := qI_use h
    exact s_istore hk h
  | .istore_n i, hk, h =>
    obtain ⟨x, r, rfl, h⟩ := qI_use h
    exact s_istore_n hk h
  | .lstore i, hk, h =>
    obtain ⟨x, r, rfl, h⟩ := qL_use h
    exact s_lstore hk h
  | .lstore_n i, hk, h =>
    obtain ⟨x, r, rfl, h⟩ := qL_use h
    exact s_lstore_n hk h
  | .astore i, hk, h =>
    obtain ⟨x, r, rfl, h⟩ := qR_use h
    exact s_astore hk h
  | .astore_n i, hk, h =>
    obtain ⟨x, r, rfl, h⟩ := qR_use h
    exact s_astore_n hk h
  | .iinc i n, hk, h =>
    obtain ⟨x, e, h⟩ := lkI_use h
    exact s_iinc e hk h
  | .iadd, hk, h =>
    obtain ⟨x, z, r, rfl, h⟩ := qII_use h
    exact s_iadd hk h
  | .isub, hk, h =>
    obtain ⟨x, z, r, rfl, h⟩ := qII_use h
    exact s_isub hk h
  | .imul, hk, h =>
    obtain ⟨x, z, r, rfl, h⟩ := qII_use h
    exact s_imul hk h
  | .iand, hk, h =>
    obtain ⟨x, z, r, rfl, h⟩ := qII_use h
    exact s_iand hk h
  | .ior, hk, h =>
    obtain ⟨x, z, r, rfl, h⟩ := qII_use h
    exact s_ior hk h
  | .ixor, hk, h =>
    obtain ⟨x, z, r, rfl, h⟩ := qII_use h
    exact s_ixor hk h
  | .ishl, hk, h =>
    obtain ⟨x, z, r, rfl, h⟩ := qII_use h
    exact s_ishl hk h
  | .ishr, hk, h =>
    obtain ⟨x, z, r, rfl, h⟩ := qII_use h
    exact s_ishr hk h
  | .iushr, hk, h =>
    obtain ⟨x, z, r, rfl, h⟩ := qII_use h
    exact s_iushr hk h
  | .idiv, hk, h =>
    obtain ⟨x, z, r, rfl, h⟩ := qII_use h
    exact s_idiv h.1 hk h.2
  | .irem, hk, h =>
    obtain ⟨x, z, r, rfl, h⟩ := qII_use h
    exact s_irem h.1 hk h.2
  | .ineg, hk, h =>
    obtain ⟨x, r, rfl, h⟩ := qI_use h
    exact s_ineg hk h
  | .i2l, hk, h =>
    obtain ⟨x, r, rfl, h⟩ := qI_use h
    exact s_i2l hk h
  | .i2c, hk, h =>
    obtain ⟨x, r, rfl, h⟩ := qI_use h
    exact s_i2c hk h
  | .l2i, hk, h =>
    obtain ⟨x, r, rfl, h⟩ := qL_use h
    exact s_l2i hk h
  | .ladd, hk, h =>
    obtain ⟨x, z, r, rfl, h⟩ := qLL_use h
    exact s_ladd hk h
  | .lsub, hk, h =>
    obtain ⟨x, z, r, rfl, h⟩ := qLL_use h
    exact s_lsub hk h
  | .lmul, hk, h =>
    obtain ⟨x, z, r, rfl, h⟩ := qLL_use h
    exact s_lmul hk h
  | .land, hk, h =>
    obtain ⟨x, z, r, rfl, h⟩ := qLL_use h
    exact s_land hk h
  | .lor, hk, h =>
    obtain ⟨x, z, r, rfl, h⟩ := qLL_use h
    exact s_lor hk h
  | .lxor, hk, h =>
    obtain ⟨x, z, r, rfl, h⟩ := qLL_use h
    exact s_lxor hk h
  | .lcmp, hk, h =>
    obtain ⟨x, z, r, rfl, h⟩ := qLL_use h
    exact s_lcmp hk h
  | .ldiv, hk, h =>
    obtain ⟨x, z, r, rfl, h⟩ := qLL_use h
    exact s_ldiv h.1 hk h.2
  | .lshl, hk, h =>
    obtain ⟨x, z, r, rfl, h⟩ := qLI_use h
    exact s_lshl hk h
  | .lshr, hk, h =>
    obtain ⟨x, z, r, rfl, h⟩ := qLI_use h
    exact s_lshr hk h
  | .lushr, hk, h =>
    obtain ⟨x, z, r, rfl, h⟩ := qLI_use h
    exact s_lushr hk h
  | .dup, hk, h =>
    match st, h with
    | .inl x :: r, h => exact s_dupI hk h
    | .inr (.inr a) :: r, h => exact s_dupR hk h
  | .dup2, hk, h =>
    match st, h with
    | .inl x :: .inr (.inr a) :: r, h => exact s_dup2 hk h
  | .pop, hk, h =>
    match st, h with
    | .inl x :: r, h => exact s_popI hk h
    | .inr (.inr a) :: r, h => exact s_popR hk h
  | .goto o, hk, h =>
    exact s_goto hk h
  | .ifCond .eq o, hk, h =>
    obtain ⟨x, r, rfl, h⟩ := qI_use h
    exact s_if_eq hk h
  | .if_icmp .eq o, hk, h =>
    obtain ⟨x, z, r, rfl, h⟩ := qII_use h
    exact s_icmp_eq hk h
  | .ifCond .ne o, hk, h =>
    obtain ⟨x, r, rfl, h⟩ := qI_use h
    exact s_if_ne hk h
  | .if_icmp .ne o, hk, h =>
    obtain ⟨x, z, r, rfl, h⟩ := qII_use h
    exact s_icmp_ne hk h
  | .ifCond .lt o, hk, h =>
    obtain ⟨x, r, rfl, h⟩ := qI_use h
    exact s_if_lt hk h
  | .if_icmp .lt o, hk, h =>
    obtain ⟨x, z, r, rfl, h⟩ := qII_use h
    exact s_icmp_lt hk h
  | .ifCond .ge o, hk, h =>
    obtain ⟨x, r, rfl, h⟩ := qI_use h
    exact s_if_ge hk h
  | .if_icmp .ge o, hk, h =>
    obtain ⟨x, z, r, rfl, h⟩ := qII_use h
    exact s_icmp_ge hk h
  | .ifCond .gt o, hk, h =>
    obtain ⟨x, r, rfl, h⟩ := qI_use h
    exact s_if_gt hk h
  | .if_icmp .gt o, hk, h =>
    obtain ⟨x, z, r, rfl, h⟩ := qII_use h
    exact s_icmp_gt hk h
  | .ifCond .le o, hk, h =>
    obtain ⟨x, r, rfl, h⟩ := qI_use h
    exact s_if_le hk h
  | .if_icmp .le o, hk, h =>
    obtain ⟨x, z, r, rfl, h⟩ := qII_use h
    exact s_icmp_le hk h
  | .ifnull o, hk, h =>
    obtain ⟨x, r, rfl, h⟩ := qR_use h
    exact s_ifnull hk h
  | .ifnonnull o, hk, h =>
    obtain ⟨x, r, rfl, h⟩ := qR_use h
    exact s_ifnonnull hk h
  | .tableswitch df lo hi offs, hk, h =>
    obtain ⟨x, r, rfl, h⟩ := qI_use h
    exact s_table hk h
  | .lookupswitch df ps, hk, h =>
    obtain ⟨x, r, rfl, h⟩ := qI_use h
    exact s_lookup hk h
  | .getfield i, hk, h =>
    obtain ⟨x, r, rfl, h⟩ := qR_use h
    exact s_getfield hk h
  | .putfield i, hk, h =>
    match st, h with
    | .inl x :: .inr (.inr a) :: r, h => exact s_putI hk h
    | .inr (.inr v) :: .inr (.inr a) :: r, h => exact s_putR hk h
  | .getstatic i, hk, h =>
    exact s_getstatic hk h
  | .arraylength, hk, h =>
    obtain ⟨x, r, rfl, h⟩ := qR_use h
    exact s_alen hk h
  | .iaload, hk, h =>
    obtain ⟨a, i, r, rfl, h⟩ := qRI_use h
    exact s_iaload hk h
  | .baload, hk, h =>
    obtain ⟨a, i, r, rfl, h⟩ := qRI_use h
    exact s_baload hk h
  | .laload, hk, h =>
    obtain ⟨a, i, r, rfl, h⟩ := qRI_use h
    exact s_laload hk h
  | .aaload, hk, h =>
    obtain ⟨a, i, r, rfl, h⟩ := qRI_use h
    exact s_aaload hk h
  | .iastore, hk, h =>
    match st, h with
    | .inl x :: .inl i :: .inr (.inr a) :: r, h => exact s_iastore hk h
  | .bastore, hk, h =>
    match st, h with
    | .inl x :: .inl i :: .inr (.inr a) :: r, h => exact s_bastore hk h
  | .lastore, hk, h =>
    match st, h with
    | .inr (.inl x) :: .inl i :: .inr (.inr a) :: r, h => exact s_lastore hk h
  | .aastore, hk, h =>
    match st, h with
    | .inr (.inr v) :: .inl i :: .inr (.inr a) :: r, h => exact s_aastore hk h
  | .new i, hk, h =>
    exact s_new hk h
  | .newarray t, hk, h =>
    obtain ⟨x, r, rfl, h⟩ := qI_use h
    exact s_newarray hk h
  | .anewarray i, hk, h =>
    obtain ⟨x, r, rfl, h⟩ := qI_use h
    exact s_anewarray hk h
  | .multianewarray i dd, hk, h =>
    obtain ⟨x, z, r, rfl, h⟩ := qII_use h
    exact s_mna hk h
  | .invokespecial i, hk, h =>
    obtain ⟨h9, h⟩ := h
    obtain ⟨a, r, rfl, h1, h2, h⟩ := qR_use h
    exact s_objInit hk ⟨h9, h⟩ h1 h2
  | .invokestatic i, hk, h =>
    obtain ⟨h9, h⟩ := h
    match st, h with
    | .inl n :: .inl dp :: .inr (.inr b) :: .inl sp :: .inr (.inr a) :: r, h => exact s_copy hk h9 h
  | .ireturn, hk, h =>
    obtain ⟨x, r, e1, e2, h9⟩ := qI_use h
    subst e2
    subst e1
    exact s_ireturn hk h9
  | .lreturn, hk, h =>
    obtain ⟨x, r, e1, e2, h9⟩ := qL_use h
    subst e2
    subst e1
    exact s_lreturn hk h9
  | .areturn, hk, h =>
    obtain ⟨x, r, e1, e2, h9⟩ := qR_use h
    subst e2
    subst e1
    exact s_areturn hk h9
  | .return_, hk, h =>
    obtain ⟨e1, h9⟩ := h
    subst e1
    exact s_return hk h9
