/-! ===== reading behind a write ===== -/
theorem mN_sFI (m : Mem) (f a : Nat) (v : Int) : mN (sFI m f a v) = mN m := rfl
theorem mN_sFR (m : Mem) (f a v : Nat) : mN (sFR m f a v) = mN m := rfl
theorem mN_sAI (m : Mem) (a : Nat) (r : Nat → Int) : mN (sAI m a r) = mN m := rfl
theorem mN_sAL (m : Mem) (a : Nat) (r : Nat → Int) : mN (sAL m a r) = mN m := rfl
theorem mN_sAR (m : Mem) (a : Nat) (r : Nat → Nat) : mN (sAR m a r) = mN m := rfl
theorem mZ_sFI (m : Mem) (f a : Nat) (v : Int) : mZ (sFI m f a v) = mZ m := rfl
theorem mZ_sFR (m : Mem) (f a v : Nat) : mZ (sFR m f a v) = mZ m := rfl
theorem mZ_sAI (m : Mem) (a : Nat) (r : Nat → Int) : mZ (sAI m a r) = mZ m := rfl
theorem mZ_sAL (m : Mem) (a : Nat) (r : Nat → Int) : mZ (sAL m a r) = mZ m := rfl
theorem mZ_sAR (m : Mem) (a : Nat) (r : Nat → Nat) : mZ (sAR m a r) = mZ m := rfl
theorem mK_sFI (m : Mem) (f a : Nat) (v : Int) : mK (sFI m f a v) = mK m := rfl
theorem mK_sFR (m : Mem) (f a v : Nat) : mK (sFR m f a v) = mK m := rfl
theorem mK_sAI (m : Mem) (a : Nat) (r : Nat → Int) : mK (sAI m a r) = mK m := rfl
theorem mK_sAL (m : Mem) (a : Nat) (r : Nat → Int) : mK (sAL m a r) = mK m := rfl
theorem mK_sAR (m : Mem) (a : Nat) (r : Nat → Nat) : mK (sAR m a r) = mK m := rfl
theorem mLen_sFI (m : Mem) (f a : Nat) (v : Int) : mLen (sFI m f a v) = mLen m := rfl
theorem mLen_sFR (m : Mem) (f a v : Nat) : mLen (sFR m f a v) = mLen m := rfl
theorem mLen_sAI (m : Mem) (a : Nat) (r : Nat → Int) : mLen (sAI m a r) = mLen m := rfl
theorem mLen_sAL (m : Mem) (a : Nat) (r : Nat → Int) : mLen (sAL m a r) = mLen m := rfl
theorem mLen_sAR (m : Mem) (a : Nat) (r : Nat → Nat) : mLen (sAR m a r) = mLen m := rfl
theorem mFI_sFI (m : Mem) (f a : Nat) (v : Int) (f1 a1 : Nat) : mFI (sFI m f a v) f1 a1 = if f1 = f ∧ a1 = a then v else mFI m f1 a1 := rfl
theorem mFI_sFR (m : Mem) (f a v : Nat) : mFI (sFR m f a v) = mFI m := rfl
theorem mFI_sAI (m : Mem) (a : Nat) (r : Nat → Int) : mFI (sAI m a r) = mFI m := rfl
theorem mFI_sAL (m : Mem) (a : Nat) (r : Nat → Int) : mFI (sAL m a r) = mFI m := rfl
theorem mFI_sAR (m : Mem) (a : Nat) (r : Nat → Nat) : mFI (sAR m a r) = mFI m := rfl
theorem mFR_sFI (m : Mem) (f a : Nat) (v : Int) : mFR (sFI m f a v) = mFR m := rfl
theorem mFR_sFR (m : Mem) (f a v : Nat) (f1 a1 : Nat) : mFR (sFR m f a v) f1 a1 = if f1 = f ∧ a1 = a then v else mFR m f1 a1 := rfl
theorem mFR_sAI (m : Mem) (a : Nat) (r : Nat → Int) : mFR (sAI m a r) = mFR m := rfl
theorem mFR_sAL (m : Mem) (a : Nat) (r : Nat → Int) : mFR (sAL m a r) = mFR m := rfl
theorem mFR_sAR (m : Mem) (a : Nat) (r : Nat → Nat) : mFR (sAR m a r) = mFR m := rfl
theorem mAI_sFI (m : Mem) (f a : Nat) (v : Int) : mAI (sFI m f a v) = mAI m := rfl
theorem mAI_sFR (m : Mem) (f a v : Nat) : mAI (sFR m f a v) = mAI m := rfl
theorem mAI_sAI (m : Mem) (a : Nat) (r : Nat → Int) (a1 : Nat) : mAI (sAI m a r) a1 = if a1 = a then r else mAI m a1 := rfl
theorem mAI_sAL (m : Mem) (a : Nat) (r : Nat → Int) : mAI (sAL m a r) = mAI m := rfl
theorem mAI_sAR (m : Mem) (a : Nat) (r : Nat → Nat) : mAI (sAR m a r) = mAI m := rfl
theorem mAL_sFI (m : Mem) (f a : Nat) (v : Int) : mAL (sFI m f a v) = mAL m := rfl
theorem mAL_sFR (m : Mem) (f a v : Nat) : mAL (sFR m f a v) = mAL m := rfl
theorem mAL_sAI (m : Mem) (a : Nat) (r : Nat → Int) : mAL (sAI m a r) = mAL m := rfl
theorem mAL_sAL (m : Mem) (a : Nat) (r : Nat → Int) (a1 : Nat) : mAL (sAL m a r) a1 = if a1 = a then r else mAL m a1 := rfl
theorem mAL_sAR (m : Mem) (a : Nat) (r : Nat → Nat) : mAL (sAR m a r) = mAL m := rfl
theorem mAR_sFI (m : Mem) (f a : Nat) (v : Int) : mAR (sFI m f a v) = mAR m := rfl
theorem mAR_sFR (m : Mem) (f a v : Nat) : mAR (sFR m f a v) = mAR m := rfl
theorem mAR_sAI (m : Mem) (a : Nat) (r : Nat → Int) : mAR (sAI m a r) = mAR m := rfl
theorem mAR_sAL (m : Mem) (a : Nat) (r : Nat → Int) : mAR (sAL m a r) = mAR m := rfl
theorem mAR_sAR (m : Mem) (a : Nat) (r : Nat → Nat) (a1 : Nat) : mAR (sAR m a r) a1 = if a1 = a then r else mAR m a1 := rfl
theorem w32_id {x : Int} (h1 : -2147483648 ≤ x) (h2 : x ≤ 2147483647) : w32 x = x := Int32.toInt_ofInt_of_le (by omega) (by omega)
theorem w64_id {x : Int} (h1 : -9223372036854775808 ≤ x) (h2 : x ≤ 9223372036854775807) : w64 x = x := Int64.toInt_ofInt_of_le (by omega) (by omega)
theorem w32_lo (x : Int) : -2147483648 ≤ w32 x := by
  have := Int32.le_toInt (Int32.ofInt x)
  unfold w32
  omega
theorem w32_hi (x : Int) : w32 x ≤ 2147483647 := by
  have := Int32.toInt_lt (Int32.ofInt x)
  unfold w32
  omega
theorem ix_id {x : Int} (h1 : 0 ≤ x) (h2 : x ≤ 2147483647) : ix x = x.toNat := by
  unfold ix
  rw [w32_id (by omega) h2]
theorem inR_id {x : Int} {n : Nat} (h1 : 0 ≤ x) (h2 : x < (n : Int)) (h3 : n ≤ 2147483647) : inR x n := by
  unfold inR
  rw [w32_id (by omega) (by omega)]
  exact ⟨h1, h2⟩
theorem ix_nat (n : Nat) (h : n ≤ 2147483647) : ix (n : Int) = n := by
  rw [ix_id (by omega) (by omega)]
  rfl
theorem inR_nat {k n : Nat} (h : k < n) (h3 : n ≤ 2147483647) : inR (k : Int) n := inR_id (by omega) (by omega) h3
/-! ===== calls that end in one way ===== -/
section Calls0
variable {d y pc : Nat} {ls : Ls} {r : List AV} {m m1 : Mem} {v1 : Option AV} {Q : Nat → Option AV → Mem → Prop} {nx idx : Nat} {rs : List Nat} {c0 : Int} {av : List AV}
theorem Ex_cV0 {y1 a : Nat} (hk : okE y pc (.invokevirtual idx, nx, rs, c0)) (hm : mOk y1) (h9 : n1 (.invokevirtual idx, nx, rs, c0) = y1 ∧ mI y1 0 = 0 ∧ (mNm y1).name ≠ "<init>" ∧ av.length = mI y1 2 ∧ catS r ≤ 8 ∧ (laySl (vR a :: av)).length ≤ mL y1) (hka : mK m a = mI y1 1) (h : ∀ Q1 : Nat → Option AV → Mem → Prop, Q1 0 v1 m1 → Ex d y1 0 (entL y1 (vR a :: av)) [] m Q1)
    (k : Ex (d + 1) y nx ls (v1.toList ++ r) m1 Q) : Ex (d + 1) y pc ls (av.reverse ++ vR a :: r) m Q :=
  Ex_cV hk hm h9 hka (h (fun o v m2 => o = 0 ∧ v = v1 ∧ m2 = m1) ⟨rfl, rfl, rfl⟩) (by
    rintro o v m2 ⟨rfl, rfl, rfl⟩
    exact ⟨fun _ => k, fun z => absurd rfl z⟩)
theorem Ex_cS0 {y1 : Nat} (hk : okE y pc (.invokestatic idx, nx, rs, c0)) (hm : mOk y1) (h9 : n1 (.invokestatic idx, nx, rs, c0) = y1 ∧ y1 ≠ 998 ∧ mI y1 0 = 1 ∧ mH y1 = [] ∧ av.length = mI y1 2 ∧ catS r ≤ 8 ∧ (laySl av).length ≤ mL y1) (h : ∀ Q1 : Nat → Option AV → Mem → Prop, Q1 0 v1 m1 → Ex d y1 0 (entL y1 av) [] m Q1)
    (k : Ex (d + 1) y nx ls (v1.toList ++ r) m1 Q) : Ex (d + 1) y pc ls (av.reverse ++ r) m Q :=
  Ex_cS hk hm h9 (h (fun o v m2 => o = 0 ∧ v = v1 ∧ m2 = m1) ⟨rfl, rfl, rfl⟩) (by
    rintro o v m2 ⟨rfl, rfl, rfl⟩
    exact ⟨fun _ => k, fun z => absurd rfl z⟩)
theorem Ex_cI0 {y1 a : Nat} (hk : okE y pc (.invokespecial idx, nx, rs, c0)) (hm : mOk y1) (h9 : n1 (.invokespecial idx, nx, rs, c0) = y1 ∧ y1 ≠ 999 ∧ mI y1 0 = 0 ∧ mR y1 = none ∧ av.length = mI y1 2 ∧ catS r ≤ 8 ∧ (laySl (vR a :: av)).length ≤ mL y1) (ha : 100 ≤ a) (h : ∀ Q1 : Nat → Option AV → Mem → Prop, Q1 0 v1 m1 → Ex d y1 0 (entL y1 (vR a :: av)) [] m Q1)
    (k : Ex (d + 1) y nx ls (v1.toList ++ r) m1 Q) : Ex (d + 1) y pc ls (av.reverse ++ vR a :: r) m Q :=
  Ex_cI hk hm h9 ha (h (fun o v m2 => o = 0 ∧ v = v1 ∧ m2 = m1) ⟨rfl, rfl, rfl⟩) (by
    rintro o v m2 ⟨rfl, rfl, rfl⟩
    exact ⟨fun _ => k, fun z => absurd rfl z⟩)
end Calls0
