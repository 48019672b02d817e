theorem ix_of {i : Int} {n : Nat} (h : w32 i = (n : Int)) : ix i = n := by
  unfold ix
  rw [h]
  rfl
theorem inR_of {i : Int} {n k : Nat} (h : w32 i = (n : Int)) (hn : n < k) : inR i k := by
  unfold inR
  rw [h]
  omega
theorem iShr_0 {x : Int} (h1 : 0 ≤ x) (h2 : x ≤ 2147483647) : iShr x 0 = x := by
  unfold iShr
  have e : (Int32.ofInt 0 &&& 31 : Int32) = 0 := by decide
  rw [e]
  have e2 : Int32.ofInt x >>> (0 : Int32) = Int32.ofInt x := by simp
  rw [e2]
  exact w32_id (by omega) h2
theorem lat_sign {x : Int} (h1 : 0 ≤ x) (h2 : x ≤ 127) : i2cF (iAnd x 255) = x := by
  obtain ⟨n, rfl⟩ := Int.eq_ofNat_of_zero_le h1
  have : ∀ n : Nat, n < 128 → i2cF (iAnd (n : Int) 255) = (n : Int) := by decide +kernel
  exact this n (by omega)
/-! ===== texts: length, charAt ===== -/
/-- a text: its own cell, its bytes' cell, its length, its signs -/
def Txt (m : Mem) (a v n : Nat) (g : Nat → Int) : Prop := mK m a = 20 ∧ mFR m 1280 a = v ∧ mFI m 1281 a = 0 ∧ mK m v = 21 ∧ mLen m v = n ∧ n ≤ 100 ∧ ∀ j, j < n → mAI m v j = g j ∧ 0 ≤ g j ∧ g j ≤ 127
section JText
variable {d : Nat} {m : Mem} {a v n : Nat} {g : Nat → Int} {Q : Nat → Option AV → Mem → Prop}
theorem e_coder (hT : Txt m a v n g) (h : Q 0 (some (vI 0)) m) : Ex d Str_coder 0 [some (vR a)] [] m Q := by
  have h1 : w32 1 = 1 := by decide
  have h0 : w32 0 = 0 := by decide
  refine Ex_step (tk_Str_coder rfl) ?_
  refine Ex_step (tk_Str_coder rfl) ⟨fun h3 => ?_, fun h3 => ?_⟩
  · simp only [cmpI, h1, h0] at h3
    exact absurd h3 (by decide)
  · simp only [cmpI, h1, h0] at h3
    refine Ex_step (tk_Str_coder rfl) ?_
    refine Ex_step (tk_Str_coder rfl) ⟨hT.1, ?_⟩
    refine Ex_step (tk_Str_coder rfl) ?_
    refine Ex_step (tk_Str_coder rfl) ⟨rfl, by show (0 : Int) ≤ mFI m 1281 a ∧ mFI m 1281 a ≤ 127; rw [hT.2.2.1]; decide, ?_⟩
    show Q 0 (some (vI (mFI m 1281 a))) m
    rw [hT.2.2.1]
    exact h
theorem e_isLatin1 (hT : Txt m a v n g) (h : Q 0 (some (vI 1)) m) : Ex d Str_isLatin1 0 [some (vR a)] [] m Q := by
  have h1 : w32 1 = 1 := by decide
  have h0 : w32 0 = 0 := by decide
  have hc : mFI m 1281 a = 0 := hT.2.2.1
  refine Ex_step (tk_Str_isLatin1 rfl) ?_
  refine Ex_step (tk_Str_isLatin1 rfl) ⟨fun h3 => ?_, fun h3 => ?_⟩
  · simp only [cmpI, h1, h0] at h3
    first | exact absurd h3 (by decide) | (exfalso; exact h10 (by show w32 (mFI m 1281 a) = 0; rw [hc]; exact h0))
  · simp only [cmpI, h1, h0] at h3
    refine Ex_step (tk_Str_isLatin1 rfl) ?_
    refine Ex_step (tk_Str_isLatin1 rfl) ⟨hT.1, ?_⟩
    refine Ex_step (tk_Str_isLatin1 rfl) ⟨fun h10 => ?_, fun h10 => ?_⟩
    · simp only [cmpI, h1, h0] at h10
      first | exact absurd h3 (by decide) | (exfalso; exact h10 (by show w32 (mFI m 1281 a) = 0; rw [hc]; exact h0))
    · simp only [cmpI, h1, h0] at h10
      refine Ex_step (tk_Str_isLatin1 rfl) ?_
      refine Ex_step (tk_Str_isLatin1 rfl) ?_
      refine Ex_step (tk_Str_isLatin1 rfl) ⟨rfl, by first | exact Or.inl rfl | exact Or.inr rfl | exact b2i_01 _ | assumption, ?_⟩
      exact h
theorem e_length (hT : Txt m a v n g) (h : Q 0 (some (vI (n : Int))) m) : Ex (d + 1) Str_length 0 [some (vR a)] [] m Q := by
  refine Ex_step (tk_Str_length rfl) ?_
  refine Ex_step (tk_Str_length rfl) ⟨hT.1, ?_⟩
  change Ex (d + 1) Str_length 4 _ [vR (mFR m 1280 a)] m Q
  rw [hT.2.1]
  refine Ex_step (tk_Str_length rfl) ⟨Or.inr (Or.inr (Or.inr (Or.inr (Or.inr (Or.inr (Or.inr hT.2.2.2.1)))))), ?_⟩
  refine Ex_step (tk_Str_length rfl) ?_
  refine Ex_cV0 (av := []) (tk_Str_length rfl) mk_Str_coder ⟨rfl, rfl, by decide, rfl, Nat.le_of_ble_eq_true rfl, Nat.le_of_ble_eq_true rfl⟩ (hT.1) (fun _ h => e_coder hT h) ?_
  refine Ex_step (tk_Str_length rfl) ?_
  refine Ex_step (tk_Str_length rfl) ⟨rfl, ?_⟩
  show Q 0 (some (vI (iShr (mLen m v : Int) 0))) m
  rw [hT.2.2.2.2.1, show iShr (n : Int) 0 = (n : Int) from by have := hT.2.2.2.2.2.1; exact iShr_0 (by omega) (by omega)]
  exact h
theorem e_preCheck {i : Int} {k z : Nat} (hi : i = (k : Int)) (hk : k < z) (hz : z ≤ 100) (h : Q 0 (some (vI i)) m) : Ex d Pre_checkIndex 0 [some (vI i), some (vI (z : Int)), some (vR 99)] [] m Q := by
  subst hi
  refine Ex_step (tk_Pre_checkIndex rfl) ?_
  refine Ex_step (tk_Pre_checkIndex rfl) ⟨fun h1 => ?_, fun h1 => ?_⟩
  · simp (disch := omega) only [cmpI, w32_id] at h1
    exfalso; omega
  · simp (disch := omega) only [cmpI, w32_id] at h1
    refine Ex_step (tk_Pre_checkIndex rfl) ?_
    refine Ex_step (tk_Pre_checkIndex rfl) ?_
    refine Ex_step (tk_Pre_checkIndex rfl) ⟨fun h6 => ?_, fun h6 => ?_⟩
    · simp (disch := omega) only [cmpI, w32_id] at h6
      refine Ex_step (tk_Pre_checkIndex rfl) ?_
      refine Ex_step (tk_Pre_checkIndex rfl) ⟨rfl, ?_⟩
      exact h
    · simp (disch := omega) only [cmpI, w32_id] at h6
      exfalso; omega
theorem e_strCheck {i : Int} {k z : Nat} (hi : i = (k : Int)) (hk : k < z) (hz : z ≤ 100) (h : Q 0 none m) : Ex (d + 1) Str_checkIndex 0 [some (vI i), some (vI (z : Int))] [] m Q := by
  refine Ex_step (tk_Str_checkIndex rfl) ?_
  refine Ex_step (tk_Str_checkIndex rfl) ?_
  refine Ex_step (tk_Str_checkIndex rfl) ?_
  refine Ex_cS0 (av := [vI i, vI (z : Int), vR 99]) (tk_Str_checkIndex rfl) mk_Pre_checkIndex ⟨rfl, by decide, rfl, rfl, rfl, Nat.le_of_ble_eq_true rfl, Nat.le_of_ble_eq_true rfl⟩ (fun _ h => e_preCheck hi hk hz h) ?_
  refine Ex_step (tk_Str_checkIndex rfl) ?_
  refine Ex_step (tk_Str_checkIndex rfl) ⟨rfl, ?_⟩
  exact h
theorem e_latCharAt {i : Int} {k : Nat} (hT : Txt m a v n g) (hi : i = (k : Int)) (hk : k < n) (h : Q 0 (some (vI (g k))) m) : Ex (d + 2) Lat_charAt 0 [some (vR v), some (vI i)] [] m Q := by
  have hn := hT.2.2.2.2.2.1
  have hg := hT.2.2.2.2.2.2 k hk
  refine Ex_step (tk_Lat_charAt rfl) ?_
  refine Ex_step (tk_Lat_charAt rfl) ?_
  refine Ex_step (tk_Lat_charAt rfl) ⟨Or.inr (Or.inr (Or.inr (Or.inr (Or.inr (Or.inr (Or.inr hT.2.2.2.1)))))), ?_⟩
  refine Ex_cS0 (av := [vI i, vI (mLen m v : Int)]) (tk_Lat_charAt rfl) mk_Str_checkIndex ⟨rfl, by decide, rfl, rfl, rfl, Nat.le_of_ble_eq_true rfl, Nat.le_of_ble_eq_true rfl⟩ (fun _ h => e_strCheck hi (by rw [hT.2.2.2.2.1]; exact hk) (by rw [hT.2.2.2.2.1]; exact hn) h) ?_
  refine Ex_step (tk_Lat_charAt rfl) ?_
  refine Ex_step (tk_Lat_charAt rfl) ?_
  refine Ex_step (tk_Lat_charAt rfl) ⟨Or.inr hT.2.2.2.1, inR_of (n := k) (by rw [hi]; exact w32_id (by omega) (by omega)) (by rw [hT.2.2.2.2.1]; exact hk), ?_⟩
  refine Ex_step (tk_Lat_charAt rfl) ?_
  refine Ex_step (tk_Lat_charAt rfl) ?_
  refine Ex_step (tk_Lat_charAt rfl) ?_
  refine Ex_step (tk_Lat_charAt rfl) ⟨rfl, by show 0 ≤ i2cF (iAnd (mAI m v (ix i)) 255) ∧ i2cF (iAnd (mAI m v (ix i)) 255) ≤ 127; rw [ix_of (n := k) (by rw [hi]; exact w32_id (by omega) (by omega)), hg.1, lat_sign hg.2.1 hg.2.2]; exact hg.2, ?_⟩
  show Q 0 (some (vI (i2cF (iAnd (mAI m v (ix i)) 255)))) m
  rw [ix_of (n := k) (by rw [hi]; exact w32_id (by omega) (by omega)), hg.1, lat_sign hg.2.1 hg.2.2]
  exact h
theorem e_charAt {i : Int} {k : Nat} (hT : Txt m a v n g) (hi : i = (k : Int)) (hk : k < n) (h : Q 0 (some (vI (g k))) m) : Ex (d + 3) Str_charAt 0 [some (vR a), some (vI i)] [] m Q := by
  have h1 : w32 1 = 1 := by decide
  have h0 : w32 0 = 0 := by decide
  have hg := hT.2.2.2.2.2.2 k hk
  refine Ex_step (tk_Str_charAt rfl) ?_
  refine Ex_cV0 (av := []) (tk_Str_charAt rfl) mk_Str_isLatin1 ⟨rfl, rfl, by decide, rfl, Nat.le_of_ble_eq_true rfl, Nat.le_of_ble_eq_true rfl⟩ (hT.1) (fun _ h => e_isLatin1 hT h) ?_
  refine Ex_step (tk_Str_charAt rfl) ⟨fun h4 => ?_, fun h4 => ?_⟩
  · simp only [cmpI, h1, h0] at h4
    exact absurd h4 (by decide)
  · simp only [cmpI, h1, h0] at h4
    refine Ex_step (tk_Str_charAt rfl) ?_
    refine Ex_step (tk_Str_charAt rfl) ⟨hT.1, ?_⟩
    change Ex (d + 3) Str_charAt 11 _ [vR (mFR m 1280 a)] m Q
    rw [hT.2.1]
    refine Ex_step (tk_Str_charAt rfl) ?_
    refine Ex_cS0 (av := [vR v, vI i]) (tk_Str_charAt rfl) mk_Lat_charAt ⟨rfl, by decide, rfl, rfl, rfl, Nat.le_of_ble_eq_true rfl, Nat.le_of_ble_eq_true rfl⟩ (fun _ h => e_latCharAt hT hi hk h) ?_
    refine Ex_step (tk_Str_charAt rfl) ⟨rfl, hg.2, ?_⟩
    exact h
end JText
