/-! ===== the reference's memory: numbers, rows of ints, rows of longs ===== -/
abbrev aX : Nat := 100
abbrev aM : Nat := 362
abbrev aOut : Nat := 386
def MS (m : Mem) (I : Nat → Int) (A L : Nat → Nat → Int) : Mem := (mN m, mZ m, mK m, mLen m, (fun f a => if a = aM ∧ 768 ≤ f then I (f - 768) else mFI m f a), mFR m, (fun a => if aM < a ∧ a ≤ aM + 23 then A (a - aM) else mAI m a), (fun a => if aM < a ∧ a ≤ aM + 23 then L (a - aM) else mAL m a), mAR m)
/-- where its rows lie -/
def MW (m : Mem) : Prop := mK m aM = 12 ∧
  (mFR m 769 aM = 363 ∧ mFR m 776 aM = 364 ∧ mFR m 777 aM = 365 ∧ mFR m 778 aM = 366 ∧ mFR m 779 aM = 367 ∧ mFR m 785 aM = 376 ∧ mFR m 786 aM = 377 ∧ mFR m 787 aM = 378 ∧ mFR m 788 aM = 379 ∧ mFR m 789 aM = 380 ∧ mFR m 800 aM = 381 ∧ mFR m 801 aM = 382 ∧ mFR m 802 aM = 383 ∧ mFR m 803 aM = 384 ∧ mFR m 804 aM = 385) ∧
  (mK m 363 = 13 ∧ mK m 364 = 13 ∧ mK m 365 = 13 ∧ mK m 366 = 13 ∧ mK m 367 = 19 ∧ mK m 368 = 13 ∧ mK m 369 = 13 ∧ mK m 370 = 13 ∧ mK m 371 = 13 ∧ mK m 372 = 13 ∧ mK m 373 = 13 ∧ mK m 374 = 13 ∧ mK m 375 = 13 ∧ mK m 376 = 13 ∧ mK m 377 = 14 ∧ mK m 378 = 14 ∧ mK m 379 = 14 ∧ mK m 380 = 14 ∧ mK m 381 = 14 ∧ mK m 382 = 14 ∧ mK m 383 = 15 ∧ mK m 384 = 13 ∧ mK m 385 = 13) ∧
  (mLen m 363 = 2 ∧ mLen m 364 = 800 ∧ mLen m 365 = 1920 ∧ mLen m 366 = 1920 ∧ mLen m 367 = 8 ∧ mLen m 368 = 1920 ∧ mLen m 369 = 1920 ∧ mLen m 370 = 1920 ∧ mLen m 371 = 1920 ∧ mLen m 372 = 1920 ∧ mLen m 373 = 1920 ∧ mLen m 374 = 1920 ∧ mLen m 375 = 1920 ∧ mLen m 376 = 100 ∧ mLen m 377 = 10 ∧ mLen m 378 = 10 ∧ mLen m 379 = 10 ∧ mLen m 380 = 10 ∧ mLen m 381 = 1300 ∧ mLen m 382 = 5 ∧ mLen m 383 = 100 ∧ mLen m 384 = 100 ∧ mLen m 385 = 6) ∧
  ∀ j, j < 8 → mAR m 367 j = 368 + j
theorem MW.k {m : Mem} (h : MW m) : mK m aM = 12 := h.1
theorem MW.r1 {m : Mem} (h : MW m) : mFR m 769 aM = 363 := h.2.1.1
theorem MW.r8 {m : Mem} (h : MW m) : mFR m 776 aM = 364 := h.2.1.2.1
theorem MW.r9 {m : Mem} (h : MW m) : mFR m 777 aM = 365 := h.2.1.2.2.1
theorem MW.r10 {m : Mem} (h : MW m) : mFR m 778 aM = 366 := h.2.1.2.2.2.1
theorem MW.r11 {m : Mem} (h : MW m) : mFR m 779 aM = 367 := h.2.1.2.2.2.2.1
theorem MW.r17 {m : Mem} (h : MW m) : mFR m 785 aM = 376 := h.2.1.2.2.2.2.2.1
theorem MW.r18 {m : Mem} (h : MW m) : mFR m 786 aM = 377 := h.2.1.2.2.2.2.2.2.1
theorem MW.r19 {m : Mem} (h : MW m) : mFR m 787 aM = 378 := h.2.1.2.2.2.2.2.2.2.1
theorem MW.r20 {m : Mem} (h : MW m) : mFR m 788 aM = 379 := h.2.1.2.2.2.2.2.2.2.2.1
theorem MW.r21 {m : Mem} (h : MW m) : mFR m 789 aM = 380 := h.2.1.2.2.2.2.2.2.2.2.2.1
theorem MW.r32 {m : Mem} (h : MW m) : mFR m 800 aM = 381 := h.2.1.2.2.2.2.2.2.2.2.2.2.1
theorem MW.r33 {m : Mem} (h : MW m) : mFR m 801 aM = 382 := h.2.1.2.2.2.2.2.2.2.2.2.2.2.1
theorem MW.r34 {m : Mem} (h : MW m) : mFR m 802 aM = 383 := h.2.1.2.2.2.2.2.2.2.2.2.2.2.2.1
theorem MW.r35 {m : Mem} (h : MW m) : mFR m 803 aM = 384 := h.2.1.2.2.2.2.2.2.2.2.2.2.2.2.2.1
theorem MW.r36 {m : Mem} (h : MW m) : mFR m 804 aM = 385 := h.2.1.2.2.2.2.2.2.2.2.2.2.2.2.2.2
theorem MW.k1 {m : Mem} (h : MW m) : mK m 363 = 13 := h.2.2.1.1
theorem MW.n1 {m : Mem} (h : MW m) : mLen m 363 = 2 := h.2.2.2.1.1
theorem MW.k2 {m : Mem} (h : MW m) : mK m 364 = 13 := h.2.2.1.2.1
theorem MW.n2 {m : Mem} (h : MW m) : mLen m 364 = 800 := h.2.2.2.1.2.1
theorem MW.k3 {m : Mem} (h : MW m) : mK m 365 = 13 := h.2.2.1.2.2.1
theorem MW.n3 {m : Mem} (h : MW m) : mLen m 365 = 1920 := h.2.2.2.1.2.2.1
theorem MW.k4 {m : Mem} (h : MW m) : mK m 366 = 13 := h.2.2.1.2.2.2.1
theorem MW.n4 {m : Mem} (h : MW m) : mLen m 366 = 1920 := h.2.2.2.1.2.2.2.1
theorem MW.k5 {m : Mem} (h : MW m) : mK m 367 = 19 := h.2.2.1.2.2.2.2.1
theorem MW.n5 {m : Mem} (h : MW m) : mLen m 367 = 8 := h.2.2.2.1.2.2.2.2.1
theorem MW.k6 {m : Mem} (h : MW m) : mK m 368 = 13 := h.2.2.1.2.2.2.2.2.1
theorem MW.n6 {m : Mem} (h : MW m) : mLen m 368 = 1920 := h.2.2.2.1.2.2.2.2.2.1
theorem MW.k7 {m : Mem} (h : MW m) : mK m 369 = 13 := h.2.2.1.2.2.2.2.2.2.1
theorem MW.n7 {m : Mem} (h : MW m) : mLen m 369 = 1920 := h.2.2.2.1.2.2.2.2.2.2.1
theorem MW.k8 {m : Mem} (h : MW m) : mK m 370 = 13 := h.2.2.1.2.2.2.2.2.2.2.1
theorem MW.n8 {m : Mem} (h : MW m) : mLen m 370 = 1920 := h.2.2.2.1.2.2.2.2.2.2.2.1
theorem MW.k9 {m : Mem} (h : MW m) : mK m 371 = 13 := h.2.2.1.2.2.2.2.2.2.2.2.1
theorem MW.n9 {m : Mem} (h : MW m) : mLen m 371 = 1920 := h.2.2.2.1.2.2.2.2.2.2.2.2.1
theorem MW.k10 {m : Mem} (h : MW m) : mK m 372 = 13 := h.2.2.1.2.2.2.2.2.2.2.2.2.1
theorem MW.n10 {m : Mem} (h : MW m) : mLen m 372 = 1920 := h.2.2.2.1.2.2.2.2.2.2.2.2.2.1
theorem MW.k11 {m : Mem} (h : MW m) : mK m 373 = 13 := h.2.2.1.2.2.2.2.2.2.2.2.2.2.1
theorem MW.n11 {m : Mem} (h : MW m) : mLen m 373 = 1920 := h.2.2.2.1.2.2.2.2.2.2.2.2.2.2.1
theorem MW.k12 {m : Mem} (h : MW m) : mK m 374 = 13 := h.2.2.1.2.2.2.2.2.2.2.2.2.2.2.1
theorem MW.n12 {m : Mem} (h : MW m) : mLen m 374 = 1920 := h.2.2.2.1.2.2.2.2.2.2.2.2.2.2.2.1
theorem MW.k13 {m : Mem} (h : MW m) : mK m 375 = 13 := h.2.2.1.2.2.2.2.2.2.2.2.2.2.2.2.1
theorem MW.n13 {m : Mem} (h : MW m) : mLen m 375 = 1920 := h.2.2.2.1.2.2.2.2.2.2.2.2.2.2.2.2.1
theorem MW.k14 {m : Mem} (h : MW m) : mK m 376 = 13 := h.2.2.1.2.2.2.2.2.2.2.2.2.2.2.2.2.1
theorem MW.n14 {m : Mem} (h : MW m) : mLen m 376 = 100 := h.2.2.2.1.2.2.2.2.2.2.2.2.2.2.2.2.2.1
theorem MW.k15 {m : Mem} (h : MW m) : mK m 377 = 14 := h.2.2.1.2.2.2.2.2.2.2.2.2.2.2.2.2.2.1
theorem MW.n15 {m : Mem} (h : MW m) : mLen m 377 = 10 := h.2.2.2.1.2.2.2.2.2.2.2.2.2.2.2.2.2.2.1
theorem MW.k16 {m : Mem} (h : MW m) : mK m 378 = 14 := h.2.2.1.2.2.2.2.2.2.2.2.2.2.2.2.2.2.2.1
theorem MW.n16 {m : Mem} (h : MW m) : mLen m 378 = 10 := h.2.2.2.1.2.2.2.2.2.2.2.2.2.2.2.2.2.2.2.1
theorem MW.k17 {m : Mem} (h : MW m) : mK m 379 = 14 := h.2.2.1.2.2.2.2.2.2.2.2.2.2.2.2.2.2.2.2.1
theorem MW.n17 {m : Mem} (h : MW m) : mLen m 379 = 10 := h.2.2.2.1.2.2.2.2.2.2.2.2.2.2.2.2.2.2.2.2.1
theorem MW.k18 {m : Mem} (h : MW m) : mK m 380 = 14 := h.2.2.1.2.2.2.2.2.2.2.2.2.2.2.2.2.2.2.2.2.1
theorem MW.n18 {m : Mem} (h : MW m) : mLen m 380 = 10 := h.2.2.2.1.2.2.2.2.2.2.2.2.2.2.2.2.2.2.2.2.2.1
theorem MW.k19 {m : Mem} (h : MW m) : mK m 381 = 14 := h.2.2.1.2.2.2.2.2.2.2.2.2.2.2.2.2.2.2.2.2.2.1
theorem MW.n19 {m : Mem} (h : MW m) : mLen m 381 = 1300 := h.2.2.2.1.2.2.2.2.2.2.2.2.2.2.2.2.2.2.2.2.2.2.1
theorem MW.k20 {m : Mem} (h : MW m) : mK m 382 = 14 := h.2.2.1.2.2.2.2.2.2.2.2.2.2.2.2.2.2.2.2.2.2.2.1
theorem MW.n20 {m : Mem} (h : MW m) : mLen m 382 = 5 := h.2.2.2.1.2.2.2.2.2.2.2.2.2.2.2.2.2.2.2.2.2.2.2.1
theorem MW.k21 {m : Mem} (h : MW m) : mK m 383 = 15 := h.2.2.1.2.2.2.2.2.2.2.2.2.2.2.2.2.2.2.2.2.2.2.2.1
theorem MW.n21 {m : Mem} (h : MW m) : mLen m 383 = 100 := h.2.2.2.1.2.2.2.2.2.2.2.2.2.2.2.2.2.2.2.2.2.2.2.2.1
theorem MW.k22 {m : Mem} (h : MW m) : mK m 384 = 13 := h.2.2.1.2.2.2.2.2.2.2.2.2.2.2.2.2.2.2.2.2.2.2.2.2.1
theorem MW.n22 {m : Mem} (h : MW m) : mLen m 384 = 100 := h.2.2.2.1.2.2.2.2.2.2.2.2.2.2.2.2.2.2.2.2.2.2.2.2.2.1
theorem MW.k23 {m : Mem} (h : MW m) : mK m 385 = 13 := h.2.2.1.2.2.2.2.2.2.2.2.2.2.2.2.2.2.2.2.2.2.2.2.2.2
theorem MW.n23 {m : Mem} (h : MW m) : mLen m 385 = 6 := h.2.2.2.1.2.2.2.2.2.2.2.2.2.2.2.2.2.2.2.2.2.2.2.2.2.2
theorem MS_sFI (m : Mem) (I : Nat → Int) (A L : Nat → Nat → Int) (k : Nat) (v : Int) : sFI (MS m I A L) (k + 768) aM v = MS m (up1 I k v) A L := by
  have e : (fun f a => if f = k + 768 ∧ a = aM then v else mFI (MS m I A L) f a) = (fun f a => if a = aM ∧ 768 ≤ f then up1 I k v (f - 768) else mFI m f a) := by
    funext f a
    show (if f = k + 768 ∧ a = aM then v else (if a = aM ∧ 768 ≤ f then I (f - 768) else mFI m f a)) = _
    unfold up1
    by_cases h1 : a = aM ∧ 768 ≤ f
    · by_cases h2 : f = k + 768
      · rw [if_pos ⟨h2, h1.1⟩, if_pos h1, if_pos (by omega)]
      · rw [if_neg (fun z => h2 z.1), if_pos h1, if_pos h1, if_neg (by omega)]
    · rw [if_neg (fun z => h1 ⟨z.2, by omega⟩), if_neg h1, if_neg h1]
  unfold sFI
  rw [e]
  rfl
theorem MS_sAI (m : Mem) (I : Nat → Int) (A L : Nat → Nat → Int) (j : Nat) (hj : 1 ≤ j ∧ j ≤ 23) (r : Nat → Int) : sAI (MS m I A L) (aM + j) r = MS m I (up1 A j r) L := by
  have e : (fun a => if a = aM + j then r else mAI (MS m I A L) a) = (fun a => if aM < a ∧ a ≤ aM + 23 then up1 A j r (a - aM) else mAI m a) := by
    funext a
    show (if a = aM + j then r else (if aM < a ∧ a ≤ aM + 23 then A (a - aM) else mAI m a)) = _
    unfold up1
    by_cases h1 : aM < a ∧ a ≤ aM + 23
    · by_cases h2 : a = aM + j
      · rw [if_pos h2, if_pos h1, if_pos (by omega)]
      · rw [if_neg h2, if_pos h1, if_pos h1, if_neg (by omega)]
    · rw [if_neg (by omega), if_neg h1, if_neg h1]
  unfold sAI
  rw [e]
  rfl
theorem MS_sAL (m : Mem) (I : Nat → Int) (A L : Nat → Nat → Int) (j : Nat) (hj : 1 ≤ j ∧ j ≤ 23) (r : Nat → Int) : sAL (MS m I A L) (aM + j) r = MS m I A (up1 L j r) := by
  have e : (fun a => if a = aM + j then r else mAL (MS m I A L) a) = (fun a => if aM < a ∧ a ≤ aM + 23 then up1 L j r (a - aM) else mAL m a) := by
    funext a
    show (if a = aM + j then r else (if aM < a ∧ a ≤ aM + 23 then L (a - aM) else mAL m a)) = _
    unfold up1
    by_cases h1 : aM < a ∧ a ≤ aM + 23
    · by_cases h2 : a = aM + j
      · rw [if_pos h2, if_pos h1, if_pos (by omega)]
      · rw [if_neg h2, if_pos h1, if_pos h1, if_neg (by omega)]
    · rw [if_neg (by omega), if_neg h1, if_neg h1]
  unfold sAL
  rw [e]
  rfl
theorem MS_self (m : Mem) : MS m (fun k => mFI m (k + 768) aM) (fun j => mAI m (aM + j)) (fun j => mAL m (aM + j)) = m := by
  have e1 : (fun f a => if a = aM ∧ 768 ≤ f then mFI m (f - 768 + 768) aM else mFI m f a) = mFI m := by
    funext f a
    by_cases h1 : a = aM ∧ 768 ≤ f
    · rw [if_pos h1, h1.1, Nat.sub_add_cancel h1.2]
    · rw [if_neg h1]
  have e2 : (fun a => if aM < a ∧ a ≤ aM + 23 then mAI m (aM + (a - aM)) else mAI m a) = mAI m := by
    funext a
    by_cases h1 : aM < a ∧ a ≤ aM + 23
    · rw [if_pos h1, show aM + (a - aM) = a by omega]
    · rw [if_neg h1]
  have e3 : (fun a => if aM < a ∧ a ≤ aM + 23 then mAL m (aM + (a - aM)) else mAL m a) = mAL m := by
    funext a
    by_cases h1 : aM < a ∧ a ≤ aM + 23
    · rw [if_pos h1, show aM + (a - aM) = a by omega]
    · rw [if_neg h1]
  show (mN m, mZ m, mK m, mLen m, (fun f a => if a = aM ∧ 768 ≤ f then mFI m (f - 768 + 768) aM else mFI m f a), mFR m, (fun a => if aM < a ∧ a ≤ aM + 23 then mAI m (aM + (a - aM)) else mAI m a), (fun a => if aM < a ∧ a ≤ aM + 23 then mAL m (aM + (a - aM)) else mAL m a), mAR m) = m
  rw [e1, e2, e3]
  rfl
theorem mFI_MS (m : Mem) (I : Nat → Int) (A L : Nat → Nat → Int) (f a : Nat) : mFI (MS m I A L) f a = if a = aM ∧ 768 ≤ f then I (f - 768) else mFI m f a := rfl
theorem MS_FI (m : Mem) (I : Nat → Int) (A L : Nat → Nat → Int) (k : Nat) : mFI (MS m I A L) (k + 768) aM = I k := by
  rw [mFI_MS, if_pos ⟨rfl, Nat.le_add_left _ _⟩, Nat.add_sub_cancel]
theorem MS_AI (m : Mem) (I : Nat → Int) (A L : Nat → Nat → Int) (j : Nat) (hj : 1 ≤ j ∧ j ≤ 23) : mAI (MS m I A L) (aM + j) = A j := by
  show (if aM < aM + j ∧ aM + j ≤ aM + 23 then A (aM + j - aM) else mAI m (aM + j)) = A j
  rw [if_pos (by omega), Nat.add_sub_cancel_left]
theorem MS_AL (m : Mem) (I : Nat → Int) (A L : Nat → Nat → Int) (j : Nat) (hj : 1 ≤ j ∧ j ≤ 23) : mAL (MS m I A L) (aM + j) = L j := by
  show (if aM < aM + j ∧ aM + j ≤ aM + 23 then L (aM + j - aM) else mAL m (aM + j)) = L j
  rw [if_pos (by omega), Nat.add_sub_cancel_left]
theorem up1_same {α : Type} (f : Nat → α) (k : Nat) (x z : α) : up1 (up1 f k x) k z = up1 f k z := by
  funext j
  unfold up1
  split <;> rfl
theorem up1_self {α : Type} {f : Nat → α} {k : Nat} {x : α} (h : f k = x) : up1 f k x = f := by
  funext j
  unfold up1
  split
  · next e => rw [e, h]
  · rfl
theorem up1_at {α : Type} (f : Nat → α) (k : Nat) (x : α) : up1 f k x k = x := if_pos rfl
theorem up1_ne {α : Type} (f : Nat → α) {k j : Nat} (x : α) (h : j ≠ k) : up1 f k x j = f j := if_neg h
theorem up1_comm {α : Type} (f : Nat → α) {k j : Nat} (x z : α) (h : j ≠ k) : up1 (up1 f k x) j z = up1 (up1 f j z) k x := by
  funext i
  unfold up1
  by_cases h1 : i = j
  · rw [if_pos h1, if_neg (by omega), if_pos h1]
  · rw [if_neg h1]
    by_cases h2 : i = k
    · rw [if_pos h2, if_pos h2]
    · rw [if_neg h2, if_neg h2, if_neg h1]
section MSteps
variable {d y pc nx idx : Nat} {rs : List Nat} {c0 : Int} {ls : Ls} {r : List AV} {m : Mem} {I : Nat → Int} {A L : Nat → Nat → Int} {Q : Nat → Option AV → Mem → Prop}
theorem gMI {k p0 : Nat} (hk : okE y pc (.getfield idx, nx, [k + 768, 12, 0, p0], c0)) (hM : MW m) (h : Ex d y nx ls (vI (I k) :: r) (MS m I A L) Q) : Ex d y pc ls (vR aM :: r) (MS m I A L) Q := by
  refine Ex_step hk ⟨hM.k, ?_⟩
  show Ex d y nx ls (vI (mFI (MS m I A L) (k + 768) aM) :: r) (MS m I A L) Q
  rw [MS_FI]
  exact h
theorem gMR {f p0 a : Nat} (hk : okE y pc (.getfield idx, nx, [f, 12, 2, p0], c0)) (hM : MW m) (hr : mFR m f aM = a) (h : Ex d y nx ls (vR a :: r) (MS m I A L) Q) : Ex d y pc ls (vR aM :: r) (MS m I A L) Q := by
  refine Ex_step hk ⟨hM.k, ?_⟩
  show Ex d y nx ls (vR (mFR m f aM) :: r) (MS m I A L) Q
  rw [hr]
  exact h
theorem pMI {k p0 : Nat} {x : Int} (hk : okE y pc (.putfield idx, nx, [k + 768, 12, 0, p0], c0)) (hM : MW m) (h : Ex d y nx ls r (MS m (up1 I k x) A L) Q) : Ex d y pc ls (vI x :: vR aM :: r) (MS m I A L) Q := by
  refine Ex_step hk ⟨hM.k, trivial, Nat.le_of_ble_eq_true rfl, ?_⟩
  show Ex d y nx ls r (sFI (MS m I A L) (k + 768) aM x) Q
  rw [MS_sFI]
  exact h
theorem lMI {j n z : Nat} {i : Int} (hk : okE y pc (.iaload, nx, rs, c0)) (hj : 1 ≤ j ∧ j ≤ 23) (hK : mK m (aM + j) = 13) (hN : mLen m (aM + j) = z) (hi : w32 i = (n : Int)) (hn : n < z) (h : Ex d y nx ls (vI (A j n) :: r) (MS m I A L) Q) : Ex d y pc ls (vI i :: vR (aM + j) :: r) (MS m I A L) Q := by
  refine Ex_step hk ⟨hK, inR_of hi (by show n < mLen m (aM + j); rw [hN]; exact hn), ?_⟩
  rw [MS_AI _ _ _ _ j hj, ix_of hi]
  exact h
theorem lMZ {j n z : Nat} {i : Int} (hk : okE y pc (.baload, nx, rs, c0)) (hj : 1 ≤ j ∧ j ≤ 23) (hK : mK m (aM + j) = 15) (hN : mLen m (aM + j) = z) (hi : w32 i = (n : Int)) (hn : n < z) (h : Ex d y nx ls (vI (A j n) :: r) (MS m I A L) Q) : Ex d y pc ls (vI i :: vR (aM + j) :: r) (MS m I A L) Q := by
  refine Ex_step hk ⟨Or.inl hK, inR_of hi (by show n < mLen m (aM + j); rw [hN]; exact hn), ?_⟩
  rw [MS_AI _ _ _ _ j hj, ix_of hi]
  exact h
theorem lML {j n z : Nat} {i : Int} (hk : okE y pc (.laload, nx, rs, c0)) (hj : 1 ≤ j ∧ j ≤ 23) (hK : mK m (aM + j) = 14) (hN : mLen m (aM + j) = z) (hi : w32 i = (n : Int)) (hn : n < z) (h : Ex d y nx ls (vL (L j n) :: r) (MS m I A L) Q) : Ex d y pc ls (vI i :: vR (aM + j) :: r) (MS m I A L) Q := by
  refine Ex_step hk ⟨hK, inR_of hi (by show n < mLen m (aM + j); rw [hN]; exact hn), ?_⟩
  rw [MS_AL _ _ _ _ j hj, ix_of hi]
  exact h
theorem tMI {j n z : Nat} {i x : Int} (hk : okE y pc (.iastore, nx, rs, c0)) (hj : 1 ≤ j ∧ j ≤ 23) (hK : mK m (aM + j) = 13) (hN : mLen m (aM + j) = z) (hi : w32 i = (n : Int)) (hn : n < z) (h : Ex d y nx ls r (MS m I (up1 A j (up1 (A j) n x)) L) Q) : Ex d y pc ls (vI x :: vI i :: vR (aM + j) :: r) (MS m I A L) Q := by
  refine Ex_step hk ⟨hK, (by show 362 + j ≠ 1; omega), inR_of hi (by show n < mLen m (aM + j); rw [hN]; exact hn), ?_⟩
  rw [MS_AI _ _ _ _ j hj, ix_of hi, MS_sAI _ _ _ _ j hj]
  exact h
theorem tMZ {j n z : Nat} {i x : Int} (hk : okE y pc (.bastore, nx, rs, c0)) (hj : 1 ≤ j ∧ j ≤ 23) (hK : mK m (aM + j) = 15) (hN : mLen m (aM + j) = z) (hi : w32 i = (n : Int)) (hn : n < z) (hx : x = 0 ∨ x = 1) (h : Ex d y nx ls r (MS m I (up1 A j (up1 (A j) n x)) L) Q) : Ex d y pc ls (vI x :: vI i :: vR (aM + j) :: r) (MS m I A L) Q := by
  refine Ex_step hk ⟨hK, inR_of hi (by show n < mLen m (aM + j); rw [hN]; exact hn), hx, ?_⟩
  rw [MS_AI _ _ _ _ j hj, ix_of hi, MS_sAI _ _ _ _ j hj]
  exact h
theorem tML {j n z : Nat} {i x : Int} (hk : okE y pc (.lastore, nx, rs, c0)) (hj : 1 ≤ j ∧ j ≤ 23) (hK : mK m (aM + j) = 14) (hN : mLen m (aM + j) = z) (hi : w32 i = (n : Int)) (hn : n < z) (h : Ex d y nx ls r (MS m I A (up1 L j (up1 (L j) n x))) Q) : Ex d y pc ls (vL x :: vI i :: vR (aM + j) :: r) (MS m I A L) Q := by
  refine Ex_step hk ⟨hK, inR_of hi (by show n < mLen m (aM + j); rw [hN]; exact hn), ?_⟩
  rw [MS_AL _ _ _ _ j hj, ix_of hi, MS_sAL _ _ _ _ j hj]
  exact h
theorem lMP {j : Nat} {i : Int} (hM : MW m) (hk : okE y pc (.aaload, nx, rs, c0)) (hi : w32 i = (j : Int)) (hj : j < 8) (h : Ex d y nx ls (vR (aM + (6 + j)) :: r) (MS m I A L) Q) : Ex d y pc ls (vI i :: vR (aM + 5) :: r) (MS m I A L) Q := by
  have hK : mK m (aM + 5) = 19 := hM.k5
  have hN : mLen m (aM + 5) = 8 := hM.n5
  refine Ex_step hk ⟨by show 16 ≤ mK m (aM + 5); rw [hK]; omega, by show mK m (aM + 5) ≤ 19; rw [hK]; omega, inR_of hi (by show j < mLen m (aM + 5); rw [hN]; exact hj), ?_⟩
  rw [ix_of hi]
  show Ex d y nx ls (vR (mAR m (aM + 5) j) :: r) (MS m I A L) Q
  rw [hM.2.2.2.2 j hj, show 368 + j = aM + (6 + j) by unfold aM; omega]
  exact h
end MSteps
