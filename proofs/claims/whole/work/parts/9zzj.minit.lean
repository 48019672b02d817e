/-! ===== constructors: the reference ===== -/
set_option maxRecDepth 100000 in
theorem allocs_ok (m : Mem) (k l z : Nat) : ∀ n, mN (allocs m k l z n) = mN m + n ∧ mZ (allocs m k l z n) = mZ m + n * z ∧ (∀ j, j < 100 + mN m → mK (allocs m k l z n) j = mK m j ∧ mLen (allocs m k l z n) j = mLen m j ∧ mAR (allocs m k l z n) j = mAR m j ∧ mAI (allocs m k l z n) j = mAI m j ∧ mAL (allocs m k l z n) j = mAL m j ∧ ∀ f, mFR (allocs m k l z n) f j = mFR m f j ∧ mFI (allocs m k l z n) f j = mFI m f j) ∧ ∀ i, i < n → mK (allocs m k l z n) (100 + mN m + i) = k ∧ mLen (allocs m k l z n) (100 + mN m + i) = l ∧ (mAI (allocs m k l z n) (100 + mN m + i) = fun _ => 0) ∧ mAL (allocs m k l z n) (100 + mN m + i) = fun _ => 0
  | 0 => ⟨rfl, by show mZ m = mZ m + 0 * z; omega, fun j hj => ⟨rfl, rfl, rfl, rfl, rfl, fun f => ⟨rfl, rfl⟩⟩, fun i hi => absurd hi (Nat.not_lt_zero _)⟩
  | n + 1 => by
    obtain ⟨h1, h2, h3, h4⟩ := allocs_ok m k l z n
    have e : allocs m k l z (n + 1) = alloc (allocs m k l z n) k l z := rfl
    rw [e]
    have eN : mN (alloc (allocs m k l z n) k l z) = mN (allocs m k l z n) + 1 := rfl
    have eZ : mZ (alloc (allocs m k l z n) k l z) = mZ (allocs m k l z n) + z := rfl
    generalize allocs m k l z n = M at *
    refine ⟨by omega, by rw [eZ, h2, Nat.succ_mul]; omega, fun j hj => ?_, fun i hi => ?_⟩
    · obtain ⟨q1, q2, q3, q4, q5, q6⟩ := h3 j hj
      exact ⟨(if_neg (by omega)).trans q1, (if_neg (by omega)).trans q2, (if_neg (by omega)).trans q3, (if_neg (by omega)).trans q4, (if_neg (by omega)).trans q5, fun f => ⟨(if_neg (by omega)).trans (q6 f).1, (if_neg (by omega)).trans (q6 f).2⟩⟩
    · by_cases w : i = n
      · subst w
        exact ⟨if_pos (by omega), if_pos (by omega), if_pos (by omega), if_pos (by omega)⟩
      · obtain ⟨q1, q2, q3, q4⟩ := h4 i (by omega)
        exact ⟨(if_neg (by omega)).trans q1, (if_neg (by omega)).trans q2, (if_neg (by omega)).trans q3, (if_neg (by omega)).trans q4⟩
/-- rows of the reference that are made: field, place, kind, length; below N, fields below f0 -/
def MR (m : Mem) (A L : Nat → Nat → Int) (N f0 : Nat) (l : List (Nat × Nat × Nat × Nat)) : Prop := ∀ q ∈ l, (q.2.1 < N ∧ q.1 < f0) ∧ mFR m q.1 362 = q.2.1 ∧ mK m q.2.1 = q.2.2.1 ∧ mLen m q.2.1 = q.2.2.2 ∧ (A q.2.1 = fun _ => 0) ∧ L q.2.1 = fun _ => 0
set_option maxRecDepth 100000 in
theorem MR.step {m : Mem} {F A L : Nat → Nat → Int} {N f0 : Nat} {l : List (Nat × Nat × Nat × Nat)} (h : MR m A L N f0 l) (k n f : Nat) (hN : 100 + mN m = N) (h362 : 362 < N) (hf : f0 ≤ f) : MR (sFR (alloc m k n n) f 362 (100 + mN m)) (zA (100 + mN m) A) (zA (100 + mN m) L) (N + 1) (f + 1) ((f, N, k, n) :: l) := by
  have r := mk_row (m := m) F A L k n f 362 (by omega)
  have zl : ∀ B : Nat → Nat → Int, zA (100 + mN m) B (100 + mN m) = fun _ => 0 := fun B => if_pos rfl
  rw [hN] at r zl ⊢
  intro q hq
  rcases List.mem_cons.mp hq with e | e
  · subst e
    exact ⟨⟨Nat.lt_succ_self _, Nat.lt_succ_self _⟩, r.2.1.2.2, r.2.1.1, r.2.1.2.1, zl A, zl L⟩
  · obtain ⟨c, p1, p2, p3, p4, p5⟩ := h q e
    have g0 := r.2.2 362 h362
    have g := r.2.2 q.2.1 c.1
    have gl : zA N L q.2.1 = L q.2.1 := if_neg (by omega)
    exact ⟨⟨by omega, by omega⟩, (g0.2.1 q.1 (fun z => by omega)).trans p1, g.1.1.trans p2, g.1.2.1.trans p3, g.2.2.1.trans p4, gl.trans p5⟩
/-- the reference is made: its fields, its rows -/
def MO (m : Mem) (F A L : Nat → Nat → Int) : Prop := MW m ∧ (∀ f, F f 362 = if f = 773 then -1 else 0) ∧ (∀ j, 362 < j → j ≤ 385 → (A j = fun _ => 0) ∧ L j = fun _ => 0)
section MInit
variable {d : Nat} {m : Mem} {F A L : Nat → Nat → Int} {Q : Nat → Option AV → Mem → Prop}
set_option maxRecDepth 100000 in
theorem nwM {y pc nx idx : Nat} {p0 p1 p2 : Nat} {c0 : Int} {ls : Ls} {r : List AV} (hk : okE y pc (.multianewarray idx 2, nx, [p0, p1, p2], c0)) (h : ∀ (m' : Mem) (F' A' L' : Nat → Nat → Int), Fr (100 + mN m) m m' F F' A A' L L' → mN m' = mN m + 9 → mZ m' = mZ m + 15368 → (mK m' (100 + mN m) = 19 ∧ mLen m' (100 + mN m) = 8 ∧ (A' (100 + mN m) = fun _ => 0) ∧ L' (100 + mN m) = fun _ => 0) → (∀ j, j < 8 → mAR m' (100 + mN m) j = 100 + mN m + 1 + j ∧ mK m' (100 + mN m + 1 + j) = 13 ∧ mLen m' (100 + mN m + 1 + j) = 1920 ∧ (A' (100 + mN m + 1 + j) = fun _ => 0) ∧ L' (100 + mN m + 1 + j) = fun _ => 0) → Ex d y nx ls (vR (100 + mN m) :: r) (CM m' F' A' L') Q) : Ex d y pc ls (vI 1920 :: vI 8 :: r) (CM m F A L) Q := by
  refine Ex_step hk ⟨by decide, by decide, by decide, by decide, ?_⟩
  have e8 : ix 8 = 8 := rfl
  have e19 : ix 1920 = 1920 := rfl
  rw [e8, e19]
  have fra : Fr (100 + mN m) m (alloc m 19 8 8) F (zF (100 + mN m) F) A (zA (100 + mN m) A) L (zA (100 + mN m) L) := Fr.al (Nat.le_refl _)
  have hal := al_K m 19 8 8
  have zl : ∀ B : Nat → Nat → Int, zA (100 + mN m) B (100 + mN m) = fun _ => 0 := fun B => if_pos rfl
  obtain ⟨h1, h2, h3, h4⟩ := allocs_ok (CM (alloc m 19 8 8) (zF (100 + mN m) F) (zA (100 + mN m) A) (zA (100 + mN m) L)) 13 1920 1920 8
  have eM : alloc (CM m F A L) 19 8 8 = CM (alloc m 19 8 8) (zF (100 + mN m) F) (zA (100 + mN m) A) (zA (100 + mN m) L) := rfl
  rw [eM]
  have eN : mN (CM (alloc m 19 8 8) (zF (100 + mN m) F) (zA (100 + mN m) A) (zA (100 + mN m) L)) = mN m + 1 := rfl
  have eZ : mZ (CM (alloc m 19 8 8) (zF (100 + mN m) F) (zA (100 + mN m) A) (zA (100 + mN m) L)) = mZ m + 8 := rfl
  rw [eN] at h1 h3 h4
  rw [eZ] at h2
  generalize hM : allocs (CM (alloc m 19 8 8) (zF (100 + mN m) F) (zA (100 + mN m) A) (zA (100 + mN m) L)) 13 1920 1920 8 = M at *
  have g0 := h3 (100 + mN m) (by omega)
  refine h (sAR M (100 + mN m) (fun j => if j < 8 then 101 + mN m + j else 0)) (mFI M) (mAI M) (mAL M) (fun j hj => ?_) (by show mN M = _; omega) (by show mZ M = _; omega) ⟨g0.1.trans hal.1, g0.2.1.trans hal.2.1, g0.2.2.2.1.trans (zl A), g0.2.2.2.2.1.trans (zl L)⟩ (fun j hj => ?_)
  · obtain ⟨q1, q2, q3, q4, q5, q6⟩ := h3 j (by omega)
    obtain ⟨⟨x1, x2, x3, x4, x5⟩, x6⟩ := fra j hj
    exact ⟨⟨q1.trans x1, q2.trans x2, (if_neg (by omega)).trans (q3.trans x3), q4.trans x4, q5.trans x5⟩, fun f => ⟨(q6 f).1.trans (x6 f).1, (q6 f).2.trans (x6 f).2⟩⟩
  · obtain ⟨q1, q2, q3, q4⟩ := h4 j hj
    have ea : 100 + mN m + 1 + j = 100 + (mN m + 1) + j := by omega
    rw [ea]
    refine ⟨?_, q1, q2, q3, q4⟩
    rw [mAR_at, if_pos hj]
    omega
set_option maxRecDepth 100000 in
theorem f_init (hk12 : mK m 362 = 12) (hN : mN m = 263) (hF : ∀ f, F f 362 = 0) (h : ∀ (m' : Mem) (F' A' L' : Nat → Nat → Int), Fr 362 m m' F F' A A' L L' → mN m' = 286 → mZ m' ≤ mZ m + 40000 → MO m' F' A' L' → Q 0 none (CM m' F' A' L')) : Ex d M_init 0 [some (vR 362)] [] (CM m F A L) Q := by
  have z136 : ∀ (m1 : Mem) (F1 A1 L1 : Nat → Nat → Int), Fr 362 m m1 F F1 A A1 L L1 → 100 + mN m1 = 386 → mZ m1 ≤ mZ m + 40000 → (mK m1 362 = 12 ∧ ∀ f, F1 f 362 = if f = 773 then -1 else 0) → MR m1 A1 L1 386 805 [(804, 385, 13, 6), (803, 384, 13, 100), (802, 383, 15, 100), (801, 382, 14, 5), (800, 381, 14, 1300), (789, 380, 14, 10), (788, 379, 14, 10), (787, 378, 14, 10), (786, 377, 14, 10), (785, 376, 13, 100), (779, 367, 19, 8), (778, 366, 13, 1920), (777, 365, 13, 1920), (776, 364, 13, 800), (769, 363, 13, 2)] → (∀ j, j < 8 → mAR m1 367 j = 368 + j ∧ mK m1 (368 + j) = 13 ∧ mLen m1 (368 + j) = 1920 ∧ (A1 (368 + j) = fun _ => 0) ∧ L1 (368 + j) = fun _ => 0) → Ex d M_init 136 [some (vR 362)] [] (CM m1 F1 A1 L1) Q := by
    intro m1 F1 A1 L1 fr e1 z1 w mr pa
    have q363 := mr _ (List.mem_cons_of_mem _ (List.mem_cons_of_mem _ (List.mem_cons_of_mem _ (List.mem_cons_of_mem _ (List.mem_cons_of_mem _ (List.mem_cons_of_mem _ (List.mem_cons_of_mem _ (List.mem_cons_of_mem _ (List.mem_cons_of_mem _ (List.mem_cons_of_mem _ (List.mem_cons_of_mem _ (List.mem_cons_of_mem _ (List.mem_cons_of_mem _ (List.mem_cons_of_mem _ (List.mem_cons_self)))))))))))))))
    have q364 := mr _ (List.mem_cons_of_mem _ (List.mem_cons_of_mem _ (List.mem_cons_of_mem _ (List.mem_cons_of_mem _ (List.mem_cons_of_mem _ (List.mem_cons_of_mem _ (List.mem_cons_of_mem _ (List.mem_cons_of_mem _ (List.mem_cons_of_mem _ (List.mem_cons_of_mem _ (List.mem_cons_of_mem _ (List.mem_cons_of_mem _ (List.mem_cons_of_mem _ (List.mem_cons_self))))))))))))))
    have q365 := mr _ (List.mem_cons_of_mem _ (List.mem_cons_of_mem _ (List.mem_cons_of_mem _ (List.mem_cons_of_mem _ (List.mem_cons_of_mem _ (List.mem_cons_of_mem _ (List.mem_cons_of_mem _ (List.mem_cons_of_mem _ (List.mem_cons_of_mem _ (List.mem_cons_of_mem _ (List.mem_cons_of_mem _ (List.mem_cons_of_mem _ (List.mem_cons_self)))))))))))))
    have q366 := mr _ (List.mem_cons_of_mem _ (List.mem_cons_of_mem _ (List.mem_cons_of_mem _ (List.mem_cons_of_mem _ (List.mem_cons_of_mem _ (List.mem_cons_of_mem _ (List.mem_cons_of_mem _ (List.mem_cons_of_mem _ (List.mem_cons_of_mem _ (List.mem_cons_of_mem _ (List.mem_cons_of_mem _ (List.mem_cons_self))))))))))))
    have q367 := mr _ (List.mem_cons_of_mem _ (List.mem_cons_of_mem _ (List.mem_cons_of_mem _ (List.mem_cons_of_mem _ (List.mem_cons_of_mem _ (List.mem_cons_of_mem _ (List.mem_cons_of_mem _ (List.mem_cons_of_mem _ (List.mem_cons_of_mem _ (List.mem_cons_of_mem _ (List.mem_cons_self)))))))))))
    have q376 := mr _ (List.mem_cons_of_mem _ (List.mem_cons_of_mem _ (List.mem_cons_of_mem _ (List.mem_cons_of_mem _ (List.mem_cons_of_mem _ (List.mem_cons_of_mem _ (List.mem_cons_of_mem _ (List.mem_cons_of_mem _ (List.mem_cons_of_mem _ (List.mem_cons_self))))))))))
    have q377 := mr _ (List.mem_cons_of_mem _ (List.mem_cons_of_mem _ (List.mem_cons_of_mem _ (List.mem_cons_of_mem _ (List.mem_cons_of_mem _ (List.mem_cons_of_mem _ (List.mem_cons_of_mem _ (List.mem_cons_of_mem _ (List.mem_cons_self)))))))))
    have q378 := mr _ (List.mem_cons_of_mem _ (List.mem_cons_of_mem _ (List.mem_cons_of_mem _ (List.mem_cons_of_mem _ (List.mem_cons_of_mem _ (List.mem_cons_of_mem _ (List.mem_cons_of_mem _ (List.mem_cons_self))))))))
    have q379 := mr _ (List.mem_cons_of_mem _ (List.mem_cons_of_mem _ (List.mem_cons_of_mem _ (List.mem_cons_of_mem _ (List.mem_cons_of_mem _ (List.mem_cons_of_mem _ (List.mem_cons_self)))))))
    have q380 := mr _ (List.mem_cons_of_mem _ (List.mem_cons_of_mem _ (List.mem_cons_of_mem _ (List.mem_cons_of_mem _ (List.mem_cons_of_mem _ (List.mem_cons_self))))))
    have q381 := mr _ (List.mem_cons_of_mem _ (List.mem_cons_of_mem _ (List.mem_cons_of_mem _ (List.mem_cons_of_mem _ (List.mem_cons_self)))))
    have q382 := mr _ (List.mem_cons_of_mem _ (List.mem_cons_of_mem _ (List.mem_cons_of_mem _ (List.mem_cons_self))))
    have q383 := mr _ (List.mem_cons_of_mem _ (List.mem_cons_of_mem _ (List.mem_cons_self)))
    have q384 := mr _ (List.mem_cons_of_mem _ (List.mem_cons_self))
    have q385 := mr _ (List.mem_cons_self)
    have hq : Q 0 none (CM m1 F1 A1 L1) := by
      refine h m1 F1 A1 L1 fr (by omega) z1 ⟨⟨w.1, ⟨q363.2.1, q364.2.1, q365.2.1, q366.2.1, q367.2.1, q376.2.1, q377.2.1, q378.2.1, q379.2.1, q380.2.1, q381.2.1, q382.2.1, q383.2.1, q384.2.1, q385.2.1⟩, ⟨q363.2.2.1, q364.2.2.1, q365.2.2.1, q366.2.2.1, q367.2.2.1, (pa 0 (by decide)).2.1, (pa 1 (by decide)).2.1, (pa 2 (by decide)).2.1, (pa 3 (by decide)).2.1, (pa 4 (by decide)).2.1, (pa 5 (by decide)).2.1, (pa 6 (by decide)).2.1, (pa 7 (by decide)).2.1, q376.2.2.1, q377.2.2.1, q378.2.2.1, q379.2.2.1, q380.2.2.1, q381.2.2.1, q382.2.2.1, q383.2.2.1, q384.2.2.1, q385.2.2.1⟩, ⟨q363.2.2.2.1, q364.2.2.2.1, q365.2.2.2.1, q366.2.2.2.1, q367.2.2.2.1, (pa 0 (by decide)).2.2.1, (pa 1 (by decide)).2.2.1, (pa 2 (by decide)).2.2.1, (pa 3 (by decide)).2.2.1, (pa 4 (by decide)).2.2.1, (pa 5 (by decide)).2.2.1, (pa 6 (by decide)).2.2.1, (pa 7 (by decide)).2.2.1, q376.2.2.2.1, q377.2.2.2.1, q378.2.2.2.1, q379.2.2.2.1, q380.2.2.2.1, q381.2.2.2.1, q382.2.2.2.1, q383.2.2.2.1, q384.2.2.2.1, q385.2.2.2.1⟩, fun j hj => (pa j hj).1⟩, w.2, fun j y1 y2 => ?_⟩
      by_cases c : 368 ≤ j ∧ j < 376
      · obtain ⟨i, rfl⟩ : ∃ i, j = 368 + i := ⟨j - 368, by omega⟩
        exact ⟨(pa i (by omega)).2.2.2.1, (pa i (by omega)).2.2.2.2⟩
      · rcases (show j = 363 ∨ j = 364 ∨ j = 365 ∨ j = 366 ∨ j = 367 ∨ j = 376 ∨ j = 377 ∨ j = 378 ∨ j = 379 ∨ j = 380 ∨ j = 381 ∨ j = 382 ∨ j = 383 ∨ j = 384 ∨ j = 385 by omega) with rfl | rfl | rfl | rfl | rfl | rfl | rfl | rfl | rfl | rfl | rfl | rfl | rfl | rfl | rfl
        · exact q363.2.2.2.2
        · exact q364.2.2.2.2
        · exact q365.2.2.2.2
        · exact q366.2.2.2.2
        · exact q367.2.2.2.2
        · exact q376.2.2.2.2
        · exact q377.2.2.2.2
        · exact q378.2.2.2.2
        · exact q379.2.2.2.2
        · exact q380.2.2.2.2
        · exact q381.2.2.2.2
        · exact q382.2.2.2.2
        · exact q383.2.2.2.2
        · exact q384.2.2.2.2
        · exact q385.2.2.2.2
    refine Ex_step (tk_M_init rfl) ⟨rfl, ?_⟩
    exact hq
  have z128 : ∀ (m1 : Mem) (F1 A1 L1 : Nat → Nat → Int), Fr 362 m m1 F F1 A A1 L L1 → 100 + mN m1 = 385 → mZ m1 ≤ mZ m + 21655 → (mK m1 362 = 12 ∧ ∀ f, F1 f 362 = if f = 773 then -1 else 0) → MR m1 A1 L1 385 804 [(803, 384, 13, 100), (802, 383, 15, 100), (801, 382, 14, 5), (800, 381, 14, 1300), (789, 380, 14, 10), (788, 379, 14, 10), (787, 378, 14, 10), (786, 377, 14, 10), (785, 376, 13, 100), (779, 367, 19, 8), (778, 366, 13, 1920), (777, 365, 13, 1920), (776, 364, 13, 800), (769, 363, 13, 2)] → (∀ j, j < 8 → mAR m1 367 j = 368 + j ∧ mK m1 (368 + j) = 13 ∧ mLen m1 (368 + j) = 1920 ∧ (A1 (368 + j) = fun _ => 0) ∧ L1 (368 + j) = fun _ => 0) → Ex d M_init 128 [some (vR 362)] [] (CM m1 F1 A1 L1) Q := by
    intro m1 F1 A1 L1 fr e1 z1 w mr pa
    have r3 := mk_row (m := m1) F1 A1 L1 13 6 804 362 (by omega)
    have n3 : mN (sFR (alloc m1 13 6 6) 804 362 (100 + mN m1)) = mN m1 + 1 := rfl
    have z3 : mZ (sFR (alloc m1 13 6 6) 804 362 (100 + mN m1)) = mZ m1 + 6 := rfl
    have g0 := r3.2.2 362 (by omega)
    have hk12a : mK (alloc m1 13 6 6) 362 = 12 := g0.1.1.trans w.1
    have pa2 : ∀ j, j < 8 → mAR (sFR (alloc m1 13 6 6) 804 362 (100 + mN m1)) 367 j = 368 + j ∧ mK (sFR (alloc m1 13 6 6) 804 362 (100 + mN m1)) (368 + j) = 13 ∧ mLen (sFR (alloc m1 13 6 6) 804 362 (100 + mN m1)) (368 + j) = 1920 ∧ (zA (100 + mN m1) A1 (368 + j) = fun _ => 0) ∧ zA (100 + mN m1) L1 (368 + j) = fun _ => 0 := fun j hj => by
      obtain ⟨p1, p2, p3, p4, p5⟩ := pa j hj
      have gj := r3.2.2 (368 + j) (by omega)
      have gl : zA (100 + mN m1) L1 (368 + j) = L1 (368 + j) := if_neg (by omega)
      exact ⟨by rw [(r3.2.2 367 (by omega)).1.2.2]; exact p1, gj.1.1.trans p2, gj.1.2.1.trans p3, gj.2.2.1.trans p4, gl.trans p5⟩
    have hq := z136 _ _ _ _ (fr.tr (r3.1 362 (Nat.le_refl _)) (Nat.le_refl _)) (by omega) (by omega) ⟨g0.1.1.trans w.1, fun f => (g0.2.2.2 f).trans (w.2 f)⟩ (mr.step (F := F1) 13 6 804 e1 (by decide) (by decide)) pa2
    refine Ex_step (tk_M_init rfl) ?_
    refine Ex_step (tk_M_init rfl) ?_
    refine nwI (n := 6) (tk_M_init rfl) rfl (by decide) ?_
    refine pCR (tk_M_init rfl) (hk12a) ?_
    exact hq
  have z120 : ∀ (m1 : Mem) (F1 A1 L1 : Nat → Nat → Int), Fr 362 m m1 F F1 A A1 L L1 → 100 + mN m1 = 384 → mZ m1 ≤ mZ m + 21555 → (mK m1 362 = 12 ∧ ∀ f, F1 f 362 = if f = 773 then -1 else 0) → MR m1 A1 L1 384 803 [(802, 383, 15, 100), (801, 382, 14, 5), (800, 381, 14, 1300), (789, 380, 14, 10), (788, 379, 14, 10), (787, 378, 14, 10), (786, 377, 14, 10), (785, 376, 13, 100), (779, 367, 19, 8), (778, 366, 13, 1920), (777, 365, 13, 1920), (776, 364, 13, 800), (769, 363, 13, 2)] → (∀ j, j < 8 → mAR m1 367 j = 368 + j ∧ mK m1 (368 + j) = 13 ∧ mLen m1 (368 + j) = 1920 ∧ (A1 (368 + j) = fun _ => 0) ∧ L1 (368 + j) = fun _ => 0) → Ex d M_init 120 [some (vR 362)] [] (CM m1 F1 A1 L1) Q := by
    intro m1 F1 A1 L1 fr e1 z1 w mr pa
    have r3 := mk_row (m := m1) F1 A1 L1 13 100 803 362 (by omega)
    have n3 : mN (sFR (alloc m1 13 100 100) 803 362 (100 + mN m1)) = mN m1 + 1 := rfl
    have z3 : mZ (sFR (alloc m1 13 100 100) 803 362 (100 + mN m1)) = mZ m1 + 100 := rfl
    have g0 := r3.2.2 362 (by omega)
    have hk12a : mK (alloc m1 13 100 100) 362 = 12 := g0.1.1.trans w.1
    have pa2 : ∀ j, j < 8 → mAR (sFR (alloc m1 13 100 100) 803 362 (100 + mN m1)) 367 j = 368 + j ∧ mK (sFR (alloc m1 13 100 100) 803 362 (100 + mN m1)) (368 + j) = 13 ∧ mLen (sFR (alloc m1 13 100 100) 803 362 (100 + mN m1)) (368 + j) = 1920 ∧ (zA (100 + mN m1) A1 (368 + j) = fun _ => 0) ∧ zA (100 + mN m1) L1 (368 + j) = fun _ => 0 := fun j hj => by
      obtain ⟨p1, p2, p3, p4, p5⟩ := pa j hj
      have gj := r3.2.2 (368 + j) (by omega)
      have gl : zA (100 + mN m1) L1 (368 + j) = L1 (368 + j) := if_neg (by omega)
      exact ⟨by rw [(r3.2.2 367 (by omega)).1.2.2]; exact p1, gj.1.1.trans p2, gj.1.2.1.trans p3, gj.2.2.1.trans p4, gl.trans p5⟩
    have hq := z128 _ _ _ _ (fr.tr (r3.1 362 (Nat.le_refl _)) (Nat.le_refl _)) (by omega) (by omega) ⟨g0.1.1.trans w.1, fun f => (g0.2.2.2 f).trans (w.2 f)⟩ (mr.step (F := F1) 13 100 803 e1 (by decide) (by decide)) pa2
    refine Ex_step (tk_M_init rfl) ?_
    refine Ex_step (tk_M_init rfl) ?_
    refine nwI (n := 100) (tk_M_init rfl) rfl (by decide) ?_
    refine pCR (tk_M_init rfl) (hk12a) ?_
    exact hq
  have z112 : ∀ (m1 : Mem) (F1 A1 L1 : Nat → Nat → Int), Fr 362 m m1 F F1 A A1 L L1 → 100 + mN m1 = 383 → mZ m1 ≤ mZ m + 21455 → (mK m1 362 = 12 ∧ ∀ f, F1 f 362 = if f = 773 then -1 else 0) → MR m1 A1 L1 383 802 [(801, 382, 14, 5), (800, 381, 14, 1300), (789, 380, 14, 10), (788, 379, 14, 10), (787, 378, 14, 10), (786, 377, 14, 10), (785, 376, 13, 100), (779, 367, 19, 8), (778, 366, 13, 1920), (777, 365, 13, 1920), (776, 364, 13, 800), (769, 363, 13, 2)] → (∀ j, j < 8 → mAR m1 367 j = 368 + j ∧ mK m1 (368 + j) = 13 ∧ mLen m1 (368 + j) = 1920 ∧ (A1 (368 + j) = fun _ => 0) ∧ L1 (368 + j) = fun _ => 0) → Ex d M_init 112 [some (vR 362)] [] (CM m1 F1 A1 L1) Q := by
    intro m1 F1 A1 L1 fr e1 z1 w mr pa
    have r3 := mk_row (m := m1) F1 A1 L1 15 100 802 362 (by omega)
    have n3 : mN (sFR (alloc m1 15 100 100) 802 362 (100 + mN m1)) = mN m1 + 1 := rfl
    have z3 : mZ (sFR (alloc m1 15 100 100) 802 362 (100 + mN m1)) = mZ m1 + 100 := rfl
    have g0 := r3.2.2 362 (by omega)
    have hk12a : mK (alloc m1 15 100 100) 362 = 12 := g0.1.1.trans w.1
    have pa2 : ∀ j, j < 8 → mAR (sFR (alloc m1 15 100 100) 802 362 (100 + mN m1)) 367 j = 368 + j ∧ mK (sFR (alloc m1 15 100 100) 802 362 (100 + mN m1)) (368 + j) = 13 ∧ mLen (sFR (alloc m1 15 100 100) 802 362 (100 + mN m1)) (368 + j) = 1920 ∧ (zA (100 + mN m1) A1 (368 + j) = fun _ => 0) ∧ zA (100 + mN m1) L1 (368 + j) = fun _ => 0 := fun j hj => by
      obtain ⟨p1, p2, p3, p4, p5⟩ := pa j hj
      have gj := r3.2.2 (368 + j) (by omega)
      have gl : zA (100 + mN m1) L1 (368 + j) = L1 (368 + j) := if_neg (by omega)
      exact ⟨by rw [(r3.2.2 367 (by omega)).1.2.2]; exact p1, gj.1.1.trans p2, gj.1.2.1.trans p3, gj.2.2.1.trans p4, gl.trans p5⟩
    have hq := z120 _ _ _ _ (fr.tr (r3.1 362 (Nat.le_refl _)) (Nat.le_refl _)) (by omega) (by omega) ⟨g0.1.1.trans w.1, fun f => (g0.2.2.2 f).trans (w.2 f)⟩ (mr.step (F := F1) 15 100 802 e1 (by decide) (by decide)) pa2
    refine Ex_step (tk_M_init rfl) ?_
    refine Ex_step (tk_M_init rfl) ?_
    refine nwI (n := 100) (tk_M_init rfl) rfl (by decide) ?_
    refine pCR (tk_M_init rfl) (hk12a) ?_
    exact hq
  have z105 : ∀ (m1 : Mem) (F1 A1 L1 : Nat → Nat → Int), Fr 362 m m1 F F1 A A1 L L1 → 100 + mN m1 = 382 → mZ m1 ≤ mZ m + 21450 → (mK m1 362 = 12 ∧ ∀ f, F1 f 362 = if f = 773 then -1 else 0) → MR m1 A1 L1 382 801 [(800, 381, 14, 1300), (789, 380, 14, 10), (788, 379, 14, 10), (787, 378, 14, 10), (786, 377, 14, 10), (785, 376, 13, 100), (779, 367, 19, 8), (778, 366, 13, 1920), (777, 365, 13, 1920), (776, 364, 13, 800), (769, 363, 13, 2)] → (∀ j, j < 8 → mAR m1 367 j = 368 + j ∧ mK m1 (368 + j) = 13 ∧ mLen m1 (368 + j) = 1920 ∧ (A1 (368 + j) = fun _ => 0) ∧ L1 (368 + j) = fun _ => 0) → Ex d M_init 105 [some (vR 362)] [] (CM m1 F1 A1 L1) Q := by
    intro m1 F1 A1 L1 fr e1 z1 w mr pa
    have r3 := mk_row (m := m1) F1 A1 L1 14 5 801 362 (by omega)
    have n3 : mN (sFR (alloc m1 14 5 5) 801 362 (100 + mN m1)) = mN m1 + 1 := rfl
    have z3 : mZ (sFR (alloc m1 14 5 5) 801 362 (100 + mN m1)) = mZ m1 + 5 := rfl
    have g0 := r3.2.2 362 (by omega)
    have hk12a : mK (alloc m1 14 5 5) 362 = 12 := g0.1.1.trans w.1
    have pa2 : ∀ j, j < 8 → mAR (sFR (alloc m1 14 5 5) 801 362 (100 + mN m1)) 367 j = 368 + j ∧ mK (sFR (alloc m1 14 5 5) 801 362 (100 + mN m1)) (368 + j) = 13 ∧ mLen (sFR (alloc m1 14 5 5) 801 362 (100 + mN m1)) (368 + j) = 1920 ∧ (zA (100 + mN m1) A1 (368 + j) = fun _ => 0) ∧ zA (100 + mN m1) L1 (368 + j) = fun _ => 0 := fun j hj => by
      obtain ⟨p1, p2, p3, p4, p5⟩ := pa j hj
      have gj := r3.2.2 (368 + j) (by omega)
      have gl : zA (100 + mN m1) L1 (368 + j) = L1 (368 + j) := if_neg (by omega)
      exact ⟨by rw [(r3.2.2 367 (by omega)).1.2.2]; exact p1, gj.1.1.trans p2, gj.1.2.1.trans p3, gj.2.2.1.trans p4, gl.trans p5⟩
    have hq := z112 _ _ _ _ (fr.tr (r3.1 362 (Nat.le_refl _)) (Nat.le_refl _)) (by omega) (by omega) ⟨g0.1.1.trans w.1, fun f => (g0.2.2.2 f).trans (w.2 f)⟩ (mr.step (F := F1) 14 5 801 e1 (by decide) (by decide)) pa2
    refine Ex_step (tk_M_init rfl) ?_
    refine Ex_step (tk_M_init rfl) ?_
    refine nwI (n := 5) (tk_M_init rfl) rfl (by decide) ?_
    refine pCR (tk_M_init rfl) (hk12a) ?_
    exact hq
  have z96 : ∀ (m1 : Mem) (F1 A1 L1 : Nat → Nat → Int), Fr 362 m m1 F F1 A A1 L L1 → 100 + mN m1 = 381 → mZ m1 ≤ mZ m + 20150 → (mK m1 362 = 12 ∧ ∀ f, F1 f 362 = if f = 773 then -1 else 0) → MR m1 A1 L1 381 790 [(789, 380, 14, 10), (788, 379, 14, 10), (787, 378, 14, 10), (786, 377, 14, 10), (785, 376, 13, 100), (779, 367, 19, 8), (778, 366, 13, 1920), (777, 365, 13, 1920), (776, 364, 13, 800), (769, 363, 13, 2)] → (∀ j, j < 8 → mAR m1 367 j = 368 + j ∧ mK m1 (368 + j) = 13 ∧ mLen m1 (368 + j) = 1920 ∧ (A1 (368 + j) = fun _ => 0) ∧ L1 (368 + j) = fun _ => 0) → Ex d M_init 96 [some (vR 362)] [] (CM m1 F1 A1 L1) Q := by
    intro m1 F1 A1 L1 fr e1 z1 w mr pa
    have r3 := mk_row (m := m1) F1 A1 L1 14 1300 800 362 (by omega)
    have n3 : mN (sFR (alloc m1 14 1300 1300) 800 362 (100 + mN m1)) = mN m1 + 1 := rfl
    have z3 : mZ (sFR (alloc m1 14 1300 1300) 800 362 (100 + mN m1)) = mZ m1 + 1300 := rfl
    have g0 := r3.2.2 362 (by omega)
    have hk12a : mK (alloc m1 14 1300 1300) 362 = 12 := g0.1.1.trans w.1
    have pa2 : ∀ j, j < 8 → mAR (sFR (alloc m1 14 1300 1300) 800 362 (100 + mN m1)) 367 j = 368 + j ∧ mK (sFR (alloc m1 14 1300 1300) 800 362 (100 + mN m1)) (368 + j) = 13 ∧ mLen (sFR (alloc m1 14 1300 1300) 800 362 (100 + mN m1)) (368 + j) = 1920 ∧ (zA (100 + mN m1) A1 (368 + j) = fun _ => 0) ∧ zA (100 + mN m1) L1 (368 + j) = fun _ => 0 := fun j hj => by
      obtain ⟨p1, p2, p3, p4, p5⟩ := pa j hj
      have gj := r3.2.2 (368 + j) (by omega)
      have gl : zA (100 + mN m1) L1 (368 + j) = L1 (368 + j) := if_neg (by omega)
      exact ⟨by rw [(r3.2.2 367 (by omega)).1.2.2]; exact p1, gj.1.1.trans p2, gj.1.2.1.trans p3, gj.2.2.1.trans p4, gl.trans p5⟩
    have hq := z105 _ _ _ _ (fr.tr (r3.1 362 (Nat.le_refl _)) (Nat.le_refl _)) (by omega) (by omega) ⟨g0.1.1.trans w.1, fun f => (g0.2.2.2 f).trans (w.2 f)⟩ (mr.step (F := F1) 14 1300 800 e1 (by decide) (by decide)) pa2
    refine Ex_step (tk_M_init rfl) ?_
    refine Ex_step (tk_M_init rfl) ?_
    refine nwI (n := 1300) (tk_M_init rfl) rfl (by decide) ?_
    refine pCR (tk_M_init rfl) (hk12a) ?_
    exact hq
  have z88 : ∀ (m1 : Mem) (F1 A1 L1 : Nat → Nat → Int), Fr 362 m m1 F F1 A A1 L L1 → 100 + mN m1 = 380 → mZ m1 ≤ mZ m + 20140 → (mK m1 362 = 12 ∧ ∀ f, F1 f 362 = if f = 773 then -1 else 0) → MR m1 A1 L1 380 789 [(788, 379, 14, 10), (787, 378, 14, 10), (786, 377, 14, 10), (785, 376, 13, 100), (779, 367, 19, 8), (778, 366, 13, 1920), (777, 365, 13, 1920), (776, 364, 13, 800), (769, 363, 13, 2)] → (∀ j, j < 8 → mAR m1 367 j = 368 + j ∧ mK m1 (368 + j) = 13 ∧ mLen m1 (368 + j) = 1920 ∧ (A1 (368 + j) = fun _ => 0) ∧ L1 (368 + j) = fun _ => 0) → Ex d M_init 88 [some (vR 362)] [] (CM m1 F1 A1 L1) Q := by
    intro m1 F1 A1 L1 fr e1 z1 w mr pa
    have r3 := mk_row (m := m1) F1 A1 L1 14 10 789 362 (by omega)
    have n3 : mN (sFR (alloc m1 14 10 10) 789 362 (100 + mN m1)) = mN m1 + 1 := rfl
    have z3 : mZ (sFR (alloc m1 14 10 10) 789 362 (100 + mN m1)) = mZ m1 + 10 := rfl
    have g0 := r3.2.2 362 (by omega)
    have hk12a : mK (alloc m1 14 10 10) 362 = 12 := g0.1.1.trans w.1
    have pa2 : ∀ j, j < 8 → mAR (sFR (alloc m1 14 10 10) 789 362 (100 + mN m1)) 367 j = 368 + j ∧ mK (sFR (alloc m1 14 10 10) 789 362 (100 + mN m1)) (368 + j) = 13 ∧ mLen (sFR (alloc m1 14 10 10) 789 362 (100 + mN m1)) (368 + j) = 1920 ∧ (zA (100 + mN m1) A1 (368 + j) = fun _ => 0) ∧ zA (100 + mN m1) L1 (368 + j) = fun _ => 0 := fun j hj => by
      obtain ⟨p1, p2, p3, p4, p5⟩ := pa j hj
      have gj := r3.2.2 (368 + j) (by omega)
      have gl : zA (100 + mN m1) L1 (368 + j) = L1 (368 + j) := if_neg (by omega)
      exact ⟨by rw [(r3.2.2 367 (by omega)).1.2.2]; exact p1, gj.1.1.trans p2, gj.1.2.1.trans p3, gj.2.2.1.trans p4, gl.trans p5⟩
    have hq := z96 _ _ _ _ (fr.tr (r3.1 362 (Nat.le_refl _)) (Nat.le_refl _)) (by omega) (by omega) ⟨g0.1.1.trans w.1, fun f => (g0.2.2.2 f).trans (w.2 f)⟩ (mr.step (F := F1) 14 10 789 e1 (by decide) (by decide)) pa2
    refine Ex_step (tk_M_init rfl) ?_
    refine Ex_step (tk_M_init rfl) ?_
    refine nwI (n := 10) (tk_M_init rfl) rfl (by decide) ?_
    refine pCR (tk_M_init rfl) (hk12a) ?_
    exact hq
  have z80 : ∀ (m1 : Mem) (F1 A1 L1 : Nat → Nat → Int), Fr 362 m m1 F F1 A A1 L L1 → 100 + mN m1 = 379 → mZ m1 ≤ mZ m + 20130 → (mK m1 362 = 12 ∧ ∀ f, F1 f 362 = if f = 773 then -1 else 0) → MR m1 A1 L1 379 788 [(787, 378, 14, 10), (786, 377, 14, 10), (785, 376, 13, 100), (779, 367, 19, 8), (778, 366, 13, 1920), (777, 365, 13, 1920), (776, 364, 13, 800), (769, 363, 13, 2)] → (∀ j, j < 8 → mAR m1 367 j = 368 + j ∧ mK m1 (368 + j) = 13 ∧ mLen m1 (368 + j) = 1920 ∧ (A1 (368 + j) = fun _ => 0) ∧ L1 (368 + j) = fun _ => 0) → Ex d M_init 80 [some (vR 362)] [] (CM m1 F1 A1 L1) Q := by
    intro m1 F1 A1 L1 fr e1 z1 w mr pa
    have r3 := mk_row (m := m1) F1 A1 L1 14 10 788 362 (by omega)
    have n3 : mN (sFR (alloc m1 14 10 10) 788 362 (100 + mN m1)) = mN m1 + 1 := rfl
    have z3 : mZ (sFR (alloc m1 14 10 10) 788 362 (100 + mN m1)) = mZ m1 + 10 := rfl
    have g0 := r3.2.2 362 (by omega)
    have hk12a : mK (alloc m1 14 10 10) 362 = 12 := g0.1.1.trans w.1
    have pa2 : ∀ j, j < 8 → mAR (sFR (alloc m1 14 10 10) 788 362 (100 + mN m1)) 367 j = 368 + j ∧ mK (sFR (alloc m1 14 10 10) 788 362 (100 + mN m1)) (368 + j) = 13 ∧ mLen (sFR (alloc m1 14 10 10) 788 362 (100 + mN m1)) (368 + j) = 1920 ∧ (zA (100 + mN m1) A1 (368 + j) = fun _ => 0) ∧ zA (100 + mN m1) L1 (368 + j) = fun _ => 0 := fun j hj => by
      obtain ⟨p1, p2, p3, p4, p5⟩ := pa j hj
      have gj := r3.2.2 (368 + j) (by omega)
      have gl : zA (100 + mN m1) L1 (368 + j) = L1 (368 + j) := if_neg (by omega)
      exact ⟨by rw [(r3.2.2 367 (by omega)).1.2.2]; exact p1, gj.1.1.trans p2, gj.1.2.1.trans p3, gj.2.2.1.trans p4, gl.trans p5⟩
    have hq := z88 _ _ _ _ (fr.tr (r3.1 362 (Nat.le_refl _)) (Nat.le_refl _)) (by omega) (by omega) ⟨g0.1.1.trans w.1, fun f => (g0.2.2.2 f).trans (w.2 f)⟩ (mr.step (F := F1) 14 10 788 e1 (by decide) (by decide)) pa2
    refine Ex_step (tk_M_init rfl) ?_
    refine Ex_step (tk_M_init rfl) ?_
    refine nwI (n := 10) (tk_M_init rfl) rfl (by decide) ?_
    refine pCR (tk_M_init rfl) (hk12a) ?_
    exact hq
  have z72 : ∀ (m1 : Mem) (F1 A1 L1 : Nat → Nat → Int), Fr 362 m m1 F F1 A A1 L L1 → 100 + mN m1 = 378 → mZ m1 ≤ mZ m + 20120 → (mK m1 362 = 12 ∧ ∀ f, F1 f 362 = if f = 773 then -1 else 0) → MR m1 A1 L1 378 787 [(786, 377, 14, 10), (785, 376, 13, 100), (779, 367, 19, 8), (778, 366, 13, 1920), (777, 365, 13, 1920), (776, 364, 13, 800), (769, 363, 13, 2)] → (∀ j, j < 8 → mAR m1 367 j = 368 + j ∧ mK m1 (368 + j) = 13 ∧ mLen m1 (368 + j) = 1920 ∧ (A1 (368 + j) = fun _ => 0) ∧ L1 (368 + j) = fun _ => 0) → Ex d M_init 72 [some (vR 362)] [] (CM m1 F1 A1 L1) Q := by
    intro m1 F1 A1 L1 fr e1 z1 w mr pa
    have r3 := mk_row (m := m1) F1 A1 L1 14 10 787 362 (by omega)
    have n3 : mN (sFR (alloc m1 14 10 10) 787 362 (100 + mN m1)) = mN m1 + 1 := rfl
    have z3 : mZ (sFR (alloc m1 14 10 10) 787 362 (100 + mN m1)) = mZ m1 + 10 := rfl
    have g0 := r3.2.2 362 (by omega)
    have hk12a : mK (alloc m1 14 10 10) 362 = 12 := g0.1.1.trans w.1
    have pa2 : ∀ j, j < 8 → mAR (sFR (alloc m1 14 10 10) 787 362 (100 + mN m1)) 367 j = 368 + j ∧ mK (sFR (alloc m1 14 10 10) 787 362 (100 + mN m1)) (368 + j) = 13 ∧ mLen (sFR (alloc m1 14 10 10) 787 362 (100 + mN m1)) (368 + j) = 1920 ∧ (zA (100 + mN m1) A1 (368 + j) = fun _ => 0) ∧ zA (100 + mN m1) L1 (368 + j) = fun _ => 0 := fun j hj => by
      obtain ⟨p1, p2, p3, p4, p5⟩ := pa j hj
      have gj := r3.2.2 (368 + j) (by omega)
      have gl : zA (100 + mN m1) L1 (368 + j) = L1 (368 + j) := if_neg (by omega)
      exact ⟨by rw [(r3.2.2 367 (by omega)).1.2.2]; exact p1, gj.1.1.trans p2, gj.1.2.1.trans p3, gj.2.2.1.trans p4, gl.trans p5⟩
    have hq := z80 _ _ _ _ (fr.tr (r3.1 362 (Nat.le_refl _)) (Nat.le_refl _)) (by omega) (by omega) ⟨g0.1.1.trans w.1, fun f => (g0.2.2.2 f).trans (w.2 f)⟩ (mr.step (F := F1) 14 10 787 e1 (by decide) (by decide)) pa2
    refine Ex_step (tk_M_init rfl) ?_
    refine Ex_step (tk_M_init rfl) ?_
    refine nwI (n := 10) (tk_M_init rfl) rfl (by decide) ?_
    refine pCR (tk_M_init rfl) (hk12a) ?_
    exact hq
  have z64 : ∀ (m1 : Mem) (F1 A1 L1 : Nat → Nat → Int), Fr 362 m m1 F F1 A A1 L L1 → 100 + mN m1 = 377 → mZ m1 ≤ mZ m + 20110 → (mK m1 362 = 12 ∧ ∀ f, F1 f 362 = if f = 773 then -1 else 0) → MR m1 A1 L1 377 786 [(785, 376, 13, 100), (779, 367, 19, 8), (778, 366, 13, 1920), (777, 365, 13, 1920), (776, 364, 13, 800), (769, 363, 13, 2)] → (∀ j, j < 8 → mAR m1 367 j = 368 + j ∧ mK m1 (368 + j) = 13 ∧ mLen m1 (368 + j) = 1920 ∧ (A1 (368 + j) = fun _ => 0) ∧ L1 (368 + j) = fun _ => 0) → Ex d M_init 64 [some (vR 362)] [] (CM m1 F1 A1 L1) Q := by
    intro m1 F1 A1 L1 fr e1 z1 w mr pa
    have r3 := mk_row (m := m1) F1 A1 L1 14 10 786 362 (by omega)
    have n3 : mN (sFR (alloc m1 14 10 10) 786 362 (100 + mN m1)) = mN m1 + 1 := rfl
    have z3 : mZ (sFR (alloc m1 14 10 10) 786 362 (100 + mN m1)) = mZ m1 + 10 := rfl
    have g0 := r3.2.2 362 (by omega)
    have hk12a : mK (alloc m1 14 10 10) 362 = 12 := g0.1.1.trans w.1
    have pa2 : ∀ j, j < 8 → mAR (sFR (alloc m1 14 10 10) 786 362 (100 + mN m1)) 367 j = 368 + j ∧ mK (sFR (alloc m1 14 10 10) 786 362 (100 + mN m1)) (368 + j) = 13 ∧ mLen (sFR (alloc m1 14 10 10) 786 362 (100 + mN m1)) (368 + j) = 1920 ∧ (zA (100 + mN m1) A1 (368 + j) = fun _ => 0) ∧ zA (100 + mN m1) L1 (368 + j) = fun _ => 0 := fun j hj => by
      obtain ⟨p1, p2, p3, p4, p5⟩ := pa j hj
      have gj := r3.2.2 (368 + j) (by omega)
      have gl : zA (100 + mN m1) L1 (368 + j) = L1 (368 + j) := if_neg (by omega)
      exact ⟨by rw [(r3.2.2 367 (by omega)).1.2.2]; exact p1, gj.1.1.trans p2, gj.1.2.1.trans p3, gj.2.2.1.trans p4, gl.trans p5⟩
    have hq := z72 _ _ _ _ (fr.tr (r3.1 362 (Nat.le_refl _)) (Nat.le_refl _)) (by omega) (by omega) ⟨g0.1.1.trans w.1, fun f => (g0.2.2.2 f).trans (w.2 f)⟩ (mr.step (F := F1) 14 10 786 e1 (by decide) (by decide)) pa2
    refine Ex_step (tk_M_init rfl) ?_
    refine Ex_step (tk_M_init rfl) ?_
    refine nwI (n := 10) (tk_M_init rfl) rfl (by decide) ?_
    refine pCR (tk_M_init rfl) (hk12a) ?_
    exact hq
  have z56 : ∀ (m1 : Mem) (F1 A1 L1 : Nat → Nat → Int), Fr 362 m m1 F F1 A A1 L L1 → 100 + mN m1 = 376 → mZ m1 ≤ mZ m + 20010 → (mK m1 362 = 12 ∧ ∀ f, F1 f 362 = if f = 773 then -1 else 0) → MR m1 A1 L1 376 780 [(779, 367, 19, 8), (778, 366, 13, 1920), (777, 365, 13, 1920), (776, 364, 13, 800), (769, 363, 13, 2)] → (∀ j, j < 8 → mAR m1 367 j = 368 + j ∧ mK m1 (368 + j) = 13 ∧ mLen m1 (368 + j) = 1920 ∧ (A1 (368 + j) = fun _ => 0) ∧ L1 (368 + j) = fun _ => 0) → Ex d M_init 56 [some (vR 362)] [] (CM m1 F1 A1 L1) Q := by
    intro m1 F1 A1 L1 fr e1 z1 w mr pa
    have r3 := mk_row (m := m1) F1 A1 L1 13 100 785 362 (by omega)
    have n3 : mN (sFR (alloc m1 13 100 100) 785 362 (100 + mN m1)) = mN m1 + 1 := rfl
    have z3 : mZ (sFR (alloc m1 13 100 100) 785 362 (100 + mN m1)) = mZ m1 + 100 := rfl
    have g0 := r3.2.2 362 (by omega)
    have hk12a : mK (alloc m1 13 100 100) 362 = 12 := g0.1.1.trans w.1
    have pa2 : ∀ j, j < 8 → mAR (sFR (alloc m1 13 100 100) 785 362 (100 + mN m1)) 367 j = 368 + j ∧ mK (sFR (alloc m1 13 100 100) 785 362 (100 + mN m1)) (368 + j) = 13 ∧ mLen (sFR (alloc m1 13 100 100) 785 362 (100 + mN m1)) (368 + j) = 1920 ∧ (zA (100 + mN m1) A1 (368 + j) = fun _ => 0) ∧ zA (100 + mN m1) L1 (368 + j) = fun _ => 0 := fun j hj => by
      obtain ⟨p1, p2, p3, p4, p5⟩ := pa j hj
      have gj := r3.2.2 (368 + j) (by omega)
      have gl : zA (100 + mN m1) L1 (368 + j) = L1 (368 + j) := if_neg (by omega)
      exact ⟨by rw [(r3.2.2 367 (by omega)).1.2.2]; exact p1, gj.1.1.trans p2, gj.1.2.1.trans p3, gj.2.2.1.trans p4, gl.trans p5⟩
    have hq := z64 _ _ _ _ (fr.tr (r3.1 362 (Nat.le_refl _)) (Nat.le_refl _)) (by omega) (by omega) ⟨g0.1.1.trans w.1, fun f => (g0.2.2.2 f).trans (w.2 f)⟩ (mr.step (F := F1) 13 100 785 e1 (by decide) (by decide)) pa2
    refine Ex_step (tk_M_init rfl) ?_
    refine Ex_step (tk_M_init rfl) ?_
    refine nwI (n := 100) (tk_M_init rfl) rfl (by decide) ?_
    refine pCR (tk_M_init rfl) (hk12a) ?_
    exact hq
  have z43 : ∀ (m1 : Mem) (F1 A1 L1 : Nat → Nat → Int), Fr 362 m m1 F F1 A A1 L L1 → 100 + mN m1 = 367 → mZ m1 ≤ mZ m + 4642 → (mK m1 362 = 12 ∧ ∀ f, F1 f 362 = if f = 773 then -1 else 0) → MR m1 A1 L1 367 779 [(778, 366, 13, 1920), (777, 365, 13, 1920), (776, 364, 13, 800), (769, 363, 13, 2)] → Ex d M_init 43 [some (vR 362)] [] (CM m1 F1 A1 L1) Q := by
    intro m1 F1 A1 L1 fr e1 z1 w mr
    have z53 : ∀ (m2 : Mem) (F2 A2 L2 : Nat → Nat → Int), Fr 367 m1 m2 F1 F2 A1 A2 L1 L2 → mN m2 = mN m1 + 9 → mZ m2 = mZ m1 + 15368 → (mK m2 367 = 19 ∧ mLen m2 367 = 8 ∧ (A2 367 = fun _ => 0) ∧ L2 367 = fun _ => 0) → (∀ j, j < 8 → mAR m2 367 j = 367 + 1 + j ∧ mK m2 (367 + 1 + j) = 13 ∧ mLen m2 (367 + 1 + j) = 1920 ∧ (A2 (367 + 1 + j) = fun _ => 0) ∧ L2 (367 + 1 + j) = fun _ => 0) → Ex d M_init 53 [some (vR 362)] [vR 367, vR 362] (CM m2 F2 A2 L2) Q := by
      intro m2 F2 A2 L2 fr2 n2 z2 k2 pa
      have g0 := fr2 362 (by decide)
      have hk12a : mK m2 362 = 12 := g0.1.1.trans w.1
      have hq := z56 (sFR m2 779 362 367) F2 A2 L2 ((fr.tr fr2 (by decide)).tr (Fr.sF (Nat.le_refl 362)) (Nat.le_refl _)) (by show 100 + mN m2 = _; omega) (by show mZ m2 ≤ _; omega) ⟨hk12a, fun f => (g0.2 f).2.trans (w.2 f)⟩ (fun q hq => by
        rcases List.mem_cons.mp hq with e | e
        · subst e
          exact ⟨⟨by decide, by decide⟩, sFR_at _ _ _ _, k2.1, k2.2.1, k2.2.2.1, k2.2.2.2⟩
        · obtain ⟨c, p1, p2, p3, p4, p5⟩ := mr q e
          have g := fr2 q.2.1 c.1
          exact ⟨⟨by omega, by omega⟩, (sFR_ne _ (fun z => by omega)).trans ((g0.2 q.1).1.trans p1), g.1.1.trans p2, g.1.2.1.trans p3, g.1.2.2.2.1.trans p4, g.1.2.2.2.2.trans p5⟩) (fun j hj => pa j hj)
      refine pCR (tk_M_init rfl) (hk12a) ?_
      exact hq
    have hm := fun (H : ∀ (m' : Mem) (F' A' L' : Nat → Nat → Int), Fr (100 + mN m1) m1 m' F1 F' A1 A' L1 L' → mN m' = mN m1 + 9 → mZ m' = mZ m1 + 15368 → (mK m' (100 + mN m1) = 19 ∧ mLen m' (100 + mN m1) = 8 ∧ (A' (100 + mN m1) = fun _ => 0) ∧ L' (100 + mN m1) = fun _ => 0) → (∀ j, j < 8 → mAR m' (100 + mN m1) j = 100 + mN m1 + 1 + j ∧ mK m' (100 + mN m1 + 1 + j) = 13 ∧ mLen m' (100 + mN m1 + 1 + j) = 1920 ∧ (A' (100 + mN m1 + 1 + j) = fun _ => 0) ∧ L' (100 + mN m1 + 1 + j) = fun _ => 0) → Ex d M_init 53 [some (vR 362)] (vR (100 + mN m1) :: [vR 362]) (CM m' F' A' L') Q) => nwM (d := d) (Q := Q) (tk_M_init (pc := 49) rfl) H
    rw [e1] at hm
    have hq := hm z53
    refine Ex_step (tk_M_init rfl) ?_
    refine Ex_step (tk_M_init rfl) ?_
    refine Ex_step (tk_M_init rfl) ?_
    exact hq
  have z34 : ∀ (m1 : Mem) (F1 A1 L1 : Nat → Nat → Int), Fr 362 m m1 F F1 A A1 L L1 → 100 + mN m1 = 366 → mZ m1 ≤ mZ m + 2722 → (mK m1 362 = 12 ∧ ∀ f, F1 f 362 = if f = 773 then -1 else 0) → MR m1 A1 L1 366 778 [(777, 365, 13, 1920), (776, 364, 13, 800), (769, 363, 13, 2)] → Ex d M_init 34 [some (vR 362)] [] (CM m1 F1 A1 L1) Q := by
    intro m1 F1 A1 L1 fr e1 z1 w mr
    have r3 := mk_row (m := m1) F1 A1 L1 13 1920 778 362 (by omega)
    have n3 : mN (sFR (alloc m1 13 1920 1920) 778 362 (100 + mN m1)) = mN m1 + 1 := rfl
    have z3 : mZ (sFR (alloc m1 13 1920 1920) 778 362 (100 + mN m1)) = mZ m1 + 1920 := rfl
    have g0 := r3.2.2 362 (by omega)
    have hk12a : mK (alloc m1 13 1920 1920) 362 = 12 := g0.1.1.trans w.1
    have hq := z43 _ _ _ _ (fr.tr (r3.1 362 (Nat.le_refl _)) (Nat.le_refl _)) (by omega) (by omega) ⟨g0.1.1.trans w.1, fun f => (g0.2.2.2 f).trans (w.2 f)⟩ (mr.step (F := F1) 13 1920 778 e1 (by decide) (by decide))
    refine Ex_step (tk_M_init rfl) ?_
    refine Ex_step (tk_M_init rfl) ?_
    refine nwI (n := 1920) (tk_M_init rfl) rfl (by decide) ?_
    refine pCR (tk_M_init rfl) (hk12a) ?_
    exact hq
  have z25 : ∀ (m1 : Mem) (F1 A1 L1 : Nat → Nat → Int), Fr 362 m m1 F F1 A A1 L L1 → 100 + mN m1 = 365 → mZ m1 ≤ mZ m + 802 → (mK m1 362 = 12 ∧ ∀ f, F1 f 362 = if f = 773 then -1 else 0) → MR m1 A1 L1 365 777 [(776, 364, 13, 800), (769, 363, 13, 2)] → Ex d M_init 25 [some (vR 362)] [] (CM m1 F1 A1 L1) Q := by
    intro m1 F1 A1 L1 fr e1 z1 w mr
    have r3 := mk_row (m := m1) F1 A1 L1 13 1920 777 362 (by omega)
    have n3 : mN (sFR (alloc m1 13 1920 1920) 777 362 (100 + mN m1)) = mN m1 + 1 := rfl
    have z3 : mZ (sFR (alloc m1 13 1920 1920) 777 362 (100 + mN m1)) = mZ m1 + 1920 := rfl
    have g0 := r3.2.2 362 (by omega)
    have hk12a : mK (alloc m1 13 1920 1920) 362 = 12 := g0.1.1.trans w.1
    have hq := z34 _ _ _ _ (fr.tr (r3.1 362 (Nat.le_refl _)) (Nat.le_refl _)) (by omega) (by omega) ⟨g0.1.1.trans w.1, fun f => (g0.2.2.2 f).trans (w.2 f)⟩ (mr.step (F := F1) 13 1920 777 e1 (by decide) (by decide))
    refine Ex_step (tk_M_init rfl) ?_
    refine Ex_step (tk_M_init rfl) ?_
    refine nwI (n := 1920) (tk_M_init rfl) rfl (by decide) ?_
    refine pCR (tk_M_init rfl) (hk12a) ?_
    exact hq
  have z16 : ∀ (m1 : Mem) (F1 A1 L1 : Nat → Nat → Int), Fr 362 m m1 F F1 A A1 L L1 → 100 + mN m1 = 364 → mZ m1 ≤ mZ m + 2 → (mK m1 362 = 12 ∧ ∀ f, F1 f 362 = if f = 773 then -1 else 0) → MR m1 A1 L1 364 770 [(769, 363, 13, 2)] → Ex d M_init 16 [some (vR 362)] [] (CM m1 F1 A1 L1) Q := by
    intro m1 F1 A1 L1 fr e1 z1 w mr
    have r3 := mk_row (m := m1) F1 A1 L1 13 800 776 362 (by omega)
    have n3 : mN (sFR (alloc m1 13 800 800) 776 362 (100 + mN m1)) = mN m1 + 1 := rfl
    have z3 : mZ (sFR (alloc m1 13 800 800) 776 362 (100 + mN m1)) = mZ m1 + 800 := rfl
    have g0 := r3.2.2 362 (by omega)
    have hk12a : mK (alloc m1 13 800 800) 362 = 12 := g0.1.1.trans w.1
    have hq := z25 _ _ _ _ (fr.tr (r3.1 362 (Nat.le_refl _)) (Nat.le_refl _)) (by omega) (by omega) ⟨g0.1.1.trans w.1, fun f => (g0.2.2.2 f).trans (w.2 f)⟩ (mr.step (F := F1) 13 800 776 e1 (by decide) (by decide))
    refine Ex_step (tk_M_init rfl) ?_
    refine Ex_step (tk_M_init rfl) ?_
    refine nwI (n := 800) (tk_M_init rfl) rfl (by decide) ?_
    refine pCR (tk_M_init rfl) (hk12a) ?_
    exact hq
  have z11 : ∀ (m1 : Mem) (F1 A1 L1 : Nat → Nat → Int), Fr 362 m m1 F F1 A A1 L L1 → 100 + mN m1 = 364 → mZ m1 ≤ mZ m + 2 → (mK m1 362 = 12 ∧ ∀ f, F1 f 362 = 0) → MR m1 A1 L1 364 770 [(769, 363, 13, 2)] → Ex d M_init 11 [some (vR 362)] [] (CM m1 F1 A1 L1) Q := by
    intro m1 F1 A1 L1 fr e1 z1 w mr
    have hk12a := w.1
    have hq := z16 m1 (upF F1 773 362 (-1)) A1 L1 (fr.tr (Fr.uF (Nat.le_refl 362)) (Nat.le_refl _)) e1 z1 ⟨w.1, fun f => by
      by_cases e : f = 773
      · subst e; rw [upF_at, if_pos rfl]
      · rw [upF_f _ _ _ e, if_neg e]; exact w.2 f⟩ mr
    refine Ex_step (tk_M_init rfl) ?_
    refine Ex_step (tk_M_init rfl) ?_
    refine pCI (tk_M_init rfl) (hk12a) ?_
    exact hq
  have z4 : ∀ (m1 : Mem) (F1 A1 L1 : Nat → Nat → Int), Fr 362 m m1 F F1 A A1 L L1 → 100 + mN m1 = 363 → mZ m1 ≤ mZ m + 0 → (mK m1 362 = 12 ∧ ∀ f, F1 f 362 = 0) → MR m1 A1 L1 363 0 [] → Ex d M_init 4 [some (vR 362)] [] (CM m1 F1 A1 L1) Q := by
    intro m1 F1 A1 L1 fr e1 z1 w mr
    have r3 := mk_row (m := m1) F1 A1 L1 13 2 769 362 (by omega)
    have n3 : mN (sFR (alloc m1 13 2 2) 769 362 (100 + mN m1)) = mN m1 + 1 := rfl
    have z3 : mZ (sFR (alloc m1 13 2 2) 769 362 (100 + mN m1)) = mZ m1 + 2 := rfl
    have g0 := r3.2.2 362 (by omega)
    have hk12a : mK (alloc m1 13 2 2) 362 = 12 := g0.1.1.trans w.1
    have hq := z11 _ _ _ _ (fr.tr (r3.1 362 (Nat.le_refl _)) (Nat.le_refl _)) (by omega) (by omega) ⟨g0.1.1.trans w.1, fun f => (g0.2.2.2 f).trans (w.2 f)⟩ (mr.step (F := F1) 13 2 769 e1 (by decide) (by decide))
    refine Ex_step (tk_M_init rfl) ?_
    refine Ex_step (tk_M_init rfl) ?_
    refine nwI (n := 2) (tk_M_init rfl) rfl (by decide) ?_
    refine pCR (tk_M_init rfl) (hk12a) ?_
    exact hq
  have hq := z4 m F A L Fr.rf (by omega) (Nat.le_refl _) ⟨hk12, hF⟩ (fun q hq => absurd hq (List.not_mem_nil))
  refine Ex_step (tk_M_init rfl) ?_
  refine Ex_step (tk_M_init rfl) ⟨rfl, by decide, Nat.le_of_ble_eq_true rfl, ?_⟩
  exact hq
end MInit
