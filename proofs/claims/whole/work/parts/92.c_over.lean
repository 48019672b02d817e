/-! ===== the class: overlays, rows of bits ===== -/
def RowI (v : Int) (p : Int → Prop) [DecidablePred p] : Prop := ∀ i : Nat, i < 32 → ib v i = decide (p (i : Int))
set_option maxRecDepth 100000 in
theorem RowI_and {u v : Int} {p q : Int → Prop} [DecidablePred p] [DecidablePred q] (hu : RowI u p) (hv : RowI v q) : RowI (iAnd u v) (fun x => p x ∧ q x) := by
  intro i hi
  rw [ib_and, hu i hi, hv i hi, Bool.decide_and]
set_option maxRecDepth 100000 in
theorem RowI_or {u v : Int} {p q : Int → Prop} [DecidablePred p] [DecidablePred q] (hu : RowI u p) (hv : RowI v q) : RowI (iOr u v) (fun x => p x ∨ q x) := by
  intro i hi
  rw [ib_or, hu i hi, hv i hi, Bool.decide_or]
set_option maxRecDepth 100000 in
theorem RowI_not {u : Int} {p : Int → Prop} [DecidablePred p] (hu : RowI u p) : RowI (iXor u (-1)) (fun x => ¬ p x) := by
  intro i hi
  rw [ib_xor, hu i hi, ib_m1 hi, decide_not]
  cases decide (p (i : Int)) <;> rfl
set_option maxRecDepth 100000 in
theorem RowI_c {u : Int} {p q : Int → Prop} [DecidablePred p] [DecidablePred q] (hu : RowI u p) (h : ∀ x, p x ↔ q x) : RowI u q := by
  intro i hi
  rw [hu i hi]
  exact decide_eq_decide.mpr (h _)
set_option maxRecDepth 100000 in
theorem RowI_n {u : Int} {p : Int → Prop} [DecidablePred p] (hu : RowI u p) : ((bc (u32 u) 32 : Nat) : Int) = sI (fun x => oI (p x)) 0 32 := bcI_sum (off := 0) (fun i hi => by rw [Int.zero_add]; exact hu i hi) 32 (Nat.le_refl _)
section COver
variable {d a b o t : Nat} {dx dy : Int} {f : Int → Int → Int} {T : Nat → Int} {m : Mem} {F A L : Nat → Nat → Int} {Q : Nat → Option AV → Mem → Prop}
set_option maxRecDepth 100000 in
theorem c_shifted {r n : Int} {p : Int → Prop} [DecidablePred p] (hr : RowI r p) (hp : ∀ x, p x → 0 ≤ x ∧ x < 10) (hn : -20 ≤ n ∧ n ≤ 20) (h : ∀ v, RowI v (fun x => 0 ≤ x ∧ p (x - n)) → Q 0 (some (vI v)) m) : Ex d Ov_shifted 0 [some (vI r), some (vI n)] [] m Q := by
  have h31 : ib r 31 = false := by
    rw [hr 31 (by decide)]
    exact decide_eq_false (fun z => by have := hp _ z; omega)
  have q1 : 0 ≤ n → RowI (iShl r n) (fun x => 0 ≤ x ∧ p (x - n)) := by
    intro h0 i hi
    obtain ⟨s, rfl⟩ := Int.eq_ofNat_of_zero_le h0
    rw [ib_shl r (by omega), decide_eq_true hi, Bool.true_and]
    by_cases q : i < s
    · rw [decide_eq_true q]
      exact (decide_eq_false (fun z => by have := hp _ z.2; omega)).symm
    · rw [decide_eq_false q, hr (i - s) (by omega), show ((i - s : Nat) : Int) = (i : Int) - (s : Int) by omega]
      exact decide_eq_decide.mpr ⟨fun z => ⟨by omega, z⟩, fun z => z.2⟩
  have q2 : n < 0 → RowI (iShr r (-n)) (fun x => 0 ≤ x ∧ p (x - n)) := by
    intro h0 i hi
    obtain ⟨s, hs⟩ := Int.eq_ofNat_of_zero_le (show 0 ≤ -n by omega)
    rw [hs, ib_shr2 r (by omega) i h31]
    by_cases q : s + i < 32
    · rw [decide_eq_true q, Bool.true_and, hr (s + i) q, show ((s + i : Nat) : Int) = (i : Int) - n by omega]
      exact decide_eq_decide.mpr ⟨fun z => ⟨by omega, z⟩, fun z => z.2⟩
    · rw [decide_eq_false q]
      exact (decide_eq_false (fun z => by have := hp _ z.2; omega)).symm
  refine Ex_step (tk_Ov_shifted rfl) ?_
  refine Ex_step (tk_Ov_shifted rfl) ⟨fun h1 => ?_, fun h1 => ?_⟩
  · try simp (disch := omega) only [cmpI, w32_b2i, b2i_0, b2i_1, w32_id, Classical.not_not, not_true_eq_false, not_false_eq_true] at h1
    refine Ex_step (tk_Ov_shifted rfl) ?_
    refine Ex_step (tk_Ov_shifted rfl) ?_
    refine Ex_step (tk_Ov_shifted rfl) ?_
    refine Ex_step (tk_Ov_shifted rfl) ?_
    refine Ex_step (tk_Ov_shifted rfl) ⟨rfl, ?_⟩
    first | exact h _ (q1 (by omega)) | exact h _ (q2 (by omega))
  · try simp (disch := omega) only [cmpI, w32_b2i, b2i_0, b2i_1, w32_id, Classical.not_not, not_true_eq_false, not_false_eq_true] at h1
    refine Ex_step (tk_Ov_shifted rfl) ?_
    refine Ex_step (tk_Ov_shifted rfl) ?_
    refine Ex_step (tk_Ov_shifted rfl) ?_
    refine Ex_step (tk_Ov_shifted rfl) ?_
    refine Ex_step (tk_Ov_shifted rfl) ⟨rfl, ?_⟩
    first | exact h _ (q1 (by omega)) | exact h _ (q2 (by omega))
/-- where the overlays' own things lie: fixed, moved as they are now -/
def OW (m : Mem) (o : Nat) : Prop := mK m o = 5 ∧ mFR m 323 o = o + 38 ∧ DW m (o + 38) ∧ mFR m 324 o = o + 41 ∧ IA m (o + 41) 10 ∧ mFR m 325 o = o + 42 ∧ IA m (o + 42) 10 ∧ (mFR m 320 o = o + 1 ∧ mK m (o + 1) = 16 ∧ mLen m (o + 1) = 36 ∧ ∀ k, k < 36 → mAR m (o + 1) k = o + 2 + k ∧ mK m (o + 2 + k) = 1)
/-- the rows that are laid: solid ones of the first, dotted ones of the second -/
def SolR (A : Nat → Nat → Int) (o : Nat) (f : Int → Int → Int) : Prop := ∀ y : Nat, y < 10 → RowI (A (o + 41) y) (fun x => f x (y : Int) = 1)
def DotR (A : Nat → Nat → Int) (o : Nat) (f : Int → Int → Int) : Prop := ∀ y : Nat, y < 10 → RowI (A (o + 42) y) (fun x => f x (y : Int) = 2)
/-- how many of ten rows of ten are so -/
def nP (p : Int → Int → Prop) [∀ x y, Decidable (p x y)] : Int := sI (fun y => sI (fun x => oI (p x y)) 0 10) 0 10
set_option maxRecDepth 100000 in
theorem DB_dk {f : Int → Int → Int} {a : Nat} (h : DB A a f) {y : Nat} (hy : y < 10) : RowI (A (a + 1) y) (fun x => f x (y : Int) = 1 ∨ f x (y : Int) = 3) := fun i hi => (h y hy i hi).1
set_option maxRecDepth 100000 in
theorem DB_as {f : Int → Int → Int} {a : Nat} (h : DB A a f) {y : Nat} (hy : y < 10) : RowI (A (a + 2) y) (fun x => f x (y : Int) = 2 ∨ f x (y : Int) = 3) := fun i hi => (h y hy i hi).2
set_option maxRecDepth 100000 in
theorem row_10 {p : Int → Prop} [DecidablePred p] (hp : ∀ x, p x → 0 ≤ x ∧ x < 10) : sI (fun x => oI (p x)) 0 32 = sI (fun x => oI (p x)) 0 10 :=
  sI_win (k := 10) (fun x hx => oI_f (fun z => by have := hp x z; omega)) (by decide) (by decide)
set_option maxRecDepth 100000 in
theorem c_take {fa fb : Int → Int → Int} (hO : OW m o) (hA : DW m a) (hB : DW m b) (hoa : a + 3 ≤ o ∨ o + 43 ≤ a) (hob : b + 3 ≤ o ∨ o + 43 ≤ b) (ga : DB A a fa) (gb : DB A b fb) (ra : FB fa) (rb : FB fb) (hq : ∀ A' : Nat → Nat → Int, (∀ j, j ≠ o + 41 → A' j = A j) → SolR A' o fa → Q 0 none (CM (sFR (sFR m 321 o a) 322 o b) (upF F 326 o (nP (fun x y => fa x y = 1) + nP (fun x y => fb x y = 1 ∨ fb x y = 3))) A' L)) : Ex (d + 1) Ov_take 0 [some (vR o), some (vR a), some (vR b), none] [] (CM m F A L) Q := by
  have hk5 := hO.1
  generalize hm2 : sFR (sFR m 321 o a) 322 o b = m2 at *
  have wk : mK m2 = mK m := by rw [← hm2]; rfl
  have wl : mLen m2 = mLen m := by rw [← hm2]; rfl
  have wr : ∀ f j, j ≠ o → mFR m2 f j = mFR m f j := by
    intro f j hj
    rw [← hm2]
    show (if f = 322 ∧ j = o then b else if f = 321 ∧ j = o then a else mFR m f j) = _
    rw [if_neg (fun z => hj z.2), if_neg (fun z => hj z.2)]
  have wr2 : ∀ f, f ≠ 321 → f ≠ 322 → mFR m2 f o = mFR m f o := by
    intro f h1 h2
    rw [← hm2]
    show (if f = 322 ∧ o = o then b else if f = 321 ∧ o = o then a else mFR m f o) = _
    rw [if_neg (fun z => h2 z.1), if_neg (fun z => h1 z.1)]
  have hk52 : mK m2 o = 5 := by rw [wk]; exact hk5
  have hia : ∀ j z, IA m j z → IA m2 j z := fun j z q => ⟨by rw [wk]; exact q.1, by rw [wl]; exact q.2.1, q.2.2⟩
  have hk3a : mK m2 a = 3 := by rw [wk]; exact hA.1
  have hk3b : mK m2 b = 3 := by rw [wk]; exact hB.1
  have r1 : mFR m2 195 a = a + 1 := by rw [wr _ _ (by omega)]; exact hA.2.2.1
  have r2 : mFR m2 196 a = a + 2 := by rw [wr _ _ (by omega)]; exact hA.2.2.2.1
  have r3 : mFR m2 195 b = b + 1 := by rw [wr _ _ (by omega)]; exact hB.2.2.1
  have r4 : mFR m2 324 o = o + 41 := by rw [wr2 _ (by decide) (by decide)]; exact hO.2.2.2.1
  have hloop : ∀ (r y : Nat) (F' A' : Nat → Nat → Int), y + r = 10 → F' = upF F 326 o (sI (fun y => sI (fun x => oI (fa x y = 1)) 0 10) 0 y + sI (fun y => sI (fun x => oI (fb x y = 1 ∨ fb x y = 3)) 0 10) 0 y) → (∀ j, j ≠ o + 41 → A' j = A j) → (∀ y2 : Nat, y2 < y → RowI (A' (o + 41) y2) (fun x => fa x (y2 : Int) = 1)) → Ex (d + 1) Ov_take 17 [some (vR o), some (vR a), some (vR b), some (vI (y : Int))] [] (CM m2 F' A' L) Q := by
    intro r
    induction r with
    | zero =>
      intro y F' A' hy hF k1 k2
      have : y = 10 := by omega
      subst this
      have hx := hq A' k1 k2
      rw [show upF F 326 o (nP (fun x y => fa x y = 1) + nP (fun x y => fb x y = 1 ∨ fb x y = 3)) = F' from hF.symm] at hx
      refine Ex_step (tk_Ov_take rfl) ?_
      refine Ex_step (tk_Ov_take rfl) ?_
      refine Ex_step (tk_Ov_take rfl) ⟨fun h20 => ?_, fun h20 => ?_⟩
      · replace h20 : _ := h20
        refine Ex_step (tk_Ov_take rfl) ⟨rfl, ?_⟩
        exact hx
      · replace h20 : _ := h20
        exact absurd (show w32 10 ≤ w32 10 from Int.le_refl _) h20
    | succ r ih =>
      intro y F' A' hy hF k1 k2
      have b1 := DB_dk ga (y := y) (by omega)
      have b2 := DB_as ga (y := y) (by omega)
      have b3 := DB_dk gb (y := y) (by omega)
      have rs : RowI (iAnd (A (a + 1) y) (iXor (A (a + 2) y) (-1))) (fun x => fa x (y : Int) = 1) := RowI_c (RowI_and b1 (RowI_not b2)) (fun x => by have := (ra x (y : Int)).1; omega)
      have n1 : ((bc (u32 (iAnd (A (a + 1) y) (iXor (A (a + 2) y) (-1)))) 32 : Nat) : Int) = sI (fun x => oI (fa x (y : Int) = 1)) 0 10 := by
        rw [RowI_n rs]
        exact row_10 (fun x z => ((ra x (y : Int)).2 (by omega)).1)
      have n2 : ((bc (u32 (A (b + 1) y)) 32 : Nat) : Int) = sI (fun x => oI (fb x (y : Int) = 1 ∨ fb x (y : Int) = 3)) 0 10 := by
        rw [RowI_n b3]
        exact row_10 (fun x z => ((rb x (y : Int)).2 (by omega)).1)
      have e1 : A' (a + 1) = A (a + 1) := k1 _ (by omega)
      have e2 : A' (a + 2) = A (a + 2) := k1 _ (by omega)
      have e3 : A' (b + 1) = A (b + 1) := k1 _ (by omega)
      have hnx := ih (y + 1) (upF F' 326 o (F' 326 o + (((bc (u32 (iAnd (A (a + 1) y) (iXor (A (a + 2) y) (-1)))) 32 : Nat) : Int) + ((bc (u32 (A (b + 1) y)) 32 : Nat) : Int)))) (up1 A' (o + 41) (up1 (A' (o + 41)) y (iAnd (A (a + 1) y) (iXor (A (a + 2) y) (-1))))) (by omega) (by
        rw [hF, upF_at, n1, n2]
        funext f2 j2
        unfold upF
        split
        · show _ = (sI (fun y => sI (fun x => oI (fa x y = 1)) 0 10) 0 y + sI (fun x => oI (fa x (0 + (y : Int)) = 1)) 0 10) + (sI (fun y => sI (fun x => oI (fb x y = 1 ∨ fb x y = 3)) 0 10) 0 y + sI (fun x => oI (fb x (0 + (y : Int)) = 1 ∨ fb x (0 + (y : Int)) = 3)) 0 10)
          rw [Int.zero_add]
          omega
        · rfl) (fun j hj => by rw [up1_ne _ _ hj]; exact k1 j hj) (fun y2 hy2 => by
        rw [up1_at]
        by_cases q : y2 = y
        · rw [q, up1_at]; exact rs
        · rw [up1_ne _ _ q]; exact k2 y2 (by omega))
      refine Ex_step (tk_Ov_take rfl) ?_
      refine Ex_step (tk_Ov_take rfl) ?_
      refine Ex_step (tk_Ov_take rfl) ⟨fun h20 => ?_, fun h20 => ?_⟩
      · try simp (disch := omega) only [cmpI, w32_b2i, b2i_0, b2i_1, w32_id, Classical.not_not, not_true_eq_false, not_false_eq_true] at h20
        omega
      · try simp (disch := omega) only [cmpI, w32_b2i, b2i_0, b2i_1, w32_id, Classical.not_not, not_true_eq_false, not_false_eq_true] at h20
        refine Ex_step (tk_Ov_take rfl) ?_
        refine gCR (tk_Ov_take rfl) (hk52) (r4) ?_
        refine Ex_step (tk_Ov_take rfl) ?_
        refine Ex_step (tk_Ov_take rfl) ?_
        refine gCR (tk_Ov_take rfl) (hk3a) (r1) ?_
        refine Ex_step (tk_Ov_take rfl) ?_
        refine lCI (n := y) (tk_Ov_take rfl) (hia _ _ hA.2.2.2.2.1) (w32_id (by omega) (by omega)) (by omega) ?_
        rw [e1]
        refine Ex_step (tk_Ov_take rfl) ?_
        refine gCR (tk_Ov_take rfl) (hk3a) (r2) ?_
        refine Ex_step (tk_Ov_take rfl) ?_
        refine lCI (n := y) (tk_Ov_take rfl) (hia _ _ hA.2.2.2.2.2) (w32_id (by omega) (by omega)) (by omega) ?_
        rw [e2]
        refine Ex_step (tk_Ov_take rfl) ?_
        refine Ex_step (tk_Ov_take rfl) ?_
        refine Ex_step (tk_Ov_take rfl) ?_
        refine tCI (n := y) (tk_Ov_take rfl) (hia _ _ hO.2.2.2.2.1) (w32_id (by omega) (by omega)) (by omega) ?_
        refine Ex_step (tk_Ov_take rfl) ?_
        refine Ex_step (tk_Ov_take rfl) ?_
        refine gCI (tk_Ov_take rfl) (hk52) ?_
        refine Ex_step (tk_Ov_take rfl) ?_
        refine gCR (tk_Ov_take rfl) (hk52) (r4) ?_
        refine Ex_step (tk_Ov_take rfl) ?_
        refine lCI (n := y) (tk_Ov_take rfl) (hia _ _ hO.2.2.2.2.1) (w32_id (by omega) (by omega)) (by omega) ?_
        rw [up1_at, up1_at]
        refine Ex_cS0 (av := [vI (iAnd (A (a + 1) y) (iXor (A (a + 2) y) (-1)))]) (tk_Ov_take rfl) mk_Int_bitCount ⟨rfl, by decide, rfl, rfl, rfl, Nat.le_of_ble_eq_true rfl, Nat.le_of_ble_eq_true rfl⟩ (fun _ h => e_bitI h) ?_
        refine Ex_step (tk_Ov_take rfl) ?_
        refine gCR (tk_Ov_take rfl) (hk3b) (r3) ?_
        refine Ex_step (tk_Ov_take rfl) ?_
        refine lCI (n := y) (tk_Ov_take rfl) (hia _ _ hB.2.2.2.2.1) (w32_id (by omega) (by omega)) (by omega) ?_
        rw [up1_ne A' _ (show b + 1 ≠ o + 41 by omega), e3]
        refine Ex_cS0 (av := [vI (A (b + 1) y)]) (tk_Ov_take rfl) mk_Int_bitCount ⟨rfl, by decide, rfl, rfl, rfl, Nat.le_of_ble_eq_true rfl, Nat.le_of_ble_eq_true rfl⟩ (fun _ h => e_bitI h) ?_
        refine Ex_step (tk_Ov_take rfl) ?_
        refine Ex_step (tk_Ov_take rfl) ?_
        refine pCI (tk_Ov_take rfl) (hk52) ?_
        refine Ex_step (tk_Ov_take rfl) ?_
        refine Ex_step (tk_Ov_take rfl) ?_
        exact hnx
  have h17 := hloop 10 0 (upF F 326 o 0) A (by omega) rfl (fun _ _ => rfl) (fun y2 h => absurd h (Nat.not_lt_zero y2))
  rw [← hm2] at h17
  refine Ex_step (tk_Ov_take rfl) ?_
  refine Ex_step (tk_Ov_take rfl) ?_
  refine pCR (tk_Ov_take rfl) (hk5) ?_
  refine Ex_step (tk_Ov_take rfl) ?_
  refine Ex_step (tk_Ov_take rfl) ?_
  refine pCR (tk_Ov_take rfl) (hk5) ?_
  refine Ex_step (tk_Ov_take rfl) ?_
  refine Ex_step (tk_Ov_take rfl) ?_
  refine pCI (tk_Ov_take rfl) (hk5) ?_
  refine Ex_step (tk_Ov_take rfl) ?_
  refine Ex_step (tk_Ov_take rfl) ?_
  exact h17
end COver
