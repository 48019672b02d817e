/-! ===== calls whose rest is a goal of the callee's own contract ===== -/
section CallsK
variable {d y pc : Nat} {ls : Ls} {r : List AV} {m : Mem} {Q : Nat → Option AV → Mem → Prop} {nx idx : Nat} {rs : List Nat} {c0 : Int} {av : List AV}
set_option maxRecDepth 100000 in
theorem Ex_cVK {y1 a : Nat} (hk : okE y pc (.invokevirtual idx, nx, rs, c0)) (hm : mOk y1) (h9 : n1 (.invokevirtual idx, nx, rs, c0) = y1 ∧ mI y1 0 = 0 ∧ (mNm y1).name ≠ "<init>" ∧ av.length = mI y1 2 ∧ catS r ≤ 8 ∧ (laySl (vR a :: av)).length ≤ mL y1) (hka : mK m a = mI y1 1) (h : Ex d y1 0 (entL y1 (vR a :: av)) [] m (fun o v m2 => o = 0 ∧ Ex (d + 1) y nx ls (v.toList ++ r) m2 Q)) : Ex (d + 1) y pc ls (av.reverse ++ vR a :: r) m Q :=
  Ex_cV hk hm h9 hka h (by
    rintro o v m2 ⟨rfl, k⟩
    exact ⟨fun _ => k, fun z => absurd rfl z⟩)
set_option maxRecDepth 100000 in
theorem Ex_cSK {y1 : Nat} (hk : okE y pc (.invokestatic idx, nx, rs, c0)) (hm : mOk y1) (h9 : n1 (.invokestatic idx, nx, rs, c0) = y1 ∧ y1 ≠ 998 ∧ mI y1 0 = 1 ∧ mH y1 = [] ∧ av.length = mI y1 2 ∧ catS r ≤ 8 ∧ (laySl av).length ≤ mL y1) (h : Ex d y1 0 (entL y1 av) [] m (fun o v m2 => o = 0 ∧ Ex (d + 1) y nx ls (v.toList ++ r) m2 Q)) : Ex (d + 1) y pc ls (av.reverse ++ r) m Q :=
  Ex_cS hk hm h9 h (by
    rintro o v m2 ⟨rfl, k⟩
    exact ⟨fun _ => k, fun z => absurd rfl z⟩)
set_option maxRecDepth 100000 in
theorem Ex_cIK {y1 a : Nat} (hk : okE y pc (.invokespecial idx, nx, rs, c0)) (hm : mOk y1) (h9 : n1 (.invokespecial idx, nx, rs, c0) = y1 ∧ y1 ≠ 999 ∧ mI y1 0 = 0 ∧ mR y1 = none ∧ av.length = mI y1 2 ∧ catS r ≤ 8 ∧ (laySl (vR a :: av)).length ≤ mL y1) (ha : 100 ≤ a) (h : Ex d y1 0 (entL y1 (vR a :: av)) [] m (fun o v m2 => o = 0 ∧ Ex (d + 1) y nx ls (v.toList ++ r) m2 Q)) : Ex (d + 1) y pc ls (av.reverse ++ vR a :: r) m Q :=
  Ex_cI hk hm h9 ha h (by
    rintro o v m2 ⟨rfl, k⟩
    exact ⟨fun _ => k, fun z => absurd rfl z⟩)
end CallsK
/-! ===== sums over stretches of whole numbers ===== -/
def sI (f : Int → Int) (lo : Int) : Nat → Int
  | 0 => 0
  | n + 1 => sI f lo n + f (lo + (n : Int))
set_option maxRecDepth 100000 in
theorem sI_split (f : Int → Int) (lo : Int) (p : Nat) : ∀ q : Nat, sI f lo (p + q) = sI f lo p + sI f (lo + (p : Int)) q
  | 0 => (Int.add_zero _).symm
  | q + 1 => by
    show sI f lo (p + q) + f (lo + ((p + q : Nat) : Int)) = sI f lo p + (sI f (lo + (p : Int)) q + f (lo + (p : Int) + (q : Int)))
    rw [sI_split f lo p q, show lo + ((p + q : Nat) : Int) = lo + (p : Int) + (q : Int) by omega, Int.add_assoc]
set_option maxRecDepth 100000 in
theorem sI_0 {f : Int → Int} {lo : Int} : ∀ {n : Nat}, (∀ x, lo ≤ x → x < lo + (n : Int) → f x = 0) → sI f lo n = 0
  | 0, _ => rfl
  | n + 1, h => by
    show sI f lo n + f (lo + (n : Int)) = 0
    rw [sI_0 (fun x h1 h2 => h x h1 (by omega)), h _ (by omega) (by omega)]
    rfl
set_option maxRecDepth 100000 in
theorem sI_cong {f g : Int → Int} {lo : Int} : ∀ {n : Nat}, (∀ x, lo ≤ x → x < lo + (n : Int) → f x = g x) → sI f lo n = sI g lo n
  | 0, _ => rfl
  | n + 1, h => by
    show sI f lo n + f (lo + (n : Int)) = sI g lo n + g (lo + (n : Int))
    rw [sI_cong (fun x h1 h2 => h x h1 (by omega)), h _ (by omega) (by omega)]
set_option maxRecDepth 100000 in
theorem sI_add (f g : Int → Int) (lo : Int) : ∀ n : Nat, sI (fun x => f x + g x) lo n = sI f lo n + sI g lo n
  | 0 => rfl
  | n + 1 => by
    show sI (fun x => f x + g x) lo n + (f (lo + (n : Int)) + g (lo + (n : Int))) = sI f lo n + f (lo + (n : Int)) + (sI g lo n + g (lo + (n : Int)))
    rw [sI_add f g lo n]
    omega
set_option maxRecDepth 100000 in
theorem sI_move (f : Int → Int) (lo c : Int) : ∀ n : Nat, sI (fun x => f (x + c)) lo n = sI f (lo + c) n
  | 0 => rfl
  | n + 1 => by
    show sI (fun x => f (x + c)) lo n + f (lo + (n : Int) + c) = sI f (lo + c) n + f (lo + c + (n : Int))
    rw [sI_move f lo c n, show lo + (n : Int) + c = lo + c + (n : Int) by omega]
set_option maxRecDepth 100000 in
/-- a window that holds all that isn't 0 -/
theorem sI_win {f : Int → Int} {lo c : Int} {n k : Nat} (h : ∀ x, x < c ∨ c + (k : Int) ≤ x → f x = 0) (h1 : lo ≤ c) (h2 : c + (k : Int) ≤ lo + (n : Int)) : sI f lo n = sI f c k := by
  obtain ⟨p, hp⟩ : ∃ p : Nat, c = lo + (p : Int) := ⟨(c - lo).toNat, by omega⟩
  obtain ⟨q, hq⟩ : ∃ q : Nat, n = p + (k + q) := ⟨n - (p + k), by omega⟩
  rw [hq, sI_split, sI_split, sI_0 (fun x _ h4 => h x (Or.inl (by omega))), ← hp, sI_0 (n := q) (fun x h3 _ => h x (Or.inr h3))]
  omega
set_option maxRecDepth 100000 in
theorem sI_nn {f : Int → Int} (h : ∀ x, 0 ≤ f x) (lo : Int) : ∀ n : Nat, 0 ≤ sI f lo n
  | 0 => Int.le_refl 0
  | n + 1 => by
    have := sI_nn h lo n
    have := h (lo + (n : Int))
    show 0 ≤ sI f lo n + f (lo + (n : Int))
    omega
set_option maxRecDepth 100000 in
theorem sI_le {f : Int → Int} {c : Int} (h : ∀ x, f x ≤ c) (lo : Int) : ∀ n : Nat, sI f lo n ≤ c * (n : Int)
  | 0 => by show (0 : Int) ≤ c * 0; rw [Int.mul_zero]; exact Int.le_refl 0
  | n + 1 => by
    have a := sI_le h lo n
    have b := h (lo + (n : Int))
    show sI f lo n + f (lo + (n : Int)) ≤ c * ((n + 1 : Nat) : Int)
    have e : c * ((n + 1 : Nat) : Int) = c * (n : Int) + c := by rw [Int.natCast_add, Int.mul_add]; omega
    omega
set_option maxRecDepth 100000 in
theorem sI_swap (f : Int → Int → Int) (a b : Int) (m : Nat) : ∀ n : Nat, sI (fun y => sI (fun x => f x y) a m) b n = sI (fun x => sI (fun y => f x y) b n) a m
  | 0 => (sI_0 (fun _ _ _ => rfl)).symm
  | n + 1 => by
    show sI (fun y => sI (fun x => f x y) a m) b n + sI (fun x => f x (b + (n : Int))) a m = sI (fun x => sI (fun y => f x y) b n + f x (b + (n : Int))) a m
    rw [sI_swap f a b m n, sI_add]
set_option maxRecDepth 100000 in
theorem sI_first (f : Int → Int) (lo : Int) (n : Nat) : sI f lo (n + 1) = f lo + sI f (lo + 1) n := by
  rw [show n + 1 = 1 + n by omega, sI_split]
  show (0 : Int) + f (lo + ((0 : Nat) : Int)) + _ = _
  rw [Int.zero_add, show lo + ((0 : Nat) : Int) = lo by omega]
  rfl
set_option maxRecDepth 100000 in
/-- back to front -/
theorem sI_rev (f : Int → Int) (lo : Int) : ∀ n : Nat, sI (fun x => f (2 * lo + (n : Int) - 1 - x)) lo n = sI f lo n
  | 0 => rfl
  | n + 1 => by
    rw [sI_first]
    show _ = sI f lo n + f (lo + (n : Int))
    have e := sI_rev f lo n
    have e2 : sI (fun x => f (2 * lo + ((n + 1 : Nat) : Int) - 1 - x)) (lo + 1) n = sI (fun x => f (2 * lo + (n : Int) - 1 - x)) lo n := by
      rw [← sI_move (fun x => f (2 * lo + ((n + 1 : Nat) : Int) - 1 - x)) lo 1 n]
      exact sI_cong (fun x _ _ => by rw [show 2 * lo + ((n + 1 : Nat) : Int) - 1 - (x + 1) = 2 * lo + (n : Int) - 1 - x by omega])
    rw [e2, e, show 2 * lo + ((n + 1 : Nat) : Int) - 1 - lo = lo + (n : Int) by omega]
    omega
def oI (p : Prop) [Decidable p] : Int := if p then 1 else 0
set_option maxRecDepth 100000 in
theorem oI_b (p : Prop) [Decidable p] : 0 ≤ oI p ∧ oI p ≤ 1 := by
  unfold oI
  split <;> decide
set_option maxRecDepth 100000 in
theorem oI_f {p : Prop} [Decidable p] (h : ¬ p) : oI p = 0 := if_neg h
set_option maxRecDepth 100000 in
theorem oI_t {p : Prop} [Decidable p] (h : p) : oI p = 1 := if_pos h
set_option maxRecDepth 100000 in
theorem oI_iff {p q : Prop} [Decidable p] [Decidable q] (h : p ↔ q) : oI p = oI q := by
  by_cases hp : p
  · rw [oI_t hp, oI_t (h.mp hp)]
  · rw [oI_f hp, oI_f (fun z => hp (h.mpr z))]
set_option maxRecDepth 100000 in
theorem bcL_sum {z off : Int} {p : Int → Prop} [DecidablePred p] (h : ∀ i : Nat, i < 64 → lb z i = decide (p (off + (i : Int)))) : ∀ k : Nat, k ≤ 64 → ((bc (u64 z) k : Nat) : Int) = sI (fun x => oI (p x)) off k
  | 0, _ => rfl
  | k + 1, hk => by
    show (((bc (u64 z) k) + (if (u64 z).testBit k then 1 else 0) : Nat) : Int) = sI (fun x => oI (p x)) off k + oI (p (off + (k : Int)))
    rw [← bcL_sum h k (by omega), tb_l, h k (by omega)]
    by_cases q : p (off + (k : Int))
    · rw [oI_t q, decide_eq_true q]; rfl
    · rw [oI_f q, decide_eq_false q]; rfl
set_option maxRecDepth 100000 in
theorem bcI_sum {z off : Int} {p : Int → Prop} [DecidablePred p] (h : ∀ i : Nat, i < 32 → ib z i = decide (p (off + (i : Int)))) : ∀ k : Nat, k ≤ 32 → ((bc (u32 z) k : Nat) : Int) = sI (fun x => oI (p x)) off k
  | 0, _ => rfl
  | k + 1, hk => by
    show (((bc (u32 z) k) + (if (u32 z).testBit k then 1 else 0) : Nat) : Int) = sI (fun x => oI (p x)) off k + oI (p (off + (k : Int)))
    rw [← bcI_sum h k (by omega), tb_i, h k (by omega)]
    by_cases q : p (off + (k : Int))
    · rw [oI_t q, decide_eq_true q]; rfl
    · rw [oI_f q, decide_eq_false q]; rfl
/-! two places of a row of things -/
def F2 {α : Type} (a b : Nat) (f : Nat → α) (u v : α) : Nat → α := fun j => if j = a then u else if j = b then v else f j
set_option maxRecDepth 100000 in
theorem F2_a {α : Type} (a b : Nat) (f : Nat → α) (u v : α) : F2 a b f u v a = u := if_pos rfl
set_option maxRecDepth 100000 in
theorem F2_b {α : Type} {a b : Nat} (h : b ≠ a) (f : Nat → α) (u v : α) : F2 a b f u v b = v := by
  unfold F2
  rw [if_neg h, if_pos rfl]
set_option maxRecDepth 100000 in
theorem F2_o {α : Type} {a b j : Nat} (h1 : j ≠ a) (h2 : j ≠ b) (f : Nat → α) (u v : α) : F2 a b f u v j = f j := by
  unfold F2
  rw [if_neg h1, if_neg h2]
set_option maxRecDepth 100000 in
theorem F2_wa {α : Type} (a b : Nat) (f : Nat → α) (u v x : α) : up1 (F2 a b f u v) a x = F2 a b f x v := by
  funext j
  unfold up1 F2
  split <;> rfl
set_option maxRecDepth 100000 in
theorem F2_wb {α : Type} {a b : Nat} (h : b ≠ a) (f : Nat → α) (u v x : α) : up1 (F2 a b f u v) b x = F2 a b f u x := by
  funext j
  unfold up1 F2
  by_cases h1 : j = b
  · subst h1
    rw [if_pos rfl, if_neg h, if_pos rfl]
  · rw [if_neg h1]
    by_cases h2 : j = a
    · rw [if_pos h2, if_pos h2]
    · rw [if_neg h2, if_neg h2, if_neg h1, if_neg h1]
set_option maxRecDepth 100000 in
theorem F2_start {α : Type} {a b : Nat} (h : b ≠ a) (f : Nat → α) : F2 a b f (f a) (f b) = f := by
  funext j
  unfold F2
  by_cases h1 : j = a
  · rw [if_pos h1, h1]
  · rw [if_neg h1]
    by_cases h2 : j = b
    · rw [if_pos h2, h2]
    · rw [if_neg h2]
set_option maxRecDepth 100000 in
theorem F2_up {α : Type} {a b : Nat} (h : b ≠ a) (f : Nat → α) (u v : α) : up1 (up1 f a u) b v = F2 a b f u v := by
  have e : up1 (up1 (F2 a b f (f a) (f b)) a u) b v = F2 a b f u v := by rw [F2_wa, F2_wb h]
  rw [F2_start h f] at e
  exact e
/-! ===== turns ===== -/
def tX0 (w h : Int) (t : Nat) (X Y : Int) : Int := if t ≤ 3 then (if t % 4 = 0 then X else if t % 4 = 1 then Y else if t % 4 = 2 then w - 1 - X else w - 1 - Y) else w - 1 - (if t % 4 = 0 then X else if t % 4 = 1 then Y else if t % 4 = 2 then w - 1 - X else w - 1 - Y)
def tY0 (w h : Int) (t : Nat) (X Y : Int) : Int := if t % 4 = 0 then Y else if t % 4 = 1 then h - 1 - X else if t % 4 = 2 then h - 1 - Y else X
def mirX (w : Int) (t : Nat) (x : Int) : Int := if t ≤ 3 then x else w - 1 - x
def tXf (w h : Int) (t : Nat) (x y : Int) : Int := if t % 4 = 0 then mirX w t x else if t % 4 = 1 then h - 1 - y else if t % 4 = 2 then w - 1 - mirX w t x else y
def tYf (w h : Int) (t : Nat) (x y : Int) : Int := if t % 4 = 0 then y else if t % 4 = 1 then mirX w t x else if t % 4 = 2 then h - 1 - y else w - 1 - mirX w t x
def tW (w h : Int) (t : Nat) : Int := if t % 2 = 0 then w else h
def tH (w h : Int) (t : Nat) : Int := if t % 2 = 0 then h else w
set_option maxRecDepth 100000 in
theorem t_back (w h : Int) (t : Nat) (x y : Int) : tX0 w h t (tXf w h t x y) (tYf w h t x y) = x ∧ tY0 w h t (tXf w h t x y) (tYf w h t x y) = y := by
  by_cases hm : t ≤ 3 <;> rcases (show t % 4 = 0 ∨ t % 4 = 1 ∨ t % 4 = 2 ∨ t % 4 = 3 by omega) with q | q | q | q <;> simp [tX0, tY0, tXf, tYf, mirX, hm, q] <;> omega
set_option maxRecDepth 100000 in
theorem t_forth (w h : Int) (t : Nat) (X Y : Int) : tXf w h t (tX0 w h t X Y) (tY0 w h t X Y) = X ∧ tYf w h t (tX0 w h t X Y) (tY0 w h t X Y) = Y := by
  by_cases hm : t ≤ 3 <;> rcases (show t % 4 = 0 ∨ t % 4 = 1 ∨ t % 4 = 2 ∨ t % 4 = 3 by omega) with q | q | q | q <;> simp [tX0, tY0, tXf, tYf, mirX, hm, q] <;> omega
set_option maxRecDepth 100000 in
theorem t_in {w h : Int} (t : Nat) {x y : Int} (hx : 0 ≤ x ∧ x < w) (hy : 0 ≤ y ∧ y < h) : (0 ≤ tXf w h t x y ∧ tXf w h t x y < tW w h t) ∧ 0 ≤ tYf w h t x y ∧ tYf w h t x y < tH w h t := by
  by_cases hm : t ≤ 3 <;> rcases (show t % 4 = 0 ∧ t % 2 = 0 ∨ t % 4 = 1 ∧ t % 2 = 1 ∨ t % 4 = 2 ∧ t % 2 = 0 ∨ t % 4 = 3 ∧ t % 2 = 1 by omega) with ⟨q, q2⟩ | ⟨q, q2⟩ | ⟨q, q2⟩ | ⟨q, q2⟩ <;> simp [tXf, tYf, tW, tH, mirX, hm, q, q2] <;> omega
set_option maxRecDepth 100000 in
theorem t_in0 {w h : Int} (t : Nat) {X Y : Int} (hx : 0 ≤ tX0 w h t X Y ∧ tX0 w h t X Y < w) (hy : 0 ≤ tY0 w h t X Y ∧ tY0 w h t X Y < h) : (0 ≤ X ∧ X < tW w h t) ∧ 0 ≤ Y ∧ Y < tH w h t := by
  have a := t_in (w := w) (h := h) t hx hy
  rw [(t_forth w h t X Y).1, (t_forth w h t X Y).2] at a
  exact a
set_option maxRecDepth 100000 in
theorem tWH {w h : Int} (t : Nat) (hw : 1 ≤ w ∧ w ≤ 10) (hh : 1 ≤ h ∧ h ≤ 10) : (1 ≤ tW w h t ∧ tW w h t ≤ 10) ∧ 1 ≤ tH w h t ∧ tH w h t ≤ 10 := by
  unfold tW tH
  split
  · exact ⟨hw, hh⟩
  · exact ⟨hh, hw⟩
/-- the sort that a turned design has at a place -/
def tsr (T : Nat → Int) (b t : Nat) (X Y : Int) : Int := srt T b (tX0 (T (bD b + 1)) (T (bD b + 2)) t X Y) (tY0 (T (bD b + 1)) (T (bD b + 2)) t X Y)
set_option maxRecDepth 100000 in
theorem srt_in {T : Nat → Int} {a : Nat} {x y : Int} (h : srt T a x y ≠ 0) : inG T a x y := by
  unfold srt at h
  by_cases q : inG T a x y
  · exact q
  · rw [if_neg q] at h
    exact absurd rfl h
set_option maxRecDepth 100000 in
theorem tsr_in {T : Nat → Int} {b : Nat} (t : Nat) {X Y : Int} (hW : DsW T b) (h : tsr T b t X Y ≠ 0) : (0 ≤ X ∧ X < 10) ∧ 0 ≤ Y ∧ Y < 10 := by
  have q := srt_in h
  have a := t_in0 (w := T (bD b + 1)) (h := T (bD b + 2)) t (X := X) (Y := Y) ⟨q.1.1, by have := q.1.2; omega⟩ ⟨q.2.1, by have := q.2.2; omega⟩
  have b := tWH t hW.2.1 hW.2.2.1
  omega
set_option maxRecDepth 100000 in
theorem tsr_r {T : Nat → Int} {b : Nat} (t : Nat) (hW : DsW T b) (X Y : Int) : 0 ≤ tsr T b t X Y ∧ tsr T b t X Y ≤ 3 := srt_r hW _ _
set_option maxRecDepth 100000 in
theorem srt_in10 {T : Nat → Int} {a : Nat} {x y : Int} (hW : DsW T a) (h : srt T a x y ≠ 0) : (0 ≤ x ∧ x < 10) ∧ 0 ≤ y ∧ y < 10 := by
  have q := srt_in h
  have := hW.2.1
  have := hW.2.2.1
  obtain ⟨⟨q1, q2⟩, q3, q4⟩ := q
  omega
/-- what is turned so far -/
def TI (T : Nat → Int) (b t : Nat) (y x0 : Int) (r : Nat → Int) : Prop := ∀ X Y : Int, 0 ≤ X → X < tW (T (bD b + 1)) (T (bD b + 2)) t → 0 ≤ Y → Y < tH (T (bD b + 1)) (T (bD b + 2)) t → (tY0 (T (bD b + 1)) (T (bD b + 2)) t X Y < y ∨ tY0 (T (bD b + 1)) (T (bD b + 2)) t X Y = y ∧ tX0 (T (bD b + 1)) (T (bD b + 2)) t X Y < x0) → r (10 * Y + X).toNat = tsr T b t X Y
set_option maxRecDepth 100000 in
theorem TI_step {T : Nat → Int} {b t : Nat} {x y : Int} {r : Nat → Int} (hW : DsW T b) (hx : 0 ≤ x ∧ x < T (bD b + 1)) (hy : 0 ≤ y ∧ y < T (bD b + 2)) (h : TI T b t y x r) : TI T b t y (x + 1) (up1 r (10 * tYf (T (bD b + 1)) (T (bD b + 2)) t x y + tXf (T (bD b + 1)) (T (bD b + 2)) t x y).toNat (srt T b x y)) := by
  intro X Y h1 h2 h3 h4 h5
  have b1 := tWH t hW.2.1 hW.2.2.1
  have b2 := t_in (w := T (bD b + 1)) (h := T (bD b + 2)) t hx hy
  by_cases q : X = tXf (T (bD b + 1)) (T (bD b + 2)) t x y ∧ Y = tYf (T (bD b + 1)) (T (bD b + 2)) t x y
  · obtain ⟨q1, q2⟩ := q
    unfold tsr
    rw [q1, q2, up1_at, (t_back _ _ t x y).1, (t_back _ _ t x y).2]
  · rw [up1_ne _ _ (by omega)]
    refine h X Y h1 h2 h3 h4 ?_
    rcases h5 with h5 | ⟨h5, h6⟩
    · exact Or.inl h5
    · refine Or.inr ⟨h5, ?_⟩
      have f := t_forth (T (bD b + 1)) (T (bD b + 2)) t X Y
      by_cases q3 : tX0 (T (bD b + 1)) (T (bD b + 2)) t X Y = x
      · rw [q3, h5] at f
        exact absurd ⟨f.1.symm, f.2.symm⟩ q
      · omega
set_option maxRecDepth 100000 in
theorem TI_row {T : Nat → Int} {b t : Nat} {y : Int} {r : Nat → Int} (h : TI T b t y (T (bD b + 1)) r) : TI T b t (y + 1) 0 r := by
  intro X Y h1 h2 h3 h4 h5
  refine h X Y h1 h2 h3 h4 ?_
  rcases h5 with h5 | ⟨h5, h6⟩
  · by_cases q : tY0 (T (bD b + 1)) (T (bD b + 2)) t X Y < y
    · exact Or.inl q
    · refine Or.inr ⟨by omega, ?_⟩
      have : tX0 (T (bD b + 1)) (T (bD b + 2)) t X Y < T (bD b + 1) := by
        revert h1 h2 h3 h4
        by_cases hm : t ≤ 3 <;> rcases (show t % 4 = 0 ∧ t % 2 = 0 ∨ t % 4 = 1 ∧ t % 2 = 1 ∨ t % 4 = 2 ∧ t % 2 = 0 ∨ t % 4 = 3 ∧ t % 2 = 1 by omega) with ⟨q, q2⟩ | ⟨q, q2⟩ | ⟨q, q2⟩ | ⟨q, q2⟩ <;> simp [tX0, tW, tH, hm, q, q2] <;> omega
      exact this
  · exfalso
    have : 0 ≤ tX0 (T (bD b + 1)) (T (bD b + 2)) t X Y := by
      revert h1 h2 h3 h4
      by_cases hm : t ≤ 3 <;> rcases (show t % 4 = 0 ∧ t % 2 = 0 ∨ t % 4 = 1 ∧ t % 2 = 1 ∨ t % 4 = 2 ∧ t % 2 = 0 ∨ t % 4 = 3 ∧ t % 2 = 1 by omega) with ⟨q, q2⟩ | ⟨q, q2⟩ | ⟨q, q2⟩ | ⟨q, q2⟩ <;> simp [tX0, tW, tH, hm, q, q2] <;> omega
    omega
set_option maxRecDepth 100000 in
theorem TI_end {T : Nat → Int} {b t : Nat} {r : Nat → Int} (h : TI T b t (T (bD b + 2)) 0 r) {X Y : Int} (h1 : 0 ≤ X) (h2 : X < tW (T (bD b + 1)) (T (bD b + 2)) t) (h3 : 0 ≤ Y) (h4 : Y < tH (T (bD b + 1)) (T (bD b + 2)) t) : r (10 * Y + X).toNat = tsr T b t X Y := by
  refine h X Y h1 h2 h3 h4 (Or.inl ?_)
  revert h1 h2 h3 h4
  rcases (show t % 4 = 0 ∧ t % 2 = 0 ∨ t % 4 = 1 ∧ t % 2 = 1 ∨ t % 4 = 2 ∧ t % 2 = 0 ∨ t % 4 = 3 ∧ t % 2 = 1 by omega) with ⟨q, q2⟩ | ⟨q, q2⟩ | ⟨q, q2⟩ | ⟨q, q2⟩ <;> simp [tY0, tW, tH, q, q2] <;> omega
set_option maxRecDepth 100000 in
theorem TI_0 (T : Nat → Int) (b t : Nat) (r : Nat → Int) (hh : 1 ≤ T (bD b + 1)) : TI T b t 0 0 r := by
  intro X Y h1 h2 h3 h4 h5
  exfalso
  revert h1 h2 h3 h4 h5
  by_cases hm : t ≤ 3 <;> rcases (show t % 4 = 0 ∧ t % 2 = 0 ∨ t % 4 = 1 ∧ t % 2 = 1 ∨ t % 4 = 2 ∧ t % 2 = 0 ∨ t % 4 = 3 ∧ t % 2 = 1 by omega) with ⟨q, q2⟩ | ⟨q, q2⟩ | ⟨q, q2⟩ | ⟨q, q2⟩ <;> simp [tX0, tY0, tW, tH, hm, q, q2] <;> omega
