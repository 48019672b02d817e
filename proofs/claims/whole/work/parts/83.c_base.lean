/-! ===== the class: its memory over a world of references that stays ===== -/
def CM (m : Mem) (F A L : Nat → Nat → Int) : Mem := (mN m, mZ m, mK m, mLen m, F, mFR m, A, L, mAR m)
def upF (F : Nat → Nat → Int) (f a : Nat) (v : Int) : Nat → Nat → Int := fun f2 a2 => if f2 = f ∧ a2 = a then v else F f2 a2
set_option maxRecDepth 100000 in
theorem upF_at (F : Nat → Nat → Int) (f a : Nat) (v : Int) : upF F f a v f a = v := if_pos ⟨rfl, rfl⟩
set_option maxRecDepth 100000 in
theorem upF_f (F : Nat → Nat → Int) {f a f2 : Nat} (v : Int) (a2 : Nat) (h : f2 ≠ f) : upF F f a v f2 a2 = F f2 a2 := if_neg (fun z => h z.1)
set_option maxRecDepth 100000 in
theorem upF_a (F : Nat → Nat → Int) {f a a2 : Nat} (v : Int) (f2 : Nat) (h : a2 ≠ a) : upF F f a v f2 a2 = F f2 a2 := if_neg (fun z => h z.2)
set_option maxRecDepth 100000 in
theorem CM_self (m : Mem) : CM m (mFI m) (mAI m) (mAL m) = m := rfl
/-- an array of ints: its kind, its length -/
def IA (m : Mem) (a z : Nat) : Prop := mK m a = 13 ∧ mLen m a = z ∧ a ≠ 1
def LA (m : Mem) (a z : Nat) : Prop := mK m a = 14 ∧ mLen m a = z
section CSteps
variable {d y pc nx idx : Nat} {rs : List Nat} {c0 : Int} {ls : Ls} {r : List AV} {m : Mem} {F A L : Nat → Nat → Int} {Q : Nat → Option AV → Mem → Prop}
set_option maxRecDepth 100000 in
theorem gCI {f k z p0 a : Nat} (hk : okE y pc (.getfield idx, nx, [f, k, z, p0], c0)) (hK : mK m a = k) (h : Ex d y nx ls (vI (F f a) :: r) (CM m F A L) Q) (hz : Nat.beq z 2 = false := by rfl) : Ex d y pc ls (vR a :: r) (CM m F A L) Q := by
  refine Ex_step hk ⟨hK, ?_⟩
  show Ex d y nx ls ((bif Nat.beq z 2 then vR (mFR m f a) else vI (F f a)) :: r) (CM m F A L) Q
  rw [hz]
  exact h
set_option maxRecDepth 100000 in
theorem gCR {f k p0 a b : Nat} (hk : okE y pc (.getfield idx, nx, [f, k, 2, p0], c0)) (hK : mK m a = k) (hr : mFR m f a = b) (h : Ex d y nx ls (vR b :: r) (CM m F A L) Q) : Ex d y pc ls (vR a :: r) (CM m F A L) Q := by
  refine Ex_step hk ⟨hK, ?_⟩
  show Ex d y nx ls (vR (mFR m f a) :: r) (CM m F A L) Q
  rw [hr]
  exact h
set_option maxRecDepth 100000 in
theorem pCI {f k p0 a : Nat} {x : Int} (hk : okE y pc (.putfield idx, nx, [f, k, 0, p0], c0)) (hK : mK m a = k) (h : Ex d y nx ls r (CM m (upF F f a x) A L) Q) : Ex d y pc ls (vI x :: vR a :: r) (CM m F A L) Q :=
  Ex_step hk ⟨hK, trivial, Nat.le_of_ble_eq_true rfl, h⟩
set_option maxRecDepth 100000 in
theorem pCZ {f k p0 a : Nat} {x : Int} (hk : okE y pc (.putfield idx, nx, [f, k, 1, p0], c0)) (hK : mK m a = k) (hx : x = 0 ∨ x = 1) (h : Ex d y nx ls r (CM m (upF F f a x) A L) Q) : Ex d y pc ls (vI x :: vR a :: r) (CM m F A L) Q :=
  Ex_step hk ⟨hK, hx, Nat.le_of_ble_eq_true rfl, h⟩
set_option maxRecDepth 100000 in
theorem pCR {f k p0 a b : Nat} (hk : okE y pc (.putfield idx, nx, [f, k, 2, p0], c0)) (hK : mK m a = k) (h : Ex d y nx ls r (CM (sFR m f a b) F A L) Q) : Ex d y pc ls (vR b :: vR a :: r) (CM m F A L) Q :=
  Ex_step hk ⟨hK, rfl, h⟩
set_option maxRecDepth 100000 in
theorem lCI {a n z : Nat} {i : Int} (hk : okE y pc (.iaload, nx, rs, c0)) (hA : IA m a z) (hi : w32 i = (n : Int)) (hn : n < z) (h : Ex d y nx ls (vI (A a n) :: r) (CM m F A L) Q) : Ex d y pc ls (vI i :: vR a :: r) (CM m F A L) Q := by
  refine Ex_step hk ⟨hA.1, inR_of hi (by show n < mLen m a; rw [hA.2.1]; exact hn), ?_⟩
  rw [ix_of hi]
  exact h
set_option maxRecDepth 100000 in
theorem lCL {a n z : Nat} {i : Int} (hk : okE y pc (.laload, nx, rs, c0)) (hA : LA m a z) (hi : w32 i = (n : Int)) (hn : n < z) (h : Ex d y nx ls (vL (L a n) :: r) (CM m F A L) Q) : Ex d y pc ls (vI i :: vR a :: r) (CM m F A L) Q := by
  refine Ex_step hk ⟨hA.1, inR_of hi (by show n < mLen m a; rw [hA.2]; exact hn), ?_⟩
  rw [ix_of hi]
  exact h
set_option maxRecDepth 100000 in
theorem tCI {a n z : Nat} {i x : Int} (hk : okE y pc (.iastore, nx, rs, c0)) (hA : IA m a z) (hi : w32 i = (n : Int)) (hn : n < z) (h : Ex d y nx ls r (CM m F (up1 A a (up1 (A a) n x)) L) Q) : Ex d y pc ls (vI x :: vI i :: vR a :: r) (CM m F A L) Q := by
  refine Ex_step hk ⟨hA.1, hA.2.2, inR_of hi (by show n < mLen m a; rw [hA.2.1]; exact hn), ?_⟩
  rw [ix_of hi]
  exact h
set_option maxRecDepth 100000 in
theorem tCL {a n z : Nat} {i x : Int} (hk : okE y pc (.lastore, nx, rs, c0)) (hA : LA m a z) (hi : w32 i = (n : Int)) (hn : n < z) (h : Ex d y nx ls r (CM m F A (up1 L a (up1 (L a) n x))) Q) : Ex d y pc ls (vL x :: vI i :: vR a :: r) (CM m F A L) Q := by
  refine Ex_step hk ⟨hA.1, inR_of hi (by show n < mLen m a; rw [hA.2]; exact hn), ?_⟩
  rw [ix_of hi]
  exact h
set_option maxRecDepth 100000 in
/-- a row of references: kind, length, what lies at n -/
theorem lCR {a n z b : Nat} {i : Int} (hk : okE y pc (.aaload, nx, rs, c0)) (hA : (16 ≤ mK m a ∧ mK m a ≤ 19) ∧ mLen m a = z ∧ mAR m a n = b) (hi : w32 i = (n : Int)) (hn : n < z) (h : Ex d y nx ls (vR b :: r) (CM m F A L) Q) : Ex d y pc ls (vI i :: vR a :: r) (CM m F A L) Q := by
  refine Ex_step hk ⟨hA.1.1, hA.1.2, inR_of hi (by show n < mLen m a; rw [hA.2.1]; exact hn), ?_⟩
  rw [ix_of hi]
  show Ex d y nx ls (vR (mAR m a n) :: r) (CM m F A L) Q
  rw [hA.2.2]
  exact h
set_option maxRecDepth 100000 in
theorem lenC {a z : Nat} (hk : okE y pc (.arraylength, nx, rs, c0)) (hA : IA m a z) (h : Ex d y nx ls (vI (z : Int) :: r) (CM m F A L) Q) : Ex d y pc ls (vR a :: r) (CM m F A L) Q := by
  refine Ex_step hk ⟨Or.inl hA.1, ?_⟩
  show Ex d y nx ls (vI (mLen m a : Int) :: r) (CM m F A L) Q
  rw [hA.2.1]
  exact h
end CSteps
section CFill
variable {d : Nat} {m : Mem} {F A L : Nat → Nat → Int} {Q : Nat → Option AV → Mem → Prop}
set_option maxRecDepth 100000 in
theorem c_fill {a z : Nat} {v : Int} (hA : IA m a z) (hz : z ≤ 1000) (h : Q 0 none (CM m F (up1 A a (cpK z (fun _ => v) (A a))) L)) : Ex d Arr_fill 0 [some (vR a), some (vI v), none, none] [] (CM m F A L) Q := by
  have hloop : ∀ (r c : Nat), c + r = z → Ex d Arr_fill 5 [some (vR a), some (vI v), some (vI (c : Int)), some (vI (z : Int))] [] (CM m F (up1 A a (cpK c (fun _ => v) (A a))) L) Q := by
    intro r
    induction r with
    | zero =>
      intro c hc
      have : c = z := by omega
      subst this
      refine Ex_step (tk_Arr_fill rfl) ?_
      refine Ex_step (tk_Arr_fill rfl) ?_
      refine Ex_step (tk_Arr_fill rfl) ⟨fun h7 => ?_, fun h7 => ?_⟩
      · replace h7 : _ := h7
        refine Ex_step (tk_Arr_fill rfl) ⟨rfl, ?_⟩
        exact h
      · replace h7 : _ := h7
        exact absurd (show w32 (c : Int) ≤ w32 (c : Int) from Int.le_refl _) h7
    | succ r ih =>
      intro c hc
      have hnx := ih (c + 1) (by omega)
      rw [← cpK_s] at hnx
      refine Ex_step (tk_Arr_fill rfl) ?_
      refine Ex_step (tk_Arr_fill rfl) ?_
      refine Ex_step (tk_Arr_fill rfl) ⟨fun h7 => ?_, fun h7 => ?_⟩
      · try simp (disch := omega) only [cmpI, w32_b2i, b2i_0, b2i_1, w32_id, Classical.not_not, not_true_eq_false, not_false_eq_true] at h7
        omega
      · try simp (disch := omega) only [cmpI, w32_b2i, b2i_0, b2i_1, w32_id, Classical.not_not, not_true_eq_false, not_false_eq_true] at h7
        refine Ex_step (tk_Arr_fill rfl) ?_
        refine Ex_step (tk_Arr_fill rfl) ?_
        refine Ex_step (tk_Arr_fill rfl) ?_
        refine tCI (n := c) (tk_Arr_fill rfl) (hA) (w32_id (by omega) (by omega)) (by omega) ?_
        rw [up1_at, up1_same]
        refine Ex_step (tk_Arr_fill rfl) ?_
        refine Ex_step (tk_Arr_fill rfl) ?_
        exact hnx
  have h5 := hloop z 0 (by omega)
  rw [cpK_0, up1_self (f := A) rfl] at h5
  refine Ex_step (tk_Arr_fill rfl) ?_
  refine Ex_step (tk_Arr_fill rfl) ?_
  refine Ex_step (tk_Arr_fill rfl) ?_
  refine lenC (tk_Arr_fill rfl) hA ?_
  refine Ex_step (tk_Arr_fill rfl) ?_
  exact h5
end CFill
/-! ===== bits of a design's rows ===== -/
set_option maxRecDepth 100000 in
theorem bit_v (r : Int) {x : Nat} (hx : x < 31) (h31 : ib r 31 = false) : iAnd (iShr r (x : Int)) 1 = if ib r x then 1 else 0 := by
  have e : iAnd (iShr r (x : Int)) 1 = ((u32 (iShr r (x : Int)) % 2 ^ 1 : Nat) : Int) := iAnd_mask _ 1 (k := 1) (by decide) rfl
  rw [e]
  have b : (u32 (iShr r (x : Int))).testBit 0 = ib r x := by
    rw [tb_i, ib_shr2 r (by omega) 0 h31, Nat.add_zero, decide_eq_true (show x < 32 by omega), Bool.true_and]
  rw [Nat.testBit_zero] at b
  rw [show 2 ^ 1 = 2 from rfl]
  by_cases q : ib r x = true
  · rw [if_pos q]
    rw [q] at b
    have := of_decide_eq_true b
    rw [this]
    rfl
  · rw [if_neg q]
    rw [Bool.eq_false_iff.mpr q] at b
    have := of_decide_eq_false b
    have : u32 (iShr r (x : Int)) % 2 = 0 := by omega
    rw [this]
    rfl
/-- sorts of places: 0 to 3, none but in ten rows of ten -/
def FB (f : Int → Int → Int) : Prop := ∀ x y, (0 ≤ f x y ∧ f x y ≤ 3) ∧ (f x y ≠ 0 → (0 ≤ x ∧ x < 10) ∧ 0 ≤ y ∧ y < 10)
def FG (w h : Int) (f : Int → Int → Int) : Prop := ((0 ≤ w ∧ w ≤ 10) ∧ 0 ≤ h ∧ h ≤ 10) ∧ ∀ x y, (0 ≤ f x y ∧ f x y ≤ 3) ∧ (f x y ≠ 0 → (0 ≤ x ∧ x < w) ∧ 0 ≤ y ∧ y < h)
set_option maxRecDepth 100000 in
theorem FG.b {w h : Int} {f : Int → Int → Int} (g : FG w h f) : FB f := fun x y => ⟨(g.2 x y).1, fun z => by
  have a := (g.2 x y).2 z
  have b := g.1
  omega⟩
/-- the bits of the design at a -/
def DB (A : Nat → Nat → Int) (a : Nat) (f : Int → Int → Int) : Prop := ∀ y : Nat, y < 10 → ∀ i : Nat, i < 32 → ib (A (a + 1) y) i = decide (f (i : Int) (y : Int) = 1 ∨ f (i : Int) (y : Int) = 3) ∧ ib (A (a + 2) y) i = decide (f (i : Int) (y : Int) = 2 ∨ f (i : Int) (y : Int) = 3)
def DG (F A : Nat → Nat → Int) (a : Nat) (w h : Int) (f : Int → Int → Int) : Prop := F 193 a = w ∧ F 194 a = h ∧ DB A a f
/-- where a design's rows lie -/
def DW (m : Mem) (a : Nat) : Prop := mK m a = 3 ∧ 100 ≤ a ∧ mFR m 195 a = a + 1 ∧ mFR m 196 a = a + 2 ∧ IA m (a + 1) 10 ∧ IA m (a + 2) 10
set_option maxRecDepth 100000 in
theorem DB_at {A : Nat → Nat → Int} {a : Nat} {f : Int → Int → Int} (h : DB A a f) (hF : FB f) {x y : Nat} (hx : x < 10) (hy : y < 10) : iAnd (iShr (A (a + 1) y) (x : Int)) 1 = (if f (x : Int) (y : Int) = 1 ∨ f (x : Int) (y : Int) = 3 then 1 else 0) ∧ iAnd (iShr (A (a + 2) y) (x : Int)) 1 = (if f (x : Int) (y : Int) = 2 ∨ f (x : Int) (y : Int) = 3 then 1 else 0) := by
  have z : f ((31 : Nat) : Int) (y : Int) = 0 := Classical.byContradiction fun q => by
    have := (hF _ _).2 q
    omega
  have z1 : ib (A (a + 1) y) 31 = false := by rw [(h y hy 31 (by decide)).1, z]; rfl
  have z2 : ib (A (a + 2) y) 31 = false := by rw [(h y hy 31 (by decide)).2, z]; rfl
  rw [bit_v _ (by omega) z1, bit_v _ (by omega) z2, (h y hy x (by omega)).1, (h y hy x (by omega)).2]
  constructor
  · by_cases q : f (x : Int) (y : Int) = 1 ∨ f (x : Int) (y : Int) = 3
    · rw [decide_eq_true q, if_pos q]; rfl
    · rw [decide_eq_false q, if_neg q]; rfl
  · by_cases q : f (x : Int) (y : Int) = 2 ∨ f (x : Int) (y : Int) = 3
    · rw [decide_eq_true q, if_pos q]; rfl
    · rw [decide_eq_false q, if_neg q]; rfl
