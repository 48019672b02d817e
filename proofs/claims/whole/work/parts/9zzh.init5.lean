/-! ===== constructors: the class itself ===== -/
def bkd (k : Nat) : Nat → Nat := fun i => k + 2 + 3 * i
def loN (n : Nat) : Nat := if n = 0 then 102 else if n = 1 then 122 else if n = 2 then 142 else if n = 3 then 304 else if n = 4 then 310 else if n = 5 then 353 else 359
/-- what has been made so far -/
def Mk (n : Nat) (m : Mem) (F A : Nat → Nat → Int) : Prop := (mK m 100 = 11 ∧ mFR m 704 100 = 101 ∧ IA m 101 800 ∧ (A 101 = fun _ => 0) ∧ F 705 100 = 0 ∧ F 706 100 = -1 ∧ F 707 100 = 0 ∧ F 708 100 = 0) ∧ (1 ≤ n → mFR m 709 100 = 102 ∧ BkW m 102 (bkd 102) ∧ F 129 102 = 0 ∧ mFR m 130 102 = 0) ∧ (2 ≤ n → mFR m 710 100 = 122 ∧ BkW m 122 (bkd 122)) ∧ (3 ≤ n → mFR m 711 100 = 142 ∧ (mK m 142 = 4 ∧ mFR m 256 142 = 143 ∧ mK m 143 = 17 ∧ mLen m 143 = 8) ∧ (∀ i, i < 8 → mAR m 143 i = 144 + 20 * i ∧ BkW m (144 + 20 * i) (bkd (144 + 20 * i))) ∧ F 257 142 = 0) ∧ (4 ≤ n → mFR m 712 100 = 304 ∧ (mK m 304 = 10 ∧ mFR m 640 304 = 306 ∧ mFR m 641 304 = 305) ∧ RRW m 305 ∧ mK m 306 = 8) ∧ (5 ≤ n → mFR m 713 100 = 310 ∧ OW m 310 ∧ ∀ i, i < 36 → F 64 (312 + i) = 0) ∧ (6 ≤ n → mFR m 714 100 = 353 ∧ SW m 353)
/-- all below lo stays but one reference of the first cell -/
def Fx (lo f0 : Nat) (m m' : Mem) (F F' A A' : Nat → Nat → Int) : Prop := ∀ j, j < lo → (mK m' j = mK m j ∧ mLen m' j = mLen m j ∧ mAR m' j = mAR m j ∧ A' j = A j) ∧ (∀ f, F' f j = F f j) ∧ ∀ f, ¬ (f = f0 ∧ j = 100) → mFR m' f j = mFR m f j
set_option maxRecDepth 100000 in
theorem Fr.x {lo f0 v : Nat} {m m1 : Mem} {F F1 A A1 L L1 : Nat → Nat → Int} (g : Fr lo m m1 F F1 A A1 L L1) : Fx lo f0 m (sFR m1 f0 100 v) F F1 A A1 := fun j hj => by
  obtain ⟨⟨x1, x2, x3, x4, _⟩, x6⟩ := g j hj
  exact ⟨⟨x1, x2, x3, x4⟩, fun f => (x6 f).2, fun f q => (sFR_ne _ q).trans (x6 f).1⟩
section FxKeep
variable {lo f0 : Nat} {m m1 : Mem} {F F1 A A1 : Nat → Nat → Int}
set_option maxRecDepth 100000 in
theorem Fx.d {a : Nat} (g : Fx lo f0 m m1 F F1 A A1) (h : DW m a) (ha : a + 3 ≤ lo) (h1 : a ≠ 100) : DW m1 a := h.w (fun j y1 y2 => ⟨(g j (by omega)).1.1, (g j (by omega)).1.2.1⟩) (fun f _ => (g a (by omega)).2.2 f (by omega))
set_option maxRecDepth 100000 in
theorem Fx.bk {k : Nat} (g : Fx lo f0 m m1 F F1 A A1) (h : BkW m k (bkd k)) (hk : k + 20 ≤ lo) (h1 : 100 < k) : BkW m1 k (bkd k) := by
  obtain ⟨b1, b2, b3, b4, b5⟩ := h
  have k0 := g k (by omega)
  have k1 := g (k + 1) (by omega)
  refine ⟨k0.1.1.trans b1, (k0.2.2 128 (by omega)).trans b2, k1.1.1.trans b3, k1.1.2.1.trans b4, fun i hi => ?_⟩
  have e : bkd k i = k + 2 + 3 * i := rfl
  refine ⟨by rw [k1.1.2.2.1]; exact (b5 i hi).1, g.d (b5 i hi).2 (by omega) (by omega)⟩
set_option maxRecDepth 100000 in
theorem Fx.i {a z : Nat} (g : Fx lo f0 m m1 F F1 A A1) (h : IA m a z) (ha : a < lo) : IA m1 a z := h.w (g a ha).1.1 (g a ha).1.2.1
set_option maxRecDepth 100000 in
theorem Mk.x {n : Nat} (hn : n ≤ 6) (h : Mk n m F A) (g : Fx lo f0 m m1 F F1 A A1) (hlo : loN n ≤ lo) (h0 : 709 + n ≤ f0) : Mk n m1 F1 A1 := by
  obtain ⟨⟨a1, a2, a3, a4, a5, a6, a7, a8⟩, b, c, d, e, f, s⟩ := h
  have hl : 102 ≤ lo := by unfold loN at hlo; (repeat' split at hlo) <;> omega
  have g0 := g 100 (by omega)
  refine ⟨⟨g0.1.1.trans a1, (g0.2.2 704 (by omega)).trans a2, g.i a3 (by omega), (g 101 (by omega)).1.2.2.2.trans a4, (g0.2.1 705).trans a5, (g0.2.1 706).trans a6, (g0.2.1 707).trans a7, (g0.2.1 708).trans a8⟩, fun q => ?_, fun q => ?_, fun q => ?_, fun q => ?_, fun q => ?_, fun q => ?_⟩
  · have hl : 122 ≤ lo := by unfold loN at hlo; (repeat' split at hlo) <;> omega
    obtain ⟨q1, q2, q3, q4⟩ := b q
    exact ⟨(g0.2.2 709 (by omega)).trans q1, g.bk q2 (by omega) (by decide), ((g 102 (by omega)).2.1 129).trans q3, ((g 102 (by omega)).2.2 130 (by omega)).trans q4⟩
  · have hl : 142 ≤ lo := by unfold loN at hlo; (repeat' split at hlo) <;> omega
    obtain ⟨q1, q2⟩ := c q
    exact ⟨(g0.2.2 710 (by omega)).trans q1, g.bk q2 (by omega) (by decide)⟩
  · have hl : 304 ≤ lo := by unfold loN at hlo; (repeat' split at hlo) <;> omega
    obtain ⟨q1, ⟨q2, q3, q4, q5⟩, q6, q7⟩ := d q
    have gh := g 142 (by omega)
    have gp := g 143 (by omega)
    exact ⟨(g0.2.2 711 (by omega)).trans q1, ⟨gh.1.1.trans q2, (gh.2.2 256 (by omega)).trans q3, gp.1.1.trans q4, gp.1.2.1.trans q5⟩, fun i hi => ⟨by rw [gp.1.2.2.1]; exact (q6 i hi).1, g.bk (q6 i hi).2 (by omega) (by omega)⟩, (gh.2.1 257).trans q7⟩
  · have hl : 310 ≤ lo := by unfold loN at hlo; (repeat' split at hlo) <;> omega
    obtain ⟨q1, ⟨q2, q3, q4⟩, ⟨r1, r2, r3, r4, r5, r6⟩, q6⟩ := e q
    have gt := g 304 (by omega)
    have gr := g 305 (by omega)
    exact ⟨(g0.2.2 712 (by omega)).trans q1, ⟨gt.1.1.trans q2, (gt.2.2 640 (by omega)).trans q3, (gt.2.2 641 (by omega)).trans q4⟩, ⟨gr.1.1.trans r1, (gr.2.2 448 (by omega)).trans r2, (gr.2.2 449 (by omega)).trans r3, g.i r4 (by omega), (gr.2.2 451 (by omega)).trans r5, g.i r6 (by omega)⟩, (g 306 (by omega)).1.1.trans q6⟩
  · have hl : 353 ≤ lo := by unfold loN at hlo; (repeat' split at hlo) <;> omega
    obtain ⟨q1, ⟨o1, o2, o3, o4, o5, o6, o7, o8, o9, o10, o11⟩, q3⟩ := f q
    have gt := g 310 (by omega)
    have gr := g 311 (by omega)
    exact ⟨(g0.2.2 713 (by omega)).trans q1, ⟨gt.1.1.trans o1, (gt.2.2 323 (by omega)).trans o2, g.d o3 (by omega) (by omega), (gt.2.2 324 (by omega)).trans o4, g.i o5 (by omega), (gt.2.2 325 (by omega)).trans o6, g.i o7 (by omega), (gt.2.2 320 (by omega)).trans o8, gr.1.1.trans o9, gr.1.2.1.trans o10, fun k hk => ⟨by rw [gr.1.2.2.1]; exact (o11 k hk).1, (g _ (by omega)).1.1.trans (o11 k hk).2⟩⟩, fun i hi => ((g (312 + i) (by omega)).2.1 64).trans (q3 i hi)⟩
  · have hl : 359 ≤ lo := by unfold loN at hlo; (repeat' split at hlo) <;> omega
    obtain ⟨q1, ⟨s1, s2, s3, s4, s5, s6, s7⟩⟩ := s q
    have gt := g 353 (by omega)
    exact ⟨(g0.2.2 714 (by omega)).trans q1, ⟨gt.1.1.trans s1, (gt.2.2 576 (by omega)).trans s2, g.d s3 (by omega) (by omega), (gt.2.2 577 (by omega)).trans s4, g.i s5 (by omega), (gt.2.2 578 (by omega)).trans s6, g.i s7 (by omega)⟩⟩
end FxKeep
