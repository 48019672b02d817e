/-! ===== the law: its two objects and its row are made ===== -/
section StartL
variable {d sn : Nat} {S : Nat → Int} {Q : Nat → Option AV → Mem → Prop}
set_option maxRecDepth 100000 in
theorem law_21 (hS : ∀ j, okI (S j)) (hsn : sn ≤ 3584) (hend : ∀ (k : Nat) (M : Mem) (I : Nat → Int) (R : Nat → Nat → Int), LV sn S k M I R → k ≤ 512 → Q 0 (some (vI 1)) M) {M : Mem} {I : Nat → Int} {R : Nat → Nat → Int} (h : LV sn S 0 M I R) : Ex (d + 58) Law_law 20 [some (vR 1), some (vR 100), some (vR 362), some (vR 386), none, none, none] [] M Q := by
  have z := law_loop (d := d) hS hsn hend sn 0 M I R none none h (Nat.zero_le _) (by omega)
  refine Ex_step (tk_Law_law rfl) ?_
  refine Ex_step (tk_Law_law rfl) ?_
  exact z
set_option maxRecDepth 100000 in
/-- the row of one long is made: all stands -/
theorem law_16 (hS : ∀ j, okI (S j)) (hsn : sn ≤ 3584) (hend : ∀ (k : Nat) (M : Mem) (I : Nat → Int) (R : Nat → Nat → Int), LV sn S k M I R → k ≤ 512 → Q 0 (some (vI 1)) M) {m : Mem} {F A L : Nat → Nat → Int} (mk : Mk 6 m F A) (hr : mFR m 715 100 = 359 ∧ mFR m 716 100 = 360 ∧ mFR m 717 100 = 361) (hi : IA m 359 5 ∧ LA m 360 32 ∧ IA m 361 6) (hN : mN m = 286) (hZ : mZ m ≤ 90000) (mo : MO m F A L) (h1 : mK m 1 = 13 ∧ mLen m 1 = sn ∧ A 1 = S) (hC : CLow m F A L) (hW : LowW (CM m F A L)) : Ex (d + 58) Law_law 16 [some (vR 1), some (vR 100), some (vR 362), none, none, none, none] [] (CM m F A L) Q := by
  have e386 : 100 + mN m = 386 := by omega
  have fr : Fr 386 m (alloc m 14 1 1) F (zF (100 + mN m) F) A (zA (100 + mN m) A) L (zA (100 + mN m) L) := Fr.al (by omega)
  have hal := al_K m 14 1 1
  have mk2 : Mk 6 (alloc m 14 1 1) (zF (100 + mN m) F) (zA (100 + mN m) A) := mk.x (by decide) fr.y (by decide) (by decide)
  have g := fr 100 (by decide)
  have hC2 : CLow (alloc m 14 1 1) (zF (100 + mN m) F) (zA (100 + mN m) A) (zA (100 + mN m) L) := hC.mem (fun a ha => ⟨(fr a (by omega)).1.1, (fr a (by omega)).1.2.1, ((fr a (by omega)).2 1280).1, ((fr a (by omega)).2 1281).2, (fr a (by omega)).1.2.2.2.1⟩)
  have dk : DK (alloc m 14 1 1) (zF (100 + mN m) F) (zA (100 + mN m) A) (zA (100 + mN m) L) I0 (fun _ _ => 0) 102 122 P0 bkd 0 0 0 := DK.init mk2 ⟨(g.2 715).1.trans hr.1, (g.2 716).1.trans hr.2.1, (g.2 717).1.trans hr.2.2⟩ ⟨hi.1.w (fr 359 (by decide)).1.1 (fr 359 (by decide)).1.2.1, hi.2.1.w (fr 360 (by decide)).1.1 (fr 360 (by decide)).1.2.1, hi.2.2.w (fr 361 (by decide)).1.1 (fr 361 (by decide)).1.2.1⟩ (by show 387 ≤ 100 + (mN m + 1); omega) hC2
  have g1 := fr 1 (by decide)
  have lv : LV sn S 0 (CM (alloc m 14 1 1) (zF (100 + mN m) F) (zA (100 + mN m) A) (zA (100 + mN m) L)) I0 (fun _ _ => 0) := by
    refine ⟨⟨102, 122, P0, bkd, 0, 0, 0, dk⟩, mo.1.out (fun a q1 q2 => ⟨(fr a q2).1.1, (fr a q2).1.2.1, (fr a q2).1.2.2.1, fun f => ((fr a q2).2 f).1⟩), fun w hw => ?_, ⟨fun _ _ => 0, fun f hf => ?_, fun j q1 q2 => ?_⟩, ?_, ⟨g1.1.1.trans h1.1, g1.1.2.1.trans h1.2.1, g1.1.2.2.2.1.trans h1.2.2⟩, by show mN m + 1 ≤ _; omega, by show mZ m + 1 ≤ _; omega⟩
    · obtain ⟨t1, t2, t3, t4, t5, t6, t7⟩ := hW w hw
      have k1 := fr (30 + 2 * w) (by omega)
      have k2 := fr (31 + 2 * w) (by omega)
      refine ⟨k1.1.1.trans t1, (k1.2 1280).1.trans t2, (k1.2 1281).2.trans t3, k2.1.1.trans t4, k2.1.2.1.trans t5, t6, fun j hj => ?_⟩
      show zA (100 + mN m) A (31 + 2 * w) j = _ ∧ _
      rw [k2.1.2.2.2.1]
      exact t7 j hj
    · have e := ((fr 362 (by decide)).2 f).2.trans (mo.2.1 f)
      refine e.trans ?_
      show (if f = 773 then (-1 : Int) else 0) = if f - 768 = 5 then -1 else 0
      by_cases c : f = 773
      · rw [if_pos c, if_pos (by omega)]
      · rw [if_neg c, if_neg (by omega)]
    · have q1' : 362 < j := q1
      have q2' : j ≤ 362 + 23 := q2
      have e := fr j (by omega)
      have z := mo.2.2 j q1' (by omega)
      exact ⟨e.1.2.2.2.1.trans z.1, e.1.2.2.2.2.trans z.2⟩
    · have z := hal
      rw [e386] at z
      exact ⟨z.1, z.2.1⟩
  have hq := law_21 (d := d) hS hsn hend lv
  rw [← e386] at hq
  refine Ex_step (tk_Law_law rfl) ?_
  refine nwI (n := 1) (tk_Law_law rfl) rfl (by decide) ?_
  refine Ex_step (tk_Law_law rfl) ?_
  exact hq
set_option maxRecDepth 100000 in
/-- the reference is made -/
theorem law_8 (hS : ∀ j, okI (S j)) (hsn : sn ≤ 3584) (hend : ∀ (k : Nat) (M : Mem) (I : Nat → Int) (R : Nat → Nat → Int), LV sn S k M I R → k ≤ 512 → Q 0 (some (vI 1)) M) {m : Mem} {F A L : Nat → Nat → Int} (mk : Mk 6 m F A) (hr : mFR m 715 100 = 359 ∧ mFR m 716 100 = 360 ∧ mFR m 717 100 = 361) (hi : IA m 359 5 ∧ LA m 360 32 ∧ IA m 361 6) (hN : mN m = 262) (hZ : mZ m ≤ 40000) (h1 : mK m 1 = 13 ∧ mLen m 1 = sn ∧ A 1 = S) (hC : CLow m F A L) (hW : LowW (CM m F A L)) : Ex (d + 58) Law_law 8 [some (vR 1), some (vR 100), none, none, none, none, none] [] (CM m F A L) Q := by
  have e362 : 100 + mN m = 362 := by omega
  have fr : Fr 362 m (alloc m 12 0 37) F (zF (100 + mN m) F) A (zA (100 + mN m) A) L (zA (100 + mN m) L) := Fr.al (by omega)
  have hal := al_K m 12 0 37
  have ha : 100 ≤ 362 := by decide
  rw [e362] at fr hal
  have hin := fun (Q1 : Nat → Option AV → Mem → Prop) => f_init (d := d + 57) (m := alloc m 12 0 37) (F := zF 362 F) (A := zA 362 A) (L := zA 362 L) (Q := Q1) hal.1 (by show mN m + 1 = 263; omega) (fun f => if_pos rfl)
  have zz : ∀ (m' : Mem) (F' A' L' : Nat → Nat → Int), Fr 362 (alloc m 12 0 37) m' (zF 362 F) F' (zA 362 A) A' (zA 362 L) L' → mN m' = 286 → mZ m' ≤ mZ (alloc m 12 0 37) + 40000 → MO m' F' A' L' → Ex (d + 58) Law_law 15 [some (vR 1), some (vR 100), none, none, none, none, none] [vR 362] (CM m' F' A' L') Q := by
    intro m' F' A' L' fr1 n1 z1 mo
    have f2 := fr.tr fr1 (Nat.le_refl _)
    have za : mZ (alloc m 12 0 37) = mZ m + 37 := rfl
    have g := f2 100 (by decide)
    have g1 := f2 1 (by decide)
    have hC2 : CLow m' F' A' L' := hC.mem (fun a ha => ⟨(f2 a (by omega)).1.1, (f2 a (by omega)).1.2.1, ((f2 a (by omega)).2 1280).1, ((f2 a (by omega)).2 1281).2, (f2 a (by omega)).1.2.2.2.1⟩)
    have hW2 : LowW (CM m' F' A' L') := fun w hw => by
      obtain ⟨t1, t2, t3, t4, t5, t6, t7⟩ := hW w hw
      have k1 := f2 (30 + 2 * w) (by omega)
      have k2 := f2 (31 + 2 * w) (by omega)
      refine ⟨k1.1.1.trans t1, (k1.2 1280).1.trans t2, (k1.2 1281).2.trans t3, k2.1.1.trans t4, k2.1.2.1.trans t5, t6, fun j hj => ?_⟩
      show A' (31 + 2 * w) j = _ ∧ _
      rw [k2.1.2.2.2.1]
      exact t7 j hj
    have hq := law_16 (d := d) hS hsn hend (mk.x (by decide) f2.y (by decide) (by decide)) ⟨(g.2 715).1.trans hr.1, (g.2 716).1.trans hr.2.1, (g.2 717).1.trans hr.2.2⟩ ⟨hi.1.w (f2 359 (by decide)).1.1 (f2 359 (by decide)).1.2.1, hi.2.1.w (f2 360 (by decide)).1.1 (f2 360 (by decide)).1.2.1, hi.2.2.w (f2 361 (by decide)).1.1 (f2 361 (by decide)).1.2.1⟩ n1 (by omega) mo ⟨g1.1.1.trans h1.1, g1.1.2.1.trans h1.2.1, g1.1.2.2.2.1.trans h1.2.2⟩ hC2 hW2
    refine Ex_step (tk_Law_law rfl) ?_
    exact hq
  refine nwO (tk_Law_law rfl) (by decide) ?_
  rw [e362]
  refine Ex_step (tk_Law_law rfl) ?_
  refine Ex_cIK (av := []) (tk_Law_law rfl) mk_M_init ⟨rfl, by decide, rfl, rfl, rfl, Nat.le_of_ble_eq_true rfl, Nat.le_of_ble_eq_true rfl⟩ (ha) (hin _ (fun m3 F3 A3 L3 p1 p2 p3 w1 => ⟨rfl, ?_⟩))
  exact zz m3 F3 A3 L3 p1 p2 p3 w1
set_option maxRecDepth 100000 in
/-- the law from its first instruction -/
theorem law_0 (hS : ∀ j, okI (S j)) (hsn : sn ≤ 3584) (hend : ∀ (k : Nat) (M : Mem) (I : Nat → Int) (R : Nat → Nat → Int), LV sn S k M I R → k ≤ 512 → Q 0 (some (vI 1)) M) {m : Mem} {F A L : Nat → Nat → Int} (hN : mN m = 0) (hZ : mZ m = 0) (h1 : mK m 1 = 13 ∧ mLen m 1 = sn ∧ A 1 = S) (hC : CLow m F A L) (hW : LowW (CM m F A L)) : Ex (d + 58) Law_law 0 [some (vR 1), none, none, none, none, none, none] [] (CM m F A L) Q := by
  have e100 : 100 + mN m = 100 := by omega
  have fr : Fr 100 m (alloc m 11 0 14) F (zF (100 + mN m) F) A (zA (100 + mN m) A) L (zA (100 + mN m) L) := Fr.al (by omega)
  have hal := al_K m 11 0 14
  have ha : 100 ≤ 100 := by decide
  rw [e100] at fr hal
  have hin := fun (Q1 : Nat → Option AV → Mem → Prop) => c_ddInit (d := d + 53) (m := alloc m 11 0 14) (F := zF 100 F) (A := zA 100 A) (L := zA 100 L) (Q := Q1) hal.1 (by show mN m + 1 = 1; omega)
  have zz : ∀ (m' : Mem) (F' A' L' : Nat → Nat → Int), Fr 100 (alloc m 11 0 14) m' (zF 100 F) F' (zA 100 A) A' (zA 100 L) L' → mN m' = 262 → mZ m' ≤ mZ (alloc m 11 0 14) + 20000 → Mk 6 m' F' A' → (mFR m' 715 100 = 359 ∧ mFR m' 716 100 = 360 ∧ mFR m' 717 100 = 361) → (IA m' 359 5 ∧ LA m' 360 32 ∧ IA m' 361 6) → Ex (d + 58) Law_law 7 [some (vR 1), none, none, none, none, none, none] [vR 100] (CM m' F' A' L') Q := by
    intro m' F' A' L' fr1 n1 z1 mk hr hi
    have f2 := fr.tr fr1 (Nat.le_refl _)
    have za : mZ (alloc m 11 0 14) = mZ m + 14 := rfl
    have g1 := f2 1 (by decide)
    have hC2 : CLow m' F' A' L' := hC.mem (fun a ha => ⟨(f2 a (by omega)).1.1, (f2 a (by omega)).1.2.1, ((f2 a (by omega)).2 1280).1, ((f2 a (by omega)).2 1281).2, (f2 a (by omega)).1.2.2.2.1⟩)
    have hW2 : LowW (CM m' F' A' L') := fun w hw => by
      obtain ⟨t1, t2, t3, t4, t5, t6, t7⟩ := hW w hw
      have k1 := f2 (30 + 2 * w) (by omega)
      have k2 := f2 (31 + 2 * w) (by omega)
      refine ⟨k1.1.1.trans t1, (k1.2 1280).1.trans t2, (k1.2 1281).2.trans t3, k2.1.1.trans t4, k2.1.2.1.trans t5, t6, fun j hj => ?_⟩
      show A' (31 + 2 * w) j = _ ∧ _
      rw [k2.1.2.2.2.1]
      exact t7 j hj
    have hq := law_8 (d := d) hS hsn hend mk hr hi n1 (by omega) ⟨g1.1.1.trans h1.1, g1.1.2.1.trans h1.2.1, g1.1.2.2.2.1.trans h1.2.2⟩ hC2 hW2
    refine Ex_step (tk_Law_law rfl) ?_
    exact hq
  refine nwO (tk_Law_law rfl) (by decide) ?_
  rw [e100]
  refine Ex_step (tk_Law_law rfl) ?_
  refine Ex_cIK (av := []) (tk_Law_law rfl) mk_DD_init ⟨rfl, by decide, rfl, rfl, rfl, Nat.le_of_ble_eq_true rfl, Nat.le_of_ble_eq_true rfl⟩ (ha) (hin _ (fun m3 F3 A3 L3 p1 p2 p3 p4 p5 p6 => ⟨rfl, ?_⟩))
  exact zz m3 F3 A3 L3 p1 p2 p3 p4 p5 p6
end StartL
