/-! ===== the class: a rule is made ===== -/
def zF (N : Nat) (F : Nat → Nat → Int) : Nat → Nat → Int := fun f a => if a = N then 0 else F f a
def zA (N : Nat) (A : Nat → Nat → Int) : Nat → Nat → Int := fun a => if a = N then fun _ => 0 else A a
set_option maxRecDepth 100000 in
theorem alloc_CM (m : Mem) (F A L : Nat → Nat → Int) (k l z : Nat) : alloc (CM m F A L) k l z = CM (alloc m k l z) (zF (100 + mN m) F) (zA (100 + mN m) A) (zA (100 + mN m) L) := rfl
section CEnd
variable {d a n : Nat} {m : Mem} {F A L : Nat → Nat → Int} {Q : Nat → Option AV → Mem → Prop}
set_option maxRecDepth 100000 in
theorem c_ruleInit {u v : Nat} (hu : mK m u = 6) (ha : 100 ≤ u) (h : Q 0 none (CM (sFR m 384 u v) F A L)) : Ex d Rule_init 0 [some (vR u), some (vR v)] [] (CM m F A L) Q := by
  refine Ex_step (tk_Rule_init rfl) ?_
  refine Ex_step (tk_Rule_init rfl) ⟨rfl, ha, by decide, ?_⟩
  refine Ex_step (tk_Rule_init rfl) ?_
  refine Ex_step (tk_Rule_init rfl) ?_
  refine pCR (tk_Rule_init rfl) hu ?_
  refine Ex_step (tk_Rule_init rfl) ⟨rfl, h⟩
set_option maxRecDepth 100000 in
theorem c_copyOf (hA : IA m a 800) (ha : 100 ≤ a) (haN : a < 100 + mN m) (hn : n < 800) (h : Q 0 (some (vR (100 + mN m))) (CM (alloc m 13 n n) (zF (100 + mN m) F) (up1 (zA (100 + mN m) A) (100 + mN m) (cpy1 (A a) (fun _ => 0) 0 0 n)) (zA (100 + mN m) L))) : Ex d Arr_copyOf 0 [some (vR a), some (vI (n : Int)), none] [] (CM m F A L) Q := by
  have hw : w32 (n : Int) = (n : Int) := w32_id (by omega) (by omega)
  have hx : ix (n : Int) = n := by unfold ix; rw [hw]; rfl
  have hk13 : mK m a = 13 := hA.1
  have hl : mLen m a = 800 := hA.2.1
  refine Ex_step (tk_Arr_copyOf rfl) ?_
  refine Ex_step (tk_Arr_copyOf rfl) ?_
  refine lenC (tk_Arr_copyOf rfl) hA ?_
  refine Ex_step (tk_Arr_copyOf rfl) ⟨fun hc => ?_, fun hc => ?_⟩
  · have hA2 : IA (alloc m 13 n n) a 800 := ⟨(if_neg (by omega)).trans hk13, (if_neg (by omega)).trans hl, hA.2.2⟩
    have hk2 : mK (alloc m 13 n n) (100 + mN m) = 13 := if_pos rfl
    have hl2 : mLen (alloc m 13 n n) (100 + mN m) = n := if_pos rfl
    refine Ex_step (tk_Arr_copyOf rfl) ?_
    refine Ex_step (tk_Arr_copyOf rfl) ⟨by rw [hw]; omega, by rw [hw]; omega, ?_⟩
    rw [hx]
    show Ex d Arr_copyOf 17 [some (vR a), some (vI (n : Int)), none] [vR (100 + mN m)] (CM (alloc m 13 n n) (zF (100 + mN m) F) (zA (100 + mN m) A) (zA (100 + mN m) L)) Q
    refine Ex_step (tk_Arr_copyOf rfl) ?_
    refine Ex_step (tk_Arr_copyOf rfl) ?_
    refine Ex_step (tk_Arr_copyOf rfl) ?_
    refine Ex_step (tk_Arr_copyOf rfl) ?_
    refine Ex_step (tk_Arr_copyOf rfl) ?_
    refine Ex_step (tk_Arr_copyOf rfl) ?_
    refine lenC (tk_Arr_copyOf rfl) hA2 ?_
    refine Ex_step (tk_Arr_copyOf rfl) ?_
    refine Ex_min (tk_Arr_copyOf rfl) rfl (Nat.le_of_ble_eq_true rfl) ?_
    rw [show (if w32 (n : Int) < w32 ((800 : Nat) : Int) then (n : Int) else ((800 : Nat) : Int)) = (n : Int) from if_pos (by rw [hw, show w32 ((800 : Nat) : Int) = 800 from rfl]; omega)]
    refine Ex_step (tk_Arr_copyOf rfl) ⟨rfl, hA2.1, hk2, ha, by omega, by omega, Nat.le_of_ble_eq_true rfl, by decide, by decide, by rw [hw]; omega, ?_, ?_, ?_⟩
    · rw [hw, show w32 0 = 0 from rfl]
      show (0 : Int) + (n : Int) ≤ ((mLen (alloc m 13 n n) a : Nat) : Int)
      rw [hA2.2.1]
      omega
    · rw [hw, show w32 0 = 0 from rfl]
      show (0 : Int) + (n : Int) ≤ ((mLen (alloc m 13 n n) (100 + mN m) : Nat) : Int)
      rw [hl2]
      omega
    · rw [hx, show ix 0 = 0 from rfl]
      have hr1 : zA (100 + mN m) A a = A a := if_neg (by omega)
      have hr2 : zA (100 + mN m) A (100 + mN m) = fun _ => 0 := if_pos rfl
      show Ex d Arr_copyOf 31 [some (vR a), some (vI (n : Int)), some (vR (100 + mN m))] [] (CM (alloc m 13 n n) (zF (100 + mN m) F) (up1 (zA (100 + mN m) A) (100 + mN m) (cpy1 (zA (100 + mN m) A a) (zA (100 + mN m) A (100 + mN m)) 0 0 n)) (zA (100 + mN m) L)) Q
      rw [hr1, hr2]
      refine Ex_step (tk_Arr_copyOf rfl) ?_
      refine Ex_step (tk_Arr_copyOf rfl) ⟨rfl, h⟩
  · exact absurd (show ¬ w32 (n : Int) = w32 ((800 : Nat) : Int) by rw [hw, show w32 ((800 : Nat) : Int) = 800 from rfl]; omega) hc
end CEnd
