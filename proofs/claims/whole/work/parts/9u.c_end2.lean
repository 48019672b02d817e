/-! ===== the class: readRule's end ===== -/
/-- the memory once a rule of n codes is made -/
def ruM (m : Mem) (F A L : Nat → Nat → Int) (rr n : Nat) : Mem := CM (sFR (alloc (alloc m 6 0 1) 13 n n) 384 (100 + mN m) (100 + mN (alloc m 6 0 1))) (zF (100 + mN (alloc m 6 0 1)) (zF (100 + mN m) F)) (up1 (zA (100 + mN (alloc m 6 0 1)) (zA (100 + mN m) A)) (100 + mN (alloc m 6 0 1)) (cpy1 (A (rr + 3)) (fun _ => 0) 0 0 n)) (zA (100 + mN (alloc m 6 0 1)) (zA (100 + mN m) L))
section CEnd2
variable {d rr tp sz p no br : Nat} {cs pl : List Int} {at_ cm : Int} {m : Mem} {F A L : Nat → Nat → Int} {F0 A0 : Nat → Nat → Int} {Q : Nat → Option AV → Mem → Prop}
set_option maxRecDepth 100000 in
theorem c_rl79 {l1 l2 l3 : Option AV} (hW : RRW m rr) (hN : rr + 4 < 100 + mN m) (h100 : 100 ≤ rr) (hn : cs.length < 800) (hD : RRF F A rr cs pl no br at_ cm) (h : Q 0 (some (vR (100 + mN m))) (ruM m F A L rr cs.length)) : Ex (d + 8) RR_readRule 79 [some (vR rr), l1, l2, l3] [] (CM m F A L) Q := by
  have hk7 : mK (alloc m 6 0 1) rr = 7 := (if_neg (by omega)).trans hW.1
  have hr449 : mFR (alloc m 6 0 1) 449 rr = rr + 3 := (if_neg (by omega)).trans hW.2.2.1
  have hI : IA (alloc m 6 0 1) (rr + 3) 800 := ⟨(if_neg (by omega)).trans hW.2.2.2.1.1, (if_neg (by omega)).trans hW.2.2.2.1.2.1, hW.2.2.2.1.2.2⟩
  have hm1 : mN (alloc m 6 0 1) = mN m + 1 := rfl
  have hcn : zF (100 + mN m) F 450 rr = (cs.length : Int) := (if_neg (by omega)).trans hD.2.2.1
  have hrow : zA (100 + mN m) A (rr + 3) = A (rr + 3) := if_neg (by omega)
  have hk6 : mK (alloc (alloc m 6 0 1) 13 cs.length cs.length) (100 + mN m) = 6 := (if_neg (by omega)).trans (if_pos rfl)
  have huN : 100 ≤ 100 + mN m := by omega
  refine Ex_step (tk_RR_readRule rfl) ⟨by decide, ?_⟩
  show Ex (d + 8) RR_readRule 82 [some (vR rr), l1, l2, l3] [vR (100 + mN m)] (CM (alloc m 6 0 1) (zF (100 + mN m) F) (zA (100 + mN m) A) (zA (100 + mN m) L)) Q
  have hcp := fun (Q1 : Nat → Option AV → Mem → Prop) => c_copyOf (d := d + 7) (m := alloc m 6 0 1) (F := zF (100 + mN m) F) (A := zA (100 + mN m) A) (L := zA (100 + mN m) L) (Q := Q1) hI (by omega) (by omega) hn
  rw [hrow] at hcp
  refine Ex_step (tk_RR_readRule rfl) ?_
  refine Ex_step (tk_RR_readRule rfl) ?_
  refine gCR (tk_RR_readRule rfl) (hk7) (hr449) ?_
  refine Ex_step (tk_RR_readRule rfl) ?_
  refine gCI (tk_RR_readRule rfl) (hk7) ?_
  rw [hcn]
  refine Ex_cS0 (av := [vR (rr + 3), vI (cs.length : Int)]) (tk_RR_readRule rfl) mk_Arr_copyOf ⟨rfl, by decide, rfl, rfl, rfl, Nat.le_of_ble_eq_true rfl, Nat.le_of_ble_eq_true rfl⟩ (fun _ h => hcp _ h) ?_
  refine Ex_cI0 (av := [vR (100 + mN (alloc m 6 0 1))]) (tk_RR_readRule rfl) mk_Rule_init ⟨rfl, by decide, rfl, rfl, rfl, Nat.le_of_ble_eq_true rfl, Nat.le_of_ble_eq_true rfl⟩ (huN) (fun _ h => c_ruleInit hk6 huN h) ?_
  refine Ex_step (tk_RR_readRule rfl) ⟨rfl, ?_⟩
  exact h
end CEnd2
