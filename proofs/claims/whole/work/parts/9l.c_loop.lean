/-! ===== the class: the loop that reads a rule ===== -/
/-- all that stays while a rule is read -/
def RlW (m : Mem) (rr tp sz : Nat) (F0 A0 L : Nat → Nat → Int) : Prop := RRW m rr ∧ ScW m (rr + 1) tp ∧ sz ≤ 800 ∧ byts (A0 tp) ∧ CLow m F0 A0 L ∧ 100 ≤ rr ∧ tp ≠ rr + 3 ∧ tp ≠ rr + 4
/-- from a state of the reader on, the loop comes to its end as asked -/
def RG (d : Nat) (m : Mem) (rr sz : Nat) (F0 A0 L : Nat → Nat → Int) (Q : Nat → Option AV → Mem → Prop) (vd : Int) (p : Nat) (cs pl : List Int) (no br : Nat) (at_ cm : Int) : Prop := ∀ (F A : Nat → Nat → Int) (rd : Nat) (l3 : Option AV), KQ rr F0 F A0 A → RD F A rr sz p 0 (-1) cs pl no br at_ cm → rd ≤ p → Ex (d + 8) RR_readRule 8 [some (vR rr), some (vI vd), some (vI (rd : Int)), l3] [] (CM m F A L) Q
/-- with a fault it ends with nothing -/
def RE (m : Mem) (rr sz : Nat) (F0 A0 L : Nat → Nat → Int) (Q : Nat → Option AV → Mem → Prop) (fl : Nat) (q : Int) : Prop := ∀ (F A : Nat → Nat → Int) (p : Nat) (cs pl : List Int) (no br : Nat) (at_ cm : Int), KQ rr F0 F A0 A → RD F A rr sz p fl q cs pl no br at_ cm → Q 0 (some (vR 0)) (CM m F A L)
section CLoop
variable {d rr tp sz p no br : Nat} {cs pl : List Int} {at_ cm : Int} {m : Mem} {F0 A0 L : Nat → Nat → Int} {Q : Nat → Option AV → Mem → Prop}
set_option maxRecDepth 100000 in
theorem RlW.c (hR : RlW m rr tp sz F0 A0 L) {F A : Nat → Nat → Int} (k : KQ rr F0 F A0 A) : A tp = A0 tp ∧ CLow m F A L := ⟨k.2 tp hR.2.2.2.2.2.2.1 hR.2.2.2.2.2.2.2, hR.2.2.2.2.1.k (fun j hj => k.1 1281 j (by have := hR.2.2.2.2.2.1; omega) (by have := hR.2.2.2.2.2.1; omega)) (fun j hj => k.2 j (by have := hR.2.2.2.2.2.1; omega) (by have := hR.2.2.2.2.2.1; omega))⟩
set_option maxRecDepth 100000 in
/-- behind a fault -/
theorem c_rlE {fl : Nat} {q vd : Int} {F A : Nat → Nat → Int} {rd : Nat} {l3 : Option AV} (hR : RlW m rr tp sz F0 A0 L) (hE : RE m rr sz F0 A0 L Q fl q) (hfl : 1 ≤ fl ∧ fl ≤ 9) (k : KQ rr F0 F A0 A) (hD : RD F A rr sz p fl q cs pl no br at_ cm) (hrd : rd ≤ 801) : Ex (d + 8) RR_readRule 8 [some (vR rr), some (vI vd), some (vI (rd : Int)), l3] [] (CM m F A L) Q := by
  have hk7 := hR.1.1
  have hr448 := hR.1.2.1
  have hk8 := hR.2.1.1
  have hx := hE F A p cs pl no br at_ cm k hD
  refine Ex_step (tk_RR_readRule rfl) ?_
  refine Ex_step (tk_RR_readRule rfl) ?_
  refine Ex_step (tk_RR_readRule rfl) ⟨fun h12 => ?_, fun h12 => ?_⟩
  · try simp (disch := omega) only [cmpI, w32_b2i, b2i_0, b2i_1, w32_id, Classical.not_not, not_true_eq_false, not_false_eq_true] at h12
    refine Ex_step (tk_RR_readRule rfl) ?_
    refine Ex_step (tk_RR_readRule rfl) ⟨rfl, ?_⟩
    exact hx
  · try simp (disch := omega) only [cmpI, w32_b2i, b2i_0, b2i_1, w32_id, Classical.not_not, not_true_eq_false, not_false_eq_true] at h12
    refine Ex_step (tk_RR_readRule rfl) ?_
    refine gCR (tk_RR_readRule rfl) (hk7) (hr448) ?_
    refine Ex_cV0 (av := []) (tk_RR_readRule rfl) mk_Scan_failed ⟨rfl, rfl, by decide, rfl, Nat.le_of_ble_eq_true rfl, Nat.le_of_ble_eq_true rfl⟩ (hk8) (fun _ h => c_failed hk8 hD.1 hfl.2 h) ?_
    refine Ex_step (tk_RR_readRule rfl) ⟨fun h22 => ?_, fun h22 => ?_⟩
    · try simp (disch := omega) only [cmpI, w32_b2i, b2i_0, b2i_1, w32_id, Classical.not_not, not_true_eq_false, not_false_eq_true] at h22
      refine Ex_step (tk_RR_readRule rfl) ?_
      refine Ex_step (tk_RR_readRule rfl) ⟨rfl, ?_⟩
      exact hx
    · try simp (disch := omega) only [cmpI, w32_b2i, b2i_0, b2i_1, w32_id, Classical.not_not, not_true_eq_false, not_false_eq_true] at h22
      omega
set_option maxRecDepth 100000 in
/-- a value is due: blanks are passed, the value is taken -/
theorem c_rlV {R : Int → (Nat → Nat → Int) → (Nat → Nat → Int) → Prop} (hR : RlW m rr tp sz F0 A0 L) (hp : p ≤ sz) (hstep : ∀ F A : Nat → Nat → Int, KQ rr F0 F A0 A → RD F A rr sz (sk (A0 tp) sz p) 0 (-1) cs pl no br at_ cm → ∀ Q1 : Nat → Option AV → Mem → Prop, (∀ (v : Int) (F2 A2 : Nat → Nat → Int), KQ rr F0 F2 A0 A2 → R v F2 A2 → Q1 0 (some (vI v)) (CM m F2 A2 L)) → Ex (d + 7) RR_takesValue 0 [some (vR rr), some (vI (bt (A0 tp) sz (sk (A0 tp) sz p))), none] [] (CM m F A L) Q1) (hcont : ∀ (v : Int) (F2 A2 : Nat → Nat → Int) (rd : Nat) (l3 : Option AV), KQ rr F0 F2 A0 A2 → R v F2 A2 → rd ≤ p → (v = 0 ∨ v = 1) ∧ Ex (d + 8) RR_readRule 8 [some (vR rr), some (vI (1 - v)), some (vI ((rd : Int) + 1)), l3] [] (CM m F2 A2 L) Q) : RG d m rr sz F0 A0 L Q 1 p cs pl no br at_ cm := by
  intro F A rd l3 k hD hrd
  have hk7 := hR.1.1
  have hr448 := hR.1.2.1
  have hk8 := hR.2.1.1
  have hsz := hR.2.2.1
  obtain ⟨hA, hC⟩ := hR.c k
  have hf : byts (A tp) := by rw [hA]; exact hR.2.2.2.1
  have hlook := fun (Q1 : Nat → Option AV → Mem → Prop) => c_look (d := d + 6) (L := L) (Q := Q1) (fl := 0) (pl := -1) hR.2.1 hsz hf (sz + 1) p F (by omega) (by omega) hD.1
  rw [hA] at hlook
  have hD1 := hD.mv (sk (A0 tp) sz p)
  have k1 : KQ rr F0 (upF F 514 (rr + 1) ((sk (A0 tp) sz p : Nat) : Int)) A0 A := k.tr (KQ.s rr F A 514 _)
  have h37 : Ex (d + 8) RR_readRule 37 [some (vR rr), some (vI 1), some (vI (rd : Int)), some (vI (bt (A0 tp) sz (sk (A0 tp) sz p)))] [] (CM m (upF F 514 (rr + 1) ((sk (A0 tp) sz p : Nat) : Int)) A L) Q := by
    have key : ∀ (v : Int) (F2 A2 : Nat → Nat → Int), KQ rr F0 F2 A0 A2 → R v F2 A2 → Ex (d + 8) RR_readRule 42 [some (vR rr), some (vI 1), some (vI (rd : Int)), some (vI (bt (A0 tp) sz (sk (A0 tp) sz p)))] [vI v] (CM m F2 A2 L) Q := by
      intro v F2 A2 k2 hr
      obtain ⟨hv, h8⟩ := hcont v F2 A2 rd (some (vI (bt (A0 tp) sz (sk (A0 tp) sz p)))) k2 hr hrd
      rcases hv with rfl | rfl
      · refine Ex_step (tk_RR_readRule rfl) ⟨fun h42 => ?_, fun h42 => ?_⟩
        · replace h42 : _ := h42
          exact absurd rfl h42
        · replace h42 : _ := h42
          refine Ex_step (tk_RR_readRule rfl) ?_
          refine Ex_step (tk_RR_readRule rfl) ?_
          refine Ex_step (tk_RR_readRule rfl) ?_
          refine Ex_step (tk_RR_readRule rfl) ?_
          refine Ex_step (tk_RR_readRule rfl) ?_
          refine Ex_step (tk_RR_readRule rfl) ?_
          exact h8
      · refine Ex_step (tk_RR_readRule rfl) ⟨fun h42 => ?_, fun h42 => ?_⟩
        · replace h42 : _ := h42
          refine Ex_step (tk_RR_readRule rfl) ?_
          refine Ex_step (tk_RR_readRule rfl) ?_
          refine Ex_step (tk_RR_readRule rfl) ?_
          refine Ex_step (tk_RR_readRule rfl) ?_
          refine Ex_step (tk_RR_readRule rfl) ?_
          exact h8
        · replace h42 : _ := h42
          exact absurd (show w32 1 = w32 0 from Classical.not_not.mp h42) (by decide)
    have hst := hstep _ A k1 hD1
    refine Ex_step (tk_RR_readRule rfl) ?_
    refine Ex_step (tk_RR_readRule rfl) ?_
    refine Ex_cVK (av := [vI (bt (A0 tp) sz (sk (A0 tp) sz p))]) (tk_RR_readRule rfl) mk_RR_takesValue ⟨rfl, rfl, by decide, rfl, Nat.le_of_ble_eq_true rfl, Nat.le_of_ble_eq_true rfl⟩ (hk7) (hst _ (fun v F2 A2 k2 hr => ⟨rfl, ?_⟩))
    exact key v F2 A2 k2 hr
  refine Ex_step (tk_RR_readRule rfl) ?_
  refine Ex_step (tk_RR_readRule rfl) ?_
  refine Ex_step (tk_RR_readRule rfl) ⟨fun h12 => ?_, fun h12 => ?_⟩
  · try simp (disch := omega) only [cmpI, w32_b2i, b2i_0, b2i_1, w32_id, Classical.not_not, not_true_eq_false, not_false_eq_true] at h12
    try omega
  · try simp (disch := omega) only [cmpI, w32_b2i, b2i_0, b2i_1, w32_id, Classical.not_not, not_true_eq_false, not_false_eq_true] at h12
    refine Ex_step (tk_RR_readRule rfl) ?_
    refine gCR (tk_RR_readRule rfl) (hk7) (hr448) ?_
    refine Ex_cV0 (av := []) (tk_RR_readRule rfl) mk_Scan_failed ⟨rfl, rfl, by decide, rfl, Nat.le_of_ble_eq_true rfl, Nat.le_of_ble_eq_true rfl⟩ (hk8) (fun _ h => c_failed hk8 hD.1 (by decide) h) ?_
    refine Ex_step (tk_RR_readRule rfl) ⟨fun h22 => ?_, fun h22 => ?_⟩
    · try simp (disch := omega) only [cmpI, w32_b2i, b2i_0, b2i_1, w32_id, Classical.not_not, not_true_eq_false, not_false_eq_true] at h22
      try omega
    · try simp (disch := omega) only [cmpI, w32_b2i, b2i_0, b2i_1, w32_id, Classical.not_not, not_true_eq_false, not_false_eq_true] at h22
      refine Ex_step (tk_RR_readRule rfl) ?_
      refine gCR (tk_RR_readRule rfl) (hk7) (hr448) ?_
      refine Ex_cV0 (av := []) (tk_RR_readRule rfl) mk_Scan_look ⟨rfl, rfl, by decide, rfl, Nat.le_of_ble_eq_true rfl, Nat.le_of_ble_eq_true rfl⟩ (hk8) (fun _ h => hlook _ h) ?_
      refine Ex_step (tk_RR_readRule rfl) ?_
      refine Ex_step (tk_RR_readRule rfl) ?_
      refine Ex_step (tk_RR_readRule rfl) ⟨fun h34 => ?_, fun h34 => ?_⟩
      · try simp (disch := omega) only [cmpI, w32_b2i, b2i_0, b2i_1, w32_id, Classical.not_not, not_true_eq_false, not_false_eq_true] at h34
        omega
      · try simp (disch := omega) only [cmpI, w32_b2i, b2i_0, b2i_1, w32_id, Classical.not_not, not_true_eq_false, not_false_eq_true] at h34
        exact h37
set_option maxRecDepth 100000 in
/-- a sign is due, and it isn't the end -/
theorem c_rlS {R : Int → (Nat → Nat → Int) → (Nat → Nat → Int) → Prop} (hR : RlW m rr tp sz F0 A0 L) (hp : p ≤ sz) (hcm : cm = 0 ∨ cm = 1) (hbr : br ≤ 9) (hne : ¬ (bt (A0 tp) sz (sk (A0 tp) sz p) = 59 ∧ cm = 1 ∧ br = 0)) (hstep : ∀ F A : Nat → Nat → Int, KQ rr F0 F A0 A → RD F A rr sz (sk (A0 tp) sz p) 0 (-1) cs pl no br at_ cm → ∀ Q1 : Nat → Option AV → Mem → Prop, (∀ (v : Int) (F2 A2 : Nat → Nat → Int), KQ rr F0 F2 A0 A2 → R v F2 A2 → Q1 0 (some (vI v)) (CM m F2 A2 L)) → Ex (d + 7) RR_takesSign 0 [some (vR rr), some (vI (bt (A0 tp) sz (sk (A0 tp) sz p))), none] [] (CM m F A L) Q1) (hcont : ∀ (v : Int) (F2 A2 : Nat → Nat → Int) (rd : Nat) (l3 : Option AV), KQ rr F0 F2 A0 A2 → R v F2 A2 → rd ≤ p → Ex (d + 8) RR_readRule 8 [some (vR rr), some (vI v), some (vI ((rd : Int) + 1)), l3] [] (CM m F2 A2 L) Q) : RG d m rr sz F0 A0 L Q 0 p cs pl no br at_ cm := by
  intro F A rd l3 k hD hrd
  have hk7 := hR.1.1
  have hr448 := hR.1.2.1
  have hk8 := hR.2.1.1
  have hsz := hR.2.2.1
  obtain ⟨hA, hC⟩ := hR.c k
  have hf : byts (A tp) := by rw [hA]; exact hR.2.2.2.1
  have hlook := fun (Q1 : Nat → Option AV → Mem → Prop) => c_look (d := d + 6) (L := L) (Q := Q1) (fl := 0) (pl := -1) hR.2.1 hsz hf (sz + 1) p F (by omega) (by omega) hD.1
  rw [hA] at hlook
  have hbb := bt_range hR.2.2.2.1 hsz (sk (A0 tp) sz p)
  have hD1 := hD.mv (sk (A0 tp) sz p)
  have k1 : KQ rr F0 (upF F 514 (rr + 1) ((sk (A0 tp) sz p : Nat) : Int)) A0 A := k.tr (KQ.s rr F A 514 _)
  have hst := hstep _ A k1 hD1
  generalize hbe : bt (A0 tp) sz (sk (A0 tp) sz p) = c at *
  have h98 : Ex (d + 8) RR_readRule 98 [some (vR rr), some (vI 0), some (vI (rd : Int)), some (vI c)] [] (CM m (upF F 514 (rr + 1) ((sk (A0 tp) sz p : Nat) : Int)) A L) Q := by
    have key : ∀ (v : Int) (F2 A2 : Nat → Nat → Int), KQ rr F0 F2 A0 A2 → R v F2 A2 → Ex (d + 8) RR_readRule 103 [some (vR rr), some (vI 0), some (vI (rd : Int)), some (vI c)] [vI v] (CM m F2 A2 L) Q := by
      intro v F2 A2 k2 hr
      have h8 := hcont v F2 A2 rd (some (vI c)) k2 hr hrd
      refine Ex_step (tk_RR_readRule rfl) ?_
      refine Ex_step (tk_RR_readRule rfl) ?_
      refine Ex_step (tk_RR_readRule rfl) ?_
      exact h8
    refine Ex_step (tk_RR_readRule rfl) ?_
    refine Ex_step (tk_RR_readRule rfl) ?_
    refine Ex_cVK (av := [vI c]) (tk_RR_readRule rfl) mk_RR_takesSign ⟨rfl, rfl, by decide, rfl, Nat.le_of_ble_eq_true rfl, Nat.le_of_ble_eq_true rfl⟩ (hk7) (hst _ (fun v F2 A2 k2 hr => ⟨rfl, ?_⟩))
    exact key v F2 A2 k2 hr
  have h54 : Ex (d + 8) RR_readRule 54 [some (vR rr), some (vI 0), some (vI (rd : Int)), some (vI c)] [] (CM m (upF F 514 (rr + 1) ((sk (A0 tp) sz p : Nat) : Int)) A L) Q := by
    refine Ex_step (tk_RR_readRule rfl) ?_
    refine Ex_step (tk_RR_readRule rfl) ?_
    refine Ex_step (tk_RR_readRule rfl) ⟨fun h57 => ?_, fun h57 => ?_⟩
    · try simp (disch := omega) only [cmpI, w32_b2i, b2i_0, b2i_1, w32_id, Classical.not_not, not_true_eq_false, not_false_eq_true] at h57
      exact h98
    · try simp (disch := omega) only [cmpI, w32_b2i, b2i_0, b2i_1, w32_id, Classical.not_not, not_true_eq_false, not_false_eq_true] at h57
      refine Ex_step (tk_RR_readRule rfl) ?_
      refine Ex_cV0 (av := []) (tk_RR_readRule rfl) mk_RR_mayEnd ⟨rfl, rfl, by decide, rfl, Nat.le_of_ble_eq_true rfl, Nat.le_of_ble_eq_true rfl⟩ (hk7) (fun _ h => c_mayEnd hk7 hD1.2 hcm hbr h) ?_
      refine Ex_step (tk_RR_readRule rfl) ⟨fun h64 => ?_, fun h64 => ?_⟩
      · try simp (disch := omega) only [cmpI, w32_b2i, b2i_0, b2i_1, w32_id, Classical.not_not, not_true_eq_false, not_false_eq_true] at h64
        exact h98
      · try simp (disch := omega) only [cmpI, w32_b2i, b2i_0, b2i_1, w32_id, Classical.not_not, not_true_eq_false, not_false_eq_true] at h64
        exact absurd ⟨h57, h64⟩ hne
  refine Ex_step (tk_RR_readRule rfl) ?_
  refine Ex_step (tk_RR_readRule rfl) ?_
  refine Ex_step (tk_RR_readRule rfl) ⟨fun h12 => ?_, fun h12 => ?_⟩
  · replace h12 : _ := h12
    first | exact absurd (show w32 800 < w32 (rd : Int) from h12) (by rw [show w32 800 = 800 from rfl, w32_id (by omega) (by omega)]; omega) | exact absurd rfl h22
  · replace h12 : _ := h12
    refine Ex_step (tk_RR_readRule rfl) ?_
    refine gCR (tk_RR_readRule rfl) (hk7) (hr448) ?_
    refine Ex_cV0 (av := []) (tk_RR_readRule rfl) mk_Scan_failed ⟨rfl, rfl, by decide, rfl, Nat.le_of_ble_eq_true rfl, Nat.le_of_ble_eq_true rfl⟩ (hk8) (fun _ h => c_failed hk8 hD.1 (by decide) h) ?_
    refine Ex_step (tk_RR_readRule rfl) ⟨fun h22 => ?_, fun h22 => ?_⟩
    · replace h22 : _ := h22
      first | exact absurd (show w32 800 < w32 (rd : Int) from h12) (by rw [show w32 800 = 800 from rfl, w32_id (by omega) (by omega)]; omega) | exact absurd rfl h22
    · replace h22 : _ := h22
      refine Ex_step (tk_RR_readRule rfl) ?_
      refine gCR (tk_RR_readRule rfl) (hk7) (hr448) ?_
      refine Ex_cV0 (av := []) (tk_RR_readRule rfl) mk_Scan_look ⟨rfl, rfl, by decide, rfl, Nat.le_of_ble_eq_true rfl, Nat.le_of_ble_eq_true rfl⟩ (hk8) (fun _ h => hlook _ h) ?_
      refine Ex_step (tk_RR_readRule rfl) ?_
      refine Ex_step (tk_RR_readRule rfl) ?_
      refine Ex_step (tk_RR_readRule rfl) ⟨fun h34 => ?_, fun h34 => ?_⟩
      · replace h34 : _ := h34
        exact h54
      · replace h34 : _ := h34
        exact absurd rfl h34
end CLoop
