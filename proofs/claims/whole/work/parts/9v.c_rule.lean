/-! ===== the class: ";" ends a rule; a whole rule ===== -/
section CRule
variable {d rr tp sz p no br : Nat} {cs pl : List Int} {at_ cm : Int} {m : Mem} {F A F0 A0 L : Nat → Nat → Int} {Q : Nat → Option AV → Mem → Prop}
set_option maxRecDepth 100000 in
theorem rl_Z {cs2 : List Int} (hR : RlW m rr tp sz F0 A0 L) (hN : rr + 4 < 100 + mN m) (hp : p ≤ sz) (ho : okL pl) (hl : pl.length ≤ 32) (hcl : cs.length + pl.length ≤ 800) (hc : bt (A0 tp) sz (sk (A0 tp) sz p) = 59) (he1 : relP 0 pl = []) (he2 : relC 0 pl cs = cs2) (hn : cs2.length < 800) (hQ : ∀ F A : Nat → Nat → Int, KQ rr F0 F A0 A → RD F A rr sz (sk (A0 tp) sz p + 1) 0 (-1) cs2 [] no 0 at_ 1 → Q 0 (some (vR (100 + mN m))) (ruM m F A L rr cs2.length)) : RG d m rr sz F0 A0 L Q 0 p cs pl no 0 at_ 1 := by
  intro F A rd l3 k hD hrd
  have hk7 := hR.1.1
  have hr448 := hR.1.2.1
  have hk8 := hR.2.1.1
  have hsz := hR.2.2.1
  have hlt := bt_lt hc (by decide)
  have h100 := hR.2.2.2.2.2.1
  obtain ⟨hA, hC⟩ := hR.c k
  have hf : byts (A tp) := by rw [hA]; exact hR.2.2.2.1
  have hlook := fun (Q1 : Nat → Option AV → Mem → Prop) => c_look (d := d + 6) (L := L) (Q := Q1) (fl := 0) (pl := -1) hR.2.1 hsz hf (sz + 1) p F (by omega) (by omega) hD.1
  rw [hA, hc] at hlook
  have hD1 := hD.mv (sk (A0 tp) sz p)
  have k1 : KQ rr F0 (upF F 514 (rr + 1) ((sk (A0 tp) sz p : Nat) : Int)) A0 A := k.tr (KQ.s rr F A 514 _)
  generalize upF F 514 (rr + 1) ((sk (A0 tp) sz p : Nat) : Int) = F1 at *
  have hD2 := hD1.mv (sk (A0 tp) sz p + 1)
  have k2 : KQ rr F0 (upF F1 514 (rr + 1) ((sk (A0 tp) sz p + 1 : Nat) : Int)) A0 A := k1.tr (KQ.s rr F1 A 514 _)
  have h67 : Ex (d + 8) RR_readRule 67 [some (vR rr), some (vI 0), some (vI (rd : Int)), some (vI 59)] [] (CM m F1 A L) Q := by
    have hst := fun (Q1 : Nat → Option AV → Mem → Prop) => c_step (d := d + 7) (Q := Q1) (A := A) (L := L) hk8 hD1.1 hsz hlt
    generalize upF F1 514 (rr + 1) ((sk (A0 tp) sz p + 1 : Nat) : Int) = F2 at *
    have hrel := fun (Q1 : Nat → Option AV → Mem → Prop) => c_release (d := d + 6) (b := 0) (Q := Q1) (L := L) hR.1 (by decide) pl cs F2 A ho hl hcl hD2.2
    rw [he1, he2] at hrel
    refine Ex_step (tk_RR_readRule rfl) ?_
    refine gCR (tk_RR_readRule rfl) (hk7) (hr448) ?_
    refine Ex_cV0 (av := []) (tk_RR_readRule rfl) mk_Scan_step ⟨rfl, rfl, by decide, rfl, Nat.le_of_ble_eq_true rfl, Nat.le_of_ble_eq_true rfl⟩ (hk8) (fun _ h => hst _ h) ?_
    refine Ex_step (tk_RR_readRule rfl) ?_
    refine Ex_step (tk_RR_readRule rfl) ?_
    refine Ex_cVK (av := [vI 0]) (tk_RR_readRule rfl) mk_RR_release ⟨rfl, rfl, by decide, rfl, Nat.le_of_ble_eq_true rfl, Nat.le_of_ble_eq_true rfl⟩ (hk7) (hrel _ (fun F' A' k3 hr => ⟨rfl, ?_⟩))
    exact c_rl79 hR.1 hN h100 hn hr (hQ F' A' (k2.tr k3.q) (hD2.kr k3 hr))
  have h54 : Ex (d + 8) RR_readRule 54 [some (vR rr), some (vI 0), some (vI (rd : Int)), some (vI 59)] [] (CM m F1 A L) Q := by
    refine Ex_step (tk_RR_readRule rfl) ?_
    refine Ex_step (tk_RR_readRule rfl) ?_
    refine Ex_step (tk_RR_readRule rfl) ⟨fun h57 => ?_, fun h57 => ?_⟩
    · replace h57 : _ := h57
      first | exact absurd rfl h57 | exact absurd (show w32 (b2i ((1 : Int) = 1 ∧ (0 : Nat) = 0)) = w32 0 from h64) (by decide)
    · replace h57 : _ := h57
      refine Ex_step (tk_RR_readRule rfl) ?_
      refine Ex_cV0 (av := []) (tk_RR_readRule rfl) mk_RR_mayEnd ⟨rfl, rfl, by decide, rfl, Nat.le_of_ble_eq_true rfl, Nat.le_of_ble_eq_true rfl⟩ (hk7) (fun _ h => c_mayEnd hk7 hD1.2 (Or.inr rfl) (by omega) h) ?_
      refine Ex_step (tk_RR_readRule rfl) ⟨fun h64 => ?_, fun h64 => ?_⟩
      · replace h64 : _ := h64
        first | exact absurd rfl h57 | exact absurd (show w32 (b2i ((1 : Int) = 1 ∧ (0 : Nat) = 0)) = w32 0 from h64) (by decide)
      · replace h64 : _ := h64
        exact h67
  refine Ex_step (tk_RR_readRule rfl) ?_
  refine Ex_step (tk_RR_readRule rfl) ?_
  refine Ex_step (tk_RR_readRule rfl) ⟨fun h12 => ?_, fun h12 => ?_⟩
  · replace h12 : _ := h12
    first | exact absurd (show w32 800 < w32 (rd : Int) from h12) (by rw [show w32 800 = 800 from rfl, w32_id (by omega) (by omega)]; omega) | exact absurd rfl h22
  · replace h12 : _ := h12
    refine Ex_step (tk_RR_readRule rfl) ?_
    refine gCR (tk_RR_readRule rfl) (hk7) (hr448) ?_
    refine Ex_cV0 (av := []) (tk_RR_readRule rfl) mk_Scan_failed ⟨rfl, rfl, by decide, rfl, Nat.le_of_ble_eq_true rfl, Nat.le_of_ble_eq_true rfl⟩ (hk8) (fun _ h => c_failed hk8 hD.1 (by decide) h) ?_
    refine Ex_step (tk_RR_readRule rfl) ⟨fun h22 => ?_, fun h22 => ?_⟩
    · replace h22 : _ := h22
      first | exact absurd (show w32 800 < w32 (rd : Int) from h12) (by rw [show w32 800 = 800 from rfl, w32_id (by omega) (by omega)]; omega) | exact absurd rfl h22
    · replace h22 : _ := h22
      refine Ex_step (tk_RR_readRule rfl) ?_
      refine gCR (tk_RR_readRule rfl) (hk7) (hr448) ?_
      refine Ex_cV0 (av := []) (tk_RR_readRule rfl) mk_Scan_look ⟨rfl, rfl, by decide, rfl, Nat.le_of_ble_eq_true rfl, Nat.le_of_ble_eq_true rfl⟩ (hk8) (fun _ h => hlook _ h) ?_
      refine Ex_step (tk_RR_readRule rfl) ?_
      refine Ex_step (tk_RR_readRule rfl) ?_
      refine Ex_step (tk_RR_readRule rfl) ⟨fun h34 => ?_, fun h34 => ?_⟩
      · replace h34 : _ := h34
        exact h54
      · replace h34 : _ := h34
        exact absurd rfl h34
end CRule
