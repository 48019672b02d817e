/-! ===== the class: its refusals ===== -/
set_option maxRecDepth 100000 in
theorem th_all {y ic o ix : Nat} {rx : ByteArray} (h : (thAt y ic o ix rx).all (fun w => decide (w ∈ lw_tbl) && (goodWord w || (okW2 w && w.onTables))) = true) : ∀ w ∈ thAt y ic o ix rx, w ∈ lw_tbl ∧ (goodWord w = true ∨ (okW2 w = true ∧ w.onTables = true)) := fun w hw => by
  have h1 := List.all_eq_true.mp h w hw
  simp only [Bool.and_eq_true, Bool.or_eq_true, decide_eq_true_eq] at h1
  exact h1
abbrev rxN : ByteArray := .mk #[0x2a, 0x2b, 0xb7, 0x00, 0x0d, 0xb1]
abbrev rxI : ByteArray := .mk #[0x2a, 0x2b, 0xb7, 0x00, 0x07, 0xb1]
set_option maxRecDepth 100000 in
theorem th_needDesign : thOk DD_needDesign 25 1 := ⟨241, 243, 245, 13, 11, rxN, "no such design", ⟨by decide +kernel, by decide +kernel, by decide +kernel, by decide +kernel, by decide +kernel⟩, ⟨by decide +kernel, by decide +kernel, by decide +kernel, by decide +kernel⟩, by decide +kernel, good_mem (ws := [_]) (by decide +kernel) _ List.mem_cons_self, good_mem (ws := [_]) (by decide +kernel) _ List.mem_cons_self, th_all (by decide +kernel)⟩
set_option maxRecDepth 100000 in
theorem th_needCell : thOk DD_needCell 32 1 := ⟨241, 251, 245, 13, 12, rxN, "no such cell", ⟨by decide +kernel, by decide +kernel, by decide +kernel, by decide +kernel, by decide +kernel⟩, ⟨by decide +kernel, by decide +kernel, by decide +kernel, by decide +kernel⟩, by decide +kernel, good_mem (ws := [_]) (by decide +kernel) _ List.mem_cons_self, good_mem (ws := [_]) (by decide +kernel) _ List.mem_cons_self, th_all (by decide +kernel)⟩
set_option maxRecDepth 100000 in
theorem th_needNumber : thOk DD_needNumber 20 2 := ⟨253, 255, 257, 7, 0, rxI, "a number that is none such", ⟨by decide +kernel, by decide +kernel, by decide +kernel, by decide +kernel, by decide +kernel⟩, ⟨by decide +kernel, by decide +kernel, by decide +kernel, by decide +kernel⟩, by decide +kernel, good_mem (ws := [_]) (by decide +kernel) _ List.mem_cons_self, good_mem (ws := [_]) (by decide +kernel) _ List.mem_cons_self, th_all (by decide +kernel)⟩
set_option maxRecDepth 100000 in
theorem th_needTwo : thOkW DD_needTwo 25 2 := ⟨253, 258, 257, 7, 13, rxI, "a design with itself", ⟨by decide +kernel, by decide +kernel, by decide +kernel, by decide +kernel, by decide +kernel⟩, ⟨by decide +kernel, by decide +kernel, by decide +kernel, by decide +kernel⟩, by decide +kernel, good_mem (ws := [_]) (by decide +kernel) _ List.mem_cons_self, good_mem (ws := [_]) (by decide +kernel) _ List.mem_cons_self, th_all (by decide +kernel)⟩
