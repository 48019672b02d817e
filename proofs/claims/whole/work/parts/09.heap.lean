/-! ===== cells out of a heap that stands for a memory ===== -/
theorem kLow_cases (a : Nat) : kLow a = 0 ∨ (kLow a = 20 ∧ a % 2 = 0 ∧ 2 ≤ a ∧ (a - 2) / 2 < nS) ∨ (kLow a = 21 ∧ a % 2 = 1 ∧ 2 ≤ a ∧ (a - 2) / 2 < nS) := by
  unfold kLow
  split
  · exact Or.inl rfl
  · split
    · split
      · exact Or.inr (Or.inl ⟨rfl, by assumption, by omega, by assumption⟩)
      · exact Or.inr (Or.inr ⟨rfl, by omega, by omega, by assumption⟩)
    · exact Or.inl rfl
theorem vwCl_lt {k : Nat} {q : vw_C} (h : vwCl[k]? = some q) : k < 12 := (List.getElem?_eq_some_iff.mp h).1
section Cells
variable {G : Gm} {m : Mem} {U : State} {H : Heap} {a : Nat}
theorem Rep.obj (h : Rep G m U H) {k : Nat} {q : vw_C} (hq : vwCl[k]? = some q) (hk : mK m a = k + 1) : 100 ≤ a ∧ va_at (gD G) vwCl (rho G a, .inr (k, flds G m k a q.2.2)) H := by
  have hk12 := vwCl_lt hq
  have ha : 100 ≤ a := by
    rcases Nat.lt_or_ge a 100 with q | q
    · exfalso
      by_cases e : a = 1
      · rw [e, h.2.2.1.1] at hk; omega
      · rw [h.2.2.1.2.2.2.1 a q e] at hk
        rcases kLow_cases a with e | ⟨e, -⟩ | ⟨e, -⟩ <;> omega
    · exact q
  exact ⟨ha, (h.2.2.2 a ha (h.dom (by omega) ha)).1 k q hq hk⟩
theorem Rep.arr (h : Rep G m U H) {k : Nat} {ty : FieldType} (ht : arTy k = some ty) (hk : mK m a = k) (ha1 : k ≠ 13 ∨ a ≠ 1) : 100 ≤ a ∧ ∃ cA, H[rho G a]? = some (arrV cA (mLen m a) (aval G m k a)) ∧ ArrOfT U cA ty ∧ va_RA U cA ty := by
  have hk0 : k ≠ 0 ∧ k ≠ 20 ∧ k ≠ 21 := by
    refine ⟨?_, ?_, ?_⟩ <;> (intro e; rw [e] at ht; cases ht)
  have ha : 100 ≤ a := by
    rcases Nat.lt_or_ge a 100 with q | q
    · exfalso
      by_cases e : a = 1
      · rw [e, h.2.2.1.1] at hk; rcases ha1 with z | z <;> omega
      · rw [h.2.2.1.2.2.2.1 a q e] at hk
        rcases kLow_cases a with e | ⟨e, -⟩ | ⟨e, -⟩ <;> omega
    · exact q
  exact ⟨ha, (h.2.2.2 a ha (h.dom (by omega) ha)).2.1 k ty ht hk⟩
theorem Rep.txt (h : Rep G m U H) (hk : mK m a = 20) : ∃ i, i < nS ∧ a = 2 + 2 * i := by
  rcases Nat.lt_or_ge a 100 with q | q
  · by_cases e : a = 1
    · rw [e, h.2.2.1.1] at hk; omega
    · rw [h.2.2.1.2.2.2.1 a q e] at hk
      rcases kLow_cases a with e | ⟨e, e1, e2, e3⟩ | ⟨e, -⟩
      · omega
      · exact ⟨(a - 2) / 2, e3, by omega⟩
      · omega
  · exact absurd hk (h.2.2.2 a q (h.dom (by omega) q)).2.2.1
theorem Rep.byt (h : Rep G m U H) (hk : mK m a = 21) : ∃ i, i < nS ∧ a = 3 + 2 * i := by
  rcases Nat.lt_or_ge a 100 with q | q
  · by_cases e : a = 1
    · rw [e, h.2.2.1.1] at hk; omega
    · rw [h.2.2.1.2.2.2.1 a q e] at hk
      rcases kLow_cases a with e | ⟨e, -⟩ | ⟨e, e1, e2, e3⟩
      · omega
      · omega
      · exact ⟨(a - 2) / 2, e3, by omega⟩
  · exact absurd hk (h.2.2.2 a q (h.dom (by omega) q)).2.2.2
theorem flds_get (G : Gm) (m : Mem) (k a : Nat) {N j : Nat} (hj : j < N) : (flds G m k a N)[j]? = some (fval G m k a j) := by
  unfold flds
  rw [List.getElem?_map, List.getElem?_range hj]
  rfl
theorem flds_length (G : Gm) (m : Mem) (k a N : Nat) : (flds G m k a N).length = N := by
  unfold flds
  rw [List.length_map, List.length_range]
theorem rho_k (G : Gm) {i : Nat} (hi : i < nS) : rho G (2 + 2 * i) = gAK G i := by
  have hi' : i < 24 := hi
  unfold rho
  rw [if_neg (by omega), if_pos (by omega), if_pos (by omega)]
  congr 1
  omega
theorem rho_v (G : Gm) {i : Nat} (hi : i < nS) : rho G (3 + 2 * i) = gAV G i := by
  have hi' : i < 24 := hi
  unfold rho
  rw [if_neg (by omega), if_pos (by omega), if_neg (by omega)]
  congr 1
  omega
theorem fOk_own {y idx : Nat} {e : Ent} (h : fOk y e idx = true) (h20 : n2 e ≠ 20) : ∃ q, vwCl[n2 e - 1]? = some q ∧ 1 ≤ n2 e ∧ n1 e = 64 * n2 e + (n1 e - 64 * n2 e) ∧ n1 e - 64 * n2 e < q.2.2 ∧ Cond.fieldLink (mC y) idx (q.2.1 (n1 e - 64 * n2 e)).1 (q.2.1 (n1 e - 64 * n2 e)).2.1 (q.2.1 (n1 e - 64 * n2 e)).2.2.1 ∈ lw_good ∧
    ((n3 e = 0 ∧ clTy (n2 e - 1) (n1 e - 64 * n2 e) = .int) ∨ (n3 e = 1 ∧ clTy (n2 e - 1) (n1 e - 64 * n2 e) = .boolean) ∨ (n3 e = 2 ∧ (clTy (n2 e - 1) (n1 e - 64 * n2 e)).isReference = true)) := by
  unfold fOk at h
  have hb : Nat.beq (n2 e) 20 = false := by
    cases hx : Nat.beq (n2 e) 20 with
    | false => rfl
    | true => exact absurd (Nat.eq_of_beq_eq_true hx) h20
  rw [hb] at h
  simp only [cond_false] at h
  split at h
  · next q hq =>
    simp only [Bool.and_eq_true, decide_eq_true_eq] at h
    obtain ⟨⟨⟨⟨g1, g2⟩, g3⟩, g4⟩, g5⟩ := h
    refine ⟨q, hq, g1, g2, g3, wAt_mem g4, ?_⟩
    split at g5
    · next e => exact Or.inl ⟨e, of_decide_eq_true g5⟩
    · next e => exact Or.inr (Or.inl ⟨e, of_decide_eq_true g5⟩)
    · next e => exact Or.inr (Or.inr ⟨e, g5⟩)
    · cases g5
  · cases h
end Cells
section Steps3
variable {d y pc : Nat} {ls : Ls} {st : List AV} {m : Mem} {Q : Nat → Option AV → Mem → Prop} {nx : Nat} {rs : List Nat} {c0 : Int} {r : List AV}
theorem s_getfield {idx a : Nat} (hk : okE y pc (.getfield idx, nx, rs, c0)) (h : mK m a = n2 (.getfield idx, nx, rs, c0) ∧ Ex d y nx ls ((bif Nat.beq (n3 (.getfield idx, nx, rs, c0)) 2 then vR (mFR m (n1 (.getfield idx, nx, rs, c0)) a) else vI (mFI m (n1 (.getfield idx, nx, rs, c0)) a)) :: r) m Q) : Ex d y pc ls (vR a :: r) m Q := by
  obtain ⟨k1, z2, k3⟩ := hk.use
  have k2 : nx = pc + 3 := z2
  clear z2 hk
  subst k2
  obtain ⟨hka, h⟩ := h
  change fOk y (.getfield idx, pc + 3, rs, c0) idx = true at k3
  generalize he : ((.getfield idx, pc + 3, rs, c0) : Ent) = e at k3 hka h
  by_cases h20 : n2 e = 20
  · rw [h20] at hka
    refine Ex_pure h fun {G _ _ _ _ _ _ _ _ _ _ _ _ _ _ _ _} C hR hS hL k => ?_
    obtain ⟨i, hi, rfl⟩ := hR.txt hka
    have hi' : i < 24 := hi
    obtain ⟨l1, l2, l3, l4⟩ := hR.2.2.1.2.2.2.2 i hi
    have hst := (C.2.2.2.2.2.2.2.2.2.1.2.1 i hi).1 0 (by omega)
    have k9 := k _ hL
    rw [List.map_cons, up_lo G (by omega) (by omega), rho_k G hi]
    unfold fOk at k3
    rw [h20] at k3
    rw [show Nat.beq 20 20 = true from rfl] at k3
    simp only [cond_true] at k3
    cases hb : Nat.beq (n1 e) 1280 with
    | true =>
      have e1 := Nat.eq_of_beq_eq_true hb
      rw [hb] at k3
      simp only [cond_true, Bool.and_eq_true] at k3
      rw [k3.1, e1, l1] at k9
      simp only [cond_true] at k9
      rw [List.map_cons, up_lo G (by omega) (by omega), rho_v G hi] at k9
      subst he
      exact vk_getf C.1 C.2.1 hst.2.2.1 hS C.2.2.2.2.1 (C.2.2.2.2.2.1 _ (wAt_mem k3.2)) (fun x hx => hx) k1 k9
    | false =>
      rw [hb] at k3
      simp only [cond_false, Bool.and_eq_true] at k3
      have e1 := Nat.eq_of_beq_eq_true k3.1.1
      have e2 := Nat.eq_of_beq_eq_true k3.1.2
      rw [e2, e1, l2] at k9
      subst he
      exact vk_getf C.1 C.2.1 hst.2.1 hS C.2.2.2.2.1 (C.2.2.2.2.2.1 _ (wAt_mem k3.2)) (fun x hx => hx) k1 k9
  · obtain ⟨q, hq, g1, g2, g3, g4, g5⟩ := fOk_own k3 h20
    have hka' : mK m a = (n2 e - 1) + 1 := by omega
    refine Ex_pure h fun {G _ _ _ _ _ _ _ _ _ _ _ _ _ _ _ _} C hR hS hL k => ?_
    obtain ⟨ha, hv⟩ := hR.obj hq hka'
    have hP : va_P (gD G) vwCl [(rho G a, .inr (n2 e - 1, flds G m (n2 e - 1) a q.2.2))] _ := fun j z hz => by
      match j, hz with
      | 0, hz => cases hz; exact hv
    have ok := clOk_all hq
    have k9 := k _ hL
    rw [List.map_cons, up_hi G ha]
    have hval : fval G m (n2 e - 1) a (n1 e - 64 * n2 e) = up G (bif Nat.beq (n3 e) 2 then vR (mFR m (n1 e) a) else vI (mFI m (n1 e) a)) := by
      unfold fval
      have e9 : 64 * (n2 e - 1 + 1) + (n1 e - 64 * n2 e) = n1 e := by omega
      rw [e9]
      rcases g5 with ⟨z1, z2⟩ | ⟨z1, z2⟩ | ⟨z1, z2⟩
      · rw [z1, z2]; rfl
      · rw [z1, z2]; rfl
      · rw [z1, if_pos z2]; rfl
    rw [List.map_cons, ← hval] at k9
    subst he
    exact va_get (C := q.1) (T := q.2.1) (N := q.2.2) C.1 C.2.1 C.2.2.2.2.2.1 ok.1 C.2.2.2.2.1 C.2.2.2.2.2.2.2.2.2.1.1 hP 0 rfl hq _ g3 (C.2.2.2.2.2.1 _ g4) (fun x hx => hx) (flds_get G m _ a g3) k1 k9
end Steps3
