/-! ===== the two readers side by side ===== -/
def SiS (f : Nat → Int) (sz : Nat) (s : PSt) (ts : List Tok) (ty : List Bool) (p : Nat) (cs X P : List Int) : Prop := pFl s = 0 ∧ G2 sz s ∧ p ≤ sz ∧ sk f sz p = sk f sz (pAt s) ∧ TokE s ts ∧ wfr ts [] ty ∧ (ts.map cod).reverse = X.reverse ++ cs ∧ cs.length + X.length + P.length + 1 ≤ p ∧ okL (X ++ P)
def HdB (P : List Int) (b : Int) : Prop := ∀ x r, P = x :: r → bnd x < b
def XB (b : Int) (l : Nat) (X : List Int) : Prop := (∀ x ∈ X, b ≤ bnd x) ∧ X.length ≤ l
set_option maxRecDepth 100000 in
theorem HdB.c {x : Int} {r : List Int} {b : Int} (h : bnd x < b) : HdB (x :: r) b := fun y q e => by
  injection e with e1 e2
  rw [← e1]
  exact h
set_option maxRecDepth 100000 in
theorem HdB.wk {P : List Int} {b c : Int} (h : HdB P b) (k : b ≤ c) : HdB P c := fun x r e => by have := h x r e; omega
set_option maxRecDepth 100000 in
theorem XB.snoc {b : Int} {l : Nat} {X : List Int} {c : Int} {b2 : Int} {l2 : Nat} (h : XB b l X) (hb : b2 ≤ b) (hl : l + 1 ≤ l2) (hc : b2 ≤ bnd c) : XB b2 l2 (X ++ [c]) := by
  refine ⟨fun x hx => ?_, ?_⟩
  · rcases List.mem_append.mp hx with q | q
    · have := h.1 x q
      omega
    · rw [List.mem_singleton.mp q]
      exact hc
  · have := h.2
    rw [List.length_append]
    show X.length + 1 ≤ l2
    omega
set_option maxRecDepth 100000 in
theorem XB.wk {b : Int} {l : Nat} {X : List Int} {b2 : Int} {l2 : Nat} (h : XB b l X) (hb : b2 ≤ b) (hl : l ≤ l2) : XB b2 l2 X := ⟨fun x hx => by have := h.1 x hx; omega, by have := h.2; omega⟩
set_option maxRecDepth 100000 in
theorem XB.nil (b : Int) (l : Nat) : XB b l [] := ⟨fun x hx => (by cases hx), Nat.zero_le _⟩
section SiL
variable {f : Nat → Int} {sz p : Nat} {s : PSt} {ts : List Tok} {ty : List Bool} {cs X P : List Int}
set_option maxRecDepth 100000 in
theorem SiS.here (h : SiS f sz s ts ty p cs X P) : SiS f sz (hereP f sz s) ts ty p cs X P := by
  refine ⟨h.1, h.2.1.here, h.2.2.1, ?_, h.2.2.2.2.1.k rfl rfl, h.2.2.2.2.2⟩
  show sk f sz p = sk f sz (sk f sz (pAt s))
  rw [sk_sk f sz (sz + 1) _ (by omega)]
  exact h.2.2.2.1
set_option maxRecDepth 100000 in
/-- a sign is taken: what waits above is told by the class, too -/
theorem SiS.sign (h : SiS f sz s ts ty p cs X P) (hx : sk f sz p < sz) {c : Int} (hc : -100 ≤ c ∧ c ≤ 10000) : SiS f sz (incP (hereP f sz s)) ts ty (sk f sz p + 1) (X.reverse ++ cs) [] (c :: P) := by
  obtain ⟨h0, hg, hp, he, ht, hw, hm, hl, ho⟩ := h
  have hs := sk_sz (f := f) hp
  refine ⟨h0, hg.here.inc (by show sk f sz (pAt s) < sz; omega), by omega, ?_, ht.k rfl rfl, hw, ?_, ?_, fun x q => ?_⟩
  · show sk f sz (sk f sz p + 1) = sk f sz (sk f sz (pAt s) + 1)
    rw [he]
  · rw [hm]
    rfl
  · rw [List.length_append, List.length_reverse]
    show X.length + cs.length + 0 + (P.length + 1) + 1 ≤ _
    omega
  · have q : x ∈ c :: P := q
    rcases List.mem_cons.mp q with q | q
    · rw [q]; exact hc
    · exact ho x (List.mem_append.mpr (Or.inr q))
set_option maxRecDepth 100000 in
/-- the reference tells a sign that lies on the class's pile -/
theorem SiS.tell {c : Int} (h : SiS f sz s ts ty p cs X (c :: P)) {k : Nat} (hk : 3 ≤ k) (hc : cod (k, 0) = c) {ty2 : List Bool} (hw2 : wfr [(k, 0)] ty ty2) : SiS f sz (tellsP (k : Int) s) (ts ++ [(k, 0)]) ty2 p cs (X ++ [c]) P := by
  obtain ⟨h0, hg, hp, he, ht, hw, hm, hl, ho⟩ := h
  refine ⟨by rw [tells_fl]; exact h0, hg.tells, hp, by rw [tells_at]; exact he, ht.op h0 hk, wfr_app hw2 hw, ?_, ?_, ?_⟩
  · rw [List.map_append, List.reverse_append, hm, List.reverse_append]
    show [cod (k, 0)] ++ (X.reverse ++ cs) = ([c] ++ X.reverse) ++ cs
    rw [hc, List.append_assoc]
  · rw [List.length_append]
    have hl : cs.length + X.length + (P.length + 1) + 1 ≤ p := hl
    show cs.length + (X.length + 1) + P.length + 1 ≤ p
    omega
  · rw [List.append_assoc]
    exact ho
set_option maxRecDepth 100000 in
/-- a number or a fact is told by both -/
theorem SiS.val (h : SiS f sz s ts ty p cs [] P) {e : Nat} (he1 : sk f sz p + 1 ≤ e) (he2 : e ≤ sz) {c : Nat} (hc : c = 1 ∨ c = 2) {v : Int} (hv : 0 ≤ v ∧ v ≤ (if c = 1 then 9999 else 4)) (hty : ty.length ≤ 31) : SiS f sz (tellsP v (tellsP (c : Int) (wAtP s e))) (ts ++ [(c, v)]) (false :: ty) e (cod (c, v) :: cs) [] P := by
  obtain ⟨h0, hg, hp, he, ht, hw, hm, hl, ho⟩ := h
  have hs := sk_sz (f := f) hp
  have g1 : G2 sz (wAtP s e) := ⟨hg.1, hg.2.1, (by show e ≤ sz + 1; omega), fun _ => ⟨(hg.2.2.2 h0).1, he2⟩⟩
  refine ⟨by rw [tells_fl, tells_fl]; exact h0, g1.tells.tells, he2, by rw [tells_at, tells_at]; rfl, (ht.k (t := wAtP s e) rfl rfl).two h0 (by omega) v, wfr_app (u := ty) ?_ hw, ?_, ?_, ho⟩
  · unfold wfr
    rw [if_pos hc]
    exact ⟨hv, hty, rfl⟩
  · rw [List.map_append, List.reverse_append, hm]
    rfl
  · have hl : cs.length + 0 + P.length + 1 ≤ p := hl
    show cs.length + 1 + 0 + P.length + 1 ≤ e
    omega
set_option maxRecDepth 100000 in
theorem askL_skip {k : Nat} {l : List Nat} (h0 : pFl s = 0) (h : ¬ wdP f sz (3 + k) (sk f sz (pAt s))) : askL f sz (k :: l) s = askL f sz l (hereP f sz s) := by
  have e : ¬ tkB f sz (3 + k) s = 1 := fun q => h (tkB_t q).2
  have e2 : tkS f sz (3 + k) s = hereP f sz s := by
    unfold tkS takesP
    rw [if_pos h0, if_neg h]
  show (if tkB f sz (3 + k) s = 1 then _ else _) = _
  rw [if_neg e, e2]
set_option maxRecDepth 100000 in
theorem askL_hit {k : Nat} {l : List Nat} (h0 : pFl s = 0) (h : wdP f sz (3 + k) (sk f sz (pAt s))) : askL f sz (k :: l) s = (wAtP s (sk f sz (pAt s) + wn (3 + k)), (k : Int)) := by
  have e : tkB f sz (3 + k) s = 1 := takesB_t ⟨h0, h⟩
  show (if tkB f sz (3 + k) s = 1 then _ else _) = _
  rw [if_pos e, tkS_t e]
set_option maxRecDepth 100000 in
theorem hereH : hereP f sz (hereP f sz s) = hereP f sz s := by
  show wAtP s (sk f sz (sk f sz (pAt s))) = _
  rw [sk_sk f sz (sz + 1) _ (by omega)]
  rfl
set_option maxRecDepth 100000 in
/-- from the first word on that lies there -/
theorem askL_k : ∀ (l1 : List Nat) {l2 : List Nat} {k : Nat}, pFl s = 0 → (∀ j ∈ l1, ¬ wdP f sz (3 + j) (sk f sz (pAt s))) → wdP f sz (3 + k) (sk f sz (pAt s)) → askL f sz (l1 ++ k :: l2) (hereP f sz s) = (wAtP s (sk f sz (pAt s) + wn (3 + k)), (k : Int))
  | [], l2, k, h0, _, h => by
    have hh : sk f sz (pAt (hereP f sz s)) = sk f sz (pAt s) := sk_sk f sz (sz + 1) _ (by omega)
    show askL f sz (k :: l2) (hereP f sz s) = _
    rw [askL_hit (s := hereP f sz s) h0 (by rw [hh]; exact h), hh]
    rfl
  | j :: l1, l2, k, h0, hn, h => by
    have hh : sk f sz (pAt (hereP f sz s)) = sk f sz (pAt s) := sk_sk f sz (sz + 1) _ (by omega)
    show askL f sz (j :: (l1 ++ k :: l2)) (hereP f sz s) = _
    rw [askL_skip (s := hereP f sz s) h0 (by rw [hh]; exact hn j List.mem_cons_self), hereH]
    exact askL_k l1 h0 (fun i hi => hn i (List.mem_cons_of_mem _ hi)) h
set_option maxRecDepth 100000 in
theorem askL_0 : ∀ (l : List Nat), pFl s = 0 → (∀ j ∈ l, ¬ wdP f sz (3 + j) (sk f sz (pAt s))) → askL f sz l (hereP f sz s) = (hereP f sz s, -1)
  | [], _, _ => rfl
  | j :: l, h0, hn => by
    have hh : sk f sz (pAt (hereP f sz s)) = sk f sz (pAt s) := sk_sk f sz (sz + 1) _ (by omega)
    rw [askL_skip (s := hereP f sz s) h0 (by rw [hh]; exact hn j List.mem_cons_self), hereH]
    exact askL_0 l h0 (fun i hi => hn i (List.mem_cons_of_mem _ hi))
end SiL
