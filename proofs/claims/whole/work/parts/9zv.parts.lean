/-! ===== groups: two ways of joining tell the same number ===== -/
section Joins
variable {T : Nat → Int} {ru : Option (List Tok)} {nn : Nat}
def cmpt (T : Nat → Int) (ru : Option (List Tok)) (nn : Nat) (f : Nat → Int) : Prop := ∀ a b, a < nn → b < nn → a ≠ b → infB T ru nn a b = true → f a = f b
def Cl (T : Nat → Int) (ru : Option (List Tok)) (nn k l : Nat) : Prop := ∀ f : Nat → Int, cmpt T ru nn f → f k = f l
def mg (nn : Nat) (J : Nat → Int) (a b : Nat) : Nat → Int := fun k => if k < nn ∧ J k = J b then J a else J k
def InR (nn : Nat) (J : Nat → Int) : Prop := ∀ k, k < nn → 0 ≤ J k ∧ J k < (nn : Int)
def Snd (T : Nat → Int) (ru : Option (List Tok)) (nn : Nat) (J : Nat → Int) : Prop := ∀ k l, k < nn → l < nn → J k = J l → Cl T ru nn k l
set_option maxRecDepth 100000 in
theorem mg_eq {J : Nat → Int} {a b k l : Nat} (hk : k < nn) (hl : l < nn) (h : J k = J l) : mg nn J a b k = mg nn J a b l := by
  unfold mg
  by_cases q : J k = J b
  · rw [if_pos ⟨hk, q⟩, if_pos ⟨hl, h.symm.trans q⟩]
  · rw [if_neg (fun z => q z.2), if_neg (fun z => q (h.trans z.2)), h]
set_option maxRecDepth 100000 in
theorem mg_ab {J : Nat → Int} {a b : Nat} (hb : b < nn) : mg nn J a b a = mg nn J a b b := by
  unfold mg
  rw [if_pos (show b < nn ∧ J b = J b from ⟨hb, rfl⟩)]
  by_cases q : a < nn ∧ J a = J b
  · rw [if_pos q]
  · rw [if_neg q]
set_option maxRecDepth 100000 in
theorem mg_r {J : Nat → Int} {a b : Nat} (ha : a < nn) (h : InR nn J) : InR nn (mg nn J a b) := fun k hk => by
  unfold mg
  split
  · exact h a ha
  · exact h k hk
set_option maxRecDepth 100000 in
theorem mg_s {J : Nat → Int} {a b : Nat} (ha : a < nn) (hb : b < nn) (h : Snd T ru nn J) (c : Cl T ru nn a b) : Snd T ru nn (mg nn J a b) := fun k l hk hl e => by
  unfold mg at e
  by_cases qk : k < nn ∧ J k = J b <;> by_cases ql : l < nn ∧ J l = J b
  · exact h k l hk hl (qk.2.trans ql.2.symm)
  · rw [if_pos qk, if_neg ql] at e
    exact fun f hf => ((h k b hk hb qk.2 f hf).trans (c f hf).symm).trans (h a l ha hl e f hf)
  · rw [if_neg qk, if_pos ql] at e
    exact fun f hf => ((h k a hk ha e f hf).trans (c f hf)).trans (h l b hl hb ql.2 f hf).symm
  · rw [if_neg qk, if_neg ql] at e
    exact h k l hk hl e
set_option maxRecDepth 100000 in
theorem jAny_iff {J : Nat → Int} {g : Int} : ∀ n, jAny J g n = true ↔ ∃ k, k < n ∧ J k = g
  | 0 => ⟨fun h => absurd h (by show ¬ false = true; decide), fun ⟨k, h, _⟩ => absurd h (Nat.not_lt_zero _)⟩
  | n + 1 => by
    show (jAny J g n || decide (J n = g)) = true ↔ _
    rw [Bool.or_eq_true, decide_eq_true_iff, jAny_iff n]
    constructor
    · rintro (⟨k, h1, h2⟩ | h)
      · exact ⟨k, by omega, h2⟩
      · exact ⟨n, by omega, h⟩
    · rintro ⟨k, h1, h2⟩
      by_cases q : k = n
      · subst q; exact Or.inr h2
      · exact Or.inl ⟨k, by omega, h2⟩
set_option maxRecDepth 100000 in
theorem mg_cnt {J : Nat → Int} {a b : Nat} (ha : a < nn) (hb : b < nn) (h : InR nn J) (hab : J a ≠ J b) : ∀ m : Nat, jCnt (mg nn J a b) nn m = jCnt J nn m - oI (J b < (m : Int))
  | 0 => by
    have := h b hb
    show (0 : Int) = 0 - oI (J b < 0)
    rw [oI_f (by omega)]
    rfl
  | m + 1 => by
    show jCnt (mg nn J a b) nn m + oI (jAny (mg nn J a b) (m : Nat) nn = true) = jCnt J nn m + oI (jAny J (m : Nat) nn = true) - oI (J b < ((m + 1 : Nat) : Int))
    rw [mg_cnt ha hb h hab m]
    have hb0 := h b hb
    by_cases q : J b = (m : Int)
    · have e1 : ¬ jAny (mg nn J a b) (m : Nat) nn = true := by
        rw [jAny_iff]
        rintro ⟨k, h1, h2⟩
        unfold mg at h2
        by_cases z : k < nn ∧ J k = J b
        · rw [if_pos z] at h2; exact hab (h2.trans q.symm)
        · rw [if_neg z] at h2; exact z ⟨h1, h2.trans q.symm⟩
      have e2 : jAny J (m : Nat) nn = true := (jAny_iff nn).mpr ⟨b, hb, q⟩
      rw [oI_f e1, oI_t e2, oI_f (show ¬ J b < (m : Int) by omega), oI_t (show J b < ((m + 1 : Nat) : Int) by omega)]
      omega
    · have e : (jAny (mg nn J a b) (m : Nat) nn = true) ↔ (jAny J (m : Nat) nn = true) := by
        rw [jAny_iff, jAny_iff]
        constructor
        · rintro ⟨k, h1, h2⟩
          unfold mg at h2
          by_cases z : k < nn ∧ J k = J b
          · rw [if_pos z] at h2; exact ⟨a, ha, h2⟩
          · rw [if_neg z] at h2; exact ⟨k, h1, h2⟩
        · rintro ⟨k, h1, h2⟩
          refine ⟨k, h1, ?_⟩
          unfold mg
          rw [if_neg (fun z => q (z.2.symm.trans h2))]
          exact h2
      rw [oI_iff e]
      by_cases w : J b < (m : Int)
      · rw [oI_t w, oI_t (show J b < ((m + 1 : Nat) : Int) by omega)]; omega
      · rw [oI_f w, oI_f (show ¬ J b < ((m + 1 : Nat) : Int) by omega)]; omega
set_option maxRecDepth 100000 in
/-- the number of labels, one place more -/
theorem jCnt_s {J : Nat → Int} {n : Nat} : ∀ m : Nat, jCnt J (n + 1) m = jCnt J n m + oI ((0 ≤ J n ∧ J n < (m : Int)) ∧ ¬ jAny J (J n) n = true)
  | 0 => by
    show (0 : Int) = 0 + oI ((0 ≤ J n ∧ J n < 0) ∧ ¬ jAny J (J n) n = true)
    rw [oI_f (by omega)]
    rfl
  | m + 1 => by
    show jCnt J (n + 1) m + oI (jAny J (m : Nat) (n + 1) = true) = jCnt J n m + oI (jAny J (m : Nat) n = true) + oI ((0 ≤ J n ∧ J n < ((m + 1 : Nat) : Int)) ∧ ¬ jAny J (J n) n = true)
    rw [jCnt_s m]
    have e : (jAny J (m : Nat) (n + 1) = true) ↔ (jAny J (m : Nat) n = true ∨ J n = (m : Int)) := by
      show (jAny J (m : Nat) n || decide (J n = (m : Nat))) = true ↔ _
      rw [Bool.or_eq_true, decide_eq_true_iff]
    rw [oI_iff e]
    by_cases q : J n = (m : Int)
    · rw [oI_t (Or.inr q), oI_f (show ¬ ((0 ≤ J n ∧ J n < (m : Int)) ∧ ¬ jAny J (J n) n = true) by omega)]
      by_cases w : jAny J (m : Nat) n = true
      · rw [oI_t w, oI_f (fun z => z.2 (by rw [q]; exact w))]
        omega
      · rw [oI_f w, oI_t ⟨⟨by omega, by omega⟩, by rw [q]; exact w⟩]
        try omega
    · rw [oI_iff (show (jAny J (m : Nat) n = true ∨ J n = (m : Int)) ↔ jAny J (m : Nat) n = true from ⟨fun z => z.resolve_right q, Or.inl⟩), oI_iff (show ((0 ≤ J n ∧ J n < ((m + 1 : Nat) : Int)) ∧ ¬ jAny J (J n) n = true) ↔ ((0 ≤ J n ∧ J n < (m : Int)) ∧ ¬ jAny J (J n) n = true) from ⟨fun z => ⟨⟨z.1.1, by omega⟩, z.2⟩, fun z => ⟨⟨z.1.1, by omega⟩, z.2⟩⟩)]
      omega
set_option maxRecDepth 100000 in
theorem jCnt_0 {J : Nat → Int} : ∀ m : Nat, jCnt J 0 m = 0
  | 0 => rfl
  | m + 1 => by
    show jCnt J 0 m + oI (false = true) = 0
    rw [jCnt_0 m, oI_f (by decide)]
    rfl
set_option maxRecDepth 100000 in
theorem jCnt_k {J G : Nat → Int} {m : Nat} : ∀ n : Nat, (∀ k, k < n → 0 ≤ J k ∧ J k < (m : Int)) → (∀ k, k < n → 0 ≤ G k ∧ G k < (m : Int)) → (∀ k l, k < n → l < n → (J k = J l ↔ G k = G l)) → jCnt J n m = jCnt G n m
  | 0, _, _, _ => by rw [jCnt_0, jCnt_0]
  | n + 1, h1, h2, h3 => by
    rw [jCnt_s, jCnt_s, jCnt_k n (fun k hk => h1 k (by omega)) (fun k hk => h2 k (by omega)) (fun k l hk hl => h3 k l (by omega) (by omega))]
    have e : (¬ jAny J (J n) n = true) ↔ (¬ jAny G (G n) n = true) := by
      rw [jAny_iff, jAny_iff]
      constructor
      · rintro h ⟨k, q1, q2⟩
        exact h ⟨k, q1, (h3 k n (by omega) (by omega)).mpr q2⟩
      · rintro h ⟨k, q1, q2⟩
        exact h ⟨k, q1, (h3 k n (by omega) (by omega)).mp q2⟩
    rw [oI_iff (show ((0 ≤ J n ∧ J n < (m : Int)) ∧ ¬ jAny J (J n) n = true) ↔ ((0 ≤ G n ∧ G n < (m : Int)) ∧ ¬ jAny G (G n) n = true) from ⟨fun z => ⟨h2 n (by omega), e.mp z.2⟩, fun z => ⟨h1 n (by omega), e.mpr z.2⟩⟩)]
set_option maxRecDepth 100000 in
/-- the first n places hold their own numbers: n labels -/
theorem jCnt_id {J : Nat → Int} {m : Nat} : ∀ n : Nat, n ≤ m → (∀ k, k < n → J k = (k : Int)) → jCnt J n m = (n : Int)
  | 0, _, _ => jCnt_0 m
  | n + 1, hm, h => by
    rw [jCnt_s, jCnt_id n (by omega) (fun k hk => h k (by omega)), oI_t]
    · omega
    · refine ⟨by rw [h n (by omega)]; omega, ?_⟩
      rw [jAny_iff]
      rintro ⟨k, q1, q2⟩
      rw [h k (by omega), h n (by omega)] at q2
      omega
/-! the reference's way -/
set_option maxRecDepth 100000 in
theorem jC_mg {J : Nat → Int} {a b : Nat} : jC T ru nn a b J = if a ≠ b ∧ infB T ru nn a b = true then mg nn J a b else J := rfl
set_option maxRecDepth 100000 in
theorem jR_ok {a : Nat} (ha : a < nn) {J : Nat → Int} (h1 : InR nn J) (h2 : Snd T ru nn J) : ∀ b, b ≤ nn → InR nn (jR T ru nn a b J) ∧ Snd T ru nn (jR T ru nn a b J) ∧ (∀ k l, k < nn → l < nn → J k = J l → jR T ru nn a b J k = jR T ru nn a b J l) ∧ ∀ b2, b2 < b → a ≠ b2 → infB T ru nn a b2 = true → jR T ru nn a b J a = jR T ru nn a b J b2
  | 0, _ => ⟨h1, h2, fun _ _ _ _ h => h, fun b2 h => absurd h (Nat.not_lt_zero _)⟩
  | b + 1, hb => by
    obtain ⟨i1, i2, i3, i4⟩ := jR_ok ha h1 h2 b (by omega)
    show InR nn (jC T ru nn a b (jR T ru nn a b J)) ∧ Snd T ru nn (jC T ru nn a b (jR T ru nn a b J)) ∧ (∀ k l, k < nn → l < nn → J k = J l → jC T ru nn a b (jR T ru nn a b J) k = jC T ru nn a b (jR T ru nn a b J) l) ∧ ∀ b2, b2 < b + 1 → a ≠ b2 → infB T ru nn a b2 = true → jC T ru nn a b (jR T ru nn a b J) a = jC T ru nn a b (jR T ru nn a b J) b2
    generalize jR T ru nn a b J = J2 at *
    rw [jC_mg]
    split
    · next q =>
      refine ⟨mg_r ha i1, mg_s ha (by omega) i2 (fun f hf => hf a b ha (by omega) q.1 q.2), fun k l hk hl e => mg_eq hk hl (i3 k l hk hl e), fun b2 z1 z2 z3 => ?_⟩
      by_cases w : b2 = b
      · subst w; exact mg_ab (by omega)
      · exact mg_eq ha (by omega) (i4 b2 (by omega) z2 z3)
    · next q =>
      refine ⟨i1, i2, i3, fun b2 z1 z2 z3 => ?_⟩
      by_cases w : b2 = b
      · subst w; exact absurd ⟨z2, z3⟩ q
      · exact i4 b2 (by omega) z2 z3
set_option maxRecDepth 100000 in
theorem jA_ok {J : Nat → Int} (h1 : InR nn J) (h2 : Snd T ru nn J) : ∀ a, a ≤ nn → InR nn (jA T ru nn a J) ∧ Snd T ru nn (jA T ru nn a J) ∧ ∀ a2 b2, a2 < a → b2 < nn → a2 ≠ b2 → infB T ru nn a2 b2 = true → jA T ru nn a J a2 = jA T ru nn a J b2
  | 0, _ => ⟨h1, h2, fun a2 b2 h => absurd h (Nat.not_lt_zero _)⟩
  | a + 1, ha => by
    obtain ⟨i1, i2, i3⟩ := jA_ok h1 h2 a (by omega)
    obtain ⟨k1, k2, k3, k4⟩ := jR_ok (T := T) (ru := ru) (a := a) (by omega) i1 i2 nn (Nat.le_refl _)
    refine ⟨k1, k2, fun a2 b2 z1 z2 z3 z4 => ?_⟩
    by_cases w : a2 = a
    · subst w; exact k4 b2 z2 z3 z4
    · exact k3 a2 b2 (by omega) z2 (i3 a2 b2 (by omega) z2 z3 z4)
set_option maxRecDepth 100000 in
theorem j0_ok (J : Nat → Int) : InR nn (j0 nn J) ∧ Snd T ru nn (j0 nn J) := by
  have e : ∀ k, k < nn → j0 nn J k = (k : Int) := fun k hk => if_pos hk
  refine ⟨fun k hk => by rw [e k hk]; omega, fun k l hk hl q => ?_⟩
  rw [e k hk, e l hl] at q
  have : k = l := by omega
  subst this
  exact fun _ _ => rfl
set_option maxRecDepth 100000 in
/-- what any way of joining tells -/
theorem grS_eq {J G : Nat → Int} (h1 : InR nn G) (h2 : Snd T ru nn G) (h3 : cmpt T ru nn G) : jCnt G nn nn = grS T ru nn J := by
  have k0 := j0_ok (T := T) (ru := ru) (nn := nn) J
  obtain ⟨k1, k2, k3⟩ := jA_ok k0.1 k0.2 nn (Nat.le_refl _)
  unfold grS
  refine jCnt_k nn h1 k1 (fun k l hk hl => ⟨fun e => h2 k l hk hl e _ (fun a b ha hb hab z => k3 a b ha hb hab z), fun e => k2 k l hk hl e _ h3⟩)
end Joins
