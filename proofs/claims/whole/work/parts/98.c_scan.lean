/-! ===== the class: the scanner ===== -/
def ScW (m : Mem) (c tp : Nat) : Prop := mK m c = 8 ∧ mFR m 512 c = tp ∧ IA m tp 800
/-- the scanner's numbers: length, place, fault, its place -/
def ScF (F : Nat → Nat → Int) (c sz at_ : Nat) (fl : Nat) (pl : Int) : Prop := F 513 c = (sz : Int) ∧ F 514 c = (at_ : Int) ∧ F 515 c = (fl : Int) ∧ F 516 c = pl
set_option maxRecDepth 100000 in
theorem ScF.at_ {F : Nat → Nat → Int} {c sz p fl : Nat} {pl : Int} (h : ScF F c sz p fl pl) (q : Nat) : ScF (upF F 514 c (q : Int)) c sz q fl pl := ⟨by rw [upF_f _ _ _ (by decide)]; exact h.1, upF_at _ _ _ _, by rw [upF_f _ _ _ (by decide)]; exact h.2.2.1, by rw [upF_f _ _ _ (by decide)]; exact h.2.2.2⟩
set_option maxRecDepth 100000 in
theorem Txt_CM {m : Mem} {F F' A A' L L' : Nat → Nat → Int} {a v n : Nat} {g : Nat → Int} (h : Txt (CM m F A L) a v n g) (k1 : F' 1281 a = F 1281 a) (k2 : A' v = A v) : Txt (CM m F' A' L') a v n g := by
  obtain ⟨h1, h2, h3, h4, h5, h6, h7⟩ := h
  refine ⟨h1, h2, k1.trans h3, h4, h5, h6, fun j hj => ?_⟩
  have e : mAI (CM m F' A' L') v = mAI (CM m F A L) v := k2
  rw [e]
  exact h7 j hj
section CScan
variable {d c tp sz p fl : Nat} {pl : Int} {m : Mem} {F A L : Nat → Nat → Int} {Q : Nat → Option AV → Mem → Prop}
set_option maxRecDepth 100000 in
theorem c_isDigit {v : Int} (hv : -1 ≤ v ∧ v ≤ 255) (h : Q 0 (some (vI (b2i (dgt v)))) m) : Ex d Scan_isDigit 0 [some (vI v)] [] m Q := by
  refine Ex_step (tk_Scan_isDigit rfl) ?_
  refine Ex_step (tk_Scan_isDigit rfl) ?_
  refine Ex_step (tk_Scan_isDigit rfl) ⟨fun h3 => ?_, fun h3 => ?_⟩
  · try simp (disch := omega) only [cmpI, w32_b2i, b2i_0, b2i_1, w32_id, Classical.not_not, not_true_eq_false, not_false_eq_true] at h3
    refine Ex_step (tk_Scan_isDigit rfl) ?_
    refine Ex_step (tk_Scan_isDigit rfl) ⟨rfl, by first | exact Or.inl rfl | exact Or.inr rfl | exact b2i_01 _ | assumption, ?_⟩
    first | (rw [b2i_t (by unfold dgt; omega)] at h; exact h) | (rw [b2i_f (by unfold dgt; omega)] at h; exact h)
  · try simp (disch := omega) only [cmpI, w32_b2i, b2i_0, b2i_1, w32_id, Classical.not_not, not_true_eq_false, not_false_eq_true] at h3
    refine Ex_step (tk_Scan_isDigit rfl) ?_
    refine Ex_step (tk_Scan_isDigit rfl) ?_
    refine Ex_step (tk_Scan_isDigit rfl) ⟨fun h9 => ?_, fun h9 => ?_⟩
    · try simp (disch := omega) only [cmpI, w32_b2i, b2i_0, b2i_1, w32_id, Classical.not_not, not_true_eq_false, not_false_eq_true] at h9
      refine Ex_step (tk_Scan_isDigit rfl) ?_
      refine Ex_step (tk_Scan_isDigit rfl) ⟨rfl, by first | exact Or.inl rfl | exact Or.inr rfl | exact b2i_01 _ | assumption, ?_⟩
      first | (rw [b2i_t (by unfold dgt; omega)] at h; exact h) | (rw [b2i_f (by unfold dgt; omega)] at h; exact h)
    · try simp (disch := omega) only [cmpI, w32_b2i, b2i_0, b2i_1, w32_id, Classical.not_not, not_true_eq_false, not_false_eq_true] at h9
      refine Ex_step (tk_Scan_isDigit rfl) ?_
      refine Ex_step (tk_Scan_isDigit rfl) ?_
      refine Ex_step (tk_Scan_isDigit rfl) ⟨rfl, by first | exact Or.inl rfl | exact Or.inr rfl | exact b2i_01 _ | assumption, ?_⟩
      first | (rw [b2i_t (by unfold dgt; omega)] at h; exact h) | (rw [b2i_f (by unfold dgt; omega)] at h; exact h)
set_option maxRecDepth 100000 in
theorem c_failed (hk8 : mK m c = 8) (hS : ScF F c sz p fl pl) (hf : fl ≤ 9) (h : Q 0 (some (vI (b2i (¬ fl = 0)))) (CM m F A L)) : Ex d Scan_failed 0 [some (vR c)] [] (CM m F A L) Q := by
  refine Ex_step (tk_Scan_failed rfl) ?_
  refine gCI (tk_Scan_failed rfl) (hk8) ?_
  rw [hS.2.2.1]
  refine Ex_step (tk_Scan_failed rfl) ⟨fun h4 => ?_, fun h4 => ?_⟩
  · try simp (disch := omega) only [cmpI, w32_b2i, b2i_0, b2i_1, w32_id, Classical.not_not, not_true_eq_false, not_false_eq_true] at h4
    refine Ex_step (tk_Scan_failed rfl) ?_
    refine Ex_step (tk_Scan_failed rfl) ⟨rfl, by first | exact Or.inl rfl | exact Or.inr rfl | exact b2i_01 _ | assumption, ?_⟩
    first | (rw [b2i_t (by omega)] at h; exact h) | (rw [b2i_f (by omega)] at h; exact h)
  · try simp (disch := omega) only [cmpI, w32_b2i, b2i_0, b2i_1, w32_id, Classical.not_not, not_true_eq_false, not_false_eq_true] at h4
    refine Ex_step (tk_Scan_failed rfl) ?_
    refine Ex_step (tk_Scan_failed rfl) ?_
    refine Ex_step (tk_Scan_failed rfl) ⟨rfl, by first | exact Or.inl rfl | exact Or.inr rfl | exact b2i_01 _ | assumption, ?_⟩
    first | (rw [b2i_t (by omega)] at h; exact h) | (rw [b2i_f (by omega)] at h; exact h)
set_option maxRecDepth 100000 in
theorem c_fail {k : Nat} (hk8 : mK m c = 8) (hS : ScF F c sz p fl pl) (hf : fl ≤ 9) (h : Q 0 none (CM m (if fl = 0 then upF (upF F 515 c (k : Int)) 516 c (p : Int) else F) A L)) : Ex d Scan_fail 0 [some (vR c), some (vI (k : Int))] [] (CM m F A L) Q := by
  have e : upF F 515 c (k : Int) 514 c = (p : Int) := by rw [upF_f _ _ _ (by decide)]; exact hS.2.1
  by_cases q : fl = 0
  · rw [if_pos q] at h
    refine Ex_step (tk_Scan_fail rfl) ?_
    refine gCI (tk_Scan_fail rfl) (hk8) ?_
    rw [hS.2.2.1]
    refine Ex_step (tk_Scan_fail rfl) ⟨fun h4 => ?_, fun h4 => ?_⟩
    · try simp (disch := omega) only [cmpI, w32_b2i, b2i_0, b2i_1, w32_id, Classical.not_not, not_true_eq_false, not_false_eq_true] at h4
      first | omega | exact Ex_step (tk_Scan_fail rfl) ⟨rfl, h⟩
    · try simp (disch := omega) only [cmpI, w32_b2i, b2i_0, b2i_1, w32_id, Classical.not_not, not_true_eq_false, not_false_eq_true] at h4
      refine Ex_step (tk_Scan_fail rfl) ?_
      refine Ex_step (tk_Scan_fail rfl) ?_
      refine pCI (tk_Scan_fail rfl) (hk8) ?_
      refine Ex_step (tk_Scan_fail rfl) ?_
      refine Ex_step (tk_Scan_fail rfl) ?_
      refine gCI (tk_Scan_fail rfl) (hk8) ?_
      rw [e]
      refine pCI (tk_Scan_fail rfl) (hk8) ?_
      first | omega | exact Ex_step (tk_Scan_fail rfl) ⟨rfl, h⟩
  · rw [if_neg q] at h
    refine Ex_step (tk_Scan_fail rfl) ?_
    refine gCI (tk_Scan_fail rfl) (hk8) ?_
    rw [hS.2.2.1]
    refine Ex_step (tk_Scan_fail rfl) ⟨fun h4 => ?_, fun h4 => ?_⟩
    · try simp (disch := omega) only [cmpI, w32_b2i, b2i_0, b2i_1, w32_id, Classical.not_not, not_true_eq_false, not_false_eq_true] at h4
      refine Ex_step (tk_Scan_fail rfl) ⟨rfl, ?_⟩
      exact h
    · try simp (disch := omega) only [cmpI, w32_b2i, b2i_0, b2i_1, w32_id, Classical.not_not, not_true_eq_false, not_false_eq_true] at h4
      omega
set_option maxRecDepth 100000 in
theorem c_byteAt {i : Int} {k : Nat} (hW : ScW m c tp) (hS : ScF F c sz p fl pl) (hsz : sz ≤ 800) (hi : i = (k : Int)) (hk : k ≤ 100000) (h : Q 0 (some (vI (bt (A tp) sz k))) (CM m F A L)) : Ex d Scan_byteAt 0 [some (vR c), some (vI i)] [] (CM m F A L) Q := by
  have hk8 := hW.1
  have hr512 := hW.2.1
  subst hi
  unfold bt at h
  refine Ex_step (tk_Scan_byteAt rfl) ?_
  refine Ex_step (tk_Scan_byteAt rfl) ⟨fun h1 => ?_, fun h1 => ?_⟩
  · try simp (disch := omega) only [cmpI, w32_b2i, b2i_0, b2i_1, w32_id, Classical.not_not, not_true_eq_false, not_false_eq_true] at h1
    rw [if_neg (by omega)] at h
    refine Ex_step (tk_Scan_byteAt rfl) ?_
    refine Ex_step (tk_Scan_byteAt rfl) ⟨rfl, ?_⟩
    exact h
  · try simp (disch := omega) only [cmpI, w32_b2i, b2i_0, b2i_1, w32_id, Classical.not_not, not_true_eq_false, not_false_eq_true] at h1
    refine Ex_step (tk_Scan_byteAt rfl) ?_
    refine Ex_step (tk_Scan_byteAt rfl) ?_
    refine gCI (tk_Scan_byteAt rfl) (hk8) ?_
    rw [hS.1]
    refine Ex_step (tk_Scan_byteAt rfl) ⟨fun h9 => ?_, fun h9 => ?_⟩
    · try simp (disch := omega) only [cmpI, w32_b2i, b2i_0, b2i_1, w32_id, Classical.not_not, not_true_eq_false, not_false_eq_true] at h9
      rw [if_neg (by omega)] at h
      refine Ex_step (tk_Scan_byteAt rfl) ?_
      refine Ex_step (tk_Scan_byteAt rfl) ⟨rfl, ?_⟩
      exact h
    · try simp (disch := omega) only [cmpI, w32_b2i, b2i_0, b2i_1, w32_id, Classical.not_not, not_true_eq_false, not_false_eq_true] at h9
      rw [if_pos (by omega)] at h
      refine Ex_step (tk_Scan_byteAt rfl) ?_
      refine gCR (tk_Scan_byteAt rfl) (hk8) (hr512) ?_
      refine Ex_step (tk_Scan_byteAt rfl) ?_
      refine lCI (n := k) (tk_Scan_byteAt rfl) (hW.2.2) (w32_id (by omega) (by omega)) (by omega) ?_
      refine Ex_step (tk_Scan_byteAt rfl) ?_
      refine Ex_step (tk_Scan_byteAt rfl) ⟨rfl, ?_⟩
      exact h
set_option maxRecDepth 100000 in
theorem c_look (hW : ScW m c tp) (hsz : sz ≤ 800) (hf : byts (A tp)) : ∀ (n p : Nat) (F : Nat → Nat → Int), sz - p < n → p ≤ 10000 → ScF F c sz p fl pl → Q 0 (some (vI (bt (A tp) sz (sk (A tp) sz p)))) (CM m (upF F 514 c ((sk (A tp) sz p : Nat) : Int)) A L) → Ex (d + 1) Scan_look 0 [some (vR c)] [] (CM m F A L) Q := by
  have hk8 := hW.1
  intro n
  induction n with
  | zero => intro p F hn; omega
  | succ n ih =>
    intro p F hn hp hS h
    have hb := bt_range hf hsz p
    by_cases hq : bt (A tp) sz p = 32
    · have hlt : p < sz := by
        unfold bt at hq
        by_cases z : p < sz
        · exact z
        · rw [if_neg z] at hq; omega
      rw [sk_go hq] at h
      have hS2 := hS.at_ (p + 1)
      have e2 : upF (upF F 514 c ((p + 1 : Nat) : Int)) 514 c ((sk (A tp) sz (p + 1) : Nat) : Int) = upF F 514 c ((sk (A tp) sz (p + 1) : Nat) : Int) := by
        funext f2 a2
        unfold upF
        split <;> rfl
      rw [← e2] at h
      have hnx := ih (p + 1) (upF F 514 c ((p + 1 : Nat) : Int)) (by omega) (by omega) hS2 h
      refine Ex_step (tk_Scan_look rfl) ?_
      refine gCI (tk_Scan_look rfl) (hk8) ?_
      rw [hS.2.1]
      refine Ex_step (tk_Scan_look rfl) ?_
      refine gCI (tk_Scan_look rfl) (hk8) ?_
      rw [hS.1]
      refine Ex_step (tk_Scan_look rfl) ⟨fun h8 => ?_, fun h8 => ?_⟩
      · try simp (disch := omega) only [cmpI, w32_b2i, b2i_0, b2i_1, w32_id, Classical.not_not, not_true_eq_false, not_false_eq_true] at h8
        omega
      · try simp (disch := omega) only [cmpI, w32_b2i, b2i_0, b2i_1, w32_id, Classical.not_not, not_true_eq_false, not_false_eq_true] at h8
        refine Ex_step (tk_Scan_look rfl) ?_
        refine Ex_step (tk_Scan_look rfl) ?_
        refine gCI (tk_Scan_look rfl) (hk8) ?_
        rw [hS.2.1]
        refine Ex_cV0 (av := [vI (p : Int)]) (tk_Scan_look rfl) mk_Scan_byteAt ⟨rfl, rfl, by decide, rfl, Nat.le_of_ble_eq_true rfl, Nat.le_of_ble_eq_true rfl⟩ (hk8) (fun _ h => c_byteAt hW hS hsz rfl (by omega) h) ?_
        refine Ex_step (tk_Scan_look rfl) ?_
        refine Ex_step (tk_Scan_look rfl) ⟨fun h21 => ?_, fun h21 => ?_⟩
        · try simp (disch := omega) only [cmpI, w32_b2i, b2i_0, b2i_1, w32_id, Classical.not_not, not_true_eq_false, not_false_eq_true] at h21
          omega
        · try simp (disch := omega) only [cmpI, w32_b2i, b2i_0, b2i_1, w32_id, Classical.not_not, not_true_eq_false, not_false_eq_true] at h21
          refine Ex_step (tk_Scan_look rfl) ?_
          refine Ex_step (tk_Scan_look rfl) ?_
          refine gCI (tk_Scan_look rfl) (hk8) ?_
          rw [hS.2.1]
          refine Ex_step (tk_Scan_look rfl) ?_
          refine Ex_step (tk_Scan_look rfl) ?_
          refine pCI (tk_Scan_look rfl) (hk8) ?_
          refine Ex_step (tk_Scan_look rfl) ?_
          exact hnx
    · rw [sk_stay hq] at h
      have e2 : upF F 514 c (p : Int) = F := by
        funext f2 a2
        unfold upF
        split
        · next z => rw [z.1, z.2, hS.2.1]
        · rfl
      rw [e2] at h
      have h37 : Ex (d + 1) Scan_look 37 [some (vR c)] [] (CM m F A L) Q := by
        refine Ex_step (tk_Scan_look rfl) ?_
        refine Ex_step (tk_Scan_look rfl) ?_
        refine gCI (tk_Scan_look rfl) (hk8) ?_
        rw [hS.2.1]
        refine Ex_cV0 (av := [vI (p : Int)]) (tk_Scan_look rfl) mk_Scan_byteAt ⟨rfl, rfl, by decide, rfl, Nat.le_of_ble_eq_true rfl, Nat.le_of_ble_eq_true rfl⟩ (hk8) (fun _ h => c_byteAt hW hS hsz rfl (by omega) h) ?_
        refine Ex_step (tk_Scan_look rfl) ⟨rfl, ?_⟩
        exact h
      refine Ex_step (tk_Scan_look rfl) ?_
      refine gCI (tk_Scan_look rfl) (hk8) ?_
      rw [hS.2.1]
      refine Ex_step (tk_Scan_look rfl) ?_
      refine gCI (tk_Scan_look rfl) (hk8) ?_
      rw [hS.1]
      refine Ex_step (tk_Scan_look rfl) ⟨fun h8 => ?_, fun h8 => ?_⟩
      · try simp (disch := omega) only [cmpI, w32_b2i, b2i_0, b2i_1, w32_id, Classical.not_not, not_true_eq_false, not_false_eq_true] at h8
        exact h37
      · try simp (disch := omega) only [cmpI, w32_b2i, b2i_0, b2i_1, w32_id, Classical.not_not, not_true_eq_false, not_false_eq_true] at h8
        refine Ex_step (tk_Scan_look rfl) ?_
        refine Ex_step (tk_Scan_look rfl) ?_
        refine gCI (tk_Scan_look rfl) (hk8) ?_
        rw [hS.2.1]
        refine Ex_cV0 (av := [vI (p : Int)]) (tk_Scan_look rfl) mk_Scan_byteAt ⟨rfl, rfl, by decide, rfl, Nat.le_of_ble_eq_true rfl, Nat.le_of_ble_eq_true rfl⟩ (hk8) (fun _ h => c_byteAt hW hS hsz rfl (by omega) h) ?_
        refine Ex_step (tk_Scan_look rfl) ?_
        refine Ex_step (tk_Scan_look rfl) ⟨fun h21 => ?_, fun h21 => ?_⟩
        · try simp (disch := omega) only [cmpI, w32_b2i, b2i_0, b2i_1, w32_id, Classical.not_not, not_true_eq_false, not_false_eq_true] at h21
          exact h37
        · try simp (disch := omega) only [cmpI, w32_b2i, b2i_0, b2i_1, w32_id, Classical.not_not, not_true_eq_false, not_false_eq_true] at h21
          omega
set_option maxRecDepth 100000 in
theorem c_step (hk8 : mK m c = 8) (hS : ScF F c sz p fl pl) (hsz : sz ≤ 800) (hp : p < sz) (h : Q 0 none (CM m (upF F 514 c ((p + 1 : Nat) : Int)) A L)) : Ex d Scan_step 0 [some (vR c)] [] (CM m F A L) Q := by
  refine Ex_step (tk_Scan_step rfl) ?_
  refine gCI (tk_Scan_step rfl) (hk8) ?_
  rw [hS.2.1]
  refine Ex_step (tk_Scan_step rfl) ?_
  refine gCI (tk_Scan_step rfl) (hk8) ?_
  rw [hS.1]
  refine Ex_step (tk_Scan_step rfl) ⟨fun h8 => ?_, fun h8 => ?_⟩
  · try simp (disch := omega) only [cmpI, w32_b2i, b2i_0, b2i_1, w32_id, Classical.not_not, not_true_eq_false, not_false_eq_true] at h8
    first | omega | exact Ex_step (tk_Scan_step rfl) ⟨rfl, h⟩
  · try simp (disch := omega) only [cmpI, w32_b2i, b2i_0, b2i_1, w32_id, Classical.not_not, not_true_eq_false, not_false_eq_true] at h8
    refine Ex_step (tk_Scan_step rfl) ?_
    refine Ex_step (tk_Scan_step rfl) ?_
    refine gCI (tk_Scan_step rfl) (hk8) ?_
    rw [hS.2.1]
    refine Ex_step (tk_Scan_step rfl) ?_
    refine Ex_step (tk_Scan_step rfl) ?_
    refine pCI (tk_Scan_step rfl) (hk8) ?_
    first | omega | exact Ex_step (tk_Scan_step rfl) ⟨rfl, h⟩
set_option maxRecDepth 100000 in
theorem c_sees {a v n : Nat} {g : Nat → Int} (hW : ScW m c tp) (hS : ScF F c sz p fl pl) (hsz : sz ≤ 800) (hp : p ≤ sz) (hf : byts (A tp)) (hT : Txt (CM m F A L) a v n g) (h : ∀ u : Int, (u = 1 ∧ wordAt (A tp) sz p n g ∨ u = 0 ∧ ¬ wordAt (A tp) sz p n g) → Q 0 (some (vI u)) (CM m F A L)) : Ex (d + 4) Scan_seesWord 0 [some (vR c), some (vR a), none, none] [] (CM m F A L) Q := by
  have hk8 := hW.1
  have hr512 := hW.2.1
  have hn := hT.2.2.2.2.2.1
  have hg := hT.2.2.2.2.2.2
  have h57 : (∀ j, j < n → bt (A tp) sz (p + j) = g j) → p + n ≤ sz → ∀ l3 : Option AV, Ex (d + 4) Scan_seesWord 57 [some (vR c), some (vR a), some (vI ((p + n : Nat) : Int)), l3] [] (CM m F A L) Q := by
    intro hj hle l3
    have hr : p + n < sz → 0 ≤ A tp (p + n) ∧ A tp (p + n) ≤ 255 := fun z => hf _ (by omega)
    have hb : p + n < sz → bt (A tp) sz (p + n) = A tp (p + n) := fun z => if_pos z
    have hb2 : ¬ p + n < sz → bt (A tp) sz (p + n) = -1 := fun z => if_neg z
    have hyes : ¬ (97 ≤ bt (A tp) sz (p + n) ∧ bt (A tp) sz (p + n) ≤ 122) → Q 0 (some (vI 1)) (CM m F A L) := fun z => h 1 (Or.inl ⟨rfl, hj, z⟩)
    have hno : (97 ≤ bt (A tp) sz (p + n) ∧ bt (A tp) sz (p + n) ≤ 122) → Q 0 (some (vI 0)) (CM m F A L) := fun z => h 0 (Or.inr ⟨rfl, fun w => w.2 z⟩)
    by_cases hlt : p + n < sz
    · have hb := hb hlt
      have hr := hr hlt
      refine Ex_step (tk_Scan_seesWord rfl) ?_
      refine Ex_step (tk_Scan_seesWord rfl) ?_
      refine gCI (tk_Scan_seesWord rfl) (hk8) ?_
      rw [hS.1]
      refine Ex_step (tk_Scan_seesWord rfl) ⟨fun h62 => ?_, fun h62 => ?_⟩
      · try simp (disch := omega) only [cmpI, w32_b2i, b2i_0, b2i_1, w32_id, Classical.not_not, not_true_eq_false, not_false_eq_true] at h62
        refine Ex_step (tk_Scan_seesWord rfl) ?_
        refine Ex_step (tk_Scan_seesWord rfl) ?_
        refine Ex_step (tk_Scan_seesWord rfl) ⟨rfl, by first | exact Or.inl rfl | exact Or.inr rfl | exact b2i_01 _ | assumption, ?_⟩
        first | exact hyes (by omega) | exact hno (by omega)
      · try simp (disch := omega) only [cmpI, w32_b2i, b2i_0, b2i_1, w32_id, Classical.not_not, not_true_eq_false, not_false_eq_true] at h62
        refine Ex_step (tk_Scan_seesWord rfl) ?_
        refine gCR (tk_Scan_seesWord rfl) (hk8) (hr512) ?_
        refine Ex_step (tk_Scan_seesWord rfl) ?_
        refine lCI (n := p + n) (tk_Scan_seesWord rfl) (hW.2.2) (w32_id (by omega) (by omega)) (by omega) ?_
        refine Ex_step (tk_Scan_seesWord rfl) ?_
        refine Ex_step (tk_Scan_seesWord rfl) ⟨fun h73 => ?_, fun h73 => ?_⟩
        · try simp (disch := omega) only [cmpI, w32_b2i, b2i_0, b2i_1, w32_id, Classical.not_not, not_true_eq_false, not_false_eq_true] at h73
          refine Ex_step (tk_Scan_seesWord rfl) ?_
          refine Ex_step (tk_Scan_seesWord rfl) ?_
          refine Ex_step (tk_Scan_seesWord rfl) ⟨rfl, by first | exact Or.inl rfl | exact Or.inr rfl | exact b2i_01 _ | assumption, ?_⟩
          first | exact hyes (by omega) | exact hno (by omega)
        · try simp (disch := omega) only [cmpI, w32_b2i, b2i_0, b2i_1, w32_id, Classical.not_not, not_true_eq_false, not_false_eq_true] at h73
          refine Ex_step (tk_Scan_seesWord rfl) ?_
          refine gCR (tk_Scan_seesWord rfl) (hk8) (hr512) ?_
          refine Ex_step (tk_Scan_seesWord rfl) ?_
          refine lCI (n := p + n) (tk_Scan_seesWord rfl) (hW.2.2) (w32_id (by omega) (by omega)) (by omega) ?_
          refine Ex_step (tk_Scan_seesWord rfl) ?_
          refine Ex_step (tk_Scan_seesWord rfl) ⟨fun h84 => ?_, fun h84 => ?_⟩
          · try simp (disch := omega) only [cmpI, w32_b2i, b2i_0, b2i_1, w32_id, Classical.not_not, not_true_eq_false, not_false_eq_true] at h84
            refine Ex_step (tk_Scan_seesWord rfl) ?_
            refine Ex_step (tk_Scan_seesWord rfl) ⟨rfl, by first | exact Or.inl rfl | exact Or.inr rfl | exact b2i_01 _ | assumption, ?_⟩
            first | exact hyes (by omega) | exact hno (by omega)
          · try simp (disch := omega) only [cmpI, w32_b2i, b2i_0, b2i_1, w32_id, Classical.not_not, not_true_eq_false, not_false_eq_true] at h84
            refine Ex_step (tk_Scan_seesWord rfl) ?_
            refine Ex_step (tk_Scan_seesWord rfl) ?_
            refine Ex_step (tk_Scan_seesWord rfl) ⟨rfl, by first | exact Or.inl rfl | exact Or.inr rfl | exact b2i_01 _ | assumption, ?_⟩
            first | exact hyes (by omega) | exact hno (by omega)
    · have hb2 := hb2 hlt
      refine Ex_step (tk_Scan_seesWord rfl) ?_
      refine Ex_step (tk_Scan_seesWord rfl) ?_
      refine gCI (tk_Scan_seesWord rfl) (hk8) ?_
      rw [hS.1]
      refine Ex_step (tk_Scan_seesWord rfl) ⟨fun h62 => ?_, fun h62 => ?_⟩
      · try simp (disch := omega) only [cmpI, w32_b2i, b2i_0, b2i_1, w32_id, Classical.not_not, not_true_eq_false, not_false_eq_true] at h62
        refine Ex_step (tk_Scan_seesWord rfl) ?_
        refine Ex_step (tk_Scan_seesWord rfl) ?_
        refine Ex_step (tk_Scan_seesWord rfl) ⟨rfl, by first | exact Or.inl rfl | exact Or.inr rfl | exact b2i_01 _ | assumption, ?_⟩
        exact hyes (by omega)
      · try simp (disch := omega) only [cmpI, w32_b2i, b2i_0, b2i_1, w32_id, Classical.not_not, not_true_eq_false, not_false_eq_true] at h62
        omega
  have hloop : p + n ≤ sz → ∀ (r k : Nat), k + r = n → (∀ j, j < k → bt (A tp) sz (p + j) = g j) → Ex (d + 4) Scan_seesWord 25 [some (vR c), some (vR a), some (vI ((p + n : Nat) : Int)), some (vI ((p + k : Nat) : Int))] [] (CM m F A L) Q := by
    intro hle r
    induction r with
    | zero =>
      intro k hk hj
      have : k = n := by omega
      subst this
      refine Ex_step (tk_Scan_seesWord rfl) ?_
      refine Ex_step (tk_Scan_seesWord rfl) ?_
      refine Ex_step (tk_Scan_seesWord rfl) ⟨fun h27 => ?_, fun h27 => ?_⟩
      · replace h27 : _ := h27
        exact h57 hj hle _
      · replace h27 : _ := h27
        exact absurd (show w32 ((p + k : Nat) : Int) ≤ w32 ((p + k : Nat) : Int) from Int.le_refl _) h27
    | succ r ih =>
      intro k hk hj
      have hgk := hg k (by omega)
      have hbk : bt (A tp) sz (p + k) = A tp (p + k) := if_pos (by omega)
      have hrk := hf (p + k) (by omega)
      have ek : ((p + k : Nat) : Int) - (p : Int) = (k : Int) := by omega
      have h51 : A tp (p + k) = g k → Ex (d + 4) Scan_seesWord 51 [some (vR c), some (vR a), some (vI ((p + n : Nat) : Int)), some (vI ((p + k : Nat) : Int))] [] (CM m F A L) Q := by
        intro z
        have hnx := ih (k + 1) (by omega) (fun j hj2 => by
          by_cases q : j = k
          · subst q; rw [hbk]; exact z
          · exact hj j (by omega))
        refine Ex_step (tk_Scan_seesWord rfl) ?_
        refine Ex_step (tk_Scan_seesWord rfl) ?_
        exact hnx
      have hno : A tp (p + k) ≠ g k → Q 0 (some (vI 0)) (CM m F A L) := fun z => h 0 (Or.inr ⟨rfl, fun w => z (by rw [← hbk]; exact w.1 k (by omega))⟩)
      refine Ex_step (tk_Scan_seesWord rfl) ?_
      refine Ex_step (tk_Scan_seesWord rfl) ?_
      refine Ex_step (tk_Scan_seesWord rfl) ⟨fun h27 => ?_, fun h27 => ?_⟩
      · try simp (disch := omega) only [cmpI, w32_b2i, b2i_0, b2i_1, w32_id, Classical.not_not, not_true_eq_false, not_false_eq_true] at h27
        omega
      · try simp (disch := omega) only [cmpI, w32_b2i, b2i_0, b2i_1, w32_id, Classical.not_not, not_true_eq_false, not_false_eq_true] at h27
        refine Ex_step (tk_Scan_seesWord rfl) ?_
        refine gCR (tk_Scan_seesWord rfl) (hk8) (hr512) ?_
        refine Ex_step (tk_Scan_seesWord rfl) ?_
        refine lCI (n := p + k) (tk_Scan_seesWord rfl) (hW.2.2) (w32_id (by omega) (by omega)) (by omega) ?_
        refine Ex_step (tk_Scan_seesWord rfl) ?_
        refine Ex_step (tk_Scan_seesWord rfl) ?_
        refine Ex_step (tk_Scan_seesWord rfl) ?_
        refine gCI (tk_Scan_seesWord rfl) (hk8) ?_
        rw [hS.2.1]
        refine Ex_step (tk_Scan_seesWord rfl) ?_
        show Ex (d + 4) Scan_seesWord 43 _ (vI (((p + k : Nat) : Int) - (p : Int)) :: _) _ Q
        rw [ek]
        refine Ex_cV0 (av := [vI (k : Int)]) (tk_Scan_seesWord rfl) mk_Str_charAt ⟨rfl, rfl, by decide, rfl, Nat.le_of_ble_eq_true rfl, Nat.le_of_ble_eq_true rfl⟩ (hT.1) (fun _ h => e_charAt hT rfl (show k < n by omega) h) ?_
        refine Ex_step (tk_Scan_seesWord rfl) ⟨fun h46 => ?_, fun h46 => ?_⟩
        · try simp (disch := omega) only [cmpI, w32_b2i, b2i_0, b2i_1, w32_id, Classical.not_not, not_true_eq_false, not_false_eq_true] at h46
          exact h51 (by omega)
        · try simp (disch := omega) only [cmpI, w32_b2i, b2i_0, b2i_1, w32_id, Classical.not_not, not_true_eq_false, not_false_eq_true] at h46
          refine Ex_step (tk_Scan_seesWord rfl) ?_
          refine Ex_step (tk_Scan_seesWord rfl) ⟨rfl, by first | exact Or.inl rfl | exact Or.inr rfl | exact b2i_01 _ | assumption, ?_⟩
          exact hno (by omega)
  have hshort : ¬ p + n ≤ sz → Q 0 (some (vI 0)) (CM m F A L) := by
    intro z
    refine h 0 (Or.inr ⟨rfl, fun w => ?_⟩)
    have h1 := w.1 (sz - p) (by omega)
    rw [show p + (sz - p) = sz by omega] at h1
    unfold bt at h1
    rw [if_neg (by omega)] at h1
    have := (hg (sz - p) (by omega)).2.1
    omega
  have epn : (p : Int) + (n : Int) = ((p + n : Nat) : Int) := by omega
  refine Ex_step (tk_Scan_seesWord rfl) ?_
  refine gCI (tk_Scan_seesWord rfl) (hk8) ?_
  rw [hS.2.1]
  refine Ex_step (tk_Scan_seesWord rfl) ?_
  refine Ex_cV0 (av := []) (tk_Scan_seesWord rfl) mk_Str_length ⟨rfl, rfl, by decide, rfl, Nat.le_of_ble_eq_true rfl, Nat.le_of_ble_eq_true rfl⟩ (hT.1) (fun _ h => e_length hT h) ?_
  refine Ex_step (tk_Scan_seesWord rfl) ?_
  show Ex (d + 4) Scan_seesWord 9 _ [vI ((p : Int) + (n : Int))] _ Q
  rw [epn]
  refine Ex_step (tk_Scan_seesWord rfl) ?_
  refine Ex_step (tk_Scan_seesWord rfl) ?_
  refine Ex_step (tk_Scan_seesWord rfl) ?_
  refine gCI (tk_Scan_seesWord rfl) (hk8) ?_
  rw [hS.1]
  refine Ex_step (tk_Scan_seesWord rfl) ⟨fun h15 => ?_, fun h15 => ?_⟩
  · try simp (disch := omega) only [cmpI, w32_b2i, b2i_0, b2i_1, w32_id, Classical.not_not, not_true_eq_false, not_false_eq_true] at h15
    refine Ex_step (tk_Scan_seesWord rfl) ?_
    refine gCI (tk_Scan_seesWord rfl) (hk8) ?_
    rw [hS.2.1]
    refine Ex_step (tk_Scan_seesWord rfl) ?_
    exact hloop (by omega) n 0 (by omega) (fun j hj => absurd hj (Nat.not_lt_zero j))
  · try simp (disch := omega) only [cmpI, w32_b2i, b2i_0, b2i_1, w32_id, Classical.not_not, not_true_eq_false, not_false_eq_true] at h15
    refine Ex_step (tk_Scan_seesWord rfl) ?_
    refine Ex_step (tk_Scan_seesWord rfl) ⟨rfl, by first | exact Or.inl rfl | exact Or.inr rfl | exact b2i_01 _ | assumption, ?_⟩
    exact hshort (by omega)
set_option maxRecDepth 100000 in
theorem c_takesW {a v n : Nat} {g : Nat → Int} (hW : ScW m c tp) (hS : ScF F c sz p fl pl) (hsz : sz ≤ 800) (hp : p ≤ sz) (hf : byts (A tp)) (hT : Txt (CM m F A L) a v n g) (h1 : wordAt (A tp) sz p n g → Q 0 (some (vI 1)) (CM m (upF F 514 c ((p + n : Nat) : Int)) A L)) (h0 : ¬ wordAt (A tp) sz p n g → Q 0 (some (vI 0)) (CM m F A L)) : Ex (d + 5) Scan_takesWord 0 [some (vR c), some (vR a), none] [] (CM m F A L) Q := by
  have hk8 := hW.1
  have key : ∀ u : Int, (u = 1 ∧ wordAt (A tp) sz p n g ∨ u = 0 ∧ ¬ wordAt (A tp) sz p n g) → Ex (d + 5) Scan_takesWord 5 [some (vR c), some (vR a), none] [vI u] (CM m F A L) Q := by
    intro u hu
    rcases hu with ⟨rfl, z⟩ | ⟨rfl, z⟩
    · have hx := h1 z
      refine Ex_step (tk_Scan_takesWord rfl) ?_
      refine Ex_step (tk_Scan_takesWord rfl) ?_
      refine Ex_step (tk_Scan_takesWord rfl) ⟨fun h7 => ?_, fun h7 => ?_⟩
      · replace h7 : _ := h7
        first | exact absurd (show w32 1 = w32 0 from h7) (by decide) | exact Ex_step (tk_Scan_takesWord rfl) (Ex_step (tk_Scan_takesWord rfl) ⟨rfl, Or.inr rfl, hx⟩)
      · replace h7 : _ := h7
        refine Ex_step (tk_Scan_takesWord rfl) ?_
        refine Ex_step (tk_Scan_takesWord rfl) ?_
        refine gCI (tk_Scan_takesWord rfl) (hk8) ?_
        rw [hS.2.1]
        refine Ex_step (tk_Scan_takesWord rfl) ?_
        refine Ex_cV0 (av := []) (tk_Scan_takesWord rfl) mk_Str_length ⟨rfl, rfl, by decide, rfl, Nat.le_of_ble_eq_true rfl, Nat.le_of_ble_eq_true rfl⟩ (hT.1) (fun _ h => e_length hT h) ?_
        refine Ex_step (tk_Scan_takesWord rfl) ?_
        refine pCI (tk_Scan_takesWord rfl) (hk8) ?_
        first | exact absurd (show w32 1 = w32 0 from h7) (by decide) | exact Ex_step (tk_Scan_takesWord rfl) (Ex_step (tk_Scan_takesWord rfl) ⟨rfl, Or.inr rfl, hx⟩)
    · have hx := h0 z
      refine Ex_step (tk_Scan_takesWord rfl) ?_
      refine Ex_step (tk_Scan_takesWord rfl) ?_
      refine Ex_step (tk_Scan_takesWord rfl) ⟨fun h7 => ?_, fun h7 => ?_⟩
      · replace h7 : _ := h7
        refine Ex_step (tk_Scan_takesWord rfl) ?_
        refine Ex_step (tk_Scan_takesWord rfl) ⟨rfl, by first | exact Or.inl rfl | exact Or.inr rfl | exact b2i_01 _ | assumption, ?_⟩
        exact hx
      · replace h7 : _ := h7
        exact absurd rfl h7
  refine Ex_step (tk_Scan_takesWord rfl) ?_
  refine Ex_step (tk_Scan_takesWord rfl) ?_
  refine Ex_cVK (av := [vR a]) (tk_Scan_takesWord rfl) mk_Scan_seesWord ⟨rfl, rfl, by decide, rfl, Nat.le_of_ble_eq_true rfl, Nat.le_of_ble_eq_true rfl⟩ (hk8) (c_sees hW hS hsz hp hf hT (fun u hu => ⟨rfl, ?_⟩))
  exact key u hu
end CScan
