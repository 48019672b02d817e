/-! ===== the reference: without a fault its place stays ===== -/
def FZ (s t : PSt) : Prop := pFl t = 0 → pFl s = 0 ∧ pFa t = pFa s
set_option maxRecDepth 100000 in
theorem FZ.rf (s : PSt) : FZ s s := fun h => ⟨h, rfl⟩
set_option maxRecDepth 100000 in
theorem FZ.tr {s t u : PSt} (h : FZ s t) (g : FZ t u) : FZ s u := fun q => ⟨(h (g q).1).1, (g q).2.trans (h (g q).1).2⟩
set_option maxRecDepth 100000 in
theorem FZ.at_ {s : PSt} {a : Nat} : FZ s (wAtP s a) := fun h => ⟨h, rfl⟩
set_option maxRecDepth 100000 in
theorem FZ.here {f : Nat → Int} {sz : Nat} {s : PSt} : FZ s (hereP f sz s) := fun h => ⟨h, rfl⟩
set_option maxRecDepth 100000 in
theorem FZ.inc {s : PSt} : FZ s (incP s) := fun h => ⟨h, rfl⟩
set_option maxRecDepth 100000 in
theorem FZ.shut {s : PSt} : FZ s (shutP s) := fun h => ⟨h, rfl⟩
set_option maxRecDepth 100000 in
theorem FZ.put {s : PSt} {j : Nat} {v : Int} : FZ s (wTP s j v) := fun h => ⟨h, rfl⟩
set_option maxRecDepth 100000 in
theorem FZ.wrong {s : PSt} {k : Nat} {p : Int} (hk : k ≠ 0) : FZ s (wrongP s k p) := by
  unfold wrongP
  split
  · exact fun h => absurd h hk
  · exact FZ.rf s
set_option maxRecDepth 100000 in
theorem FZ.tells {s : PSt} {c : Int} : FZ s (tellsP c s) := by
  unfold tellsP
  split
  · exact fun h => ⟨h, rfl⟩
  · exact FZ.rf s
set_option maxRecDepth 100000 in
theorem FZ.opens {s : PSt} {p : Int} : FZ s (opensP p s) := by
  unfold opensP
  split
  · exact FZ.tr (FZ.wrong (by decide)) (fun h => ⟨h, rfl⟩)
  · exact fun h => ⟨h, rfl⟩
set_option maxRecDepth 100000 in
theorem FZ.tk {f : Nat → Int} {sz w : Nat} {s : PSt} : FZ s (tkS f sz w s) := by
  unfold tkS takesP
  split
  · split
    · exact FZ.at_
    · exact FZ.here
  · exact FZ.rf s
set_option maxRecDepth 100000 in
theorem FZ.num {f : Nat → Int} {sz : Nat} {s : PSt} : FZ s (numP f sz s) := by
  unfold numP
  split
  · split
    · split
      · exact fun h => absurd (show (2 : Nat) = 0 from h) (by decide)
      · exact FZ.at_
    · exact FZ.here.tr (FZ.wrong (by decide))
  · exact FZ.rf s
set_option maxRecDepth 100000 in
theorem FZ.must {f : Nat → Int} {sz : Nat} {c : Int} {s : PSt} : FZ s (mustP f sz c s) := by
  unfold mustP
  split
  · split
    · exact FZ.at_
    · exact FZ.here.tr (FZ.wrong (by decide))
  · exact FZ.rf s
set_option maxRecDepth 100000 in
theorem FZ.askl {f : Nat → Int} {sz : Nat} : ∀ (l : List Nat) (s : PSt), FZ s (askL f sz l s).1
  | [], s => FZ.rf s
  | k :: t, s => by
    unfold askL
    split
    · exact FZ.tk
    · exact FZ.tk.tr (FZ.askl t _)
set_option maxRecDepth 100000 in
theorem FZ.tellN {f : Nat → Int} {sz : Nat} {s : PSt} : FZ s (tellNum f sz s) := (FZ.num.tr FZ.tells).tr FZ.tells
set_option maxRecDepth 100000 in
theorem FZ.sign {f : Nat → Int} {sz : Nat} {s : PSt} : FZ s (signP f sz s) := by
  unfold signP
  split
  · exact (FZ.here.tr (FZ.wrong (by decide))).tr FZ.inc
  · exact FZ.here.tr FZ.inc
set_option maxRecDepth 100000 in
theorem FZ.par (f : Nat → Int) (sz : Nat) : ∀ (n q : Nat) (s : PSt), FZ s (ps f sz n q s)
  | 0, _, s => FZ.rf s
  | n + 1, q, s => by
    have ih := FZ.par f sz n
    match q with
    | 0 =>
      show FZ s (unitP f sz (ps f sz n) s)
      unfold unitP
      split
      · split
        · exact ((((FZ.here.tr FZ.opens).tr FZ.inc).tr (ih 4 _)).tr FZ.must).tr FZ.shut
        · split
          · exact FZ.here.tr FZ.tellN
          · split
            · exact (FZ.here.tr (FZ.askl _ _)).tr FZ.tellN
            · exact ((FZ.here.tr (FZ.askl _ _)).tr FZ.tells).tr FZ.tells
      · exact FZ.rf s
    | 1 =>
      show FZ s (prodL f sz (ps f sz n) s)
      unfold prodL
      split
      · split
        · exact (((FZ.here.tr FZ.inc).tr (ih 0 _)).tr FZ.tells).tr (ih 1 _)
        · exact FZ.here
      · exact FZ.rf s
    | 2 => exact (ih 0 s).tr (ih 1 _)
    | 3 =>
      show FZ s (sumL f sz (ps f sz n) s)
      unfold sumL
      split
      · split
        · exact (((FZ.here.tr FZ.inc).tr (ih 2 _)).tr FZ.tells).tr (ih 3 _)
        · exact FZ.here
      · exact FZ.rf s
    | 4 => exact (ih 2 s).tr (ih 3 _)
    | 5 =>
      show FZ s (factP f sz (ps f sz n) s)
      unfold factP
      split
      · split
        · exact ((((FZ.here.tr FZ.tk).tr FZ.opens).tr (ih 5 _)).tr FZ.tells).tr FZ.shut
        · refine FZ.tr (t := ps f sz n 4 (tkS f sz 2 (hereP f sz s))) ((FZ.here.tr FZ.tk).tr (ih 4 _)) ?_
          unfold factE
          split
          · exact (FZ.sign.tr (ih 4 _)).tr FZ.tells
          · exact FZ.rf _
      · exact FZ.rf s
    | 6 =>
      show FZ s (factsL f sz (ps f sz n) s)
      unfold factsL
      split
      · exact ((FZ.tk.tr (ih 5 _)).tr FZ.tells).tr (ih 6 _)
      · exact FZ.tk
    | 7 => exact (ih 5 s).tr (ih 6 _)
    | 8 =>
      show FZ s (testL f sz (ps f sz n) s)
      unfold testL
      split
      · exact ((FZ.tk.tr (ih 7 _)).tr FZ.tells).tr (ih 8 _)
      · exact FZ.tk
    | 9 => exact (ih 7 s).tr (ih 8 _)
    | _ + 10 => exact FZ.rf s
set_option maxRecDepth 100000 in
theorem FZ.row {f : Nat → Int} {sz b : Nat} : ∀ (r k : Nat) (s : PSt), FZ s (dsRow f sz b r k s).2
  | 0, k, s => FZ.here
  | r + 1, k, s => by
    unfold dsRow
    split
    · exact FZ.here
    · exact ((FZ.here.tr FZ.put).tr FZ.inc).tr (FZ.row r (k + 1) _)
set_option maxRecDepth 100000 in
theorem FZ.dend {f : Nat → Int} {sz b rows wide : Nat} {s : PSt} : FZ s (dsEnd rows wide (dsRow2 f sz b rows wide s)) := by
  unfold dsEnd
  split
  · exact (FZ.row _ _ _).tr (FZ.wrong (by decide))
  · exact FZ.row _ _ _
set_option maxRecDepth 100000 in
theorem FZ.loop {f : Nat → Int} {sz b : Nat} : ∀ (r rows wide : Nat) (s : PSt), FZ s (dsLoop f sz b r rows wide s).2.2
  | 0, _, _, s => FZ.rf s
  | r + 1, rows, wide, s => by
    unfold dsLoop
    split
    · split
      · split
        · exact ((FZ.dend.tr FZ.here).tr FZ.inc).tr (FZ.loop r _ _ _)
        · exact FZ.dend.tr FZ.here
      · exact FZ.dend
    · exact FZ.rf s
set_option maxRecDepth 100000 in
theorem FZ.design {f : Nat → Int} {sz nn : Nat} {s : PSt} : FZ s (designP f sz nn s) := by
  unfold designP dsFin
  exact ((((FZ.num.tr FZ.put).tr (FZ.loop 10 0 0 _)).tr FZ.put).tr FZ.put).tr FZ.put
set_option maxRecDepth 100000 in
theorem FZ.line {f : Nat → Int} {sz : Nat} {s : PSt} : FZ s (lineP f sz s) := by
  unfold lineP
  refine FZ.tr (t := lineM f sz (hereP f sz s)) (FZ.here.tr (t := hereP f sz s) ?_) FZ.must
  unfold lineM
  split
  · split
    · exact FZ.tk.tr (FZ.wrong (by decide))
    · exact FZ.tk.tr FZ.design
  · split
    · split
      · exact ((FZ.tk.tr FZ.tk).tr FZ.put).tr (FZ.par f sz psN 9 _)
      · exact (FZ.tk.tr FZ.tk).tr (FZ.wrong (by decide))
    · exact FZ.tk.tr (FZ.wrong (by decide))
set_option maxRecDepth 100000 in
theorem FZ.tl {f : Nat → Int} {sz : Nat} : ∀ (r : Nat) (s : PSt), FZ s (tlP f sz r s)
  | 0, s => FZ.rf s
  | r + 1, s => by
    unfold tlP
    split
    · split
      · exact FZ.here
      · exact (FZ.here.tr FZ.line).tr (FZ.tl r _)
    · exact FZ.rf s
