def RX0 : String := "DesignDesk$Best"
def TX0 : u_T := fun k => match k with
  | 0 => ("DesignDesk$Best", "known", "Z", false)
  | 1 => ("DesignDesk$Best", "same", "I", false)
  | 2 => ("DesignDesk$Best", "all", "I", false)
  | 3 => ("DesignDesk$Best", "turn", "I", false)
  | 4 => ("DesignDesk$Best", "dx", "I", false)
  | _ => ("DesignDesk$Best", "dy", "I", false)
def tyX0 : Nat → FieldType := fun k => match k with
  | 0 => .boolean
  | 1 => .int
  | 2 => .int
  | 3 => .int
  | 4 => .int
  | _ => .int
def RX1 : String := "DesignDesk$Book"
def TX1 : u_T := fun k => match k with
  | 0 => ("DesignDesk$Book", "designs", "[LDesignDesk$Design;", true)
  | 1 => ("DesignDesk$Book", "count", "I", false)
  | _ => ("DesignDesk$Book", "rule", "LDesignDesk$Rule;", false)
def tyX1 : Nat → FieldType := fun k => match k with
  | 0 => .array (.object "DesignDesk$Design")
  | 1 => .int
  | _ => .object "DesignDesk$Rule"
def RX2 : String := "DesignDesk$Design"
def TX2 : u_T := fun k => match k with
  | 0 => ("DesignDesk$Design", "day", "I", false)
  | 1 => ("DesignDesk$Design", "columns", "I", false)
  | 2 => ("DesignDesk$Design", "rows", "I", false)
  | 3 => ("DesignDesk$Design", "dark", "[I", true)
  | _ => ("DesignDesk$Design", "aside", "[I", true)
def tyX2 : Nat → FieldType := fun k => match k with
  | 0 => .int
  | 1 => .int
  | 2 => .int
  | 3 => .array .int
  | _ => .array .int
def RX3 : String := "DesignDesk$History"
def TX3 : u_T := fun k => match k with
  | 0 => ("DesignDesk$History", "past", "[LDesignDesk$Book;", true)
  | _ => ("DesignDesk$History", "count", "I", false)
def tyX3 : Nat → FieldType := fun k => match k with
  | 0 => .array (.object "DesignDesk$Book")
  | _ => .int
def RX4 : String := "DesignDesk$Overlays"
def TX4 : u_T := fun k => match k with
  | 0 => ("DesignDesk$Overlays", "found", "[LDesignDesk$Best;", true)
  | 1 => ("DesignDesk$Overlays", "fixed", "LDesignDesk$Design;", false)
  | 2 => ("DesignDesk$Overlays", "moved", "LDesignDesk$Design;", false)
  | 3 => ("DesignDesk$Overlays", "turned", "LDesignDesk$Design;", true)
  | 4 => ("DesignDesk$Overlays", "solid", "[I", true)
  | 5 => ("DesignDesk$Overlays", "dotted", "[I", true)
  | 6 => ("DesignDesk$Overlays", "darkOnes", "I", false)
  | 7 => ("DesignDesk$Overlays", "same", "I", false)
  | _ => ("DesignDesk$Overlays", "unlike", "I", false)
def tyX4 : Nat → FieldType := fun k => match k with
  | 0 => .array (.object "DesignDesk$Best")
  | 1 => .object "DesignDesk$Design"
  | 2 => .object "DesignDesk$Design"
  | 3 => .object "DesignDesk$Design"
  | 4 => .array .int
  | 5 => .array .int
  | 6 => .int
  | 7 => .int
  | _ => .int
def RX5 : String := "DesignDesk$Rule"
def TX5 : u_T := fun k => match k with
  | _ => ("DesignDesk$Rule", "codes", "[I", true)
def tyX5 : Nat → FieldType := fun k => match k with
  | _ => .array .int
def RX6 : String := "DesignDesk$RuleReader"
def TX6 : u_T := fun k => match k with
  | 0 => ("DesignDesk$RuleReader", "scan", "LDesignDesk$Scan;", true)
  | 1 => ("DesignDesk$RuleReader", "codes", "[I", true)
  | 2 => ("DesignDesk$RuleReader", "count", "I", false)
  | 3 => ("DesignDesk$RuleReader", "waiting", "[I", true)
  | 4 => ("DesignDesk$RuleReader", "piled", "I", false)
  | 5 => ("DesignDesk$RuleReader", "nots", "I", false)
  | 6 => ("DesignDesk$RuleReader", "brackets", "I", false)
  | 7 => ("DesignDesk$RuleReader", "atStart", "Z", false)
  | _ => ("DesignDesk$RuleReader", "compared", "Z", false)
def tyX6 : Nat → FieldType := fun k => match k with
  | 0 => .object "DesignDesk$Scan"
  | 1 => .array .int
  | 2 => .int
  | 3 => .array .int
  | 4 => .int
  | 5 => .int
  | 6 => .int
  | 7 => .boolean
  | _ => .boolean
def RX7 : String := "DesignDesk$Scan"
def TX7 : u_T := fun k => match k with
  | 0 => ("DesignDesk$Scan", "bytes", "[I", false)
  | 1 => ("DesignDesk$Scan", "length", "I", false)
  | 2 => ("DesignDesk$Scan", "at", "I", false)
  | 3 => ("DesignDesk$Scan", "kind", "I", false)
  | _ => ("DesignDesk$Scan", "place", "I", false)
def tyX7 : Nat → FieldType := fun k => match k with
  | 0 => .array .int
  | 1 => .int
  | 2 => .int
  | 3 => .int
  | _ => .int
def RX8 : String := "DesignDesk$Shapes"
def TX8 : u_T := fun k => match k with
  | 0 => ("DesignDesk$Shapes", "turned", "LDesignDesk$Design;", true)
  | 1 => ("DesignDesk$Shapes", "seen", "[I", true)
  | 2 => ("DesignDesk$Shapes", "line", "[I", true)
  | _ => ("DesignDesk$Shapes", "lined", "I", false)
def tyX8 : Nat → FieldType := fun k => match k with
  | 0 => .object "DesignDesk$Design"
  | 1 => .array .int
  | 2 => .array .int
  | _ => .int
def RX9 : String := "DesignDesk$TextReader"
def TX9 : u_T := fun k => match k with
  | 0 => ("DesignDesk$TextReader", "scan", "LDesignDesk$Scan;", true)
  | _ => ("DesignDesk$TextReader", "rules", "LDesignDesk$RuleReader;", true)
def tyX9 : Nat → FieldType := fun k => match k with
  | 0 => .object "DesignDesk$Scan"
  | _ => .object "DesignDesk$RuleReader"
def RX10 : String := "DesignDesk"
def TX10 : u_T := fun k => match k with
  | 0 => ("DesignDesk", "tape", "[I", true)
  | 1 => ("DesignDesk", "tapeBytes", "I", false)
  | 2 => ("DesignDesk", "faultPlace", "I", false)
  | 3 => ("DesignDesk", "refusedMissing", "I", false)
  | 4 => ("DesignDesk", "refusedNumber", "I", false)
  | 5 => ("DesignDesk", "book", "LDesignDesk$Book;", false)
  | 6 => ("DesignDesk", "draft", "LDesignDesk$Book;", false)
  | 7 => ("DesignDesk", "history", "LDesignDesk$History;", true)
  | 8 => ("DesignDesk", "reader", "LDesignDesk$TextReader;", true)
  | 9 => ("DesignDesk", "overlays", "LDesignDesk$Overlays;", true)
  | 10 => ("DesignDesk", "shapes", "LDesignDesk$Shapes;", true)
  | 11 => ("DesignDesk", "facts", "[I", true)
  | 12 => ("DesignDesk", "ruleStack", "[J", true)
  | _ => ("DesignDesk", "group", "[I", true)
def tyX10 : Nat → FieldType := fun k => match k with
  | 0 => .array .int
  | 1 => .int
  | 2 => .int
  | 3 => .int
  | 4 => .int
  | 5 => .object "DesignDesk$Book"
  | 6 => .object "DesignDesk$Book"
  | 7 => .object "DesignDesk$History"
  | 8 => .object "DesignDesk$TextReader"
  | 9 => .object "DesignDesk$Overlays"
  | 10 => .object "DesignDesk$Shapes"
  | 11 => .array .int
  | 12 => .array .long
  | _ => .array .int
def RX11 : String := "DesignDeskModel"
def TX11 : u_T := fun k => match k with
  | 0 => ("DesignDeskModel", "thrown", "I", false)
  | 1 => ("DesignDeskModel", "refused", "[I", true)
  | 2 => ("DesignDeskModel", "tape", "I", false)
  | 3 => ("DesignDeskModel", "size", "I", false)
  | 4 => ("DesignDeskModel", "at", "I", false)
  | 5 => ("DesignDeskModel", "place", "I", false)
  | 6 => ("DesignDeskModel", "fault", "I", false)
  | 7 => ("DesignDeskModel", "faultAt", "I", false)
  | 8 => ("DesignDeskModel", "fed", "[I", true)
  | 9 => ("DesignDeskModel", "now", "[I", true)
  | 10 => ("DesignDeskModel", "told", "[I", true)
  | 11 => ("DesignDeskModel", "past", "[[I", true)
  | 12 => ("DesignDeskModel", "backs", "I", false)
  | 13 => ("DesignDeskModel", "codes", "I", false)
  | 14 => ("DesignDeskModel", "open", "I", false)
  | 15 => ("DesignDeskModel", "turnedWide", "I", false)
  | 16 => ("DesignDeskModel", "turnedHigh", "I", false)
  | 17 => ("DesignDeskModel", "turned", "[I", true)
  | 18 => ("DesignDeskModel", "darkA", "[J", true)
  | 19 => ("DesignDeskModel", "deadA", "[J", true)
  | 20 => ("DesignDeskModel", "darkB", "[J", true)
  | 21 => ("DesignDeskModel", "deadB", "[J", true)
  | 22 => ("DesignDeskModel", "same", "I", false)
  | 23 => ("DesignDeskModel", "unlike", "I", false)
  | 24 => ("DesignDeskModel", "bestSame", "I", false)
  | 25 => ("DesignDeskModel", "bestOf", "I", false)
  | 26 => ("DesignDeskModel", "bestTurn", "I", false)
  | 27 => ("DesignDeskModel", "bestX", "I", false)
  | 28 => ("DesignDeskModel", "bestY", "I", false)
  | 29 => ("DesignDeskModel", "priorSame", "I", false)
  | 30 => ("DesignDeskModel", "priorOf", "I", false)
  | 31 => ("DesignDeskModel", "priorBy", "I", false)
  | 32 => ("DesignDeskModel", "stack", "[J", true)
  | 33 => ("DesignDeskModel", "asked", "[J", true)
  | 34 => ("DesignDeskModel", "been", "[Z", true)
  | 35 => ("DesignDeskModel", "queue", "[I", true)
  | _ => ("DesignDeskModel", "joined", "[I", true)
def tyX11 : Nat → FieldType := fun k => match k with
  | 0 => .int
  | 1 => .array .int
  | 2 => .int
  | 3 => .int
  | 4 => .int
  | 5 => .int
  | 6 => .int
  | 7 => .int
  | 8 => .array .int
  | 9 => .array .int
  | 10 => .array .int
  | 11 => .array (.array .int)
  | 12 => .int
  | 13 => .int
  | 14 => .int
  | 15 => .int
  | 16 => .int
  | 17 => .array .int
  | 18 => .array .long
  | 19 => .array .long
  | 20 => .array .long
  | 21 => .array .long
  | 22 => .int
  | 23 => .int
  | 24 => .int
  | 25 => .int
  | 26 => .int
  | 27 => .int
  | 28 => .int
  | 29 => .int
  | 30 => .int
  | 31 => .int
  | 32 => .array .long
  | 33 => .array .long
  | 34 => .array .boolean
  | 35 => .array .int
  | _ => .array .int
abbrev vwCl : List vw_C := [(RX0, TX0, 6), (RX1, TX1, 3), (RX2, TX2, 5), (RX3, TX3, 2), (RX4, TX4, 9), (RX5, TX5, 1), (RX6, TX6, 9), (RX7, TX7, 5), (RX8, TX8, 4), (RX9, TX9, 2), (RX10, TX10, 14), (RX11, TX11, 37)]
def clTy (k : Nat) : Nat → FieldType := match k with
  | 0 => tyX0
  | 1 => tyX1
  | 2 => tyX2
  | 3 => tyX3
  | 4 => tyX4
  | 5 => tyX5
  | 6 => tyX6
  | 7 => tyX7
  | 8 => tyX8
  | 9 => tyX9
  | 10 => tyX10
  | _ => tyX11
def lw_good : List Cond := lw_tbl.filter goodWord
theorem good_at {w : Cond} (i : Nat) (h : lw_tbl[i]? = some w) (g : goodWord w = true) : w ∈ lw_good := List.mem_filter.mpr ⟨List.mem_of_getElem? h, g⟩
theorem good_mem {ws : List Cond} (h : ws.all (fun w => decide (w ∈ lw_tbl) && goodWord w) = true) : ∀ w ∈ ws, w ∈ lw_good := fun w hw => by
  have h1 := List.all_eq_true.mp h w hw
  simp only [Bool.and_eq_true, decide_eq_true_eq] at h1
  exact List.mem_filter.mpr h1
/-- what is known of each class: its words, the types and names of its fields -/
def clOk (k : Nat) (q : vw_C) : Prop := (∀ w ∈ u_ws q.1 q.2.1 q.2.2, w ∈ lw_good) ∧ (∀ j, j < q.2.2 → parseFieldDescriptor (q.2.1 j).2.2.1 = some (clTy k j)) ∧ (∀ a, a < q.2.2 → ∀ b, b < q.2.2 → a ≠ b → (q.2.1 a).2.1 ≠ (q.2.1 b).2.1) ∧ (∀ j, j < q.2.2 → (q.2.1 j).1 = q.1) ∧ Cond.instantiable q.1 q.2.2 ∈ lw_good ∧ Cond.initialized q.1 ∈ lw_good
set_option maxRecDepth 100000 in
theorem clOk0 : clOk 0 (RX0, TX0, 6) := ⟨good_mem (by decide +kernel), by decide +kernel, by decide +kernel, by decide +kernel, good_mem (ws := [_]) (by decide +kernel) _ List.mem_cons_self, good_mem (ws := [_]) (by decide +kernel) _ List.mem_cons_self⟩
set_option maxRecDepth 100000 in
theorem clOk1 : clOk 1 (RX1, TX1, 3) := ⟨good_mem (by decide +kernel), by decide +kernel, by decide +kernel, by decide +kernel, good_mem (ws := [_]) (by decide +kernel) _ List.mem_cons_self, good_mem (ws := [_]) (by decide +kernel) _ List.mem_cons_self⟩
set_option maxRecDepth 100000 in
theorem clOk2 : clOk 2 (RX2, TX2, 5) := ⟨good_mem (by decide +kernel), by decide +kernel, by decide +kernel, by decide +kernel, good_mem (ws := [_]) (by decide +kernel) _ List.mem_cons_self, good_mem (ws := [_]) (by decide +kernel) _ List.mem_cons_self⟩
set_option maxRecDepth 100000 in
theorem clOk3 : clOk 3 (RX3, TX3, 2) := ⟨good_mem (by decide +kernel), by decide +kernel, by decide +kernel, by decide +kernel, good_mem (ws := [_]) (by decide +kernel) _ List.mem_cons_self, good_mem (ws := [_]) (by decide +kernel) _ List.mem_cons_self⟩
set_option maxRecDepth 100000 in
theorem clOk4 : clOk 4 (RX4, TX4, 9) := ⟨good_mem (by decide +kernel), by decide +kernel, by decide +kernel, by decide +kernel, good_mem (ws := [_]) (by decide +kernel) _ List.mem_cons_self, good_mem (ws := [_]) (by decide +kernel) _ List.mem_cons_self⟩
set_option maxRecDepth 100000 in
theorem clOk5 : clOk 5 (RX5, TX5, 1) := ⟨good_mem (by decide +kernel), by decide +kernel, by decide +kernel, by decide +kernel, good_mem (ws := [_]) (by decide +kernel) _ List.mem_cons_self, good_mem (ws := [_]) (by decide +kernel) _ List.mem_cons_self⟩
set_option maxRecDepth 100000 in
theorem clOk6 : clOk 6 (RX6, TX6, 9) := ⟨good_mem (by decide +kernel), by decide +kernel, by decide +kernel, by decide +kernel, good_mem (ws := [_]) (by decide +kernel) _ List.mem_cons_self, good_mem (ws := [_]) (by decide +kernel) _ List.mem_cons_self⟩
set_option maxRecDepth 100000 in
theorem clOk7 : clOk 7 (RX7, TX7, 5) := ⟨good_mem (by decide +kernel), by decide +kernel, by decide +kernel, by decide +kernel, good_mem (ws := [_]) (by decide +kernel) _ List.mem_cons_self, good_mem (ws := [_]) (by decide +kernel) _ List.mem_cons_self⟩
set_option maxRecDepth 100000 in
theorem clOk8 : clOk 8 (RX8, TX8, 4) := ⟨good_mem (by decide +kernel), by decide +kernel, by decide +kernel, by decide +kernel, good_mem (ws := [_]) (by decide +kernel) _ List.mem_cons_self, good_mem (ws := [_]) (by decide +kernel) _ List.mem_cons_self⟩
set_option maxRecDepth 100000 in
theorem clOk9 : clOk 9 (RX9, TX9, 2) := ⟨good_mem (by decide +kernel), by decide +kernel, by decide +kernel, by decide +kernel, good_mem (ws := [_]) (by decide +kernel) _ List.mem_cons_self, good_mem (ws := [_]) (by decide +kernel) _ List.mem_cons_self⟩
set_option maxRecDepth 100000 in
theorem clOk10 : clOk 10 (RX10, TX10, 14) := ⟨good_mem (by decide +kernel), by decide +kernel, by decide +kernel, by decide +kernel, good_mem (ws := [_]) (by decide +kernel) _ List.mem_cons_self, good_mem (ws := [_]) (by decide +kernel) _ List.mem_cons_self⟩
set_option maxRecDepth 100000 in
theorem clOk11 : clOk 11 (RX11, TX11, 37) := ⟨good_mem (by decide +kernel), by decide +kernel, by decide +kernel, by decide +kernel, good_mem (ws := [_]) (by decide +kernel) _ List.mem_cons_self, good_mem (ws := [_]) (by decide +kernel) _ List.mem_cons_self⟩
theorem clOk_all {k : Nat} {q : vw_C} (h : vwCl[k]? = some q) : clOk k q := by
  match k, h with
  | 0, h => cases h; exact clOk0
  | 1, h => cases h; exact clOk1
  | 2, h => cases h; exact clOk2
  | 3, h => cases h; exact clOk3
  | 4, h => cases h; exact clOk4
  | 5, h => cases h; exact clOk5
  | 6, h => cases h; exact clOk6
  | 7, h => cases h; exact clOk7
  | 8, h => cases h; exact clOk8
  | 9, h => cases h; exact clOk9
  | 10, h => cases h; exact clOk10
  | 11, h => cases h; exact clOk11
  | k + 12, h => simp [vwCl] at h
