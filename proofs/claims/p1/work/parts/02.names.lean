/-! ===== BEGIN words of one list among another's, by their places ===== -/
theorem goodIn_r {big : List Cond} (ws : List Cond) (ps : List Nat) (hp : ws = ps.filterMap (fun i => big[i]?)) (h : ws.all goodWord = true) : GoodIn big ws := by
  intro w hw
  have h1 := List.all_eq_true.mp h w hw
  rw [hp] at hw
  obtain ⟨i, -, hi⟩ := List.mem_filterMap.mp hw
  have hm : w ∈ big := by first | exact List.mem_of_getElem? hi | exact List.getElem?_mem hi
  exact ⟨hm, good_of_word h1⟩
theorem goodIn_app {big a b : List Cond} (ha : GoodIn big a) (hb : GoodIn big b) : GoodIn big (a ++ b) := fun w h => (List.mem_append.mp h).elim (ha w) (hb w)
theorem goodIn_ca {big a b : List Cond} {c : Cond} (ha : GoodIn big (c :: a)) (hb : GoodIn big b) : GoodIn big (c :: (a ++ b)) := fun w h => (List.mem_cons.mp h).elim (fun e => ha w (List.mem_cons.mpr (Or.inl e))) (fun h => (List.mem_append.mp h).elim (fun h => ha w (List.mem_cons.mpr (Or.inr h))) (hb w))
theorem goodIn_sub {big ws : List Cond} (hm : ∀ w ∈ ws, w ∈ big) (h : ws.all goodWord = true) : GoodIn big ws := fun w hw => ⟨hm w hw, good_of_word (List.all_eq_true.mp h w hw)⟩
/-! ===== END ===== -/
def RX0 : String := "FilterHouse$Form"
def RX1 : String := "FilterHouse$Judge"
def TX1 : u_T := fun k => match k with
  | 0 => ("FilterHouse$Judge", "steps", "LFilterHouse$Steps;", true)
  | 1 => ("FilterHouse$Judge", "facts", "[I", true)
  | 2 => ("FilterHouse$Judge", "seen", "[Z", true)
  | 3 => ("FilterHouse$Judge", "known", "[J", true)
  | 4 => ("FilterHouse$Judge", "n", "I", false)
  | 5 => ("FilterHouse$Judge", "leads", "[Z", true)
  | 6 => ("FilterHouse$Judge", "begins", "[Z", true)
  | 7 => ("FilterHouse$Judge", "joins", "[Z", true)
  | 8 => ("FilterHouse$Judge", "functions", "[I", true)
  | 9 => ("FilterHouse$Judge", "kept", "[LFilterHouse$State;", true)
  | 10 => ("FilterHouse$Judge", "waits", "[LFilterHouse$State;", true)
  | 11 => ("FilterHouse$Judge", "waiting", "I", false)
  | 12 => ("FilterHouse$Judge", "firsts", "[LFilterHouse$State;", true)
  | 13 => ("FilterHouse$Judge", "lasts", "[LFilterHouse$State;", true)
  | 14 => ("FilterHouse$Judge", "here", "LFilterHouse$State;", false)
  | 15 => ("FilterHouse$Judge", "spare", "LFilterHouse$State;", false)
  | _ => ("FilterHouse$Judge", "pairs", "[I", true)
def tyX1 : Nat → FieldType := fun k => match k with
  | 0 => .object "FilterHouse$Steps"
  | 1 => .array .int
  | 2 => .array .boolean
  | 3 => .array .long
  | 4 => .int
  | 5 => .array .boolean
  | 6 => .array .boolean
  | 7 => .array .boolean
  | 8 => .array .int
  | 9 => .array (.object "FilterHouse$State")
  | 10 => .array (.object "FilterHouse$State")
  | 11 => .int
  | 12 => .array (.object "FilterHouse$State")
  | 13 => .array (.object "FilterHouse$State")
  | 14 => .object "FilterHouse$State"
  | 15 => .object "FilterHouse$State"
  | _ => .array .int
abbrev wsX10 : List Cond := u_ws RX1 TX1 17
theorem nmX1 : ∀ a, a < 17 → ∀ b, b < 17 → a ≠ b → (TX1 a).2.1 ≠ (TX1 b).2.1 := by decide +kernel
theorem tyX1_ok : ∀ k, k < 17 → parseFieldDescriptor (TX1 k).2.2.1 = some (tyX1 k) := by decide +kernel
theorem zz_dfX1 : ∀ j, j < 17 → defaultValue (tyX1 j) = vp_V [.null, .null, .null, .null, .int 0, .null, .null, .null, .null, .null, .null, .int 0, .null, .null, .null, .null, .null] j := by decide +kernel
theorem zz_gw_X1 : (wsX10).all goodWord = true := by decide +kernel
def RX2 : String := "FilterHouse$Maps"
def TX2 : u_T := fun k => match k with
  | 0 => ("FilterHouse$Maps", "room", "[B", true)
  | 1 => ("FilterHouse$Maps", "keys", "[B", true)
  | 2 => ("FilterHouse$Maps", "known", "[Z", true)
  | 3 => ("FilterHouse$Maps", "kind", "[I", true)
  | 4 => ("FilterHouse$Maps", "keySize", "[I", true)
  | 5 => ("FilterHouse$Maps", "valueSize", "[I", true)
  | 6 => ("FilterHouse$Maps", "most", "[I", true)
  | 7 => ("FilterHouse$Maps", "filled", "[I", true)
  | 8 => ("FilterHouse$Maps", "list", "[I", true)
  | 9 => ("FilterHouse$Maps", "recordSize", "[I", true)
  | 10 => ("FilterHouse$Maps", "state", "[B", true)
  | 11 => ("FilterHouse$Maps", "held", "[I", true)
  | _ => ("FilterHouse$Maps", "anyLater", "Z", false)
def tyX2 : Nat → FieldType := fun k => match k with
  | 0 => .array .byte
  | 1 => .array .byte
  | 2 => .array .boolean
  | 3 => .array .int
  | 4 => .array .int
  | 5 => .array .int
  | 6 => .array .int
  | 7 => .array .int
  | 8 => .array .int
  | 9 => .array .int
  | 10 => .array .byte
  | 11 => .array .int
  | _ => .boolean
abbrev wsX20 : List Cond := u_ws RX2 TX2 13
theorem nmX2 : ∀ a, a < 13 → ∀ b, b < 13 → a ≠ b → (TX2 a).2.1 ≠ (TX2 b).2.1 := by decide +kernel
theorem tyX2_ok : ∀ k, k < 13 → parseFieldDescriptor (TX2 k).2.2.1 = some (tyX2 k) := by decide +kernel
theorem zz_dfX2 : ∀ j, j < 13 → defaultValue (tyX2 j) = vp_V [.null, .null, .null, .null, .null, .null, .null, .null, .null, .null, .null, .null, .int 0] j := by decide +kernel
theorem zz_gw_X2 : (wsX20).all goodWord = true := by decide +kernel
def RX3 : String := "FilterHouse$Num"
def TX3 : u_T := fun k => match k with
  | 0 => ("FilterHouse$Num", "v", "J", false)
  | 1 => ("FilterHouse$Num", "m", "J", false)
  | 2 => ("FilterHouse$Num", "u1", "J", false)
  | 3 => ("FilterHouse$Num", "u2", "J", false)
  | 4 => ("FilterHouse$Num", "s1", "J", false)
  | _ => ("FilterHouse$Num", "s2", "J", false)
def tyX3 : Nat → FieldType := fun k => match k with
  | 0 => .long
  | 1 => .long
  | 2 => .long
  | 3 => .long
  | 4 => .long
  | _ => .long
abbrev wsX30 : List Cond := u_ws RX3 TX3 6
theorem nmX3 : ∀ a, a < 6 → ∀ b, b < 6 → a ≠ b → (TX3 a).2.1 ≠ (TX3 b).2.1 := by decide +kernel
theorem tyX3_ok : ∀ k, k < 6 → parseFieldDescriptor (TX3 k).2.2.1 = some (tyX3 k) := by decide +kernel
theorem zz_dfX3 : ∀ j, j < 6 → defaultValue (tyX3 j) = vp_V [.long 0, .long 0, .long 0, .long 0, .long 0, .long 0] j := by decide +kernel
theorem zz_gw_X3 : (wsX30).all goodWord = true := by decide +kernel
def RX4 : String := "FilterHouse$Out"
def TX4 : u_T := fun k => match k with
  | 0 => ("FilterHouse$Out", "data", "[B", true)
  | 1 => ("FilterHouse$Out", "size", "I", false)
  | _ => ("FilterHouse$Out", "digits", "[B", true)
def tyX4 : Nat → FieldType := fun k => match k with
  | 0 => .array .byte
  | 1 => .int
  | _ => .array .byte
abbrev wsX40 : List Cond := u_ws RX4 TX4 3
theorem nmX4 : ∀ a, a < 3 → ∀ b, b < 3 → a ≠ b → (TX4 a).2.1 ≠ (TX4 b).2.1 := by decide +kernel
theorem tyX4_ok : ∀ k, k < 3 → parseFieldDescriptor (TX4 k).2.2.1 = some (tyX4 k) := by decide +kernel
theorem zz_dfX4 : ∀ j, j < 3 → defaultValue (tyX4 j) = vp_V [.null, .int 0, .null] j := by decide +kernel
theorem zz_gw_X4 : (wsX40).all goodWord = true := by decide +kernel
def RX5 : String := "FilterHouse$Plain"
def TX5 : u_T := fun k => match k with
  | 0 => ("FilterHouse$Plain", "codes", "[[I", true)
  | 1 => ("FilterHouse$Plain", "sizes", "[I", true)
  | 2 => ("FilterHouse$Plain", "starts", "[I", true)
  | 3 => ("FilterHouse$Plain", "code", "[I", false)
  | 4 => ("FilterHouse$Plain", "size", "I", false)
  | _ => ("FilterHouse$Plain", "begun", "I", false)
def tyX5 : Nat → FieldType := fun k => match k with
  | 0 => .array (.array .int)
  | 1 => .array .int
  | 2 => .array .int
  | 3 => .array .int
  | 4 => .int
  | _ => .int
abbrev wsX50 : List Cond := u_ws RX5 TX5 6
theorem nmX5 : ∀ a, a < 6 → ∀ b, b < 6 → a ≠ b → (TX5 a).2.1 ≠ (TX5 b).2.1 := by decide +kernel
theorem tyX5_ok : ∀ k, k < 6 → parseFieldDescriptor (TX5 k).2.2.1 = some (tyX5 k) := by decide +kernel
theorem zz_dfX5 : ∀ j, j < 6 → defaultValue (tyX5 j) = vp_V [.null, .null, .null, .null, .int 0, .int 0] j := by decide +kernel
theorem zz_gw_X5 : (wsX50).all goodWord = true := by decide +kernel
def RX6 : String := "FilterHouse$Reader"
def TX6 : u_T := fun k => match k with
  | 0 => ("FilterHouse$Reader", "made", "[J", true)
  | 1 => ("FilterHouse$Reader", "count", "I", false)
  | 2 => ("FilterHouse$Reader", "text", "[B", false)
  | 3 => ("FilterHouse$Reader", "kinds", "[I", true)
  | 4 => ("FilterHouse$Reader", "begins", "[I", true)
  | 5 => ("FilterHouse$Reader", "ends", "[I", true)
  | 6 => ("FilterHouse$Reader", "values", "[J", true)
  | 7 => ("FilterHouse$Reader", "tokens", "I", false)
  | 8 => ("FilterHouse$Reader", "at", "I", false)
  | 9 => ("FilterHouse$Reader", "wrong", "I", false)
  | 10 => ("FilterHouse$Reader", "labels", "[I", true)
  | 11 => ("FilterHouse$Reader", "labelCount", "I", false)
  | 12 => ("FilterHouse$Reader", "links", "[I", true)
  | 13 => ("FilterHouse$Reader", "linkCount", "I", false)
  | 14 => ("FilterHouse$Reader", "word", "J", false)
  | 15 => ("FilterHouse$Reader", "second", "J", false)
  | 16 => ("FilterHouse$Reader", "pair", "Z", false)
  | 17 => ("FilterHouse$Reader", "any", "Z", false)
  | _ => ("FilterHouse$Reader", "where", "I", false)
def tyX6 : Nat → FieldType := fun k => match k with
  | 0 => .array .long
  | 1 => .int
  | 2 => .array .byte
  | 3 => .array .int
  | 4 => .array .int
  | 5 => .array .int
  | 6 => .array .long
  | 7 => .int
  | 8 => .int
  | 9 => .int
  | 10 => .array .int
  | 11 => .int
  | 12 => .array .int
  | 13 => .int
  | 14 => .long
  | 15 => .long
  | 16 => .boolean
  | 17 => .boolean
  | _ => .int
abbrev wsX60 : List Cond := u_ws RX6 TX6 19
theorem nmX6 : ∀ a, a < 19 → ∀ b, b < 19 → a ≠ b → (TX6 a).2.1 ≠ (TX6 b).2.1 := by decide +kernel
theorem tyX6_ok : ∀ k, k < 19 → parseFieldDescriptor (TX6 k).2.2.1 = some (tyX6 k) := by decide +kernel
theorem zz_dfX6 : ∀ j, j < 19 → defaultValue (tyX6 j) = vp_V [.null, .int 0, .null, .null, .null, .null, .null, .int 0, .int 0, .int 0, .null, .int 0, .null, .int 0, .long 0, .long 0, .int 0, .int 0, .int 0] j := by decide +kernel
theorem zz_gw_X6 : (wsX60).all goodWord = true := by decide +kernel
def RX7 : String := "FilterHouse$Runs"
def TX7 : u_T := fun k => match k with
  | 0 => ("FilterHouse$Runs", "slots", "LFilterHouse$Slots;", true)
  | 1 => ("FilterHouse$Runs", "maps", "LFilterHouse$Maps;", true)
  | 2 => ("FilterHouse$Runs", "plain", "LFilterHouse$Plain;", true)
  | 3 => ("FilterHouse$Runs", "regs", "[J", true)
  | 4 => ("FilterHouse$Runs", "saved", "[J", true)
  | 5 => ("FilterHouse$Runs", "backs", "[I", true)
  | 6 => ("FilterHouse$Runs", "depth", "I", false)
  | 7 => ("FilterHouse$Runs", "slot", "I", false)
  | 8 => ("FilterHouse$Runs", "next", "I", false)
  | 9 => ("FilterHouse$Runs", "over", "Z", false)
  | 10 => ("FilterHouse$Runs", "packetSize", "I", false)
  | 11 => ("FilterHouse$Runs", "mark", "I", false)
  | 12 => ("FilterHouse$Runs", "source", "I", false)
  | 13 => ("FilterHouse$Runs", "chance", "J", false)
  | 14 => ("FilterHouse$Runs", "result", "J", false)
  | 15 => ("FilterHouse$Runs", "tails", "I", false)
  | 16 => ("FilterHouse$Runs", "steps", "J", false)
  | 17 => ("FilterHouse$Runs", "trace", "[B", true)
  | _ => ("FilterHouse$Runs", "traceSize", "I", false)
def tyX7 : Nat → FieldType := fun k => match k with
  | 0 => .object "FilterHouse$Slots"
  | 1 => .object "FilterHouse$Maps"
  | 2 => .object "FilterHouse$Plain"
  | 3 => .array .long
  | 4 => .array .long
  | 5 => .array .int
  | 6 => .int
  | 7 => .int
  | 8 => .int
  | 9 => .boolean
  | 10 => .int
  | 11 => .int
  | 12 => .int
  | 13 => .long
  | 14 => .long
  | 15 => .int
  | 16 => .long
  | 17 => .array .byte
  | _ => .int
abbrev wsX70 : List Cond := u_ws RX7 TX7 19
theorem nmX7 : ∀ a, a < 19 → ∀ b, b < 19 → a ≠ b → (TX7 a).2.1 ≠ (TX7 b).2.1 := by decide +kernel
theorem tyX7_ok : ∀ k, k < 19 → parseFieldDescriptor (TX7 k).2.2.1 = some (tyX7 k) := by decide +kernel
theorem zz_dfX7 : ∀ j, j < 19 → defaultValue (tyX7 j) = vp_V [.null, .null, .null, .null, .null, .null, .int 0, .int 0, .int 0, .int 0, .int 0, .int 0, .int 0, .long 0, .long 0, .int 0, .long 0, .null, .int 0] j := by decide +kernel
theorem zz_gw_X7 : (wsX70).all goodWord = true := by decide +kernel
def RX8 : String := "FilterHouse$Slots"
def TX8 : u_T := fun k => match k with
  | 0 => ("FilterHouse$Slots", "code", "[[J", true)
  | 1 => ("FilterHouse$Slots", "count", "[I", true)
  | 2 => ("FilterHouse$Slots", "good", "[Z", true)
  | _ => ("FilterHouse$Slots", "turned", "[Z", true)
def tyX8 : Nat → FieldType := fun k => match k with
  | 0 => .array (.array .long)
  | 1 => .array .int
  | 2 => .array .boolean
  | _ => .array .boolean
abbrev wsX80 : List Cond := u_ws RX8 TX8 4
theorem nmX8 : ∀ a, a < 4 → ∀ b, b < 4 → a ≠ b → (TX8 a).2.1 ≠ (TX8 b).2.1 := by decide +kernel
theorem tyX8_ok : ∀ k, k < 4 → parseFieldDescriptor (TX8 k).2.2.1 = some (tyX8 k) := by decide +kernel
theorem zz_dfX8 : ∀ j, j < 4 → defaultValue (tyX8 j) = vp_V [.null, .null, .null, .null] j := by decide +kernel
theorem zz_gw_X8 : (wsX80).all goodWord = true := by decide +kernel
def RX9 : String := "FilterHouse$State"
def TX9 : u_T := fun k => match k with
  | 0 => ("FilterHouse$State", "row", "[J", true)
  | 1 => ("FilterHouse$State", "back", "[I", true)
  | 2 => ("FilterHouse$State", "held", "[I", true)
  | 3 => ("FilterHouse$State", "frames", "I", false)
  | 4 => ("FilterHouse$State", "holds", "I", false)
  | 5 => ("FilterHouse$State", "at", "I", false)
  | 6 => ("FilterHouse$State", "latest", "LFilterHouse$State;", false)
  | 7 => ("FilterHouse$State", "ahead", "I", false)
  | 8 => ("FilterHouse$State", "following", "LFilterHouse$State;", false)
  | 9 => ("FilterHouse$State", "longest", "I", false)
  | _ => ("FilterHouse$State", "done", "Z", false)
def tyX9 : Nat → FieldType := fun k => match k with
  | 0 => .array .long
  | 1 => .array .int
  | 2 => .array .int
  | 3 => .int
  | 4 => .int
  | 5 => .int
  | 6 => .object "FilterHouse$State"
  | 7 => .int
  | 8 => .object "FilterHouse$State"
  | 9 => .int
  | _ => .boolean
abbrev wsX90 : List Cond := u_ws RX9 TX9 11
theorem nmX9 : ∀ a, a < 11 → ∀ b, b < 11 → a ≠ b → (TX9 a).2.1 ≠ (TX9 b).2.1 := by decide +kernel
theorem tyX9_ok : ∀ k, k < 11 → parseFieldDescriptor (TX9 k).2.2.1 = some (tyX9 k) := by decide +kernel
theorem zz_dfX9 : ∀ j, j < 11 → defaultValue (tyX9 j) = vp_V [.null, .null, .null, .int 0, .int 0, .int 0, .null, .int 0, .null, .int 0, .int 0] j := by decide +kernel
theorem zz_gw_X9 : (wsX90).all goodWord = true := by decide +kernel
def RX10 : String := "FilterHouse$Steps"
def TX10 : u_T := fun k => match k with
  | 0 => ("FilterHouse$Steps", "maps", "LFilterHouse$Maps;", true)
  | 1 => ("FilterHouse$Steps", "here", "LFilterHouse$State;", false)
  | 2 => ("FilterHouse$Steps", "other", "LFilterHouse$State;", false)
  | 3 => ("FilterHouse$Steps", "both", "Z", false)
  | 4 => ("FilterHouse$Steps", "next", "I", false)
  | 5 => ("FilterHouse$Steps", "target", "I", false)
  | 6 => ("FilterHouse$Steps", "word", "J", false)
  | 7 => ("FilterHouse$Steps", "op", "I", false)
  | 8 => ("FilterHouse$Steps", "tags", "I", false)
  | 9 => ("FilterHouse$Steps", "zero", "LFilterHouse$Num;", true)
  | 10 => ("FilterHouse$Steps", "x", "LFilterHouse$Num;", true)
  | 11 => ("FilterHouse$Steps", "y", "LFilterHouse$Num;", true)
  | 12 => ("FilterHouse$Steps", "z", "LFilterHouse$Num;", true)
  | 13 => ("FilterHouse$Steps", "cutX", "LFilterHouse$Num;", true)
  | 14 => ("FilterHouse$Steps", "cutY", "LFilterHouse$Num;", true)
  | 15 => ("FilterHouse$Steps", "yesX", "LFilterHouse$Num;", true)
  | 16 => ("FilterHouse$Steps", "yesY", "LFilterHouse$Num;", true)
  | 17 => ("FilterHouse$Steps", "noX", "LFilterHouse$Num;", true)
  | _ => ("FilterHouse$Steps", "noY", "LFilterHouse$Num;", true)
def tyX10 : Nat → FieldType := fun k => match k with
  | 0 => .object "FilterHouse$Maps"
  | 1 => .object "FilterHouse$State"
  | 2 => .object "FilterHouse$State"
  | 3 => .boolean
  | 4 => .int
  | 5 => .int
  | 6 => .long
  | 7 => .int
  | 8 => .int
  | 9 => .object "FilterHouse$Num"
  | 10 => .object "FilterHouse$Num"
  | 11 => .object "FilterHouse$Num"
  | 12 => .object "FilterHouse$Num"
  | 13 => .object "FilterHouse$Num"
  | 14 => .object "FilterHouse$Num"
  | 15 => .object "FilterHouse$Num"
  | 16 => .object "FilterHouse$Num"
  | 17 => .object "FilterHouse$Num"
  | _ => .object "FilterHouse$Num"
abbrev wsX100 : List Cond := u_ws RX10 TX10 19
theorem nmX10 : ∀ a, a < 19 → ∀ b, b < 19 → a ≠ b → (TX10 a).2.1 ≠ (TX10 b).2.1 := by decide +kernel
theorem tyX10_ok : ∀ k, k < 19 → parseFieldDescriptor (TX10 k).2.2.1 = some (tyX10 k) := by decide +kernel
theorem zz_dfX10 : ∀ j, j < 19 → defaultValue (tyX10 j) = vp_V [.null, .null, .null, .int 0, .int 0, .int 0, .long 0, .int 0, .int 0, .null, .null, .null, .null, .null, .null, .null, .null, .null, .null] j := by decide +kernel
theorem zz_gw_X10 : (wsX100).all goodWord = true := by decide +kernel
def RX11 : String := "FilterHouse"
def TX11 : u_T := fun k => match k with
  | 0 => ("FilterHouse", "tape", "[B", true)
  | 1 => ("FilterHouse", "tapeSize", "I", false)
  | 2 => ("FilterHouse", "output", "LFilterHouse$Out;", true)
  | 3 => ("FilterHouse", "slots", "LFilterHouse$Slots;", true)
  | 4 => ("FilterHouse", "reader", "LFilterHouse$Reader;", true)
  | 5 => ("FilterHouse", "maps", "LFilterHouse$Maps;", true)
  | 6 => ("FilterHouse", "judges", "LFilterHouse$Judge;", true)
  | _ => ("FilterHouse", "runs", "LFilterHouse$Runs;", true)
def tyX11 : Nat → FieldType := fun k => match k with
  | 0 => .array .byte
  | 1 => .int
  | 2 => .object "FilterHouse$Out"
  | 3 => .object "FilterHouse$Slots"
  | 4 => .object "FilterHouse$Reader"
  | 5 => .object "FilterHouse$Maps"
  | 6 => .object "FilterHouse$Judge"
  | _ => .object "FilterHouse$Runs"
abbrev wsX110 : List Cond := u_ws RX11 TX11 8
theorem nmX11 : ∀ a, a < 8 → ∀ b, b < 8 → a ≠ b → (TX11 a).2.1 ≠ (TX11 b).2.1 := by decide +kernel
theorem tyX11_ok : ∀ k, k < 8 → parseFieldDescriptor (TX11 k).2.2.1 = some (tyX11 k) := by decide +kernel
theorem zz_dfX11 : ∀ j, j < 8 → defaultValue (tyX11 j) = vp_V [.null, .int 0, .null, .null, .null, .null, .null, .null] j := by decide +kernel
theorem zz_gw_X11 : (wsX110).all goodWord = true := by decide +kernel
def RX12 : String := "FilterHouseModel"
def TX12 : u_T := fun k => match k with
  | 0 => ("FilterHouseModel", "tape", "[B", true)
  | 1 => ("FilterHouseModel", "tapeSize", "I", false)
  | 2 => ("FilterHouseModel", "out", "[B", true)
  | 3 => ("FilterHouseModel", "outSize", "I", false)
  | 4 => ("FilterHouseModel", "code", "[J", true)
  | 5 => ("FilterHouseModel", "sizes", "[I", true)
  | 6 => ("FilterHouseModel", "isTaken", "[Z", true)
  | 7 => ("FilterHouseModel", "textSize", "I", false)
  | 8 => ("FilterHouseModel", "at", "I", false)
  | 9 => ("FilterHouseModel", "kind", "I", false)
  | 10 => ("FilterHouseModel", "begin", "I", false)
  | 11 => ("FilterHouseModel", "sign", "I", false)
  | 12 => ("FilterHouseModel", "number", "J", false)
  | 13 => ("FilterHouseModel", "isOver", "Z", false)
  | 14 => ("FilterHouseModel", "wrong", "I", false)
  | 15 => ("FilterHouseModel", "made", "[J", true)
  | 16 => ("FilterHouseModel", "mades", "I", false)
  | 17 => ("FilterHouseModel", "labelFrom", "[I", true)
  | 18 => ("FilterHouseModel", "labelSize", "[I", true)
  | 19 => ("FilterHouseModel", "labelWord", "[I", true)
  | 20 => ("FilterHouseModel", "labels", "I", false)
  | 21 => ("FilterHouseModel", "useWord", "[I", true)
  | 22 => ("FilterHouseModel", "useFrom", "[I", true)
  | 23 => ("FilterHouseModel", "useSize", "[I", true)
  | 24 => ("FilterHouseModel", "useWide", "[Z", true)
  | 25 => ("FilterHouseModel", "uses", "I", false)
  | 26 => ("FilterHouseModel", "op", "I", false)
  | 27 => ("FilterHouseModel", "dReg", "I", false)
  | 28 => ("FilterHouseModel", "sReg", "I", false)
  | 29 => ("FilterHouseModel", "offPart", "I", false)
  | 30 => ("FilterHouseModel", "immPart", "I", false)
  | 31 => ("FilterHouseModel", "isWhole", "Z", false)
  | 32 => ("FilterHouseModel", "whole", "J", false)
  | 33 => ("FilterHouseModel", "isTwo", "Z", false)
  | 34 => ("FilterHouseModel", "pointerReg", "I", false)
  | 35 => ("FilterHouseModel", "pointerOff", "I", false)
  | 36 => ("FilterHouseModel", "sizeBits", "I", false)
  | 37 => ("FilterHouseModel", "isSignedSize", "Z", false)
  | 38 => ("FilterHouseModel", "digits", "[B", true)
  | 39 => ("FilterHouseModel", "isMap", "[Z", true)
  | 40 => ("FilterHouseModel", "mapKind", "[I", true)
  | 41 => ("FilterHouseModel", "keySize", "[I", true)
  | 42 => ("FilterHouseModel", "valueSize", "[I", true)
  | 43 => ("FilterHouseModel", "most", "[I", true)
  | 44 => ("FilterHouseModel", "cells", "[B", true)
  | 45 => ("FilterHouseModel", "entries", "[I", true)
  | 46 => ("FilterHouseModel", "keys", "[B", true)
  | 47 => ("FilterHouseModel", "cellOf", "[I", true)
  | 48 => ("FilterHouseModel", "isUsed", "[Z", true)
  | 49 => ("FilterHouseModel", "isGoing", "[Z", true)
  | 50 => ("FilterHouseModel", "links", "[I", true)
  | 51 => ("FilterHouseModel", "finished", "[I", true)
  | 52 => ("FilterHouseModel", "finishedSize", "[I", true)
  | 53 => ("FilterHouseModel", "finishedBytes", "[B", true)
  | 54 => ("FilterHouseModel", "isRunning", "Z", false)
  | 55 => ("FilterHouseModel", "key", "[B", true)
  | 56 => ("FilterHouseModel", "value", "[B", true)
  | 57 => ("FilterHouseModel", "v", "[J", true)
  | 58 => ("FilterHouseModel", "m", "[J", true)
  | 59 => ("FilterHouseModel", "u1", "[J", true)
  | 60 => ("FilterHouseModel", "u2", "[J", true)
  | 61 => ("FilterHouseModel", "s1", "[J", true)
  | 62 => ("FilterHouseModel", "s2", "[J", true)
  | 63 => ("FilterHouseModel", "kinds", "[B", true)
  | 64 => ("FilterHouseModel", "offs", "[I", true)
  | 65 => ("FilterHouseModel", "whats", "[I", true)
  | 66 => ("FilterHouseModel", "tags", "[I", true)
  | 67 => ("FilterHouseModel", "reaches", "[I", true)
  | 68 => ("FilterHouseModel", "frames", "[I", true)
  | 69 => ("FilterHouseModel", "backs", "[I", true)
  | 70 => ("FilterHouseModel", "holds", "[I", true)
  | 71 => ("FilterHouseModel", "held", "[I", true)
  | 72 => ("FilterHouseModel", "keeps", "I", false)
  | 73 => ("FilterHouseModel", "keptAt", "[I", true)
  | 74 => ("FilterHouseModel", "keptBefore", "[I", true)
  | 75 => ("FilterHouseModel", "keptFar", "[I", true)
  | 76 => ("FilterHouseModel", "keptWays", "[I", true)
  | 77 => ("FilterHouseModel", "keptLongest", "[I", true)
  | 78 => ("FilterHouseModel", "waiting", "I", false)
  | 79 => ("FilterHouseModel", "waitAt", "[I", true)
  | 80 => ("FilterHouseModel", "waitKept", "[I", true)
  | 81 => ("FilterHouseModel", "waitFar", "[I", true)
  | 82 => ("FilterHouseModel", "latest", "I", false)
  | 83 => ("FilterHouseModel", "far", "I", false)
  | 84 => ("FilterHouseModel", "gone", "I", false)
  | 85 => ("FilterHouseModel", "newTag", "I", false)
  | 86 => ("FilterHouseModel", "slotAt", "I", false)
  | 87 => ("FilterHouseModel", "here", "I", false)
  | 88 => ("FilterHouseModel", "there", "I", false)
  | 89 => ("FilterHouseModel", "isEnd", "Z", false)
  | 90 => ("FilterHouseModel", "fault", "I", false)
  | 91 => ("FilterHouseModel", "isStart", "[Z", true)
  | 92 => ("FilterHouseModel", "isJoin", "[Z", true)
  | 93 => ("FilterHouseModel", "begins", "[Z", true)
  | 94 => ("FilterHouseModel", "told", "[I", true)
  | 95 => ("FilterHouseModel", "hasJudged", "Z", false)
  | 96 => ("FilterHouseModel", "wasGone", "[Z", true)
  | 97 => ("FilterHouseModel", "knownNumbers", "[J", true)
  | 98 => ("FilterHouseModel", "knownOthers", "[I", true)
  | 99 => ("FilterHouseModel", "tagKept", "[I", true)
  | 100 => ("FilterHouseModel", "tagNow", "[I", true)
  | 101 => ("FilterHouseModel", "tagPairs", "I", false)
  | 102 => ("FilterHouseModel", "placeByte", "I", false)
  | 103 => ("FilterHouseModel", "placeFrame", "I", false)
  | 104 => ("FilterHouseModel", "packet", "[B", true)
  | 105 => ("FilterHouseModel", "packetSize", "I", false)
  | 106 => ("FilterHouseModel", "mark", "I", false)
  | 107 => ("FilterHouseModel", "source", "I", false)
  | 108 => ("FilterHouseModel", "chances", "J", false)
  | 109 => ("FilterHouseModel", "result", "J", false)
  | 110 => ("FilterHouseModel", "tails", "I", false)
  | 111 => ("FilterHouseModel", "allSteps", "J", false)
  | 112 => ("FilterHouseModel", "trace", "[B", true)
  | 113 => ("FilterHouseModel", "traced", "I", false)
  | 114 => ("FilterHouseModel", "regs", "[J", true)
  | 115 => ("FilterHouseModel", "stacks", "[B", true)
  | 116 => ("FilterHouseModel", "goesBack", "[I", true)
  | 117 => ("FilterHouseModel", "frame", "I", false)
  | 118 => ("FilterHouseModel", "records", "[B", true)
  | 119 => ("FilterHouseModel", "recordSize", "[I", true)
  | 120 => ("FilterHouseModel", "recordMap", "[I", true)
  | 121 => ("FilterHouseModel", "isHeld", "[Z", true)
  | 122 => ("FilterHouseModel", "runSlot", "I", false)
  | 123 => ("FilterHouseModel", "runAt", "I", false)
  | _ => ("FilterHouseModel", "runs", "Z", false)
def tyX12 : Nat → FieldType := fun k => match k with
  | 0 => .array .byte
  | 1 => .int
  | 2 => .array .byte
  | 3 => .int
  | 4 => .array .long
  | 5 => .array .int
  | 6 => .array .boolean
  | 7 => .int
  | 8 => .int
  | 9 => .int
  | 10 => .int
  | 11 => .int
  | 12 => .long
  | 13 => .boolean
  | 14 => .int
  | 15 => .array .long
  | 16 => .int
  | 17 => .array .int
  | 18 => .array .int
  | 19 => .array .int
  | 20 => .int
  | 21 => .array .int
  | 22 => .array .int
  | 23 => .array .int
  | 24 => .array .boolean
  | 25 => .int
  | 26 => .int
  | 27 => .int
  | 28 => .int
  | 29 => .int
  | 30 => .int
  | 31 => .boolean
  | 32 => .long
  | 33 => .boolean
  | 34 => .int
  | 35 => .int
  | 36 => .int
  | 37 => .boolean
  | 38 => .array .byte
  | 39 => .array .boolean
  | 40 => .array .int
  | 41 => .array .int
  | 42 => .array .int
  | 43 => .array .int
  | 44 => .array .byte
  | 45 => .array .int
  | 46 => .array .byte
  | 47 => .array .int
  | 48 => .array .boolean
  | 49 => .array .boolean
  | 50 => .array .int
  | 51 => .array .int
  | 52 => .array .int
  | 53 => .array .byte
  | 54 => .boolean
  | 55 => .array .byte
  | 56 => .array .byte
  | 57 => .array .long
  | 58 => .array .long
  | 59 => .array .long
  | 60 => .array .long
  | 61 => .array .long
  | 62 => .array .long
  | 63 => .array .byte
  | 64 => .array .int
  | 65 => .array .int
  | 66 => .array .int
  | 67 => .array .int
  | 68 => .array .int
  | 69 => .array .int
  | 70 => .array .int
  | 71 => .array .int
  | 72 => .int
  | 73 => .array .int
  | 74 => .array .int
  | 75 => .array .int
  | 76 => .array .int
  | 77 => .array .int
  | 78 => .int
  | 79 => .array .int
  | 80 => .array .int
  | 81 => .array .int
  | 82 => .int
  | 83 => .int
  | 84 => .int
  | 85 => .int
  | 86 => .int
  | 87 => .int
  | 88 => .int
  | 89 => .boolean
  | 90 => .int
  | 91 => .array .boolean
  | 92 => .array .boolean
  | 93 => .array .boolean
  | 94 => .array .int
  | 95 => .boolean
  | 96 => .array .boolean
  | 97 => .array .long
  | 98 => .array .int
  | 99 => .array .int
  | 100 => .array .int
  | 101 => .int
  | 102 => .int
  | 103 => .int
  | 104 => .array .byte
  | 105 => .int
  | 106 => .int
  | 107 => .int
  | 108 => .long
  | 109 => .long
  | 110 => .int
  | 111 => .long
  | 112 => .array .byte
  | 113 => .int
  | 114 => .array .long
  | 115 => .array .byte
  | 116 => .array .int
  | 117 => .int
  | 118 => .array .byte
  | 119 => .array .int
  | 120 => .array .int
  | 121 => .array .boolean
  | 122 => .int
  | 123 => .int
  | _ => .boolean
abbrev wsX120 : List Cond := u_ws RX12 TX12 125
theorem nmX12 : ∀ a, a < 125 → ∀ b, b < 125 → a ≠ b → (TX12 a).2.1 ≠ (TX12 b).2.1 := by decide +kernel
theorem tyX12_ok : ∀ k, k < 125 → parseFieldDescriptor (TX12 k).2.2.1 = some (tyX12 k) := by decide +kernel
theorem zz_dfX12 : ∀ j, j < 125 → defaultValue (tyX12 j) = vp_V [.null, .int 0, .null, .int 0, .null, .null, .null, .int 0, .int 0, .int 0, .int 0, .int 0, .long 0, .int 0, .int 0, .null, .int 0, .null, .null, .null, .int 0, .null, .null, .null, .null, .int 0, .int 0, .int 0, .int 0, .int 0, .int 0, .int 0, .long 0, .int 0, .int 0, .int 0, .int 0, .int 0, .null, .null, .null, .null, .null, .null, .null, .null, .null, .null, .null, .null, .null, .null, .null, .null, .int 0, .null, .null, .null, .null, .null, .null, .null, .null, .null, .null, .null, .null, .null, .null, .null, .null, .null, .int 0, .null, .null, .null, .null, .null, .int 0, .null, .null, .null, .int 0, .int 0, .int 0, .int 0, .int 0, .int 0, .int 0, .int 0, .int 0, .null, .null, .null, .null, .int 0, .null, .null, .null, .null, .null, .int 0, .int 0, .int 0, .null, .int 0, .int 0, .int 0, .long 0, .long 0, .int 0, .long 0, .null, .int 0, .null, .null, .null, .int 0, .null, .null, .null, .null, .int 0, .int 0, .int 0] j := by decide +kernel
theorem zz_gw_X12 : (wsX120).all goodWord = true := by decide +kernel
def RL : String := "FilterHouseLaw"
abbrev zz_cl : List vw_C := [(RX1, TX1, 17), (RX2, TX2, 13), (RX3, TX3, 6), (RX4, TX4, 3), (RX5, TX5, 6), (RX6, TX6, 19), (RX7, TX7, 19), (RX8, TX8, 4), (RX9, TX9, 11), (RX10, TX10, 19), (RX11, TX11, 8), (RX12, TX12, 125)]
abbrev cL_law : ByteArray := code
def yL_law : MethodName := ⟨RL, "law", "([I)Z"⟩
abbrev cX10_init : ByteArray := prog_12_method_1_code
def yX10_init : MethodName := ⟨RX10, "<init>", "(LFilterHouse$Maps;)V"⟩
abbrev cX11_assemble : ByteArray := prog_1_method_6_code
def yX11_assemble : MethodName := ⟨RX11, "assemble", "(I)I"⟩
abbrev cX11_chances : ByteArray := prog_1_method_30_code
def yX11_chances : MethodName := ⟨RX11, "chances", "(J)V"⟩
abbrev cX11_cut : ByteArray := prog_1_method_4_code
def yX11_cut : MethodName := ⟨RX11, "cut", "(I)I"⟩
abbrev cX11_entry : ByteArray := prog_1_method_21_code
def yX11_entry : MethodName := ⟨RX11, "entry", "(II)I"⟩
abbrev cX11_feed : ByteArray := prog_1_method_2_code
def yX11_feed : MethodName := ⟨RX11, "feed", "(IIIII)I"⟩
abbrev cX11_feedNumber : ByteArray := prog_1_method_3_code
def yX11_feedNumber : MethodName := ⟨RX11, "feedNumber", "(I)V"⟩
abbrev cX11_get : ByteArray := prog_1_method_19_code
def yX11_get : MethodName := ⟨RX11, "get", "(I)I"⟩
abbrev cX11_given : ByteArray := prog_1_method_28_code
def yX11_given : MethodName := ⟨RX11, "given", "(II)V"⟩
abbrev cX11_init : ByteArray := prog_1_method_1_code
def yX11_init : MethodName := ⟨RX11, "<init>", "()V"⟩
abbrev cX11_judge : ByteArray := prog_1_method_13_code
def yX11_judge : MethodName := ⟨RX11, "judge", "(I)I"⟩
abbrev cX11_known : ByteArray := prog_1_method_16_code
def yX11_known : MethodName := ⟨RX11, "known", "(III)J"⟩
abbrev cX11_length : ByteArray := prog_1_method_26_code
def yX11_length : MethodName := ⟨RX11, "length", "()I"⟩
abbrev cX11_link : ByteArray := prog_1_method_23_code
def yX11_link : MethodName := ⟨RX11, "link", "(III)Z"⟩
abbrev cX11_load : ByteArray := prog_1_method_7_code
def yX11_load : MethodName := ⟨RX11, "load", "(I)I"⟩
abbrev cX11_map : ByteArray := prog_1_method_17_code
def yX11_map : MethodName := ⟨RX11, "map", "(IIIII)Z"⟩
abbrev cX11_mark : ByteArray := prog_1_method_29_code
def yX11_mark : MethodName := ⟨RX11, "mark", "()I"⟩
abbrev cX11_next : ByteArray := prog_1_method_24_code
def yX11_next : MethodName := ⟨RX11, "next", "(I)I"⟩
abbrev cX11_out : ByteArray := prog_1_method_12_code
def yX11_out : MethodName := ⟨RX11, "out", "(I)I"⟩
abbrev cX11_outs : ByteArray := prog_1_method_11_code
def yX11_outs : MethodName := ⟨RX11, "outs", "()I"⟩
abbrev cX11_packet : ByteArray := prog_1_method_25_code
def yX11_packet : MethodName := ⟨RX11, "packet", "()I"⟩
abbrev cX11_packetByte : ByteArray := prog_1_method_27_code
def yX11_packetByte : MethodName := ⟨RX11, "packetByte", "(I)I"⟩
abbrev cX11_print : ByteArray := prog_1_method_10_code
def yX11_print : MethodName := ⟨RX11, "print", "(I)I"⟩
abbrev cX11_put : ByteArray := prog_1_method_18_code
def yX11_put : MethodName := ⟨RX11, "put", "(II)I"⟩
abbrev cX11_remove : ByteArray := prog_1_method_20_code
def yX11_remove : MethodName := ⟨RX11, "remove", "(I)I"⟩
abbrev cX11_result : ByteArray := prog_1_method_32_code
def yX11_result : MethodName := ⟨RX11, "result", "()J"⟩
abbrev cX11_run : ByteArray := prog_1_method_31_code
def yX11_run : MethodName := ⟨RX11, "run", "(II)I"⟩
abbrev cX11_size : ByteArray := prog_1_method_22_code
def yX11_size : MethodName := ⟨RX11, "size", "(I)I"⟩
abbrev cX11_steps : ByteArray := prog_1_method_34_code
def yX11_steps : MethodName := ⟨RX11, "steps", "()J"⟩
abbrev cX11_tails : ByteArray := prog_1_method_33_code
def yX11_tails : MethodName := ⟨RX11, "tails", "()I"⟩
abbrev cX11_taken : ByteArray := prog_1_method_14_code
def yX11_taken : MethodName := ⟨RX11, "taken", "(I)Z"⟩
abbrev cX11_tear : ByteArray := prog_1_method_37_code
def yX11_tear : MethodName := ⟨RX11, "tear", "()I"⟩
abbrev cX11_told : ByteArray := prog_1_method_15_code
def yX11_told : MethodName := ⟨RX11, "told", "(I)I"⟩
abbrev cX11_trace : ByteArray := prog_1_method_36_code
def yX11_trace : MethodName := ⟨RX11, "trace", "(I)I"⟩
abbrev cX11_traces : ByteArray := prog_1_method_35_code
def yX11_traces : MethodName := ⟨RX11, "traces", "()I"⟩
abbrev cX11_useTape : ByteArray := prog_1_method_5_code
def yX11_useTape : MethodName := ⟨RX11, "useTape", "()I"⟩
abbrev cX11_word : ByteArray := prog_1_method_9_code
def yX11_word : MethodName := ⟨RX11, "word", "(II)J"⟩
abbrev cX11_words : ByteArray := prog_1_method_8_code
def yX11_words : MethodName := ⟨RX11, "words", "(I)I"⟩
abbrev cX12_advance : ByteArray := prog_14_method_31_code
def yX12_advance : MethodName := ⟨RX12, "advance", "()V"⟩
abbrev cX12_assemble : ByteArray := prog_14_method_42_code
def yX12_assemble : MethodName := ⟨RX12, "assemble", "(I)I"⟩
abbrev cX12_chances : ByteArray := prog_14_method_218_code
def yX12_chances : MethodName := ⟨RX12, "chances", "(J)V"⟩
abbrev cX12_cut : ByteArray := prog_14_method_5_code
def yX12_cut : MethodName := ⟨RX12, "cut", "(I)I"⟩
abbrev cX12_entry : ByteArray := prog_14_method_95_code
def yX12_entry : MethodName := ⟨RX12, "entry", "(II)I"⟩
abbrev cX12_feed : ByteArray := prog_14_method_3_code
def yX12_feed : MethodName := ⟨RX12, "feed", "(IIIII)I"⟩
abbrev cX12_get : ByteArray := prog_14_method_91_code
def yX12_get : MethodName := ⟨RX12, "get", "(I)I"⟩
abbrev cX12_given : ByteArray := prog_14_method_216_code
def yX12_given : MethodName := ⟨RX12, "given", "(II)V"⟩
abbrev cX12_good : ByteArray := prog_14_method_34_code
def yX12_good : MethodName := ⟨RX12, "good", "()Z"⟩
abbrev cX12_holdsValues : ByteArray := prog_14_method_83_code
def yX12_holdsValues : MethodName := ⟨RX12, "holdsValues", "(I)Z"⟩
abbrev cX12_init : ByteArray := prog_14_method_1_code
def yX12_init : MethodName := ⟨RX12, "<init>", "()V"⟩
abbrev cX12_isKind : ByteArray := prog_14_method_94_code
def yX12_isKind : MethodName := ⟨RX12, "isKind", "(II)Z"⟩
abbrev cX12_isSlot : ByteArray := prog_14_method_7_code
def yX12_isSlot : MethodName := ⟨RX12, "isSlot", "(I)Z"⟩
abbrev cX12_judge : ByteArray := prog_14_method_146_code
def yX12_judge : MethodName := ⟨RX12, "judge", "(I)I"⟩
abbrev cX12_known : ByteArray := prog_14_method_167_code
def yX12_known : MethodName := ⟨RX12, "known", "(III)J"⟩
abbrev cX12_lay : ByteArray := prog_14_method_4_code
def yX12_lay : MethodName := ⟨RX12, "lay", "(I)V"⟩
abbrev cX12_length : ByteArray := prog_14_method_214_code
def yX12_length : MethodName := ⟨RX12, "length", "()I"⟩
abbrev cX12_link : ByteArray := prog_14_method_97_code
def yX12_link : MethodName := ⟨RX12, "link", "(III)Z"⟩
abbrev cX12_load : ByteArray := prog_14_method_22_code
def yX12_load : MethodName := ⟨RX12, "load", "(I)I"⟩
abbrev cX12_map : ByteArray := prog_14_method_82_code
def yX12_map : MethodName := ⟨RX12, "map", "(IIIII)Z"⟩
abbrev cX12_mark : ByteArray := prog_14_method_217_code
def yX12_mark : MethodName := ⟨RX12, "mark", "()I"⟩
abbrev cX12_mistake : ByteArray := prog_14_method_35_code
def yX12_mistake : MethodName := ⟨RX12, "mistake", "(I)V"⟩
abbrev cX12_next : ByteArray := prog_14_method_98_code
def yX12_next : MethodName := ⟨RX12, "next", "(I)I"⟩
abbrev cX12_out : ByteArray := prog_14_method_26_code
def yX12_out : MethodName := ⟨RX12, "out", "(I)I"⟩
abbrev cX12_outs : ByteArray := prog_14_method_25_code
def yX12_outs : MethodName := ⟨RX12, "outs", "()I"⟩
abbrev cX12_packet : ByteArray := prog_14_method_213_code
def yX12_packet : MethodName := ⟨RX12, "packet", "()I"⟩
abbrev cX12_packetByte : ByteArray := prog_14_method_215_code
def yX12_packetByte : MethodName := ⟨RX12, "packetByte", "(I)I"⟩
abbrev cX12_peek : ByteArray := prog_14_method_27_code
def yX12_peek : MethodName := ⟨RX12, "peek", "(I)I"⟩
abbrev cX12_print : ByteArray := prog_14_method_74_code
def yX12_print : MethodName := ⟨RX12, "print", "(I)I"⟩
abbrev cX12_put : ByteArray := prog_14_method_90_code
def yX12_put : MethodName := ⟨RX12, "put", "(II)I"⟩
abbrev cX12_remove : ByteArray := prog_14_method_93_code
def yX12_remove : MethodName := ⟨RX12, "remove", "(I)I"⟩
abbrev cX12_result : ByteArray := prog_14_method_219_code
def yX12_result : MethodName := ⟨RX12, "result", "()J"⟩
abbrev cX12_run : ByteArray := prog_14_method_227_code
def yX12_run : MethodName := ⟨RX12, "run", "(II)I"⟩
abbrev cX12_size : ByteArray := prog_14_method_96_code
def yX12_size : MethodName := ⟨RX12, "size", "(I)I"⟩
abbrev cX12_steps : ByteArray := prog_14_method_221_code
def yX12_steps : MethodName := ⟨RX12, "steps", "()J"⟩
abbrev cX12_tails : ByteArray := prog_14_method_220_code
def yX12_tails : MethodName := ⟨RX12, "tails", "()I"⟩
abbrev cX12_takeKey : ByteArray := prog_14_method_89_code
def yX12_takeKey : MethodName := ⟨RX12, "takeKey", "(IZ)Z"⟩
abbrev cX12_takeTape : ByteArray := prog_14_method_6_code
def yX12_takeTape : MethodName := ⟨RX12, "takeTape", "()I"⟩
abbrev cX12_taken : ByteArray := prog_14_method_147_code
def yX12_taken : MethodName := ⟨RX12, "taken", "(I)Z"⟩
abbrev cX12_tear : ByteArray := prog_14_method_224_code
def yX12_tear : MethodName := ⟨RX12, "tear", "()I"⟩
abbrev cX12_told : ByteArray := prog_14_method_148_code
def yX12_told : MethodName := ⟨RX12, "told", "(I)I"⟩
abbrev cX12_trace : ByteArray := prog_14_method_223_code
def yX12_trace : MethodName := ⟨RX12, "trace", "(I)I"⟩
abbrev cX12_traces : ByteArray := prog_14_method_222_code
def yX12_traces : MethodName := ⟨RX12, "traces", "()I"⟩
abbrev cX12_word : ByteArray := prog_14_method_24_code
def yX12_word : MethodName := ⟨RX12, "word", "(II)J"⟩
abbrev cX12_words : ByteArray := prog_14_method_23_code
def yX12_words : MethodName := ⟨RX12, "words", "(I)I"⟩
abbrev cX1_init : ByteArray := prog_3_method_1_code
def yX1_init : MethodName := ⟨RX1, "<init>", "(LFilterHouse$Maps;)V"⟩
abbrev cX1_seenValue : ByteArray := prog_3_method_3_code
def yX1_seenValue : MethodName := ⟨RX1, "seenValue", "(III)J"⟩
abbrev cX2_init : ByteArray := prog_4_method_1_code
def yX2_init : MethodName := ⟨RX2, "<init>", "()V"⟩
abbrev cX2_isKeyed : ByteArray := prog_4_method_7_code
def yX2_isKeyed : MethodName := ⟨RX2, "isKeyed", "(I)Z"⟩
abbrev cX2_isKind : ByteArray := prog_4_method_6_code
def yX2_isKind : MethodName := ⟨RX2, "isKind", "(II)Z"⟩
abbrev cX2_isShape : ByteArray := prog_4_method_9_code
def yX2_isShape : MethodName := ⟨RX2, "isShape", "(III)Z"⟩
abbrev cX2_isTold : ByteArray := prog_4_method_5_code
def yX2_isTold : MethodName := ⟨RX2, "isTold", "(I)Z"⟩
abbrev cX2_tell : ByteArray := prog_4_method_8_code
def yX2_tell : MethodName := ⟨RX2, "tell", "(IIIII)Z"⟩
abbrev cX3_init : ByteArray := prog_5_method_1_code
def yX3_init : MethodName := ⟨RX3, "<init>", "()V"⟩
abbrev cX4_init : ByteArray := prog_6_method_1_code
def yX4_init : MethodName := ⟨RX4, "<init>", "()V"⟩
abbrev cX5_init : ByteArray := prog_7_method_1_code
def yX5_init : MethodName := ⟨RX5, "<init>", "()V"⟩
abbrev cX6_addToken : ByteArray := prog_8_method_4_code
def yX6_addToken : MethodName := ⟨RX6, "addToken", "(IIIJ)V"⟩
abbrev cX6_findTokens : ByteArray := prog_8_method_3_code
def yX6_findTokens : MethodName := ⟨RX6, "findTokens", "(I)V"⟩
abbrev cX6_init : ByteArray := prog_8_method_1_code
def yX6_init : MethodName := ⟨RX6, "<init>", "()V"⟩
abbrev cX6_read : ByteArray := prog_8_method_2_code
def yX6_read : MethodName := ⟨RX6, "read", "([BI)I"⟩
abbrev cX6_readLine : ByteArray := prog_8_method_20_code
def yX6_readLine : MethodName := ⟨RX6, "readLine", "()Z"⟩
abbrev cX6_resolve : ByteArray := prog_8_method_24_code
def yX6_resolve : MethodName := ⟨RX6, "resolve", "()V"⟩
abbrev cX7_init : ByteArray := prog_9_method_1_code
def yX7_init : MethodName := ⟨RX7, "<init>", "(LFilterHouse$Slots;LFilterHouse$Maps;)V"⟩
abbrev cX8_init : ByteArray := prog_10_method_1_code
def yX8_init : MethodName := ⟨RX8, "<init>", "()V"⟩
abbrev cX8_isSlot : ByteArray := prog_10_method_2_code
def yX8_isSlot : MethodName := ⟨RX8, "isSlot", "(I)Z"⟩
abbrev cX9_init : ByteArray := prog_11_method_1_code
def yX9_init : MethodName := ⟨RX9, "<init>", "()V"⟩
theorem dL_law_0 : decode cL_law 0 = .ok (.new 7, 3) := by decide +kernel
theorem dL_law_3 : decode cL_law 3 = .ok (.dup, 1) := by decide +kernel
theorem dL_law_4 : decode cL_law 4 = .ok (.invokespecial 9, 3) := by decide +kernel
theorem dL_law_7 : decode cL_law 7 = .ok (.astore_n 1, 1) := by decide +kernel
theorem dL_law_8 : decode cL_law 8 = .ok (.new 10, 3) := by decide +kernel
theorem dL_law_11 : decode cL_law 11 = .ok (.dup, 1) := by decide +kernel
theorem dL_law_12 : decode cL_law 12 = .ok (.invokespecial 12, 3) := by decide +kernel
theorem dL_law_15 : decode cL_law 15 = .ok (.astore_n 2, 1) := by decide +kernel
theorem dL_law_16 : decode cL_law 16 = .ok (.iconst 0, 1) := by decide +kernel
theorem dL_law_17 : decode cL_law 17 = .ok (.istore_n 3, 1) := by decide +kernel
theorem dL_law_18 : decode cL_law 18 = .ok (.iload_n 3, 1) := by decide +kernel
theorem dL_law_19 : decode cL_law 19 = .ok (.aload_n 0, 1) := by decide +kernel
theorem dL_law_20 : decode cL_law 20 = .ok (.arraylength, 1) := by decide +kernel
theorem dL_law_21 : decode cL_law 21 = .ok (.bipush 6, 2) := by decide +kernel
theorem dL_law_23 : decode cL_law 23 = .ok (.isub, 1) := by decide +kernel
theorem dL_law_24 : decode cL_law 24 = .ok (.if_icmp .gt 1058, 3) := by decide +kernel
theorem dL_law_27 : decode cL_law 27 = .ok (.aload_n 0, 1) := by decide +kernel
theorem dL_law_28 : decode cL_law 28 = .ok (.iload_n 3, 1) := by decide +kernel
theorem dL_law_29 : decode cL_law 29 = .ok (.iaload, 1) := by decide +kernel
theorem dL_law_30 : decode cL_law 30 = .ok (.bipush 63, 2) := by decide +kernel
theorem dL_law_32 : decode cL_law 32 = .ok (.iand, 1) := by decide +kernel
theorem dL_law_33 : decode cL_law 33 = .ok (.tableswitch 1043 0 33 #[151, 214, 237, 260, 283, 306, 340, 363, 376, 399, 422, 445, 468, 512, 575, 608, 631, 654, 687, 710, 753, 776, 789, 802, 825, 856, 869, 920, 953, 967, 980, 994, 1007, 1030], 151) := by decide +kernel
theorem dL_law_184 : decode cL_law 184 = .ok (.aload_n 1, 1) := by decide +kernel
theorem dL_law_185 : decode cL_law 185 = .ok (.aload_n 0, 1) := by decide +kernel
theorem dL_law_186 : decode cL_law 186 = .ok (.iload_n 3, 1) := by decide +kernel
theorem dL_law_187 : decode cL_law 187 = .ok (.iconst 1, 1) := by decide +kernel
theorem dL_law_188 : decode cL_law 188 = .ok (.iadd, 1) := by decide +kernel
theorem dL_law_189 : decode cL_law 189 = .ok (.iaload, 1) := by decide +kernel
theorem dL_law_190 : decode cL_law 190 = .ok (.aload_n 0, 1) := by decide +kernel
theorem dL_law_191 : decode cL_law 191 = .ok (.iload_n 3, 1) := by decide +kernel
theorem dL_law_192 : decode cL_law 192 = .ok (.iconst 2, 1) := by decide +kernel
theorem dL_law_193 : decode cL_law 193 = .ok (.iadd, 1) := by decide +kernel
theorem dL_law_194 : decode cL_law 194 = .ok (.iaload, 1) := by decide +kernel
theorem dL_law_195 : decode cL_law 195 = .ok (.aload_n 0, 1) := by decide +kernel
theorem dL_law_196 : decode cL_law 196 = .ok (.iload_n 3, 1) := by decide +kernel
theorem dL_law_197 : decode cL_law 197 = .ok (.iconst 3, 1) := by decide +kernel
theorem dL_law_198 : decode cL_law 198 = .ok (.iadd, 1) := by decide +kernel
theorem dL_law_199 : decode cL_law 199 = .ok (.iaload, 1) := by decide +kernel
theorem dL_law_200 : decode cL_law 200 = .ok (.aload_n 0, 1) := by decide +kernel
theorem dL_law_201 : decode cL_law 201 = .ok (.iload_n 3, 1) := by decide +kernel
theorem dL_law_202 : decode cL_law 202 = .ok (.iconst 4, 1) := by decide +kernel
theorem dL_law_203 : decode cL_law 203 = .ok (.iadd, 1) := by decide +kernel
theorem dL_law_204 : decode cL_law 204 = .ok (.iaload, 1) := by decide +kernel
theorem dL_law_205 : decode cL_law 205 = .ok (.aload_n 0, 1) := by decide +kernel
theorem dL_law_206 : decode cL_law 206 = .ok (.iload_n 3, 1) := by decide +kernel
theorem dL_law_207 : decode cL_law 207 = .ok (.iconst 5, 1) := by decide +kernel
theorem dL_law_208 : decode cL_law 208 = .ok (.iadd, 1) := by decide +kernel
theorem dL_law_209 : decode cL_law 209 = .ok (.iaload, 1) := by decide +kernel
theorem dL_law_210 : decode cL_law 210 = .ok (.invokevirtual 13, 3) := by decide +kernel
theorem dL_law_213 : decode cL_law 213 = .ok (.aload_n 2, 1) := by decide +kernel
theorem dL_law_214 : decode cL_law 214 = .ok (.aload_n 0, 1) := by decide +kernel
theorem dL_law_215 : decode cL_law 215 = .ok (.iload_n 3, 1) := by decide +kernel
theorem dL_law_216 : decode cL_law 216 = .ok (.iconst 1, 1) := by decide +kernel
theorem dL_law_217 : decode cL_law 217 = .ok (.iadd, 1) := by decide +kernel
theorem dL_law_218 : decode cL_law 218 = .ok (.iaload, 1) := by decide +kernel
theorem dL_law_219 : decode cL_law 219 = .ok (.aload_n 0, 1) := by decide +kernel
theorem dL_law_220 : decode cL_law 220 = .ok (.iload_n 3, 1) := by decide +kernel
theorem dL_law_221 : decode cL_law 221 = .ok (.iconst 2, 1) := by decide +kernel
theorem dL_law_222 : decode cL_law 222 = .ok (.iadd, 1) := by decide +kernel
theorem dL_law_223 : decode cL_law 223 = .ok (.iaload, 1) := by decide +kernel
theorem dL_law_224 : decode cL_law 224 = .ok (.aload_n 0, 1) := by decide +kernel
theorem dL_law_225 : decode cL_law 225 = .ok (.iload_n 3, 1) := by decide +kernel
theorem dL_law_226 : decode cL_law 226 = .ok (.iconst 3, 1) := by decide +kernel
theorem dL_law_227 : decode cL_law 227 = .ok (.iadd, 1) := by decide +kernel
theorem dL_law_228 : decode cL_law 228 = .ok (.iaload, 1) := by decide +kernel
theorem dL_law_229 : decode cL_law 229 = .ok (.aload_n 0, 1) := by decide +kernel
theorem dL_law_230 : decode cL_law 230 = .ok (.iload_n 3, 1) := by decide +kernel
theorem dL_law_231 : decode cL_law 231 = .ok (.iconst 4, 1) := by decide +kernel
theorem dL_law_232 : decode cL_law 232 = .ok (.iadd, 1) := by decide +kernel
theorem dL_law_233 : decode cL_law 233 = .ok (.iaload, 1) := by decide +kernel
theorem dL_law_234 : decode cL_law 234 = .ok (.aload_n 0, 1) := by decide +kernel
theorem dL_law_235 : decode cL_law 235 = .ok (.iload_n 3, 1) := by decide +kernel
theorem dL_law_236 : decode cL_law 236 = .ok (.iconst 5, 1) := by decide +kernel
theorem dL_law_237 : decode cL_law 237 = .ok (.iadd, 1) := by decide +kernel
theorem dL_law_238 : decode cL_law 238 = .ok (.iaload, 1) := by decide +kernel
theorem dL_law_239 : decode cL_law 239 = .ok (.invokevirtual 17, 3) := by decide +kernel
theorem dL_law_242 : decode cL_law 242 = .ok (.if_icmp .eq 834, 3) := by decide +kernel
theorem dL_law_247 : decode cL_law 247 = .ok (.aload_n 1, 1) := by decide +kernel
theorem dL_law_248 : decode cL_law 248 = .ok (.aload_n 0, 1) := by decide +kernel
theorem dL_law_249 : decode cL_law 249 = .ok (.iload_n 3, 1) := by decide +kernel
theorem dL_law_250 : decode cL_law 250 = .ok (.iconst 1, 1) := by decide +kernel
theorem dL_law_251 : decode cL_law 251 = .ok (.iadd, 1) := by decide +kernel
theorem dL_law_252 : decode cL_law 252 = .ok (.iaload, 1) := by decide +kernel
theorem dL_law_253 : decode cL_law 253 = .ok (.invokevirtual 18, 3) := by decide +kernel
theorem dL_law_256 : decode cL_law 256 = .ok (.aload_n 2, 1) := by decide +kernel
theorem dL_law_257 : decode cL_law 257 = .ok (.aload_n 0, 1) := by decide +kernel
theorem dL_law_258 : decode cL_law 258 = .ok (.iload_n 3, 1) := by decide +kernel
theorem dL_law_259 : decode cL_law 259 = .ok (.iconst 1, 1) := by decide +kernel
theorem dL_law_260 : decode cL_law 260 = .ok (.iadd, 1) := by decide +kernel
theorem dL_law_261 : decode cL_law 261 = .ok (.iaload, 1) := by decide +kernel
theorem dL_law_262 : decode cL_law 262 = .ok (.invokevirtual 22, 3) := by decide +kernel
theorem dL_law_265 : decode cL_law 265 = .ok (.if_icmp .eq 811, 3) := by decide +kernel
theorem dL_law_270 : decode cL_law 270 = .ok (.aload_n 1, 1) := by decide +kernel
theorem dL_law_271 : decode cL_law 271 = .ok (.aload_n 0, 1) := by decide +kernel
theorem dL_law_272 : decode cL_law 272 = .ok (.iload_n 3, 1) := by decide +kernel
theorem dL_law_273 : decode cL_law 273 = .ok (.iconst 1, 1) := by decide +kernel
theorem dL_law_274 : decode cL_law 274 = .ok (.iadd, 1) := by decide +kernel
theorem dL_law_275 : decode cL_law 275 = .ok (.iaload, 1) := by decide +kernel
theorem dL_law_276 : decode cL_law 276 = .ok (.invokevirtual 23, 3) := by decide +kernel
theorem dL_law_279 : decode cL_law 279 = .ok (.aload_n 2, 1) := by decide +kernel
theorem dL_law_280 : decode cL_law 280 = .ok (.aload_n 0, 1) := by decide +kernel
theorem dL_law_281 : decode cL_law 281 = .ok (.iload_n 3, 1) := by decide +kernel
theorem dL_law_282 : decode cL_law 282 = .ok (.iconst 1, 1) := by decide +kernel
theorem dL_law_283 : decode cL_law 283 = .ok (.iadd, 1) := by decide +kernel
theorem dL_law_284 : decode cL_law 284 = .ok (.iaload, 1) := by decide +kernel
theorem dL_law_285 : decode cL_law 285 = .ok (.invokevirtual 26, 3) := by decide +kernel
theorem dL_law_288 : decode cL_law 288 = .ok (.if_icmp .eq 788, 3) := by decide +kernel
theorem dL_law_293 : decode cL_law 293 = .ok (.aload_n 1, 1) := by decide +kernel
theorem dL_law_294 : decode cL_law 294 = .ok (.aload_n 0, 1) := by decide +kernel
theorem dL_law_295 : decode cL_law 295 = .ok (.iload_n 3, 1) := by decide +kernel
theorem dL_law_296 : decode cL_law 296 = .ok (.iconst 1, 1) := by decide +kernel
theorem dL_law_297 : decode cL_law 297 = .ok (.iadd, 1) := by decide +kernel
theorem dL_law_298 : decode cL_law 298 = .ok (.iaload, 1) := by decide +kernel
theorem dL_law_299 : decode cL_law 299 = .ok (.invokevirtual 27, 3) := by decide +kernel
theorem dL_law_302 : decode cL_law 302 = .ok (.aload_n 2, 1) := by decide +kernel
theorem dL_law_303 : decode cL_law 303 = .ok (.aload_n 0, 1) := by decide +kernel
theorem dL_law_304 : decode cL_law 304 = .ok (.iload_n 3, 1) := by decide +kernel
theorem dL_law_305 : decode cL_law 305 = .ok (.iconst 1, 1) := by decide +kernel
theorem dL_law_306 : decode cL_law 306 = .ok (.iadd, 1) := by decide +kernel
theorem dL_law_307 : decode cL_law 307 = .ok (.iaload, 1) := by decide +kernel
theorem dL_law_308 : decode cL_law 308 = .ok (.invokevirtual 30, 3) := by decide +kernel
theorem dL_law_311 : decode cL_law 311 = .ok (.if_icmp .eq 765, 3) := by decide +kernel
theorem dL_law_316 : decode cL_law 316 = .ok (.aload_n 1, 1) := by decide +kernel
theorem dL_law_317 : decode cL_law 317 = .ok (.aload_n 0, 1) := by decide +kernel
theorem dL_law_318 : decode cL_law 318 = .ok (.iload_n 3, 1) := by decide +kernel
theorem dL_law_319 : decode cL_law 319 = .ok (.iconst 1, 1) := by decide +kernel
theorem dL_law_320 : decode cL_law 320 = .ok (.iadd, 1) := by decide +kernel
theorem dL_law_321 : decode cL_law 321 = .ok (.iaload, 1) := by decide +kernel
theorem dL_law_322 : decode cL_law 322 = .ok (.invokevirtual 31, 3) := by decide +kernel
theorem dL_law_325 : decode cL_law 325 = .ok (.aload_n 2, 1) := by decide +kernel
theorem dL_law_326 : decode cL_law 326 = .ok (.aload_n 0, 1) := by decide +kernel
theorem dL_law_327 : decode cL_law 327 = .ok (.iload_n 3, 1) := by decide +kernel
theorem dL_law_328 : decode cL_law 328 = .ok (.iconst 1, 1) := by decide +kernel
theorem dL_law_329 : decode cL_law 329 = .ok (.iadd, 1) := by decide +kernel
theorem dL_law_330 : decode cL_law 330 = .ok (.iaload, 1) := by decide +kernel
theorem dL_law_331 : decode cL_law 331 = .ok (.invokevirtual 34, 3) := by decide +kernel
theorem dL_law_334 : decode cL_law 334 = .ok (.if_icmp .eq 742, 3) := by decide +kernel
theorem dL_law_339 : decode cL_law 339 = .ok (.aload_n 1, 1) := by decide +kernel
theorem dL_law_340 : decode cL_law 340 = .ok (.aload_n 0, 1) := by decide +kernel
theorem dL_law_341 : decode cL_law 341 = .ok (.iload_n 3, 1) := by decide +kernel
theorem dL_law_342 : decode cL_law 342 = .ok (.iconst 1, 1) := by decide +kernel
theorem dL_law_343 : decode cL_law 343 = .ok (.iadd, 1) := by decide +kernel
theorem dL_law_344 : decode cL_law 344 = .ok (.iaload, 1) := by decide +kernel
theorem dL_law_345 : decode cL_law 345 = .ok (.aload_n 0, 1) := by decide +kernel
theorem dL_law_346 : decode cL_law 346 = .ok (.iload_n 3, 1) := by decide +kernel
theorem dL_law_347 : decode cL_law 347 = .ok (.iconst 2, 1) := by decide +kernel
theorem dL_law_348 : decode cL_law 348 = .ok (.iadd, 1) := by decide +kernel
theorem dL_law_349 : decode cL_law 349 = .ok (.iaload, 1) := by decide +kernel
theorem dL_law_350 : decode cL_law 350 = .ok (.invokevirtual 35, 3) := by decide +kernel
theorem dL_law_353 : decode cL_law 353 = .ok (.aload_n 2, 1) := by decide +kernel
theorem dL_law_354 : decode cL_law 354 = .ok (.aload_n 0, 1) := by decide +kernel
theorem dL_law_355 : decode cL_law 355 = .ok (.iload_n 3, 1) := by decide +kernel
theorem dL_law_356 : decode cL_law 356 = .ok (.iconst 1, 1) := by decide +kernel
theorem dL_law_357 : decode cL_law 357 = .ok (.iadd, 1) := by decide +kernel
theorem dL_law_358 : decode cL_law 358 = .ok (.iaload, 1) := by decide +kernel
theorem dL_law_359 : decode cL_law 359 = .ok (.aload_n 0, 1) := by decide +kernel
theorem dL_law_360 : decode cL_law 360 = .ok (.iload_n 3, 1) := by decide +kernel
theorem dL_law_361 : decode cL_law 361 = .ok (.iconst 2, 1) := by decide +kernel
theorem dL_law_362 : decode cL_law 362 = .ok (.iadd, 1) := by decide +kernel
theorem dL_law_363 : decode cL_law 363 = .ok (.iaload, 1) := by decide +kernel
theorem dL_law_364 : decode cL_law 364 = .ok (.invokevirtual 39, 3) := by decide +kernel
theorem dL_law_367 : decode cL_law 367 = .ok (.lcmp, 1) := by decide +kernel
theorem dL_law_368 : decode cL_law 368 = .ok (.ifCond .eq 708, 3) := by decide +kernel
theorem dL_law_373 : decode cL_law 373 = .ok (.aload_n 1, 1) := by decide +kernel
theorem dL_law_374 : decode cL_law 374 = .ok (.aload_n 0, 1) := by decide +kernel
theorem dL_law_375 : decode cL_law 375 = .ok (.iload_n 3, 1) := by decide +kernel
theorem dL_law_376 : decode cL_law 376 = .ok (.iconst 1, 1) := by decide +kernel
theorem dL_law_377 : decode cL_law 377 = .ok (.iadd, 1) := by decide +kernel
theorem dL_law_378 : decode cL_law 378 = .ok (.iaload, 1) := by decide +kernel
theorem dL_law_379 : decode cL_law 379 = .ok (.invokevirtual 40, 3) := by decide +kernel
theorem dL_law_382 : decode cL_law 382 = .ok (.aload_n 2, 1) := by decide +kernel
theorem dL_law_383 : decode cL_law 383 = .ok (.aload_n 0, 1) := by decide +kernel
theorem dL_law_384 : decode cL_law 384 = .ok (.iload_n 3, 1) := by decide +kernel
theorem dL_law_385 : decode cL_law 385 = .ok (.iconst 1, 1) := by decide +kernel
theorem dL_law_386 : decode cL_law 386 = .ok (.iadd, 1) := by decide +kernel
theorem dL_law_387 : decode cL_law 387 = .ok (.iaload, 1) := by decide +kernel
theorem dL_law_388 : decode cL_law 388 = .ok (.invokevirtual 43, 3) := by decide +kernel
theorem dL_law_391 : decode cL_law 391 = .ok (.if_icmp .eq 685, 3) := by decide +kernel
theorem dL_law_396 : decode cL_law 396 = .ok (.aload_n 1, 1) := by decide +kernel
theorem dL_law_397 : decode cL_law 397 = .ok (.invokevirtual 44, 3) := by decide +kernel
theorem dL_law_400 : decode cL_law 400 = .ok (.aload_n 2, 1) := by decide +kernel
theorem dL_law_401 : decode cL_law 401 = .ok (.invokevirtual 48, 3) := by decide +kernel
theorem dL_law_404 : decode cL_law 404 = .ok (.if_icmp .eq 672, 3) := by decide +kernel
theorem dL_law_409 : decode cL_law 409 = .ok (.aload_n 1, 1) := by decide +kernel
theorem dL_law_410 : decode cL_law 410 = .ok (.aload_n 0, 1) := by decide +kernel
theorem dL_law_411 : decode cL_law 411 = .ok (.iload_n 3, 1) := by decide +kernel
theorem dL_law_412 : decode cL_law 412 = .ok (.iconst 1, 1) := by decide +kernel
theorem dL_law_413 : decode cL_law 413 = .ok (.iadd, 1) := by decide +kernel
theorem dL_law_414 : decode cL_law 414 = .ok (.iaload, 1) := by decide +kernel
theorem dL_law_415 : decode cL_law 415 = .ok (.invokevirtual 49, 3) := by decide +kernel
theorem dL_law_418 : decode cL_law 418 = .ok (.aload_n 2, 1) := by decide +kernel
theorem dL_law_419 : decode cL_law 419 = .ok (.aload_n 0, 1) := by decide +kernel
theorem dL_law_420 : decode cL_law 420 = .ok (.iload_n 3, 1) := by decide +kernel
theorem dL_law_421 : decode cL_law 421 = .ok (.iconst 1, 1) := by decide +kernel
theorem dL_law_422 : decode cL_law 422 = .ok (.iadd, 1) := by decide +kernel
theorem dL_law_423 : decode cL_law 423 = .ok (.iaload, 1) := by decide +kernel
theorem dL_law_424 : decode cL_law 424 = .ok (.invokevirtual 52, 3) := by decide +kernel
theorem dL_law_427 : decode cL_law 427 = .ok (.if_icmp .eq 649, 3) := by decide +kernel
theorem dL_law_432 : decode cL_law 432 = .ok (.aload_n 1, 1) := by decide +kernel
theorem dL_law_433 : decode cL_law 433 = .ok (.aload_n 0, 1) := by decide +kernel
theorem dL_law_434 : decode cL_law 434 = .ok (.iload_n 3, 1) := by decide +kernel
theorem dL_law_435 : decode cL_law 435 = .ok (.iconst 1, 1) := by decide +kernel
theorem dL_law_436 : decode cL_law 436 = .ok (.iadd, 1) := by decide +kernel
theorem dL_law_437 : decode cL_law 437 = .ok (.iaload, 1) := by decide +kernel
theorem dL_law_438 : decode cL_law 438 = .ok (.invokevirtual 53, 3) := by decide +kernel
theorem dL_law_441 : decode cL_law 441 = .ok (.aload_n 2, 1) := by decide +kernel
theorem dL_law_442 : decode cL_law 442 = .ok (.aload_n 0, 1) := by decide +kernel
theorem dL_law_443 : decode cL_law 443 = .ok (.iload_n 3, 1) := by decide +kernel
theorem dL_law_444 : decode cL_law 444 = .ok (.iconst 1, 1) := by decide +kernel
theorem dL_law_445 : decode cL_law 445 = .ok (.iadd, 1) := by decide +kernel
theorem dL_law_446 : decode cL_law 446 = .ok (.iaload, 1) := by decide +kernel
theorem dL_law_447 : decode cL_law 447 = .ok (.invokevirtual 56, 3) := by decide +kernel
theorem dL_law_450 : decode cL_law 450 = .ok (.if_icmp .eq 626, 3) := by decide +kernel
theorem dL_law_455 : decode cL_law 455 = .ok (.aload_n 1, 1) := by decide +kernel
theorem dL_law_456 : decode cL_law 456 = .ok (.aload_n 0, 1) := by decide +kernel
theorem dL_law_457 : decode cL_law 457 = .ok (.iload_n 3, 1) := by decide +kernel
theorem dL_law_458 : decode cL_law 458 = .ok (.iconst 1, 1) := by decide +kernel
theorem dL_law_459 : decode cL_law 459 = .ok (.iadd, 1) := by decide +kernel
theorem dL_law_460 : decode cL_law 460 = .ok (.iaload, 1) := by decide +kernel
theorem dL_law_461 : decode cL_law 461 = .ok (.invokevirtual 57, 3) := by decide +kernel
theorem dL_law_464 : decode cL_law 464 = .ok (.aload_n 2, 1) := by decide +kernel
theorem dL_law_465 : decode cL_law 465 = .ok (.aload_n 0, 1) := by decide +kernel
theorem dL_law_466 : decode cL_law 466 = .ok (.iload_n 3, 1) := by decide +kernel
theorem dL_law_467 : decode cL_law 467 = .ok (.iconst 1, 1) := by decide +kernel
theorem dL_law_468 : decode cL_law 468 = .ok (.iadd, 1) := by decide +kernel
theorem dL_law_469 : decode cL_law 469 = .ok (.iaload, 1) := by decide +kernel
theorem dL_law_470 : decode cL_law 470 = .ok (.invokevirtual 61, 3) := by decide +kernel
theorem dL_law_473 : decode cL_law 473 = .ok (.if_icmp .eq 603, 3) := by decide +kernel
theorem dL_law_478 : decode cL_law 478 = .ok (.aload_n 1, 1) := by decide +kernel
theorem dL_law_479 : decode cL_law 479 = .ok (.aload_n 0, 1) := by decide +kernel
theorem dL_law_480 : decode cL_law 480 = .ok (.iload_n 3, 1) := by decide +kernel
theorem dL_law_481 : decode cL_law 481 = .ok (.iconst 1, 1) := by decide +kernel
theorem dL_law_482 : decode cL_law 482 = .ok (.iadd, 1) := by decide +kernel
theorem dL_law_483 : decode cL_law 483 = .ok (.iaload, 1) := by decide +kernel
theorem dL_law_484 : decode cL_law 484 = .ok (.invokevirtual 62, 3) := by decide +kernel
theorem dL_law_487 : decode cL_law 487 = .ok (.aload_n 2, 1) := by decide +kernel
theorem dL_law_488 : decode cL_law 488 = .ok (.aload_n 0, 1) := by decide +kernel
theorem dL_law_489 : decode cL_law 489 = .ok (.iload_n 3, 1) := by decide +kernel
theorem dL_law_490 : decode cL_law 490 = .ok (.iconst 1, 1) := by decide +kernel
theorem dL_law_491 : decode cL_law 491 = .ok (.iadd, 1) := by decide +kernel
theorem dL_law_492 : decode cL_law 492 = .ok (.iaload, 1) := by decide +kernel
theorem dL_law_493 : decode cL_law 493 = .ok (.invokevirtual 65, 3) := by decide +kernel
theorem dL_law_496 : decode cL_law 496 = .ok (.if_icmp .eq 580, 3) := by decide +kernel
theorem dL_law_501 : decode cL_law 501 = .ok (.aload_n 1, 1) := by decide +kernel
theorem dL_law_502 : decode cL_law 502 = .ok (.aload_n 0, 1) := by decide +kernel
theorem dL_law_503 : decode cL_law 503 = .ok (.iload_n 3, 1) := by decide +kernel
theorem dL_law_504 : decode cL_law 504 = .ok (.iconst 1, 1) := by decide +kernel
theorem dL_law_505 : decode cL_law 505 = .ok (.iadd, 1) := by decide +kernel
theorem dL_law_506 : decode cL_law 506 = .ok (.iaload, 1) := by decide +kernel
theorem dL_law_507 : decode cL_law 507 = .ok (.aload_n 0, 1) := by decide +kernel
theorem dL_law_508 : decode cL_law 508 = .ok (.iload_n 3, 1) := by decide +kernel
theorem dL_law_509 : decode cL_law 509 = .ok (.iconst 2, 1) := by decide +kernel
theorem dL_law_510 : decode cL_law 510 = .ok (.iadd, 1) := by decide +kernel
theorem dL_law_511 : decode cL_law 511 = .ok (.iaload, 1) := by decide +kernel
theorem dL_law_512 : decode cL_law 512 = .ok (.aload_n 0, 1) := by decide +kernel
theorem dL_law_513 : decode cL_law 513 = .ok (.iload_n 3, 1) := by decide +kernel
theorem dL_law_514 : decode cL_law 514 = .ok (.iconst 3, 1) := by decide +kernel
theorem dL_law_515 : decode cL_law 515 = .ok (.iadd, 1) := by decide +kernel
theorem dL_law_516 : decode cL_law 516 = .ok (.iaload, 1) := by decide +kernel
theorem dL_law_517 : decode cL_law 517 = .ok (.invokevirtual 66, 3) := by decide +kernel
theorem dL_law_520 : decode cL_law 520 = .ok (.aload_n 2, 1) := by decide +kernel
theorem dL_law_521 : decode cL_law 521 = .ok (.aload_n 0, 1) := by decide +kernel
theorem dL_law_522 : decode cL_law 522 = .ok (.iload_n 3, 1) := by decide +kernel
theorem dL_law_523 : decode cL_law 523 = .ok (.iconst 1, 1) := by decide +kernel
theorem dL_law_524 : decode cL_law 524 = .ok (.iadd, 1) := by decide +kernel
theorem dL_law_525 : decode cL_law 525 = .ok (.iaload, 1) := by decide +kernel
theorem dL_law_526 : decode cL_law 526 = .ok (.aload_n 0, 1) := by decide +kernel
theorem dL_law_527 : decode cL_law 527 = .ok (.iload_n 3, 1) := by decide +kernel
theorem dL_law_528 : decode cL_law 528 = .ok (.iconst 2, 1) := by decide +kernel
theorem dL_law_529 : decode cL_law 529 = .ok (.iadd, 1) := by decide +kernel
theorem dL_law_530 : decode cL_law 530 = .ok (.iaload, 1) := by decide +kernel
theorem dL_law_531 : decode cL_law 531 = .ok (.aload_n 0, 1) := by decide +kernel
theorem dL_law_532 : decode cL_law 532 = .ok (.iload_n 3, 1) := by decide +kernel
theorem dL_law_533 : decode cL_law 533 = .ok (.iconst 3, 1) := by decide +kernel
theorem dL_law_534 : decode cL_law 534 = .ok (.iadd, 1) := by decide +kernel
theorem dL_law_535 : decode cL_law 535 = .ok (.iaload, 1) := by decide +kernel
theorem dL_law_536 : decode cL_law 536 = .ok (.invokevirtual 70, 3) := by decide +kernel
theorem dL_law_539 : decode cL_law 539 = .ok (.lcmp, 1) := by decide +kernel
theorem dL_law_540 : decode cL_law 540 = .ok (.ifCond .eq 536, 3) := by decide +kernel
theorem dL_law_545 : decode cL_law 545 = .ok (.aload_n 1, 1) := by decide +kernel
theorem dL_law_546 : decode cL_law 546 = .ok (.aload_n 0, 1) := by decide +kernel
theorem dL_law_547 : decode cL_law 547 = .ok (.iload_n 3, 1) := by decide +kernel
theorem dL_law_548 : decode cL_law 548 = .ok (.iconst 1, 1) := by decide +kernel
theorem dL_law_549 : decode cL_law 549 = .ok (.iadd, 1) := by decide +kernel
theorem dL_law_550 : decode cL_law 550 = .ok (.iaload, 1) := by decide +kernel
theorem dL_law_551 : decode cL_law 551 = .ok (.aload_n 0, 1) := by decide +kernel
theorem dL_law_552 : decode cL_law 552 = .ok (.iload_n 3, 1) := by decide +kernel
theorem dL_law_553 : decode cL_law 553 = .ok (.iconst 2, 1) := by decide +kernel
theorem dL_law_554 : decode cL_law 554 = .ok (.iadd, 1) := by decide +kernel
theorem dL_law_555 : decode cL_law 555 = .ok (.iaload, 1) := by decide +kernel
theorem dL_law_556 : decode cL_law 556 = .ok (.aload_n 0, 1) := by decide +kernel
theorem dL_law_557 : decode cL_law 557 = .ok (.iload_n 3, 1) := by decide +kernel
theorem dL_law_558 : decode cL_law 558 = .ok (.iconst 3, 1) := by decide +kernel
theorem dL_law_559 : decode cL_law 559 = .ok (.iadd, 1) := by decide +kernel
theorem dL_law_560 : decode cL_law 560 = .ok (.iaload, 1) := by decide +kernel
theorem dL_law_561 : decode cL_law 561 = .ok (.aload_n 0, 1) := by decide +kernel
theorem dL_law_562 : decode cL_law 562 = .ok (.iload_n 3, 1) := by decide +kernel
theorem dL_law_563 : decode cL_law 563 = .ok (.iconst 4, 1) := by decide +kernel
theorem dL_law_564 : decode cL_law 564 = .ok (.iadd, 1) := by decide +kernel
theorem dL_law_565 : decode cL_law 565 = .ok (.iaload, 1) := by decide +kernel
theorem dL_law_566 : decode cL_law 566 = .ok (.aload_n 0, 1) := by decide +kernel
theorem dL_law_567 : decode cL_law 567 = .ok (.iload_n 3, 1) := by decide +kernel
theorem dL_law_568 : decode cL_law 568 = .ok (.iconst 5, 1) := by decide +kernel
theorem dL_law_569 : decode cL_law 569 = .ok (.iadd, 1) := by decide +kernel
theorem dL_law_570 : decode cL_law 570 = .ok (.iaload, 1) := by decide +kernel
theorem dL_law_571 : decode cL_law 571 = .ok (.invokevirtual 71, 3) := by decide +kernel
theorem dL_law_574 : decode cL_law 574 = .ok (.aload_n 2, 1) := by decide +kernel
theorem dL_law_575 : decode cL_law 575 = .ok (.aload_n 0, 1) := by decide +kernel
theorem dL_law_576 : decode cL_law 576 = .ok (.iload_n 3, 1) := by decide +kernel
theorem dL_law_577 : decode cL_law 577 = .ok (.iconst 1, 1) := by decide +kernel
theorem dL_law_578 : decode cL_law 578 = .ok (.iadd, 1) := by decide +kernel
theorem dL_law_579 : decode cL_law 579 = .ok (.iaload, 1) := by decide +kernel
theorem dL_law_580 : decode cL_law 580 = .ok (.aload_n 0, 1) := by decide +kernel
theorem dL_law_581 : decode cL_law 581 = .ok (.iload_n 3, 1) := by decide +kernel
theorem dL_law_582 : decode cL_law 582 = .ok (.iconst 2, 1) := by decide +kernel
theorem dL_law_583 : decode cL_law 583 = .ok (.iadd, 1) := by decide +kernel
theorem dL_law_584 : decode cL_law 584 = .ok (.iaload, 1) := by decide +kernel
theorem dL_law_585 : decode cL_law 585 = .ok (.aload_n 0, 1) := by decide +kernel
theorem dL_law_586 : decode cL_law 586 = .ok (.iload_n 3, 1) := by decide +kernel
theorem dL_law_587 : decode cL_law 587 = .ok (.iconst 3, 1) := by decide +kernel
theorem dL_law_588 : decode cL_law 588 = .ok (.iadd, 1) := by decide +kernel
theorem dL_law_589 : decode cL_law 589 = .ok (.iaload, 1) := by decide +kernel
theorem dL_law_590 : decode cL_law 590 = .ok (.aload_n 0, 1) := by decide +kernel
theorem dL_law_591 : decode cL_law 591 = .ok (.iload_n 3, 1) := by decide +kernel
theorem dL_law_592 : decode cL_law 592 = .ok (.iconst 4, 1) := by decide +kernel
theorem dL_law_593 : decode cL_law 593 = .ok (.iadd, 1) := by decide +kernel
theorem dL_law_594 : decode cL_law 594 = .ok (.iaload, 1) := by decide +kernel
theorem dL_law_595 : decode cL_law 595 = .ok (.aload_n 0, 1) := by decide +kernel
theorem dL_law_596 : decode cL_law 596 = .ok (.iload_n 3, 1) := by decide +kernel
theorem dL_law_597 : decode cL_law 597 = .ok (.iconst 5, 1) := by decide +kernel
theorem dL_law_598 : decode cL_law 598 = .ok (.iadd, 1) := by decide +kernel
theorem dL_law_599 : decode cL_law 599 = .ok (.iaload, 1) := by decide +kernel
theorem dL_law_600 : decode cL_law 600 = .ok (.invokevirtual 75, 3) := by decide +kernel
theorem dL_law_603 : decode cL_law 603 = .ok (.if_icmp .eq 473, 3) := by decide +kernel
theorem dL_law_608 : decode cL_law 608 = .ok (.aload_n 1, 1) := by decide +kernel
theorem dL_law_609 : decode cL_law 609 = .ok (.aload_n 0, 1) := by decide +kernel
theorem dL_law_610 : decode cL_law 610 = .ok (.iload_n 3, 1) := by decide +kernel
theorem dL_law_611 : decode cL_law 611 = .ok (.iconst 1, 1) := by decide +kernel
theorem dL_law_612 : decode cL_law 612 = .ok (.iadd, 1) := by decide +kernel
theorem dL_law_613 : decode cL_law 613 = .ok (.iaload, 1) := by decide +kernel
theorem dL_law_614 : decode cL_law 614 = .ok (.aload_n 0, 1) := by decide +kernel
theorem dL_law_615 : decode cL_law 615 = .ok (.iload_n 3, 1) := by decide +kernel
theorem dL_law_616 : decode cL_law 616 = .ok (.iconst 2, 1) := by decide +kernel
theorem dL_law_617 : decode cL_law 617 = .ok (.iadd, 1) := by decide +kernel
theorem dL_law_618 : decode cL_law 618 = .ok (.iaload, 1) := by decide +kernel
theorem dL_law_619 : decode cL_law 619 = .ok (.invokevirtual 76, 3) := by decide +kernel
theorem dL_law_622 : decode cL_law 622 = .ok (.aload_n 2, 1) := by decide +kernel
theorem dL_law_623 : decode cL_law 623 = .ok (.aload_n 0, 1) := by decide +kernel
theorem dL_law_624 : decode cL_law 624 = .ok (.iload_n 3, 1) := by decide +kernel
theorem dL_law_625 : decode cL_law 625 = .ok (.iconst 1, 1) := by decide +kernel
theorem dL_law_626 : decode cL_law 626 = .ok (.iadd, 1) := by decide +kernel
theorem dL_law_627 : decode cL_law 627 = .ok (.iaload, 1) := by decide +kernel
theorem dL_law_628 : decode cL_law 628 = .ok (.aload_n 0, 1) := by decide +kernel
theorem dL_law_629 : decode cL_law 629 = .ok (.iload_n 3, 1) := by decide +kernel
theorem dL_law_630 : decode cL_law 630 = .ok (.iconst 2, 1) := by decide +kernel
theorem dL_law_631 : decode cL_law 631 = .ok (.iadd, 1) := by decide +kernel
theorem dL_law_632 : decode cL_law 632 = .ok (.iaload, 1) := by decide +kernel
theorem dL_law_633 : decode cL_law 633 = .ok (.invokevirtual 80, 3) := by decide +kernel
theorem dL_law_636 : decode cL_law 636 = .ok (.if_icmp .eq 440, 3) := by decide +kernel
theorem dL_law_641 : decode cL_law 641 = .ok (.aload_n 1, 1) := by decide +kernel
theorem dL_law_642 : decode cL_law 642 = .ok (.aload_n 0, 1) := by decide +kernel
theorem dL_law_643 : decode cL_law 643 = .ok (.iload_n 3, 1) := by decide +kernel
theorem dL_law_644 : decode cL_law 644 = .ok (.iconst 1, 1) := by decide +kernel
theorem dL_law_645 : decode cL_law 645 = .ok (.iadd, 1) := by decide +kernel
theorem dL_law_646 : decode cL_law 646 = .ok (.iaload, 1) := by decide +kernel
theorem dL_law_647 : decode cL_law 647 = .ok (.invokevirtual 81, 3) := by decide +kernel
theorem dL_law_650 : decode cL_law 650 = .ok (.aload_n 2, 1) := by decide +kernel
theorem dL_law_651 : decode cL_law 651 = .ok (.aload_n 0, 1) := by decide +kernel
theorem dL_law_652 : decode cL_law 652 = .ok (.iload_n 3, 1) := by decide +kernel
theorem dL_law_653 : decode cL_law 653 = .ok (.iconst 1, 1) := by decide +kernel
theorem dL_law_654 : decode cL_law 654 = .ok (.iadd, 1) := by decide +kernel
theorem dL_law_655 : decode cL_law 655 = .ok (.iaload, 1) := by decide +kernel
theorem dL_law_656 : decode cL_law 656 = .ok (.invokevirtual 84, 3) := by decide +kernel
theorem dL_law_659 : decode cL_law 659 = .ok (.if_icmp .eq 417, 3) := by decide +kernel
theorem dL_law_664 : decode cL_law 664 = .ok (.aload_n 1, 1) := by decide +kernel
theorem dL_law_665 : decode cL_law 665 = .ok (.aload_n 0, 1) := by decide +kernel
theorem dL_law_666 : decode cL_law 666 = .ok (.iload_n 3, 1) := by decide +kernel
theorem dL_law_667 : decode cL_law 667 = .ok (.iconst 1, 1) := by decide +kernel
theorem dL_law_668 : decode cL_law 668 = .ok (.iadd, 1) := by decide +kernel
theorem dL_law_669 : decode cL_law 669 = .ok (.iaload, 1) := by decide +kernel
theorem dL_law_670 : decode cL_law 670 = .ok (.invokevirtual 85, 3) := by decide +kernel
theorem dL_law_673 : decode cL_law 673 = .ok (.aload_n 2, 1) := by decide +kernel
theorem dL_law_674 : decode cL_law 674 = .ok (.aload_n 0, 1) := by decide +kernel
theorem dL_law_675 : decode cL_law 675 = .ok (.iload_n 3, 1) := by decide +kernel
theorem dL_law_676 : decode cL_law 676 = .ok (.iconst 1, 1) := by decide +kernel
theorem dL_law_677 : decode cL_law 677 = .ok (.iadd, 1) := by decide +kernel
theorem dL_law_678 : decode cL_law 678 = .ok (.iaload, 1) := by decide +kernel
theorem dL_law_679 : decode cL_law 679 = .ok (.invokevirtual 88, 3) := by decide +kernel
theorem dL_law_682 : decode cL_law 682 = .ok (.if_icmp .eq 394, 3) := by decide +kernel
theorem dL_law_687 : decode cL_law 687 = .ok (.aload_n 1, 1) := by decide +kernel
theorem dL_law_688 : decode cL_law 688 = .ok (.aload_n 0, 1) := by decide +kernel
theorem dL_law_689 : decode cL_law 689 = .ok (.iload_n 3, 1) := by decide +kernel
theorem dL_law_690 : decode cL_law 690 = .ok (.iconst 1, 1) := by decide +kernel
theorem dL_law_691 : decode cL_law 691 = .ok (.iadd, 1) := by decide +kernel
theorem dL_law_692 : decode cL_law 692 = .ok (.iaload, 1) := by decide +kernel
theorem dL_law_693 : decode cL_law 693 = .ok (.aload_n 0, 1) := by decide +kernel
theorem dL_law_694 : decode cL_law 694 = .ok (.iload_n 3, 1) := by decide +kernel
theorem dL_law_695 : decode cL_law 695 = .ok (.iconst 2, 1) := by decide +kernel
theorem dL_law_696 : decode cL_law 696 = .ok (.iadd, 1) := by decide +kernel
theorem dL_law_697 : decode cL_law 697 = .ok (.iaload, 1) := by decide +kernel
theorem dL_law_698 : decode cL_law 698 = .ok (.invokevirtual 89, 3) := by decide +kernel
theorem dL_law_701 : decode cL_law 701 = .ok (.aload_n 2, 1) := by decide +kernel
theorem dL_law_702 : decode cL_law 702 = .ok (.aload_n 0, 1) := by decide +kernel
theorem dL_law_703 : decode cL_law 703 = .ok (.iload_n 3, 1) := by decide +kernel
theorem dL_law_704 : decode cL_law 704 = .ok (.iconst 1, 1) := by decide +kernel
theorem dL_law_705 : decode cL_law 705 = .ok (.iadd, 1) := by decide +kernel
theorem dL_law_706 : decode cL_law 706 = .ok (.iaload, 1) := by decide +kernel
theorem dL_law_707 : decode cL_law 707 = .ok (.aload_n 0, 1) := by decide +kernel
theorem dL_law_708 : decode cL_law 708 = .ok (.iload_n 3, 1) := by decide +kernel
theorem dL_law_709 : decode cL_law 709 = .ok (.iconst 2, 1) := by decide +kernel
theorem dL_law_710 : decode cL_law 710 = .ok (.iadd, 1) := by decide +kernel
theorem dL_law_711 : decode cL_law 711 = .ok (.iaload, 1) := by decide +kernel
theorem dL_law_712 : decode cL_law 712 = .ok (.invokevirtual 92, 3) := by decide +kernel
theorem dL_law_715 : decode cL_law 715 = .ok (.if_icmp .eq 361, 3) := by decide +kernel
theorem dL_law_720 : decode cL_law 720 = .ok (.aload_n 1, 1) := by decide +kernel
theorem dL_law_721 : decode cL_law 721 = .ok (.aload_n 0, 1) := by decide +kernel
theorem dL_law_722 : decode cL_law 722 = .ok (.iload_n 3, 1) := by decide +kernel
theorem dL_law_723 : decode cL_law 723 = .ok (.iconst 1, 1) := by decide +kernel
theorem dL_law_724 : decode cL_law 724 = .ok (.iadd, 1) := by decide +kernel
theorem dL_law_725 : decode cL_law 725 = .ok (.iaload, 1) := by decide +kernel
theorem dL_law_726 : decode cL_law 726 = .ok (.invokevirtual 93, 3) := by decide +kernel
theorem dL_law_729 : decode cL_law 729 = .ok (.aload_n 2, 1) := by decide +kernel
theorem dL_law_730 : decode cL_law 730 = .ok (.aload_n 0, 1) := by decide +kernel
theorem dL_law_731 : decode cL_law 731 = .ok (.iload_n 3, 1) := by decide +kernel
theorem dL_law_732 : decode cL_law 732 = .ok (.iconst 1, 1) := by decide +kernel
theorem dL_law_733 : decode cL_law 733 = .ok (.iadd, 1) := by decide +kernel
theorem dL_law_734 : decode cL_law 734 = .ok (.iaload, 1) := by decide +kernel
theorem dL_law_735 : decode cL_law 735 = .ok (.invokevirtual 96, 3) := by decide +kernel
theorem dL_law_738 : decode cL_law 738 = .ok (.if_icmp .eq 338, 3) := by decide +kernel
theorem dL_law_743 : decode cL_law 743 = .ok (.aload_n 1, 1) := by decide +kernel
theorem dL_law_744 : decode cL_law 744 = .ok (.aload_n 0, 1) := by decide +kernel
theorem dL_law_745 : decode cL_law 745 = .ok (.iload_n 3, 1) := by decide +kernel
theorem dL_law_746 : decode cL_law 746 = .ok (.iconst 1, 1) := by decide +kernel
theorem dL_law_747 : decode cL_law 747 = .ok (.iadd, 1) := by decide +kernel
theorem dL_law_748 : decode cL_law 748 = .ok (.iaload, 1) := by decide +kernel
theorem dL_law_749 : decode cL_law 749 = .ok (.aload_n 0, 1) := by decide +kernel
theorem dL_law_750 : decode cL_law 750 = .ok (.iload_n 3, 1) := by decide +kernel
theorem dL_law_751 : decode cL_law 751 = .ok (.iconst 2, 1) := by decide +kernel
theorem dL_law_752 : decode cL_law 752 = .ok (.iadd, 1) := by decide +kernel
theorem dL_law_753 : decode cL_law 753 = .ok (.iaload, 1) := by decide +kernel
theorem dL_law_754 : decode cL_law 754 = .ok (.aload_n 0, 1) := by decide +kernel
theorem dL_law_755 : decode cL_law 755 = .ok (.iload_n 3, 1) := by decide +kernel
theorem dL_law_756 : decode cL_law 756 = .ok (.iconst 3, 1) := by decide +kernel
theorem dL_law_757 : decode cL_law 757 = .ok (.iadd, 1) := by decide +kernel
theorem dL_law_758 : decode cL_law 758 = .ok (.iaload, 1) := by decide +kernel
theorem dL_law_759 : decode cL_law 759 = .ok (.invokevirtual 97, 3) := by decide +kernel
theorem dL_law_762 : decode cL_law 762 = .ok (.aload_n 2, 1) := by decide +kernel
theorem dL_law_763 : decode cL_law 763 = .ok (.aload_n 0, 1) := by decide +kernel
theorem dL_law_764 : decode cL_law 764 = .ok (.iload_n 3, 1) := by decide +kernel
theorem dL_law_765 : decode cL_law 765 = .ok (.iconst 1, 1) := by decide +kernel
theorem dL_law_766 : decode cL_law 766 = .ok (.iadd, 1) := by decide +kernel
theorem dL_law_767 : decode cL_law 767 = .ok (.iaload, 1) := by decide +kernel
theorem dL_law_768 : decode cL_law 768 = .ok (.aload_n 0, 1) := by decide +kernel
theorem dL_law_769 : decode cL_law 769 = .ok (.iload_n 3, 1) := by decide +kernel
theorem dL_law_770 : decode cL_law 770 = .ok (.iconst 2, 1) := by decide +kernel
theorem dL_law_771 : decode cL_law 771 = .ok (.iadd, 1) := by decide +kernel
theorem dL_law_772 : decode cL_law 772 = .ok (.iaload, 1) := by decide +kernel
theorem dL_law_773 : decode cL_law 773 = .ok (.aload_n 0, 1) := by decide +kernel
theorem dL_law_774 : decode cL_law 774 = .ok (.iload_n 3, 1) := by decide +kernel
theorem dL_law_775 : decode cL_law 775 = .ok (.iconst 3, 1) := by decide +kernel
theorem dL_law_776 : decode cL_law 776 = .ok (.iadd, 1) := by decide +kernel
theorem dL_law_777 : decode cL_law 777 = .ok (.iaload, 1) := by decide +kernel
theorem dL_law_778 : decode cL_law 778 = .ok (.invokevirtual 101, 3) := by decide +kernel
theorem dL_law_781 : decode cL_law 781 = .ok (.if_icmp .eq 295, 3) := by decide +kernel
theorem dL_law_786 : decode cL_law 786 = .ok (.aload_n 1, 1) := by decide +kernel
theorem dL_law_787 : decode cL_law 787 = .ok (.aload_n 0, 1) := by decide +kernel
theorem dL_law_788 : decode cL_law 788 = .ok (.iload_n 3, 1) := by decide +kernel
theorem dL_law_789 : decode cL_law 789 = .ok (.iconst 1, 1) := by decide +kernel
theorem dL_law_790 : decode cL_law 790 = .ok (.iadd, 1) := by decide +kernel
theorem dL_law_791 : decode cL_law 791 = .ok (.iaload, 1) := by decide +kernel
theorem dL_law_792 : decode cL_law 792 = .ok (.invokevirtual 102, 3) := by decide +kernel
theorem dL_law_795 : decode cL_law 795 = .ok (.aload_n 2, 1) := by decide +kernel
theorem dL_law_796 : decode cL_law 796 = .ok (.aload_n 0, 1) := by decide +kernel
theorem dL_law_797 : decode cL_law 797 = .ok (.iload_n 3, 1) := by decide +kernel
theorem dL_law_798 : decode cL_law 798 = .ok (.iconst 1, 1) := by decide +kernel
theorem dL_law_799 : decode cL_law 799 = .ok (.iadd, 1) := by decide +kernel
theorem dL_law_800 : decode cL_law 800 = .ok (.iaload, 1) := by decide +kernel
theorem dL_law_801 : decode cL_law 801 = .ok (.invokevirtual 105, 3) := by decide +kernel
theorem dL_law_804 : decode cL_law 804 = .ok (.if_icmp .eq 272, 3) := by decide +kernel
theorem dL_law_809 : decode cL_law 809 = .ok (.aload_n 1, 1) := by decide +kernel
theorem dL_law_810 : decode cL_law 810 = .ok (.invokevirtual 106, 3) := by decide +kernel
theorem dL_law_813 : decode cL_law 813 = .ok (.aload_n 2, 1) := by decide +kernel
theorem dL_law_814 : decode cL_law 814 = .ok (.invokevirtual 109, 3) := by decide +kernel
theorem dL_law_817 : decode cL_law 817 = .ok (.if_icmp .eq 259, 3) := by decide +kernel
theorem dL_law_822 : decode cL_law 822 = .ok (.aload_n 1, 1) := by decide +kernel
theorem dL_law_823 : decode cL_law 823 = .ok (.invokevirtual 110, 3) := by decide +kernel
theorem dL_law_826 : decode cL_law 826 = .ok (.aload_n 2, 1) := by decide +kernel
theorem dL_law_827 : decode cL_law 827 = .ok (.invokevirtual 113, 3) := by decide +kernel
theorem dL_law_830 : decode cL_law 830 = .ok (.if_icmp .eq 246, 3) := by decide +kernel
theorem dL_law_835 : decode cL_law 835 = .ok (.aload_n 1, 1) := by decide +kernel
theorem dL_law_836 : decode cL_law 836 = .ok (.aload_n 0, 1) := by decide +kernel
theorem dL_law_837 : decode cL_law 837 = .ok (.iload_n 3, 1) := by decide +kernel
theorem dL_law_838 : decode cL_law 838 = .ok (.iconst 1, 1) := by decide +kernel
theorem dL_law_839 : decode cL_law 839 = .ok (.iadd, 1) := by decide +kernel
theorem dL_law_840 : decode cL_law 840 = .ok (.iaload, 1) := by decide +kernel
theorem dL_law_841 : decode cL_law 841 = .ok (.invokevirtual 114, 3) := by decide +kernel
theorem dL_law_844 : decode cL_law 844 = .ok (.aload_n 2, 1) := by decide +kernel
theorem dL_law_845 : decode cL_law 845 = .ok (.aload_n 0, 1) := by decide +kernel
theorem dL_law_846 : decode cL_law 846 = .ok (.iload_n 3, 1) := by decide +kernel
theorem dL_law_847 : decode cL_law 847 = .ok (.iconst 1, 1) := by decide +kernel
theorem dL_law_848 : decode cL_law 848 = .ok (.iadd, 1) := by decide +kernel
theorem dL_law_849 : decode cL_law 849 = .ok (.iaload, 1) := by decide +kernel
theorem dL_law_850 : decode cL_law 850 = .ok (.invokevirtual 117, 3) := by decide +kernel
theorem dL_law_853 : decode cL_law 853 = .ok (.if_icmp .eq 223, 3) := by decide +kernel
theorem dL_law_858 : decode cL_law 858 = .ok (.aload_n 1, 1) := by decide +kernel
theorem dL_law_859 : decode cL_law 859 = .ok (.aload_n 0, 1) := by decide +kernel
theorem dL_law_860 : decode cL_law 860 = .ok (.iload_n 3, 1) := by decide +kernel
theorem dL_law_861 : decode cL_law 861 = .ok (.iconst 1, 1) := by decide +kernel
theorem dL_law_862 : decode cL_law 862 = .ok (.iadd, 1) := by decide +kernel
theorem dL_law_863 : decode cL_law 863 = .ok (.iaload, 1) := by decide +kernel
theorem dL_law_864 : decode cL_law 864 = .ok (.aload_n 0, 1) := by decide +kernel
theorem dL_law_865 : decode cL_law 865 = .ok (.iload_n 3, 1) := by decide +kernel
theorem dL_law_866 : decode cL_law 866 = .ok (.iconst 2, 1) := by decide +kernel
theorem dL_law_867 : decode cL_law 867 = .ok (.iadd, 1) := by decide +kernel
theorem dL_law_868 : decode cL_law 868 = .ok (.iaload, 1) := by decide +kernel
theorem dL_law_869 : decode cL_law 869 = .ok (.invokevirtual 118, 3) := by decide +kernel
theorem dL_law_872 : decode cL_law 872 = .ok (.aload_n 2, 1) := by decide +kernel
theorem dL_law_873 : decode cL_law 873 = .ok (.aload_n 0, 1) := by decide +kernel
theorem dL_law_874 : decode cL_law 874 = .ok (.iload_n 3, 1) := by decide +kernel
theorem dL_law_875 : decode cL_law 875 = .ok (.iconst 1, 1) := by decide +kernel
theorem dL_law_876 : decode cL_law 876 = .ok (.iadd, 1) := by decide +kernel
theorem dL_law_877 : decode cL_law 877 = .ok (.iaload, 1) := by decide +kernel
theorem dL_law_878 : decode cL_law 878 = .ok (.aload_n 0, 1) := by decide +kernel
theorem dL_law_879 : decode cL_law 879 = .ok (.iload_n 3, 1) := by decide +kernel
theorem dL_law_880 : decode cL_law 880 = .ok (.iconst 2, 1) := by decide +kernel
theorem dL_law_881 : decode cL_law 881 = .ok (.iadd, 1) := by decide +kernel
theorem dL_law_882 : decode cL_law 882 = .ok (.iaload, 1) := by decide +kernel
theorem dL_law_883 : decode cL_law 883 = .ok (.invokevirtual 122, 3) := by decide +kernel
theorem dL_law_886 : decode cL_law 886 = .ok (.goto 190, 3) := by decide +kernel
theorem dL_law_889 : decode cL_law 889 = .ok (.aload_n 1, 1) := by decide +kernel
theorem dL_law_890 : decode cL_law 890 = .ok (.invokevirtual 123, 3) := by decide +kernel
theorem dL_law_893 : decode cL_law 893 = .ok (.aload_n 2, 1) := by decide +kernel
theorem dL_law_894 : decode cL_law 894 = .ok (.invokevirtual 126, 3) := by decide +kernel
theorem dL_law_897 : decode cL_law 897 = .ok (.if_icmp .eq 179, 3) := by decide +kernel
theorem dL_law_902 : decode cL_law 902 = .ok (.aload_n 1, 1) := by decide +kernel
theorem dL_law_903 : decode cL_law 903 = .ok (.aload_n 0, 1) := by decide +kernel
theorem dL_law_904 : decode cL_law 904 = .ok (.iload_n 3, 1) := by decide +kernel
theorem dL_law_905 : decode cL_law 905 = .ok (.iconst 1, 1) := by decide +kernel
theorem dL_law_906 : decode cL_law 906 = .ok (.iadd, 1) := by decide +kernel
theorem dL_law_907 : decode cL_law 907 = .ok (.iaload, 1) := by decide +kernel
theorem dL_law_908 : decode cL_law 908 = .ok (.i2l, 1) := by decide +kernel
theorem dL_law_909 : decode cL_law 909 = .ok (.bipush 32, 2) := by decide +kernel
theorem dL_law_911 : decode cL_law 911 = .ok (.lshl, 1) := by decide +kernel
theorem dL_law_912 : decode cL_law 912 = .ok (.aload_n 0, 1) := by decide +kernel
theorem dL_law_913 : decode cL_law 913 = .ok (.iload_n 3, 1) := by decide +kernel
theorem dL_law_914 : decode cL_law 914 = .ok (.iconst 2, 1) := by decide +kernel
theorem dL_law_915 : decode cL_law 915 = .ok (.iadd, 1) := by decide +kernel
theorem dL_law_916 : decode cL_law 916 = .ok (.iaload, 1) := by decide +kernel
theorem dL_law_917 : decode cL_law 917 = .ok (.i2l, 1) := by decide +kernel
theorem dL_law_918 : decode cL_law 918 = .ok (.ldc2_w 127, 3) := by decide +kernel
theorem dL_law_921 : decode cL_law 921 = .ok (.land, 1) := by decide +kernel
theorem dL_law_922 : decode cL_law 922 = .ok (.lor, 1) := by decide +kernel
theorem dL_law_923 : decode cL_law 923 = .ok (.invokevirtual 129, 3) := by decide +kernel
theorem dL_law_926 : decode cL_law 926 = .ok (.aload_n 2, 1) := by decide +kernel
theorem dL_law_927 : decode cL_law 927 = .ok (.aload_n 0, 1) := by decide +kernel
theorem dL_law_928 : decode cL_law 928 = .ok (.iload_n 3, 1) := by decide +kernel
theorem dL_law_929 : decode cL_law 929 = .ok (.iconst 1, 1) := by decide +kernel
theorem dL_law_930 : decode cL_law 930 = .ok (.iadd, 1) := by decide +kernel
theorem dL_law_931 : decode cL_law 931 = .ok (.iaload, 1) := by decide +kernel
theorem dL_law_932 : decode cL_law 932 = .ok (.i2l, 1) := by decide +kernel
theorem dL_law_933 : decode cL_law 933 = .ok (.bipush 32, 2) := by decide +kernel
theorem dL_law_935 : decode cL_law 935 = .ok (.lshl, 1) := by decide +kernel
theorem dL_law_936 : decode cL_law 936 = .ok (.aload_n 0, 1) := by decide +kernel
theorem dL_law_937 : decode cL_law 937 = .ok (.iload_n 3, 1) := by decide +kernel
theorem dL_law_938 : decode cL_law 938 = .ok (.iconst 2, 1) := by decide +kernel
theorem dL_law_939 : decode cL_law 939 = .ok (.iadd, 1) := by decide +kernel
theorem dL_law_940 : decode cL_law 940 = .ok (.iaload, 1) := by decide +kernel
theorem dL_law_941 : decode cL_law 941 = .ok (.i2l, 1) := by decide +kernel
theorem dL_law_942 : decode cL_law 942 = .ok (.ldc2_w 127, 3) := by decide +kernel
theorem dL_law_945 : decode cL_law 945 = .ok (.land, 1) := by decide +kernel
theorem dL_law_946 : decode cL_law 946 = .ok (.lor, 1) := by decide +kernel
theorem dL_law_947 : decode cL_law 947 = .ok (.invokevirtual 133, 3) := by decide +kernel
theorem dL_law_950 : decode cL_law 950 = .ok (.goto 126, 3) := by decide +kernel
theorem dL_law_953 : decode cL_law 953 = .ok (.aload_n 1, 1) := by decide +kernel
theorem dL_law_954 : decode cL_law 954 = .ok (.aload_n 0, 1) := by decide +kernel
theorem dL_law_955 : decode cL_law 955 = .ok (.iload_n 3, 1) := by decide +kernel
theorem dL_law_956 : decode cL_law 956 = .ok (.iconst 1, 1) := by decide +kernel
theorem dL_law_957 : decode cL_law 957 = .ok (.iadd, 1) := by decide +kernel
theorem dL_law_958 : decode cL_law 958 = .ok (.iaload, 1) := by decide +kernel
theorem dL_law_959 : decode cL_law 959 = .ok (.aload_n 0, 1) := by decide +kernel
theorem dL_law_960 : decode cL_law 960 = .ok (.iload_n 3, 1) := by decide +kernel
theorem dL_law_961 : decode cL_law 961 = .ok (.iconst 2, 1) := by decide +kernel
theorem dL_law_962 : decode cL_law 962 = .ok (.iadd, 1) := by decide +kernel
theorem dL_law_963 : decode cL_law 963 = .ok (.iaload, 1) := by decide +kernel
theorem dL_law_964 : decode cL_law 964 = .ok (.invokevirtual 134, 3) := by decide +kernel
theorem dL_law_967 : decode cL_law 967 = .ok (.aload_n 2, 1) := by decide +kernel
theorem dL_law_968 : decode cL_law 968 = .ok (.aload_n 0, 1) := by decide +kernel
theorem dL_law_969 : decode cL_law 969 = .ok (.iload_n 3, 1) := by decide +kernel
theorem dL_law_970 : decode cL_law 970 = .ok (.iconst 1, 1) := by decide +kernel
theorem dL_law_971 : decode cL_law 971 = .ok (.iadd, 1) := by decide +kernel
theorem dL_law_972 : decode cL_law 972 = .ok (.iaload, 1) := by decide +kernel
theorem dL_law_973 : decode cL_law 973 = .ok (.aload_n 0, 1) := by decide +kernel
theorem dL_law_974 : decode cL_law 974 = .ok (.iload_n 3, 1) := by decide +kernel
theorem dL_law_975 : decode cL_law 975 = .ok (.iconst 2, 1) := by decide +kernel
theorem dL_law_976 : decode cL_law 976 = .ok (.iadd, 1) := by decide +kernel
theorem dL_law_977 : decode cL_law 977 = .ok (.iaload, 1) := by decide +kernel
theorem dL_law_978 : decode cL_law 978 = .ok (.invokevirtual 137, 3) := by decide +kernel
theorem dL_law_981 : decode cL_law 981 = .ok (.if_icmp .eq 95, 3) := by decide +kernel
theorem dL_law_986 : decode cL_law 986 = .ok (.aload_n 1, 1) := by decide +kernel
theorem dL_law_987 : decode cL_law 987 = .ok (.invokevirtual 138, 3) := by decide +kernel
theorem dL_law_990 : decode cL_law 990 = .ok (.aload_n 2, 1) := by decide +kernel
theorem dL_law_991 : decode cL_law 991 = .ok (.invokevirtual 142, 3) := by decide +kernel
theorem dL_law_994 : decode cL_law 994 = .ok (.lcmp, 1) := by decide +kernel
theorem dL_law_995 : decode cL_law 995 = .ok (.ifCond .eq 81, 3) := by decide +kernel
theorem dL_law_1000 : decode cL_law 1000 = .ok (.aload_n 1, 1) := by decide +kernel
theorem dL_law_1001 : decode cL_law 1001 = .ok (.invokevirtual 143, 3) := by decide +kernel
theorem dL_law_1004 : decode cL_law 1004 = .ok (.aload_n 2, 1) := by decide +kernel
theorem dL_law_1005 : decode cL_law 1005 = .ok (.invokevirtual 146, 3) := by decide +kernel
theorem dL_law_1008 : decode cL_law 1008 = .ok (.if_icmp .eq 68, 3) := by decide +kernel
theorem dL_law_1013 : decode cL_law 1013 = .ok (.aload_n 1, 1) := by decide +kernel
theorem dL_law_1014 : decode cL_law 1014 = .ok (.invokevirtual 147, 3) := by decide +kernel
theorem dL_law_1017 : decode cL_law 1017 = .ok (.aload_n 2, 1) := by decide +kernel
theorem dL_law_1018 : decode cL_law 1018 = .ok (.invokevirtual 150, 3) := by decide +kernel
theorem dL_law_1021 : decode cL_law 1021 = .ok (.lcmp, 1) := by decide +kernel
theorem dL_law_1022 : decode cL_law 1022 = .ok (.ifCond .eq 54, 3) := by decide +kernel
theorem dL_law_1027 : decode cL_law 1027 = .ok (.aload_n 1, 1) := by decide +kernel
theorem dL_law_1028 : decode cL_law 1028 = .ok (.invokevirtual 151, 3) := by decide +kernel
theorem dL_law_1031 : decode cL_law 1031 = .ok (.aload_n 2, 1) := by decide +kernel
theorem dL_law_1032 : decode cL_law 1032 = .ok (.invokevirtual 154, 3) := by decide +kernel
theorem dL_law_1035 : decode cL_law 1035 = .ok (.if_icmp .eq 41, 3) := by decide +kernel
theorem dL_law_1040 : decode cL_law 1040 = .ok (.aload_n 1, 1) := by decide +kernel
theorem dL_law_1041 : decode cL_law 1041 = .ok (.aload_n 0, 1) := by decide +kernel
theorem dL_law_1042 : decode cL_law 1042 = .ok (.iload_n 3, 1) := by decide +kernel
theorem dL_law_1043 : decode cL_law 1043 = .ok (.iconst 1, 1) := by decide +kernel
theorem dL_law_1044 : decode cL_law 1044 = .ok (.iadd, 1) := by decide +kernel
theorem dL_law_1045 : decode cL_law 1045 = .ok (.iaload, 1) := by decide +kernel
theorem dL_law_1046 : decode cL_law 1046 = .ok (.invokevirtual 155, 3) := by decide +kernel
theorem dL_law_1049 : decode cL_law 1049 = .ok (.aload_n 2, 1) := by decide +kernel
theorem dL_law_1050 : decode cL_law 1050 = .ok (.aload_n 0, 1) := by decide +kernel
theorem dL_law_1051 : decode cL_law 1051 = .ok (.iload_n 3, 1) := by decide +kernel
theorem dL_law_1052 : decode cL_law 1052 = .ok (.iconst 1, 1) := by decide +kernel
theorem dL_law_1053 : decode cL_law 1053 = .ok (.iadd, 1) := by decide +kernel
theorem dL_law_1054 : decode cL_law 1054 = .ok (.iaload, 1) := by decide +kernel
theorem dL_law_1055 : decode cL_law 1055 = .ok (.invokevirtual 158, 3) := by decide +kernel
theorem dL_law_1058 : decode cL_law 1058 = .ok (.if_icmp .eq 18, 3) := by decide +kernel
theorem dL_law_1063 : decode cL_law 1063 = .ok (.aload_n 1, 1) := by decide +kernel
theorem dL_law_1064 : decode cL_law 1064 = .ok (.invokevirtual 159, 3) := by decide +kernel
theorem dL_law_1067 : decode cL_law 1067 = .ok (.aload_n 2, 1) := by decide +kernel
theorem dL_law_1068 : decode cL_law 1068 = .ok (.invokevirtual 162, 3) := by decide +kernel
theorem dL_law_1071 : decode cL_law 1071 = .ok (.if_icmp .eq 5, 3) := by decide +kernel
theorem dL_law_1076 : decode cL_law 1076 = .ok (.iinc 3 6, 3) := by decide +kernel
theorem dL_law_1079 : decode cL_law 1079 = .ok (.goto (-1061), 3) := by decide +kernel
theorem dL_law_1082 : decode cL_law 1082 = .ok (.iconst 1, 1) := by decide +kernel
theorem dL_law_1083 : decode cL_law 1083 = .ok (.ireturn, 1) := by decide +kernel
theorem dX10_init_0 : decode cX10_init 0 = .ok (.aload_n 0, 1) := by decide +kernel
theorem dX10_init_1 : decode cX10_init 1 = .ok (.invokespecial 3, 3) := by decide +kernel
theorem dX10_init_4 : decode cX10_init 4 = .ok (.aload_n 0, 1) := by decide +kernel
theorem dX10_init_5 : decode cX10_init 5 = .ok (.new 9, 3) := by decide +kernel
theorem dX10_init_8 : decode cX10_init 8 = .ok (.dup, 1) := by decide +kernel
theorem dX10_init_9 : decode cX10_init 9 = .ok (.invokespecial 11, 3) := by decide +kernel
theorem dX10_init_12 : decode cX10_init 12 = .ok (.putfield 12, 3) := by decide +kernel
theorem dX10_init_15 : decode cX10_init 15 = .ok (.aload_n 0, 1) := by decide +kernel
theorem dX10_init_16 : decode cX10_init 16 = .ok (.new 9, 3) := by decide +kernel
theorem dX10_init_19 : decode cX10_init 19 = .ok (.dup, 1) := by decide +kernel
theorem dX10_init_20 : decode cX10_init 20 = .ok (.invokespecial 11, 3) := by decide +kernel
theorem dX10_init_23 : decode cX10_init 23 = .ok (.putfield 18, 3) := by decide +kernel
theorem dX10_init_26 : decode cX10_init 26 = .ok (.aload_n 0, 1) := by decide +kernel
theorem dX10_init_27 : decode cX10_init 27 = .ok (.new 9, 3) := by decide +kernel
theorem dX10_init_30 : decode cX10_init 30 = .ok (.dup, 1) := by decide +kernel
theorem dX10_init_31 : decode cX10_init 31 = .ok (.invokespecial 11, 3) := by decide +kernel
theorem dX10_init_34 : decode cX10_init 34 = .ok (.putfield 21, 3) := by decide +kernel
theorem dX10_init_37 : decode cX10_init 37 = .ok (.aload_n 0, 1) := by decide +kernel
theorem dX10_init_38 : decode cX10_init 38 = .ok (.new 9, 3) := by decide +kernel
theorem dX10_init_41 : decode cX10_init 41 = .ok (.dup, 1) := by decide +kernel
theorem dX10_init_42 : decode cX10_init 42 = .ok (.invokespecial 11, 3) := by decide +kernel
theorem dX10_init_45 : decode cX10_init 45 = .ok (.putfield 24, 3) := by decide +kernel
theorem dX10_init_48 : decode cX10_init 48 = .ok (.aload_n 0, 1) := by decide +kernel
theorem dX10_init_49 : decode cX10_init 49 = .ok (.new 9, 3) := by decide +kernel
theorem dX10_init_52 : decode cX10_init 52 = .ok (.dup, 1) := by decide +kernel
theorem dX10_init_53 : decode cX10_init 53 = .ok (.invokespecial 11, 3) := by decide +kernel
theorem dX10_init_56 : decode cX10_init 56 = .ok (.putfield 27, 3) := by decide +kernel
theorem dX10_init_59 : decode cX10_init 59 = .ok (.aload_n 0, 1) := by decide +kernel
theorem dX10_init_60 : decode cX10_init 60 = .ok (.new 9, 3) := by decide +kernel
theorem dX10_init_63 : decode cX10_init 63 = .ok (.dup, 1) := by decide +kernel
theorem dX10_init_64 : decode cX10_init 64 = .ok (.invokespecial 11, 3) := by decide +kernel
theorem dX10_init_67 : decode cX10_init 67 = .ok (.putfield 30, 3) := by decide +kernel
theorem dX10_init_70 : decode cX10_init 70 = .ok (.aload_n 0, 1) := by decide +kernel
theorem dX10_init_71 : decode cX10_init 71 = .ok (.new 9, 3) := by decide +kernel
theorem dX10_init_74 : decode cX10_init 74 = .ok (.dup, 1) := by decide +kernel
theorem dX10_init_75 : decode cX10_init 75 = .ok (.invokespecial 11, 3) := by decide +kernel
theorem dX10_init_78 : decode cX10_init 78 = .ok (.putfield 33, 3) := by decide +kernel
theorem dX10_init_81 : decode cX10_init 81 = .ok (.aload_n 0, 1) := by decide +kernel
theorem dX10_init_82 : decode cX10_init 82 = .ok (.new 9, 3) := by decide +kernel
theorem dX10_init_85 : decode cX10_init 85 = .ok (.dup, 1) := by decide +kernel
theorem dX10_init_86 : decode cX10_init 86 = .ok (.invokespecial 11, 3) := by decide +kernel
theorem dX10_init_89 : decode cX10_init 89 = .ok (.putfield 36, 3) := by decide +kernel
theorem dX10_init_92 : decode cX10_init 92 = .ok (.aload_n 0, 1) := by decide +kernel
theorem dX10_init_93 : decode cX10_init 93 = .ok (.new 9, 3) := by decide +kernel
theorem dX10_init_96 : decode cX10_init 96 = .ok (.dup, 1) := by decide +kernel
theorem dX10_init_97 : decode cX10_init 97 = .ok (.invokespecial 11, 3) := by decide +kernel
theorem dX10_init_100 : decode cX10_init 100 = .ok (.putfield 39, 3) := by decide +kernel
theorem dX10_init_103 : decode cX10_init 103 = .ok (.aload_n 0, 1) := by decide +kernel
theorem dX10_init_104 : decode cX10_init 104 = .ok (.new 9, 3) := by decide +kernel
theorem dX10_init_107 : decode cX10_init 107 = .ok (.dup, 1) := by decide +kernel
theorem dX10_init_108 : decode cX10_init 108 = .ok (.invokespecial 11, 3) := by decide +kernel
theorem dX10_init_111 : decode cX10_init 111 = .ok (.putfield 42, 3) := by decide +kernel
theorem dX10_init_114 : decode cX10_init 114 = .ok (.aload_n 0, 1) := by decide +kernel
theorem dX10_init_115 : decode cX10_init 115 = .ok (.aload_n 1, 1) := by decide +kernel
theorem dX10_init_116 : decode cX10_init 116 = .ok (.putfield 45, 3) := by decide +kernel
theorem dX10_init_119 : decode cX10_init 119 = .ok (.return_, 1) := by decide +kernel
theorem dX11_assemble_0 : decode cX11_assemble 0 = .ok (.aload_n 0, 1) := by decide +kernel
theorem dX11_assemble_1 : decode cX11_assemble 1 = .ok (.invokevirtual 67, 3) := by decide +kernel
theorem dX11_assemble_4 : decode cX11_assemble 4 = .ok (.istore_n 2, 1) := by decide +kernel
theorem dX11_assemble_5 : decode cX11_assemble 5 = .ok (.iload_n 1, 1) := by decide +kernel
theorem dX11_assemble_6 : decode cX11_assemble 6 = .ok (.invokestatic 71, 3) := by decide +kernel
theorem dX11_assemble_9 : decode cX11_assemble 9 = .ok (.ifCond .ne 5, 3) := by decide +kernel
theorem dX11_assemble_12 : decode cX11_assemble 12 = .ok (.iconst (-1), 1) := by decide +kernel
theorem dX11_assemble_13 : decode cX11_assemble 13 = .ok (.ireturn, 1) := by decide +kernel
theorem dX11_assemble_14 : decode cX11_assemble 14 = .ok (.aload_n 0, 1) := by decide +kernel
theorem dX11_assemble_15 : decode cX11_assemble 15 = .ok (.getfield 34, 3) := by decide +kernel
theorem dX11_assemble_18 : decode cX11_assemble 18 = .ok (.aload_n 0, 1) := by decide +kernel
theorem dX11_assemble_19 : decode cX11_assemble 19 = .ok (.getfield 9, 3) := by decide +kernel
theorem dX11_assemble_22 : decode cX11_assemble 22 = .ok (.iload_n 2, 1) := by decide +kernel
theorem dX11_assemble_23 : decode cX11_assemble 23 = .ok (.invokevirtual 75, 3) := by decide +kernel
theorem dX11_assemble_26 : decode cX11_assemble 26 = .ok (.istore_n 3, 1) := by decide +kernel
theorem dX11_assemble_27 : decode cX11_assemble 27 = .ok (.iload_n 3, 1) := by decide +kernel
theorem dX11_assemble_28 : decode cX11_assemble 28 = .ok (.ifCond .le 19, 3) := by decide +kernel
theorem dX11_assemble_47 : decode cX11_assemble 47 = .ok (.iload_n 3, 1) := by decide +kernel
theorem dX11_assemble_48 : decode cX11_assemble 48 = .ok (.ireturn, 1) := by decide +kernel
theorem dX11_chances_0 : decode cX11_chances 0 = .ok (.aload_n 0, 1) := by decide +kernel
theorem dX11_chances_1 : decode cX11_chances 1 = .ok (.getfield 59, 3) := by decide +kernel
theorem dX11_chances_4 : decode cX11_chances 4 = .ok (.lload_n 1, 1) := by decide +kernel
theorem dX11_chances_5 : decode cX11_chances 5 = .ok (.putfield 225, 3) := by decide +kernel
theorem dX11_chances_8 : decode cX11_chances 8 = .ok (.return_, 1) := by decide +kernel
theorem dX11_cut_0 : decode cX11_cut 0 = .ok (.iload_n 1, 1) := by decide +kernel
theorem dX11_cut_1 : decode cX11_cut 1 = .ok (.ifCond .lt 11, 3) := by decide +kernel
theorem dX11_cut_4 : decode cX11_cut 4 = .ok (.iload_n 1, 1) := by decide +kernel
theorem dX11_cut_5 : decode cX11_cut 5 = .ok (.aload_n 0, 1) := by decide +kernel
theorem dX11_cut_6 : decode cX11_cut 6 = .ok (.getfield 13, 3) := by decide +kernel
theorem dX11_cut_9 : decode cX11_cut 9 = .ok (.if_icmp .le 5, 3) := by decide +kernel
theorem dX11_cut_12 : decode cX11_cut 12 = .ok (.iconst (-1), 1) := by decide +kernel
theorem dX11_cut_13 : decode cX11_cut 13 = .ok (.ireturn, 1) := by decide +kernel
theorem dX11_cut_14 : decode cX11_cut 14 = .ok (.aload_n 0, 1) := by decide +kernel
theorem dX11_cut_15 : decode cX11_cut 15 = .ok (.getfield 13, 3) := by decide +kernel
theorem dX11_cut_18 : decode cX11_cut 18 = .ok (.iload_n 1, 1) := by decide +kernel
theorem dX11_cut_19 : decode cX11_cut 19 = .ok (.isub, 1) := by decide +kernel
theorem dX11_cut_20 : decode cX11_cut 20 = .ok (.istore_n 2, 1) := by decide +kernel
theorem dX11_cut_21 : decode cX11_cut 21 = .ok (.aload_n 0, 1) := by decide +kernel
theorem dX11_cut_22 : decode cX11_cut 22 = .ok (.iload_n 1, 1) := by decide +kernel
theorem dX11_cut_23 : decode cX11_cut 23 = .ok (.putfield 13, 3) := by decide +kernel
theorem dX11_cut_26 : decode cX11_cut 26 = .ok (.iload_n 2, 1) := by decide +kernel
theorem dX11_cut_27 : decode cX11_cut 27 = .ok (.ireturn, 1) := by decide +kernel
theorem dX11_entry_0 : decode cX11_entry 0 = .ok (.aload_n 0, 1) := by decide +kernel
theorem dX11_entry_1 : decode cX11_entry 1 = .ok (.getfield 41, 3) := by decide +kernel
theorem dX11_entry_4 : decode cX11_entry 4 = .ok (.iload_n 1, 1) := by decide +kernel
theorem dX11_entry_5 : decode cX11_entry 5 = .ok (.iconst 1, 1) := by decide +kernel
theorem dX11_entry_6 : decode cX11_entry 6 = .ok (.invokevirtual 175, 3) := by decide +kernel
theorem dX11_entry_9 : decode cX11_entry 9 = .ok (.ifCond .eq 20, 3) := by decide +kernel
theorem dX11_entry_29 : decode cX11_entry 29 = .ok (.iconst (-1), 1) := by decide +kernel
theorem dX11_entry_30 : decode cX11_entry 30 = .ok (.ireturn, 1) := by decide +kernel
theorem dX11_feed_0 : decode cX11_feed 0 = .ok (.aload_n 0, 1) := by decide +kernel
theorem dX11_feed_1 : decode cX11_feed 1 = .ok (.getfield 13, 3) := by decide +kernel
theorem dX11_feed_4 : decode cX11_feed 4 = .ok (.bipush 20, 2) := by decide +kernel
theorem dX11_feed_6 : decode cX11_feed 6 = .ok (.iadd, 1) := by decide +kernel
theorem dX11_feed_7 : decode cX11_feed 7 = .ok (.sipush 4000, 3) := by decide +kernel
theorem dX11_feed_10 : decode cX11_feed 10 = .ok (.if_icmp .le 5, 3) := by decide +kernel
theorem dX11_feed_15 : decode cX11_feed 15 = .ok (.aload_n 0, 1) := by decide +kernel
theorem dX11_feed_16 : decode cX11_feed 16 = .ok (.iload_n 1, 1) := by decide +kernel
theorem dX11_feed_17 : decode cX11_feed 17 = .ok (.invokevirtual 63, 3) := by decide +kernel
theorem dX11_feed_20 : decode cX11_feed 20 = .ok (.aload_n 0, 1) := by decide +kernel
theorem dX11_feed_21 : decode cX11_feed 21 = .ok (.iload_n 2, 1) := by decide +kernel
theorem dX11_feed_22 : decode cX11_feed 22 = .ok (.invokevirtual 63, 3) := by decide +kernel
theorem dX11_feed_25 : decode cX11_feed 25 = .ok (.aload_n 0, 1) := by decide +kernel
theorem dX11_feed_26 : decode cX11_feed 26 = .ok (.iload_n 3, 1) := by decide +kernel
theorem dX11_feed_27 : decode cX11_feed 27 = .ok (.invokevirtual 63, 3) := by decide +kernel
theorem dX11_feed_30 : decode cX11_feed 30 = .ok (.aload_n 0, 1) := by decide +kernel
theorem dX11_feed_31 : decode cX11_feed 31 = .ok (.iload 4, 2) := by decide +kernel
theorem dX11_feed_33 : decode cX11_feed 33 = .ok (.invokevirtual 63, 3) := by decide +kernel
theorem dX11_feed_36 : decode cX11_feed 36 = .ok (.aload_n 0, 1) := by decide +kernel
theorem dX11_feed_37 : decode cX11_feed 37 = .ok (.iload 5, 2) := by decide +kernel
theorem dX11_feed_39 : decode cX11_feed 39 = .ok (.invokevirtual 63, 3) := by decide +kernel
theorem dX11_feed_42 : decode cX11_feed 42 = .ok (.aload_n 0, 1) := by decide +kernel
theorem dX11_feed_43 : decode cX11_feed 43 = .ok (.getfield 13, 3) := by decide +kernel
theorem dX11_feed_46 : decode cX11_feed 46 = .ok (.ireturn, 1) := by decide +kernel
theorem dX11_feedNumber_0 : decode cX11_feedNumber 0 = .ok (.bipush 24, 2) := by decide +kernel
theorem dX11_feedNumber_2 : decode cX11_feedNumber 2 = .ok (.istore_n 2, 1) := by decide +kernel
theorem dX11_feedNumber_3 : decode cX11_feedNumber 3 = .ok (.iload_n 2, 1) := by decide +kernel
theorem dX11_feedNumber_4 : decode cX11_feedNumber 4 = .ok (.ifCond .lt 32, 3) := by decide +kernel
theorem dX11_feedNumber_7 : decode cX11_feedNumber 7 = .ok (.aload_n 0, 1) := by decide +kernel
theorem dX11_feedNumber_8 : decode cX11_feedNumber 8 = .ok (.getfield 9, 3) := by decide +kernel
theorem dX11_feedNumber_11 : decode cX11_feedNumber 11 = .ok (.aload_n 0, 1) := by decide +kernel
theorem dX11_feedNumber_12 : decode cX11_feedNumber 12 = .ok (.getfield 13, 3) := by decide +kernel
theorem dX11_feedNumber_15 : decode cX11_feedNumber 15 = .ok (.iload_n 1, 1) := by decide +kernel
theorem dX11_feedNumber_16 : decode cX11_feedNumber 16 = .ok (.iload_n 2, 1) := by decide +kernel
theorem dX11_feedNumber_17 : decode cX11_feedNumber 17 = .ok (.ishr, 1) := by decide +kernel
theorem dX11_feedNumber_18 : decode cX11_feedNumber 18 = .ok (.i2b, 1) := by decide +kernel
theorem dX11_feedNumber_19 : decode cX11_feedNumber 19 = .ok (.bastore, 1) := by decide +kernel
theorem dX11_feedNumber_20 : decode cX11_feedNumber 20 = .ok (.aload_n 0, 1) := by decide +kernel
theorem dX11_feedNumber_21 : decode cX11_feedNumber 21 = .ok (.dup, 1) := by decide +kernel
theorem dX11_feedNumber_22 : decode cX11_feedNumber 22 = .ok (.getfield 13, 3) := by decide +kernel
theorem dX11_feedNumber_25 : decode cX11_feedNumber 25 = .ok (.iconst 1, 1) := by decide +kernel
theorem dX11_feedNumber_26 : decode cX11_feedNumber 26 = .ok (.iadd, 1) := by decide +kernel
theorem dX11_feedNumber_27 : decode cX11_feedNumber 27 = .ok (.putfield 13, 3) := by decide +kernel
theorem dX11_feedNumber_30 : decode cX11_feedNumber 30 = .ok (.iinc 2 (-8), 3) := by decide +kernel
theorem dX11_feedNumber_33 : decode cX11_feedNumber 33 = .ok (.goto (-30), 3) := by decide +kernel
theorem dX11_feedNumber_36 : decode cX11_feedNumber 36 = .ok (.return_, 1) := by decide +kernel
theorem dX11_get_0 : decode cX11_get 0 = .ok (.aload_n 0, 1) := by decide +kernel
theorem dX11_get_1 : decode cX11_get 1 = .ok (.invokevirtual 67, 3) := by decide +kernel
theorem dX11_get_4 : decode cX11_get 4 = .ok (.istore_n 2, 1) := by decide +kernel
theorem dX11_get_5 : decode cX11_get 5 = .ok (.aload_n 0, 1) := by decide +kernel
theorem dX11_get_6 : decode cX11_get 6 = .ok (.getfield 41, 3) := by decide +kernel
theorem dX11_get_9 : decode cX11_get 9 = .ok (.iload_n 1, 1) := by decide +kernel
theorem dX11_get_10 : decode cX11_get 10 = .ok (.invokevirtual 141, 3) := by decide +kernel
theorem dX11_get_13 : decode cX11_get 13 = .ok (.ifCond .eq 16, 3) := by decide +kernel
theorem dX11_get_29 : decode cX11_get 29 = .ok (.iconst (-1), 1) := by decide +kernel
theorem dX11_get_30 : decode cX11_get 30 = .ok (.ireturn, 1) := by decide +kernel
theorem dX11_given_0 : decode cX11_given 0 = .ok (.aload_n 0, 1) := by decide +kernel
theorem dX11_given_1 : decode cX11_given 1 = .ok (.getfield 59, 3) := by decide +kernel
theorem dX11_given_4 : decode cX11_given 4 = .ok (.iload_n 1, 1) := by decide +kernel
theorem dX11_given_5 : decode cX11_given 5 = .ok (.putfield 219, 3) := by decide +kernel
theorem dX11_given_8 : decode cX11_given 8 = .ok (.aload_n 0, 1) := by decide +kernel
theorem dX11_given_9 : decode cX11_given 9 = .ok (.getfield 59, 3) := by decide +kernel
theorem dX11_given_12 : decode cX11_given 12 = .ok (.iload_n 2, 1) := by decide +kernel
theorem dX11_given_13 : decode cX11_given 13 = .ok (.putfield 222, 3) := by decide +kernel
theorem dX11_given_16 : decode cX11_given 16 = .ok (.return_, 1) := by decide +kernel
theorem dX11_init_0 : decode cX11_init 0 = .ok (.aload_n 0, 1) := by decide +kernel
theorem dX11_init_1 : decode cX11_init 1 = .ok (.invokespecial 1, 3) := by decide +kernel
theorem dX11_init_4 : decode cX11_init 4 = .ok (.aload_n 0, 1) := by decide +kernel
theorem dX11_init_5 : decode cX11_init 5 = .ok (.sipush 4000, 3) := by decide +kernel
theorem dX11_init_8 : decode cX11_init 8 = .ok (.newarray .byte, 2) := by decide +kernel
theorem dX11_init_10 : decode cX11_init 10 = .ok (.putfield 9, 3) := by decide +kernel
theorem dX11_init_13 : decode cX11_init 13 = .ok (.aload_n 0, 1) := by decide +kernel
theorem dX11_init_14 : decode cX11_init 14 = .ok (.iconst 0, 1) := by decide +kernel
theorem dX11_init_15 : decode cX11_init 15 = .ok (.putfield 13, 3) := by decide +kernel
theorem dX11_init_18 : decode cX11_init 18 = .ok (.aload_n 0, 1) := by decide +kernel
theorem dX11_init_19 : decode cX11_init 19 = .ok (.new 17, 3) := by decide +kernel
theorem dX11_init_22 : decode cX11_init 22 = .ok (.dup, 1) := by decide +kernel
theorem dX11_init_23 : decode cX11_init 23 = .ok (.invokespecial 19, 3) := by decide +kernel
theorem dX11_init_26 : decode cX11_init 26 = .ok (.putfield 20, 3) := by decide +kernel
theorem dX11_init_29 : decode cX11_init 29 = .ok (.aload_n 0, 1) := by decide +kernel
theorem dX11_init_30 : decode cX11_init 30 = .ok (.new 24, 3) := by decide +kernel
theorem dX11_init_33 : decode cX11_init 33 = .ok (.dup, 1) := by decide +kernel
theorem dX11_init_34 : decode cX11_init 34 = .ok (.invokespecial 26, 3) := by decide +kernel
theorem dX11_init_37 : decode cX11_init 37 = .ok (.putfield 27, 3) := by decide +kernel
theorem dX11_init_40 : decode cX11_init 40 = .ok (.aload_n 0, 1) := by decide +kernel
theorem dX11_init_41 : decode cX11_init 41 = .ok (.new 31, 3) := by decide +kernel
theorem dX11_init_44 : decode cX11_init 44 = .ok (.dup, 1) := by decide +kernel
theorem dX11_init_45 : decode cX11_init 45 = .ok (.invokespecial 33, 3) := by decide +kernel
theorem dX11_init_48 : decode cX11_init 48 = .ok (.putfield 34, 3) := by decide +kernel
theorem dX11_init_51 : decode cX11_init 51 = .ok (.aload_n 0, 1) := by decide +kernel
theorem dX11_init_52 : decode cX11_init 52 = .ok (.new 38, 3) := by decide +kernel
theorem dX11_init_55 : decode cX11_init 55 = .ok (.dup, 1) := by decide +kernel
theorem dX11_init_56 : decode cX11_init 56 = .ok (.invokespecial 40, 3) := by decide +kernel
theorem dX11_init_59 : decode cX11_init 59 = .ok (.putfield 41, 3) := by decide +kernel
theorem dX11_init_62 : decode cX11_init 62 = .ok (.aload_n 0, 1) := by decide +kernel
theorem dX11_init_63 : decode cX11_init 63 = .ok (.new 45, 3) := by decide +kernel
theorem dX11_init_66 : decode cX11_init 66 = .ok (.dup, 1) := by decide +kernel
theorem dX11_init_67 : decode cX11_init 67 = .ok (.aload_n 0, 1) := by decide +kernel
theorem dX11_init_68 : decode cX11_init 68 = .ok (.getfield 41, 3) := by decide +kernel
theorem dX11_init_71 : decode cX11_init 71 = .ok (.invokespecial 47, 3) := by decide +kernel
theorem dX11_init_74 : decode cX11_init 74 = .ok (.putfield 50, 3) := by decide +kernel
theorem dX11_init_77 : decode cX11_init 77 = .ok (.aload_n 0, 1) := by decide +kernel
theorem dX11_init_78 : decode cX11_init 78 = .ok (.new 54, 3) := by decide +kernel
theorem dX11_init_81 : decode cX11_init 81 = .ok (.dup, 1) := by decide +kernel
theorem dX11_init_82 : decode cX11_init 82 = .ok (.aload_n 0, 1) := by decide +kernel
theorem dX11_init_83 : decode cX11_init 83 = .ok (.getfield 27, 3) := by decide +kernel
theorem dX11_init_86 : decode cX11_init 86 = .ok (.aload_n 0, 1) := by decide +kernel
theorem dX11_init_87 : decode cX11_init 87 = .ok (.getfield 41, 3) := by decide +kernel
theorem dX11_init_90 : decode cX11_init 90 = .ok (.invokespecial 56, 3) := by decide +kernel
theorem dX11_init_93 : decode cX11_init 93 = .ok (.putfield 59, 3) := by decide +kernel
theorem dX11_init_96 : decode cX11_init 96 = .ok (.return_, 1) := by decide +kernel
theorem dX11_judge_0 : decode cX11_judge 0 = .ok (.aload_n 0, 1) := by decide +kernel
theorem dX11_judge_1 : decode cX11_judge 1 = .ok (.iload_n 1, 1) := by decide +kernel
theorem dX11_judge_2 : decode cX11_judge 2 = .ok (.invokevirtual 95, 3) := by decide +kernel
theorem dX11_judge_5 : decode cX11_judge 5 = .ok (.istore_n 2, 1) := by decide +kernel
theorem dX11_judge_6 : decode cX11_judge 6 = .ok (.iload_n 2, 1) := by decide +kernel
theorem dX11_judge_7 : decode cX11_judge 7 = .ok (.ifCond .ne 5, 3) := by decide +kernel
theorem dX11_judge_10 : decode cX11_judge 10 = .ok (.iconst (-1), 1) := by decide +kernel
theorem dX11_judge_11 : decode cX11_judge 11 = .ok (.ireturn, 1) := by decide +kernel
theorem dX11_known_0 : decode cX11_known 0 = .ok (.aload_n 0, 1) := by decide +kernel
theorem dX11_known_1 : decode cX11_known 1 = .ok (.getfield 50, 3) := by decide +kernel
theorem dX11_known_4 : decode cX11_known 4 = .ok (.iload_n 1, 1) := by decide +kernel
theorem dX11_known_5 : decode cX11_known 5 = .ok (.iload_n 2, 1) := by decide +kernel
theorem dX11_known_6 : decode cX11_known 6 = .ok (.iload_n 3, 1) := by decide +kernel
theorem dX11_known_7 : decode cX11_known 7 = .ok (.invokevirtual 133, 3) := by decide +kernel
theorem dX11_known_10 : decode cX11_known 10 = .ok (.lreturn, 1) := by decide +kernel
theorem dX11_length_0 : decode cX11_length 0 = .ok (.aload_n 0, 1) := by decide +kernel
theorem dX11_length_1 : decode cX11_length 1 = .ok (.getfield 59, 3) := by decide +kernel
theorem dX11_length_4 : decode cX11_length 4 = .ok (.getfield 216, 3) := by decide +kernel
theorem dX11_length_7 : decode cX11_length 7 = .ok (.ireturn, 1) := by decide +kernel
theorem dX11_link_0 : decode cX11_link 0 = .ok (.aload_n 0, 1) := by decide +kernel
theorem dX11_link_1 : decode cX11_link 1 = .ok (.getfield 41, 3) := by decide +kernel
theorem dX11_link_4 : decode cX11_link 4 = .ok (.iload_n 1, 1) := by decide +kernel
theorem dX11_link_5 : decode cX11_link 5 = .ok (.iconst 2, 1) := by decide +kernel
theorem dX11_link_6 : decode cX11_link 6 = .ok (.invokevirtual 175, 3) := by decide +kernel
theorem dX11_link_9 : decode cX11_link 9 = .ok (.ifCond .eq 20, 3) := by decide +kernel
theorem dX11_link_29 : decode cX11_link 29 = .ok (.iconst 0, 1) := by decide +kernel
theorem dX11_link_30 : decode cX11_link 30 = .ok (.ireturn, 1) := by decide +kernel
theorem dX11_load_0 : decode cX11_load 0 = .ok (.aload_n 0, 1) := by decide +kernel
theorem dX11_load_1 : decode cX11_load 1 = .ok (.invokevirtual 67, 3) := by decide +kernel
theorem dX11_load_4 : decode cX11_load 4 = .ok (.istore_n 2, 1) := by decide +kernel
theorem dX11_load_5 : decode cX11_load 5 = .ok (.iload_n 1, 1) := by decide +kernel
theorem dX11_load_6 : decode cX11_load 6 = .ok (.invokestatic 71, 3) := by decide +kernel
theorem dX11_load_9 : decode cX11_load 9 = .ok (.ifCond .eq 23, 3) := by decide +kernel
theorem dX11_load_12 : decode cX11_load 12 = .ok (.iload_n 2, 1) := by decide +kernel
theorem dX11_load_13 : decode cX11_load 13 = .ok (.bipush 8, 2) := by decide +kernel
theorem dX11_load_15 : decode cX11_load 15 = .ok (.if_icmp .lt 17, 3) := by decide +kernel
theorem dX11_load_32 : decode cX11_load 32 = .ok (.iconst (-1), 1) := by decide +kernel
theorem dX11_load_33 : decode cX11_load 33 = .ok (.ireturn, 1) := by decide +kernel
theorem dX11_map_0 : decode cX11_map 0 = .ok (.aload_n 0, 1) := by decide +kernel
theorem dX11_map_1 : decode cX11_map 1 = .ok (.getfield 41, 3) := by decide +kernel
theorem dX11_map_4 : decode cX11_map 4 = .ok (.iload_n 1, 1) := by decide +kernel
theorem dX11_map_5 : decode cX11_map 5 = .ok (.iload_n 2, 1) := by decide +kernel
theorem dX11_map_6 : decode cX11_map 6 = .ok (.iload_n 3, 1) := by decide +kernel
theorem dX11_map_7 : decode cX11_map 7 = .ok (.iload 4, 2) := by decide +kernel
theorem dX11_map_9 : decode cX11_map 9 = .ok (.iload 5, 2) := by decide +kernel
theorem dX11_map_11 : decode cX11_map 11 = .ok (.invokevirtual 137, 3) := by decide +kernel
theorem dX11_map_14 : decode cX11_map 14 = .ok (.ireturn, 1) := by decide +kernel
theorem dX11_mark_0 : decode cX11_mark 0 = .ok (.aload_n 0, 1) := by decide +kernel
theorem dX11_mark_1 : decode cX11_mark 1 = .ok (.getfield 59, 3) := by decide +kernel
theorem dX11_mark_4 : decode cX11_mark 4 = .ok (.getfield 219, 3) := by decide +kernel
theorem dX11_mark_7 : decode cX11_mark 7 = .ok (.ireturn, 1) := by decide +kernel
theorem dX11_next_0 : decode cX11_next 0 = .ok (.aload_n 0, 1) := by decide +kernel
theorem dX11_next_1 : decode cX11_next 1 = .ok (.getfield 41, 3) := by decide +kernel
theorem dX11_next_4 : decode cX11_next 4 = .ok (.iload_n 1, 1) := by decide +kernel
theorem dX11_next_5 : decode cX11_next 5 = .ok (.iconst 3, 1) := by decide +kernel
theorem dX11_next_6 : decode cX11_next 6 = .ok (.invokevirtual 175, 3) := by decide +kernel
theorem dX11_next_9 : decode cX11_next 9 = .ok (.ifCond .eq 15, 3) := by decide +kernel
theorem dX11_next_24 : decode cX11_next 24 = .ok (.iconst (-1), 1) := by decide +kernel
theorem dX11_next_25 : decode cX11_next 25 = .ok (.ireturn, 1) := by decide +kernel
theorem dX11_out_0 : decode cX11_out 0 = .ok (.iload_n 1, 1) := by decide +kernel
theorem dX11_out_1 : decode cX11_out 1 = .ok (.ifCond .lt 14, 3) := by decide +kernel
theorem dX11_out_4 : decode cX11_out 4 = .ok (.iload_n 1, 1) := by decide +kernel
theorem dX11_out_5 : decode cX11_out 5 = .ok (.aload_n 0, 1) := by decide +kernel
theorem dX11_out_6 : decode cX11_out 6 = .ok (.getfield 20, 3) := by decide +kernel
theorem dX11_out_9 : decode cX11_out 9 = .ok (.getfield 107, 3) := by decide +kernel
theorem dX11_out_12 : decode cX11_out 12 = .ok (.if_icmp .lt 7, 3) := by decide +kernel
theorem dX11_out_15 : decode cX11_out 15 = .ok (.iconst (-1), 1) := by decide +kernel
theorem dX11_out_16 : decode cX11_out 16 = .ok (.goto 16, 3) := by decide +kernel
theorem dX11_out_32 : decode cX11_out 32 = .ok (.ireturn, 1) := by decide +kernel
theorem dX11_outs_0 : decode cX11_outs 0 = .ok (.aload_n 0, 1) := by decide +kernel
theorem dX11_outs_1 : decode cX11_outs 1 = .ok (.getfield 20, 3) := by decide +kernel
theorem dX11_outs_4 : decode cX11_outs 4 = .ok (.getfield 107, 3) := by decide +kernel
theorem dX11_outs_7 : decode cX11_outs 7 = .ok (.ireturn, 1) := by decide +kernel
theorem dX11_packet_0 : decode cX11_packet 0 = .ok (.aload_n 0, 1) := by decide +kernel
theorem dX11_packet_1 : decode cX11_packet 1 = .ok (.invokevirtual 67, 3) := by decide +kernel
theorem dX11_packet_4 : decode cX11_packet 4 = .ok (.istore_n 1, 1) := by decide +kernel
theorem dX11_packet_5 : decode cX11_packet 5 = .ok (.iload_n 1, 1) := by decide +kernel
theorem dX11_packet_6 : decode cX11_packet 6 = .ok (.sipush 256, 3) := by decide +kernel
theorem dX11_packet_9 : decode cX11_packet 9 = .ok (.if_icmp .le 5, 3) := by decide +kernel
theorem dX11_packet_14 : decode cX11_packet 14 = .ok (.aload_n 0, 1) := by decide +kernel
theorem dX11_packet_15 : decode cX11_packet 15 = .ok (.getfield 9, 3) := by decide +kernel
theorem dX11_packet_18 : decode cX11_packet 18 = .ok (.iconst 0, 1) := by decide +kernel
theorem dX11_packet_19 : decode cX11_packet 19 = .ok (.aload_n 0, 1) := by decide +kernel
theorem dX11_packet_20 : decode cX11_packet 20 = .ok (.getfield 41, 3) := by decide +kernel
theorem dX11_packet_23 : decode cX11_packet 23 = .ok (.getfield 158, 3) := by decide +kernel
theorem dX11_packet_26 : decode cX11_packet 26 = .ok (.iconst 0, 1) := by decide +kernel
theorem dX11_packet_27 : decode cX11_packet 27 = .ok (.iload_n 1, 1) := by decide +kernel
theorem dX11_packet_28 : decode cX11_packet 28 = .ok (.invokestatic 210, 3) := by decide +kernel
theorem dX11_packet_31 : decode cX11_packet 31 = .ok (.aload_n 0, 1) := by decide +kernel
theorem dX11_packet_32 : decode cX11_packet 32 = .ok (.getfield 59, 3) := by decide +kernel
theorem dX11_packet_35 : decode cX11_packet 35 = .ok (.iload_n 1, 1) := by decide +kernel
theorem dX11_packet_36 : decode cX11_packet 36 = .ok (.putfield 216, 3) := by decide +kernel
theorem dX11_packet_39 : decode cX11_packet 39 = .ok (.iload_n 1, 1) := by decide +kernel
theorem dX11_packet_40 : decode cX11_packet 40 = .ok (.ireturn, 1) := by decide +kernel
theorem dX11_packetByte_0 : decode cX11_packetByte 0 = .ok (.iload_n 1, 1) := by decide +kernel
theorem dX11_packetByte_1 : decode cX11_packetByte 1 = .ok (.ifCond .lt 14, 3) := by decide +kernel
theorem dX11_packetByte_4 : decode cX11_packetByte 4 = .ok (.iload_n 1, 1) := by decide +kernel
theorem dX11_packetByte_5 : decode cX11_packetByte 5 = .ok (.aload_n 0, 1) := by decide +kernel
theorem dX11_packetByte_6 : decode cX11_packetByte 6 = .ok (.getfield 59, 3) := by decide +kernel
theorem dX11_packetByte_9 : decode cX11_packetByte 9 = .ok (.getfield 216, 3) := by decide +kernel
theorem dX11_packetByte_12 : decode cX11_packetByte 12 = .ok (.if_icmp .lt 7, 3) := by decide +kernel
theorem dX11_packetByte_15 : decode cX11_packetByte 15 = .ok (.iconst (-1), 1) := by decide +kernel
theorem dX11_packetByte_16 : decode cX11_packetByte 16 = .ok (.goto 18, 3) := by decide +kernel
theorem dX11_packetByte_34 : decode cX11_packetByte 34 = .ok (.ireturn, 1) := by decide +kernel
theorem dX11_print_0 : decode cX11_print 0 = .ok (.aload_n 0, 1) := by decide +kernel
theorem dX11_print_1 : decode cX11_print 1 = .ok (.iload_n 1, 1) := by decide +kernel
theorem dX11_print_2 : decode cX11_print 2 = .ok (.invokevirtual 95, 3) := by decide +kernel
theorem dX11_print_5 : decode cX11_print 5 = .ok (.istore_n 2, 1) := by decide +kernel
theorem dX11_print_6 : decode cX11_print 6 = .ok (.iload_n 2, 1) := by decide +kernel
theorem dX11_print_7 : decode cX11_print 7 = .ok (.ifCond .ne 5, 3) := by decide +kernel
theorem dX11_print_10 : decode cX11_print 10 = .ok (.iconst (-1), 1) := by decide +kernel
theorem dX11_print_11 : decode cX11_print 11 = .ok (.ireturn, 1) := by decide +kernel
theorem dX11_put_0 : decode cX11_put 0 = .ok (.aload_n 0, 1) := by decide +kernel
theorem dX11_put_1 : decode cX11_put 1 = .ok (.invokevirtual 67, 3) := by decide +kernel
theorem dX11_put_4 : decode cX11_put 4 = .ok (.istore_n 3, 1) := by decide +kernel
theorem dX11_put_5 : decode cX11_put 5 = .ok (.aload_n 0, 1) := by decide +kernel
theorem dX11_put_6 : decode cX11_put 6 = .ok (.getfield 41, 3) := by decide +kernel
theorem dX11_put_9 : decode cX11_put 9 = .ok (.iload_n 1, 1) := by decide +kernel
theorem dX11_put_10 : decode cX11_put 10 = .ok (.invokevirtual 141, 3) := by decide +kernel
theorem dX11_put_13 : decode cX11_put 13 = .ok (.ifCond .eq 26, 3) := by decide +kernel
theorem dX11_put_39 : decode cX11_put 39 = .ok (.iconst (-1), 1) := by decide +kernel
theorem dX11_put_40 : decode cX11_put 40 = .ok (.ireturn, 1) := by decide +kernel
theorem dX11_remove_0 : decode cX11_remove 0 = .ok (.aload_n 0, 1) := by decide +kernel
theorem dX11_remove_1 : decode cX11_remove 1 = .ok (.invokevirtual 67, 3) := by decide +kernel
theorem dX11_remove_4 : decode cX11_remove 4 = .ok (.istore_n 2, 1) := by decide +kernel
theorem dX11_remove_5 : decode cX11_remove 5 = .ok (.aload_n 0, 1) := by decide +kernel
theorem dX11_remove_6 : decode cX11_remove 6 = .ok (.getfield 41, 3) := by decide +kernel
theorem dX11_remove_9 : decode cX11_remove 9 = .ok (.iload_n 1, 1) := by decide +kernel
theorem dX11_remove_10 : decode cX11_remove 10 = .ok (.invokevirtual 141, 3) := by decide +kernel
theorem dX11_remove_13 : decode cX11_remove 13 = .ok (.ifCond .eq 16, 3) := by decide +kernel
theorem dX11_remove_29 : decode cX11_remove 29 = .ok (.iconst (-1), 1) := by decide +kernel
theorem dX11_remove_30 : decode cX11_remove 30 = .ok (.ireturn, 1) := by decide +kernel
theorem dX11_result_0 : decode cX11_result 0 = .ok (.aload_n 0, 1) := by decide +kernel
theorem dX11_result_1 : decode cX11_result 1 = .ok (.getfield 59, 3) := by decide +kernel
theorem dX11_result_4 : decode cX11_result 4 = .ok (.getfield 235, 3) := by decide +kernel
theorem dX11_result_7 : decode cX11_result 7 = .ok (.lreturn, 1) := by decide +kernel
theorem dX11_run_0 : decode cX11_run 0 = .ok (.aload_n 0, 1) := by decide +kernel
theorem dX11_run_1 : decode cX11_run 1 = .ok (.iload_n 1, 1) := by decide +kernel
theorem dX11_run_2 : decode cX11_run 2 = .ok (.invokevirtual 229, 3) := by decide +kernel
theorem dX11_run_5 : decode cX11_run 5 = .ok (.ifCond .eq 12, 3) := by decide +kernel
theorem dX11_run_17 : decode cX11_run 17 = .ok (.iconst (-1), 1) := by decide +kernel
theorem dX11_run_18 : decode cX11_run 18 = .ok (.ireturn, 1) := by decide +kernel
theorem dX11_size_0 : decode cX11_size 0 = .ok (.aload_n 0, 1) := by decide +kernel
theorem dX11_size_1 : decode cX11_size 1 = .ok (.getfield 41, 3) := by decide +kernel
theorem dX11_size_4 : decode cX11_size 4 = .ok (.iload_n 1, 1) := by decide +kernel
theorem dX11_size_5 : decode cX11_size 5 = .ok (.invokevirtual 191, 3) := by decide +kernel
theorem dX11_size_8 : decode cX11_size 8 = .ok (.ifCond .eq 15, 3) := by decide +kernel
theorem dX11_size_23 : decode cX11_size 23 = .ok (.iconst (-1), 1) := by decide +kernel
theorem dX11_size_24 : decode cX11_size 24 = .ok (.ireturn, 1) := by decide +kernel
theorem dX11_steps_0 : decode cX11_steps 0 = .ok (.aload_n 0, 1) := by decide +kernel
theorem dX11_steps_1 : decode cX11_steps 1 = .ok (.getfield 59, 3) := by decide +kernel
theorem dX11_steps_4 : decode cX11_steps 4 = .ok (.getfield 241, 3) := by decide +kernel
theorem dX11_steps_7 : decode cX11_steps 7 = .ok (.lreturn, 1) := by decide +kernel
theorem dX11_tails_0 : decode cX11_tails 0 = .ok (.aload_n 0, 1) := by decide +kernel
theorem dX11_tails_1 : decode cX11_tails 1 = .ok (.getfield 59, 3) := by decide +kernel
theorem dX11_tails_4 : decode cX11_tails 4 = .ok (.getfield 238, 3) := by decide +kernel
theorem dX11_tails_7 : decode cX11_tails 7 = .ok (.ireturn, 1) := by decide +kernel
theorem dX11_taken_0 : decode cX11_taken 0 = .ok (.iload_n 1, 1) := by decide +kernel
theorem dX11_taken_1 : decode cX11_taken 1 = .ok (.invokestatic 71, 3) := by decide +kernel
theorem dX11_taken_4 : decode cX11_taken 4 = .ok (.ifCond .eq 19, 3) := by decide +kernel
theorem dX11_taken_7 : decode cX11_taken 7 = .ok (.aload_n 0, 1) := by decide +kernel
theorem dX11_taken_8 : decode cX11_taken 8 = .ok (.getfield 27, 3) := by decide +kernel
theorem dX11_taken_11 : decode cX11_taken 11 = .ok (.getfield 126, 3) := by decide +kernel
theorem dX11_taken_14 : decode cX11_taken 14 = .ok (.iload_n 1, 1) := by decide +kernel
theorem dX11_taken_15 : decode cX11_taken 15 = .ok (.baload, 1) := by decide +kernel
theorem dX11_taken_16 : decode cX11_taken 16 = .ok (.ifCond .eq 7, 3) := by decide +kernel
theorem dX11_taken_23 : decode cX11_taken 23 = .ok (.iconst 0, 1) := by decide +kernel
theorem dX11_taken_24 : decode cX11_taken 24 = .ok (.ireturn, 1) := by decide +kernel
theorem dX11_tear_0 : decode cX11_tear 0 = .ok (.aload_n 0, 1) := by decide +kernel
theorem dX11_tear_1 : decode cX11_tear 1 = .ok (.getfield 59, 3) := by decide +kernel
theorem dX11_tear_4 : decode cX11_tear 4 = .ok (.getfield 244, 3) := by decide +kernel
theorem dX11_tear_7 : decode cX11_tear 7 = .ok (.istore_n 1, 1) := by decide +kernel
theorem dX11_tear_8 : decode cX11_tear 8 = .ok (.aload_n 0, 1) := by decide +kernel
theorem dX11_tear_9 : decode cX11_tear 9 = .ok (.getfield 59, 3) := by decide +kernel
theorem dX11_tear_12 : decode cX11_tear 12 = .ok (.iconst 0, 1) := by decide +kernel
theorem dX11_tear_13 : decode cX11_tear 13 = .ok (.putfield 244, 3) := by decide +kernel
theorem dX11_tear_16 : decode cX11_tear 16 = .ok (.iload_n 1, 1) := by decide +kernel
theorem dX11_tear_17 : decode cX11_tear 17 = .ok (.ireturn, 1) := by decide +kernel
theorem dX11_told_0 : decode cX11_told 0 = .ok (.iload_n 1, 1) := by decide +kernel
theorem dX11_told_1 : decode cX11_told 1 = .ok (.ifCond .lt 8, 3) := by decide +kernel
theorem dX11_told_4 : decode cX11_told 4 = .ok (.iload_n 1, 1) := by decide +kernel
theorem dX11_told_5 : decode cX11_told 5 = .ok (.iconst 5, 1) := by decide +kernel
theorem dX11_told_6 : decode cX11_told 6 = .ok (.if_icmp .le 7, 3) := by decide +kernel
theorem dX11_told_9 : decode cX11_told 9 = .ok (.iconst (-1), 1) := by decide +kernel
theorem dX11_told_10 : decode cX11_told 10 = .ok (.goto 12, 3) := by decide +kernel
theorem dX11_told_13 : decode cX11_told 13 = .ok (.aload_n 0, 1) := by decide +kernel
theorem dX11_told_14 : decode cX11_told 14 = .ok (.getfield 50, 3) := by decide +kernel
theorem dX11_told_17 : decode cX11_told 17 = .ok (.getfield 130, 3) := by decide +kernel
theorem dX11_told_20 : decode cX11_told 20 = .ok (.iload_n 1, 1) := by decide +kernel
theorem dX11_told_21 : decode cX11_told 21 = .ok (.iaload, 1) := by decide +kernel
theorem dX11_told_22 : decode cX11_told 22 = .ok (.ireturn, 1) := by decide +kernel
theorem dX11_trace_0 : decode cX11_trace 0 = .ok (.iload_n 1, 1) := by decide +kernel
theorem dX11_trace_1 : decode cX11_trace 1 = .ok (.ifCond .lt 14, 3) := by decide +kernel
theorem dX11_trace_4 : decode cX11_trace 4 = .ok (.iload_n 1, 1) := by decide +kernel
theorem dX11_trace_5 : decode cX11_trace 5 = .ok (.aload_n 0, 1) := by decide +kernel
theorem dX11_trace_6 : decode cX11_trace 6 = .ok (.getfield 59, 3) := by decide +kernel
theorem dX11_trace_9 : decode cX11_trace 9 = .ok (.getfield 244, 3) := by decide +kernel
theorem dX11_trace_12 : decode cX11_trace 12 = .ok (.if_icmp .lt 7, 3) := by decide +kernel
theorem dX11_trace_15 : decode cX11_trace 15 = .ok (.iconst (-1), 1) := by decide +kernel
theorem dX11_trace_16 : decode cX11_trace 16 = .ok (.goto 16, 3) := by decide +kernel
theorem dX11_trace_32 : decode cX11_trace 32 = .ok (.ireturn, 1) := by decide +kernel
theorem dX11_traces_0 : decode cX11_traces 0 = .ok (.aload_n 0, 1) := by decide +kernel
theorem dX11_traces_1 : decode cX11_traces 1 = .ok (.getfield 59, 3) := by decide +kernel
theorem dX11_traces_4 : decode cX11_traces 4 = .ok (.getfield 244, 3) := by decide +kernel
theorem dX11_traces_7 : decode cX11_traces 7 = .ok (.ireturn, 1) := by decide +kernel
theorem dX11_useTape_0 : decode cX11_useTape 0 = .ok (.aload_n 0, 1) := by decide +kernel
theorem dX11_useTape_1 : decode cX11_useTape 1 = .ok (.getfield 13, 3) := by decide +kernel
theorem dX11_useTape_4 : decode cX11_useTape 4 = .ok (.istore_n 1, 1) := by decide +kernel
theorem dX11_useTape_5 : decode cX11_useTape 5 = .ok (.aload_n 0, 1) := by decide +kernel
theorem dX11_useTape_6 : decode cX11_useTape 6 = .ok (.iconst 0, 1) := by decide +kernel
theorem dX11_useTape_7 : decode cX11_useTape 7 = .ok (.putfield 13, 3) := by decide +kernel
theorem dX11_useTape_10 : decode cX11_useTape 10 = .ok (.iload_n 1, 1) := by decide +kernel
theorem dX11_useTape_11 : decode cX11_useTape 11 = .ok (.ireturn, 1) := by decide +kernel
theorem dX11_word_0 : decode cX11_word 0 = .ok (.iload_n 2, 1) := by decide +kernel
theorem dX11_word_1 : decode cX11_word 1 = .ok (.ifCond .lt 12, 3) := by decide +kernel
theorem dX11_word_4 : decode cX11_word 4 = .ok (.iload_n 2, 1) := by decide +kernel
theorem dX11_word_5 : decode cX11_word 5 = .ok (.aload_n 0, 1) := by decide +kernel
theorem dX11_word_6 : decode cX11_word 6 = .ok (.iload_n 1, 1) := by decide +kernel
theorem dX11_word_7 : decode cX11_word 7 = .ok (.invokevirtual 95, 3) := by decide +kernel
theorem dX11_word_10 : decode cX11_word 10 = .ok (.if_icmp .lt 5, 3) := by decide +kernel
theorem dX11_word_13 : decode cX11_word 13 = .ok (.lconst 0, 1) := by decide +kernel
theorem dX11_word_14 : decode cX11_word 14 = .ok (.lreturn, 1) := by decide +kernel
theorem dX11_words_0 : decode cX11_words 0 = .ok (.iload_n 1, 1) := by decide +kernel
theorem dX11_words_1 : decode cX11_words 1 = .ok (.invokestatic 71, 3) := by decide +kernel
theorem dX11_words_4 : decode cX11_words 4 = .ok (.ifCond .eq 15, 3) := by decide +kernel
theorem dX11_words_7 : decode cX11_words 7 = .ok (.aload_n 0, 1) := by decide +kernel
theorem dX11_words_8 : decode cX11_words 8 = .ok (.getfield 27, 3) := by decide +kernel
theorem dX11_words_11 : decode cX11_words 11 = .ok (.getfield 91, 3) := by decide +kernel
theorem dX11_words_14 : decode cX11_words 14 = .ok (.iload_n 1, 1) := by decide +kernel
theorem dX11_words_15 : decode cX11_words 15 = .ok (.iaload, 1) := by decide +kernel
theorem dX11_words_16 : decode cX11_words 16 = .ok (.goto 4, 3) := by decide +kernel
theorem dX11_words_19 : decode cX11_words 19 = .ok (.iconst 0, 1) := by decide +kernel
theorem dX11_words_20 : decode cX11_words 20 = .ok (.ireturn, 1) := by decide +kernel
theorem dX12_advance_0 : decode cX12_advance 0 = .ok (.aload_n 0, 1) := by decide +kernel
theorem dX12_advance_1 : decode cX12_advance 1 = .ok (.iconst 0, 1) := by decide +kernel
theorem dX12_advance_2 : decode cX12_advance 2 = .ok (.invokevirtual 308, 3) := by decide +kernel
theorem dX12_advance_5 : decode cX12_advance 5 = .ok (.bipush 32, 2) := by decide +kernel
theorem dX12_advance_7 : decode cX12_advance 7 = .ok (.if_icmp .eq 13, 3) := by decide +kernel
theorem dX12_advance_10 : decode cX12_advance 10 = .ok (.aload_n 0, 1) := by decide +kernel
theorem dX12_advance_11 : decode cX12_advance 11 = .ok (.iconst 0, 1) := by decide +kernel
theorem dX12_advance_12 : decode cX12_advance 12 = .ok (.invokevirtual 308, 3) := by decide +kernel
theorem dX12_advance_15 : decode cX12_advance 15 = .ok (.bipush 9, 2) := by decide +kernel
theorem dX12_advance_17 : decode cX12_advance 17 = .ok (.if_icmp .ne 16, 3) := by decide +kernel
theorem dX12_advance_33 : decode cX12_advance 33 = .ok (.aload_n 0, 1) := by decide +kernel
theorem dX12_advance_34 : decode cX12_advance 34 = .ok (.iconst 0, 1) := by decide +kernel
theorem dX12_advance_35 : decode cX12_advance 35 = .ok (.invokevirtual 308, 3) := by decide +kernel
theorem dX12_advance_38 : decode cX12_advance 38 = .ok (.bipush 59, 2) := by decide +kernel
theorem dX12_advance_40 : decode cX12_advance 40 = .ok (.if_icmp .ne 35, 3) := by decide +kernel
theorem dX12_advance_75 : decode cX12_advance 75 = .ok (.aload_n 0, 1) := by decide +kernel
theorem dX12_advance_76 : decode cX12_advance 76 = .ok (.aload_n 0, 1) := by decide +kernel
theorem dX12_advance_77 : decode cX12_advance 77 = .ok (.getfield 299, 3) := by decide +kernel
theorem dX12_advance_80 : decode cX12_advance 80 = .ok (.putfield 312, 3) := by decide +kernel
theorem dX12_advance_83 : decode cX12_advance 83 = .ok (.aload_n 0, 1) := by decide +kernel
theorem dX12_advance_84 : decode cX12_advance 84 = .ok (.iconst 0, 1) := by decide +kernel
theorem dX12_advance_85 : decode cX12_advance 85 = .ok (.invokevirtual 308, 3) := by decide +kernel
theorem dX12_advance_88 : decode cX12_advance 88 = .ok (.istore_n 1, 1) := by decide +kernel
theorem dX12_advance_89 : decode cX12_advance 89 = .ok (.iload_n 1, 1) := by decide +kernel
theorem dX12_advance_90 : decode cX12_advance 90 = .ok (.iconst (-1), 1) := by decide +kernel
theorem dX12_advance_91 : decode cX12_advance 91 = .ok (.if_icmp .ne 11, 3) := by decide +kernel
theorem dX12_advance_94 : decode cX12_advance 94 = .ok (.aload_n 0, 1) := by decide +kernel
theorem dX12_advance_95 : decode cX12_advance 95 = .ok (.iconst 0, 1) := by decide +kernel
theorem dX12_advance_96 : decode cX12_advance 96 = .ok (.putfield 315, 3) := by decide +kernel
theorem dX12_advance_99 : decode cX12_advance 99 = .ok (.goto 93, 3) := by decide +kernel
theorem dX12_advance_192 : decode cX12_advance 192 = .ok (.return_, 1) := by decide +kernel
theorem dX12_assemble_0 : decode cX12_assemble 0 = .ok (.aload_n 0, 1) := by decide +kernel
theorem dX12_assemble_1 : decode cX12_assemble 1 = .ok (.aload_n 0, 1) := by decide +kernel
theorem dX12_assemble_2 : decode cX12_assemble 2 = .ok (.invokevirtual 287, 3) := by decide +kernel
theorem dX12_assemble_5 : decode cX12_assemble 5 = .ok (.putfield 302, 3) := by decide +kernel
theorem dX12_assemble_8 : decode cX12_assemble 8 = .ok (.iload_n 1, 1) := by decide +kernel
theorem dX12_assemble_9 : decode cX12_assemble 9 = .ok (.invokestatic 291, 3) := by decide +kernel
theorem dX12_assemble_12 : decode cX12_assemble 12 = .ok (.ifCond .ne 5, 3) := by decide +kernel
theorem dX12_assemble_15 : decode cX12_assemble 15 = .ok (.iconst (-1), 1) := by decide +kernel
theorem dX12_assemble_16 : decode cX12_assemble 16 = .ok (.ireturn, 1) := by decide +kernel
theorem dX12_assemble_17 : decode cX12_assemble 17 = .ok (.aload_n 0, 1) := by decide +kernel
theorem dX12_assemble_18 : decode cX12_assemble 18 = .ok (.iconst 0, 1) := by decide +kernel
theorem dX12_assemble_19 : decode cX12_assemble 19 = .ok (.putfield 299, 3) := by decide +kernel
theorem dX12_assemble_22 : decode cX12_assemble 22 = .ok (.aload_n 0, 1) := by decide +kernel
theorem dX12_assemble_23 : decode cX12_assemble 23 = .ok (.iconst (-1), 1) := by decide +kernel
theorem dX12_assemble_24 : decode cX12_assemble 24 = .ok (.putfield 347, 3) := by decide +kernel
theorem dX12_assemble_27 : decode cX12_assemble 27 = .ok (.aload_n 0, 1) := by decide +kernel
theorem dX12_assemble_28 : decode cX12_assemble 28 = .ok (.iconst 0, 1) := by decide +kernel
theorem dX12_assemble_29 : decode cX12_assemble 29 = .ok (.putfield 379, 3) := by decide +kernel
theorem dX12_assemble_32 : decode cX12_assemble 32 = .ok (.aload_n 0, 1) := by decide +kernel
theorem dX12_assemble_33 : decode cX12_assemble 33 = .ok (.iconst 0, 1) := by decide +kernel
theorem dX12_assemble_34 : decode cX12_assemble 34 = .ok (.putfield 376, 3) := by decide +kernel
theorem dX12_assemble_37 : decode cX12_assemble 37 = .ok (.aload_n 0, 1) := by decide +kernel
theorem dX12_assemble_38 : decode cX12_assemble 38 = .ok (.iconst 0, 1) := by decide +kernel
theorem dX12_assemble_39 : decode cX12_assemble 39 = .ok (.putfield 382, 3) := by decide +kernel
theorem dX12_assemble_42 : decode cX12_assemble 42 = .ok (.aload_n 0, 1) := by decide +kernel
theorem dX12_assemble_43 : decode cX12_assemble 43 = .ok (.invokevirtual 360, 3) := by decide +kernel
theorem dX12_assemble_46 : decode cX12_assemble 46 = .ok (.aload_n 0, 1) := by decide +kernel
theorem dX12_assemble_47 : decode cX12_assemble 47 = .ok (.invokevirtual 350, 3) := by decide +kernel
theorem dX12_assemble_50 : decode cX12_assemble 50 = .ok (.ifCond .eq 61, 3) := by decide +kernel
theorem dX12_assemble_53 : decode cX12_assemble 53 = .ok (.aload_n 0, 1) := by decide +kernel
theorem dX12_assemble_54 : decode cX12_assemble 54 = .ok (.getfield 315, 3) := by decide +kernel
theorem dX12_assemble_57 : decode cX12_assemble 57 = .ok (.ifCond .eq 54, 3) := by decide +kernel
theorem dX12_assemble_111 : decode cX12_assemble 111 = .ok (.iconst 0, 1) := by decide +kernel
theorem dX12_assemble_112 : decode cX12_assemble 112 = .ok (.istore_n 2, 1) := by decide +kernel
theorem dX12_assemble_113 : decode cX12_assemble 113 = .ok (.iload_n 2, 1) := by decide +kernel
theorem dX12_assemble_114 : decode cX12_assemble 114 = .ok (.aload_n 0, 1) := by decide +kernel
theorem dX12_assemble_115 : decode cX12_assemble 115 = .ok (.getfield 382, 3) := by decide +kernel
theorem dX12_assemble_118 : decode cX12_assemble 118 = .ok (.if_icmp .ge 21, 3) := by decide +kernel
theorem dX12_assemble_139 : decode cX12_assemble 139 = .ok (.aload_n 0, 1) := by decide +kernel
theorem dX12_assemble_140 : decode cX12_assemble 140 = .ok (.invokevirtual 350, 3) := by decide +kernel
theorem dX12_assemble_143 : decode cX12_assemble 143 = .ok (.ifCond .eq 18, 3) := by decide +kernel
theorem dX12_assemble_146 : decode cX12_assemble 146 = .ok (.aload_n 0, 1) := by decide +kernel
theorem dX12_assemble_147 : decode cX12_assemble 147 = .ok (.getfield 379, 3) := by decide +kernel
theorem dX12_assemble_150 : decode cX12_assemble 150 = .ok (.ifCond .ne 11, 3) := by decide +kernel
theorem dX12_assemble_153 : decode cX12_assemble 153 = .ok (.aload_n 0, 1) := by decide +kernel
theorem dX12_assemble_154 : decode cX12_assemble 154 = .ok (.aload_n 0, 1) := by decide +kernel
theorem dX12_assemble_155 : decode cX12_assemble 155 = .ok (.getfield 302, 3) := by decide +kernel
theorem dX12_assemble_158 : decode cX12_assemble 158 = .ok (.invokevirtual 357, 3) := by decide +kernel
theorem dX12_assemble_161 : decode cX12_assemble 161 = .ok (.aload_n 0, 1) := by decide +kernel
theorem dX12_assemble_162 : decode cX12_assemble 162 = .ok (.invokevirtual 350, 3) := by decide +kernel
theorem dX12_assemble_165 : decode cX12_assemble 165 = .ok (.ifCond .ne 11, 3) := by decide +kernel
theorem dX12_assemble_168 : decode cX12_assemble 168 = .ok (.bipush (-10), 2) := by decide +kernel
theorem dX12_assemble_170 : decode cX12_assemble 170 = .ok (.aload_n 0, 1) := by decide +kernel
theorem dX12_assemble_171 : decode cX12_assemble 171 = .ok (.getfield 347, 3) := by decide +kernel
theorem dX12_assemble_174 : decode cX12_assemble 174 = .ok (.isub, 1) := by decide +kernel
theorem dX12_assemble_175 : decode cX12_assemble 175 = .ok (.ireturn, 1) := by decide +kernel
theorem dX12_chances_0 : decode cX12_chances 0 = .ok (.aload_n 0, 1) := by decide +kernel
theorem dX12_chances_1 : decode cX12_chances 1 = .ok (.lload_n 1, 1) := by decide +kernel
theorem dX12_chances_2 : decode cX12_chances 2 = .ok (.putfield 229, 3) := by decide +kernel
theorem dX12_chances_5 : decode cX12_chances 5 = .ok (.return_, 1) := by decide +kernel
theorem dX12_cut_0 : decode cX12_cut 0 = .ok (.iload_n 1, 1) := by decide +kernel
theorem dX12_cut_1 : decode cX12_cut 1 = .ok (.ifCond .lt 11, 3) := by decide +kernel
theorem dX12_cut_4 : decode cX12_cut 4 = .ok (.iload_n 1, 1) := by decide +kernel
theorem dX12_cut_5 : decode cX12_cut 5 = .ok (.aload_n 0, 1) := by decide +kernel
theorem dX12_cut_6 : decode cX12_cut 6 = .ok (.getfield 233, 3) := by decide +kernel
theorem dX12_cut_9 : decode cX12_cut 9 = .ok (.if_icmp .le 5, 3) := by decide +kernel
theorem dX12_cut_12 : decode cX12_cut 12 = .ok (.iconst (-1), 1) := by decide +kernel
theorem dX12_cut_13 : decode cX12_cut 13 = .ok (.ireturn, 1) := by decide +kernel
theorem dX12_cut_14 : decode cX12_cut 14 = .ok (.aload_n 0, 1) := by decide +kernel
theorem dX12_cut_15 : decode cX12_cut 15 = .ok (.getfield 233, 3) := by decide +kernel
theorem dX12_cut_18 : decode cX12_cut 18 = .ok (.iload_n 1, 1) := by decide +kernel
theorem dX12_cut_19 : decode cX12_cut 19 = .ok (.isub, 1) := by decide +kernel
theorem dX12_cut_20 : decode cX12_cut 20 = .ok (.istore_n 2, 1) := by decide +kernel
theorem dX12_cut_21 : decode cX12_cut 21 = .ok (.aload_n 0, 1) := by decide +kernel
theorem dX12_cut_22 : decode cX12_cut 22 = .ok (.iload_n 1, 1) := by decide +kernel
theorem dX12_cut_23 : decode cX12_cut 23 = .ok (.putfield 233, 3) := by decide +kernel
theorem dX12_cut_26 : decode cX12_cut 26 = .ok (.iload_n 2, 1) := by decide +kernel
theorem dX12_cut_27 : decode cX12_cut 27 = .ok (.ireturn, 1) := by decide +kernel
theorem dX12_entry_0 : decode cX12_entry 0 = .ok (.aload_n 0, 1) := by decide +kernel
theorem dX12_entry_1 : decode cX12_entry 1 = .ok (.iload_n 1, 1) := by decide +kernel
theorem dX12_entry_2 : decode cX12_entry 2 = .ok (.iconst 1, 1) := by decide +kernel
theorem dX12_entry_3 : decode cX12_entry 3 = .ok (.invokevirtual 785, 3) := by decide +kernel
theorem dX12_entry_6 : decode cX12_entry 6 = .ok (.ifCond .eq 17, 3) := by decide +kernel
theorem dX12_entry_23 : decode cX12_entry 23 = .ok (.iconst (-1), 1) := by decide +kernel
theorem dX12_entry_24 : decode cX12_entry 24 = .ok (.ireturn, 1) := by decide +kernel
theorem dX12_feed_0 : decode cX12_feed 0 = .ok (.aload_n 0, 1) := by decide +kernel
theorem dX12_feed_1 : decode cX12_feed 1 = .ok (.getfield 233, 3) := by decide +kernel
theorem dX12_feed_4 : decode cX12_feed 4 = .ok (.bipush 20, 2) := by decide +kernel
theorem dX12_feed_6 : decode cX12_feed 6 = .ok (.iadd, 1) := by decide +kernel
theorem dX12_feed_7 : decode cX12_feed 7 = .ok (.sipush 4000, 3) := by decide +kernel
theorem dX12_feed_10 : decode cX12_feed 10 = .ok (.if_icmp .le 5, 3) := by decide +kernel
theorem dX12_feed_15 : decode cX12_feed 15 = .ok (.aload_n 0, 1) := by decide +kernel
theorem dX12_feed_16 : decode cX12_feed 16 = .ok (.iload_n 1, 1) := by decide +kernel
theorem dX12_feed_17 : decode cX12_feed 17 = .ok (.invokevirtual 237, 3) := by decide +kernel
theorem dX12_feed_20 : decode cX12_feed 20 = .ok (.aload_n 0, 1) := by decide +kernel
theorem dX12_feed_21 : decode cX12_feed 21 = .ok (.iload_n 2, 1) := by decide +kernel
theorem dX12_feed_22 : decode cX12_feed 22 = .ok (.invokevirtual 237, 3) := by decide +kernel
theorem dX12_feed_25 : decode cX12_feed 25 = .ok (.aload_n 0, 1) := by decide +kernel
theorem dX12_feed_26 : decode cX12_feed 26 = .ok (.iload_n 3, 1) := by decide +kernel
theorem dX12_feed_27 : decode cX12_feed 27 = .ok (.invokevirtual 237, 3) := by decide +kernel
theorem dX12_feed_30 : decode cX12_feed 30 = .ok (.aload_n 0, 1) := by decide +kernel
theorem dX12_feed_31 : decode cX12_feed 31 = .ok (.iload 4, 2) := by decide +kernel
theorem dX12_feed_33 : decode cX12_feed 33 = .ok (.invokevirtual 237, 3) := by decide +kernel
theorem dX12_feed_36 : decode cX12_feed 36 = .ok (.aload_n 0, 1) := by decide +kernel
theorem dX12_feed_37 : decode cX12_feed 37 = .ok (.iload 5, 2) := by decide +kernel
theorem dX12_feed_39 : decode cX12_feed 39 = .ok (.invokevirtual 237, 3) := by decide +kernel
theorem dX12_feed_42 : decode cX12_feed 42 = .ok (.aload_n 0, 1) := by decide +kernel
theorem dX12_feed_43 : decode cX12_feed 43 = .ok (.getfield 233, 3) := by decide +kernel
theorem dX12_feed_46 : decode cX12_feed 46 = .ok (.ireturn, 1) := by decide +kernel
theorem dX12_get_0 : decode cX12_get 0 = .ok (.aload_n 0, 1) := by decide +kernel
theorem dX12_get_1 : decode cX12_get 1 = .ok (.iload_n 1, 1) := by decide +kernel
theorem dX12_get_2 : decode cX12_get 2 = .ok (.iconst 0, 1) := by decide +kernel
theorem dX12_get_3 : decode cX12_get 3 = .ok (.invokevirtual 771, 3) := by decide +kernel
theorem dX12_get_6 : decode cX12_get 6 = .ok (.ifCond .ne 5, 3) := by decide +kernel
theorem dX12_get_9 : decode cX12_get 9 = .ok (.iconst (-1), 1) := by decide +kernel
theorem dX12_get_10 : decode cX12_get 10 = .ok (.ireturn, 1) := by decide +kernel
theorem dX12_given_0 : decode cX12_given 0 = .ok (.aload_n 0, 1) := by decide +kernel
theorem dX12_given_1 : decode cX12_given 1 = .ok (.iload_n 1, 1) := by decide +kernel
theorem dX12_given_2 : decode cX12_given 2 = .ok (.putfield 1197, 3) := by decide +kernel
theorem dX12_given_5 : decode cX12_given 5 = .ok (.aload_n 0, 1) := by decide +kernel
theorem dX12_given_6 : decode cX12_given 6 = .ok (.iload_n 2, 1) := by decide +kernel
theorem dX12_given_7 : decode cX12_given 7 = .ok (.putfield 1200, 3) := by decide +kernel
theorem dX12_given_10 : decode cX12_given 10 = .ok (.return_, 1) := by decide +kernel
theorem dX12_good_0 : decode cX12_good 0 = .ok (.aload_n 0, 1) := by decide +kernel
theorem dX12_good_1 : decode cX12_good 1 = .ok (.getfield 347, 3) := by decide +kernel
theorem dX12_good_4 : decode cX12_good 4 = .ok (.ifCond .ge 7, 3) := by decide +kernel
theorem dX12_good_7 : decode cX12_good 7 = .ok (.iconst 1, 1) := by decide +kernel
theorem dX12_good_8 : decode cX12_good 8 = .ok (.goto 4, 3) := by decide +kernel
theorem dX12_good_11 : decode cX12_good 11 = .ok (.iconst 0, 1) := by decide +kernel
theorem dX12_good_12 : decode cX12_good 12 = .ok (.ireturn, 1) := by decide +kernel
theorem dX12_holdsValues_0 : decode cX12_holdsValues 0 = .ok (.iload_n 1, 1) := by decide +kernel
theorem dX12_holdsValues_1 : decode cX12_holdsValues 1 = .ok (.invokestatic 291, 3) := by decide +kernel
theorem dX12_holdsValues_4 : decode cX12_holdsValues 4 = .ok (.ifCond .eq 26, 3) := by decide +kernel
theorem dX12_holdsValues_7 : decode cX12_holdsValues 7 = .ok (.aload_n 0, 1) := by decide +kernel
theorem dX12_holdsValues_8 : decode cX12_holdsValues 8 = .ok (.getfield 55, 3) := by decide +kernel
theorem dX12_holdsValues_11 : decode cX12_holdsValues 11 = .ok (.iload_n 1, 1) := by decide +kernel
theorem dX12_holdsValues_12 : decode cX12_holdsValues 12 = .ok (.baload, 1) := by decide +kernel
theorem dX12_holdsValues_13 : decode cX12_holdsValues 13 = .ok (.ifCond .eq 17, 3) := by decide +kernel
theorem dX12_holdsValues_30 : decode cX12_holdsValues 30 = .ok (.iconst 0, 1) := by decide +kernel
theorem dX12_holdsValues_31 : decode cX12_holdsValues 31 = .ok (.ireturn, 1) := by decide +kernel
theorem dX12_init_0 : decode cX12_init 0 = .ok (.aload_n 0, 1) := by decide +kernel
theorem dX12_init_1 : decode cX12_init 1 = .ok (.invokespecial 1, 3) := by decide +kernel
theorem dX12_init_4 : decode cX12_init 4 = .ok (.aload_n 0, 1) := by decide +kernel
theorem dX12_init_5 : decode cX12_init 5 = .ok (.sipush 4000, 3) := by decide +kernel
theorem dX12_init_8 : decode cX12_init 8 = .ok (.newarray .byte, 2) := by decide +kernel
theorem dX12_init_10 : decode cX12_init 10 = .ok (.putfield 7, 3) := by decide +kernel
theorem dX12_init_13 : decode cX12_init 13 = .ok (.aload_n 0, 1) := by decide +kernel
theorem dX12_init_14 : decode cX12_init 14 = .ok (.sipush 24000, 3) := by decide +kernel
theorem dX12_init_17 : decode cX12_init 17 = .ok (.newarray .byte, 2) := by decide +kernel
theorem dX12_init_19 : decode cX12_init 19 = .ok (.putfield 13, 3) := by decide +kernel
theorem dX12_init_22 : decode cX12_init 22 = .ok (.aload_n 0, 1) := by decide +kernel
theorem dX12_init_23 : decode cX12_init 23 = .ok (.sipush 1600, 3) := by decide +kernel
theorem dX12_init_26 : decode cX12_init 26 = .ok (.newarray .long, 2) := by decide +kernel
theorem dX12_init_28 : decode cX12_init 28 = .ok (.putfield 16, 3) := by decide +kernel
theorem dX12_init_31 : decode cX12_init 31 = .ok (.aload_n 0, 1) := by decide +kernel
theorem dX12_init_32 : decode cX12_init 32 = .ok (.bipush 8, 2) := by decide +kernel
theorem dX12_init_34 : decode cX12_init 34 = .ok (.newarray .int, 2) := by decide +kernel
theorem dX12_init_36 : decode cX12_init 36 = .ok (.putfield 20, 3) := by decide +kernel
theorem dX12_init_39 : decode cX12_init 39 = .ok (.aload_n 0, 1) := by decide +kernel
theorem dX12_init_40 : decode cX12_init 40 = .ok (.bipush 8, 2) := by decide +kernel
theorem dX12_init_42 : decode cX12_init 42 = .ok (.newarray .boolean, 2) := by decide +kernel
theorem dX12_init_44 : decode cX12_init 44 = .ok (.putfield 24, 3) := by decide +kernel
theorem dX12_init_47 : decode cX12_init 47 = .ok (.aload_n 0, 1) := by decide +kernel
theorem dX12_init_48 : decode cX12_init 48 = .ok (.sipush 204, 3) := by decide +kernel
theorem dX12_init_51 : decode cX12_init 51 = .ok (.newarray .long, 2) := by decide +kernel
theorem dX12_init_53 : decode cX12_init 53 = .ok (.putfield 28, 3) := by decide +kernel
theorem dX12_init_56 : decode cX12_init 56 = .ok (.aload_n 0, 1) := by decide +kernel
theorem dX12_init_57 : decode cX12_init 57 = .ok (.sipush 1400, 3) := by decide +kernel
theorem dX12_init_60 : decode cX12_init 60 = .ok (.newarray .int, 2) := by decide +kernel
theorem dX12_init_62 : decode cX12_init 62 = .ok (.putfield 31, 3) := by decide +kernel
theorem dX12_init_65 : decode cX12_init 65 = .ok (.aload_n 0, 1) := by decide +kernel
theorem dX12_init_66 : decode cX12_init 66 = .ok (.sipush 1400, 3) := by decide +kernel
theorem dX12_init_69 : decode cX12_init 69 = .ok (.newarray .int, 2) := by decide +kernel
theorem dX12_init_71 : decode cX12_init 71 = .ok (.putfield 34, 3) := by decide +kernel
theorem dX12_init_74 : decode cX12_init 74 = .ok (.aload_n 0, 1) := by decide +kernel
theorem dX12_init_75 : decode cX12_init 75 = .ok (.sipush 1400, 3) := by decide +kernel
theorem dX12_init_78 : decode cX12_init 78 = .ok (.newarray .int, 2) := by decide +kernel
theorem dX12_init_80 : decode cX12_init 80 = .ok (.putfield 37, 3) := by decide +kernel
theorem dX12_init_83 : decode cX12_init 83 = .ok (.aload_n 0, 1) := by decide +kernel
theorem dX12_init_84 : decode cX12_init 84 = .ok (.sipush 204, 3) := by decide +kernel
theorem dX12_init_87 : decode cX12_init 87 = .ok (.newarray .int, 2) := by decide +kernel
theorem dX12_init_89 : decode cX12_init 89 = .ok (.putfield 40, 3) := by decide +kernel
theorem dX12_init_92 : decode cX12_init 92 = .ok (.aload_n 0, 1) := by decide +kernel
theorem dX12_init_93 : decode cX12_init 93 = .ok (.sipush 204, 3) := by decide +kernel
theorem dX12_init_96 : decode cX12_init 96 = .ok (.newarray .int, 2) := by decide +kernel
theorem dX12_init_98 : decode cX12_init 98 = .ok (.putfield 43, 3) := by decide +kernel
theorem dX12_init_101 : decode cX12_init 101 = .ok (.aload_n 0, 1) := by decide +kernel
theorem dX12_init_102 : decode cX12_init 102 = .ok (.sipush 204, 3) := by decide +kernel
theorem dX12_init_105 : decode cX12_init 105 = .ok (.newarray .int, 2) := by decide +kernel
theorem dX12_init_107 : decode cX12_init 107 = .ok (.putfield 46, 3) := by decide +kernel
theorem dX12_init_110 : decode cX12_init 110 = .ok (.aload_n 0, 1) := by decide +kernel
theorem dX12_init_111 : decode cX12_init 111 = .ok (.sipush 204, 3) := by decide +kernel
theorem dX12_init_114 : decode cX12_init 114 = .ok (.newarray .boolean, 2) := by decide +kernel
theorem dX12_init_116 : decode cX12_init 116 = .ok (.putfield 49, 3) := by decide +kernel
theorem dX12_init_119 : decode cX12_init 119 = .ok (.aload_n 0, 1) := by decide +kernel
theorem dX12_init_120 : decode cX12_init 120 = .ok (.bipush 20, 2) := by decide +kernel
theorem dX12_init_122 : decode cX12_init 122 = .ok (.newarray .byte, 2) := by decide +kernel
theorem dX12_init_124 : decode cX12_init 124 = .ok (.putfield 52, 3) := by decide +kernel
theorem dX12_init_127 : decode cX12_init 127 = .ok (.aload_n 0, 1) := by decide +kernel
theorem dX12_init_128 : decode cX12_init 128 = .ok (.bipush 8, 2) := by decide +kernel
theorem dX12_init_130 : decode cX12_init 130 = .ok (.newarray .boolean, 2) := by decide +kernel
theorem dX12_init_132 : decode cX12_init 132 = .ok (.putfield 55, 3) := by decide +kernel
theorem dX12_init_135 : decode cX12_init 135 = .ok (.aload_n 0, 1) := by decide +kernel
theorem dX12_init_136 : decode cX12_init 136 = .ok (.bipush 8, 2) := by decide +kernel
theorem dX12_init_138 : decode cX12_init 138 = .ok (.newarray .int, 2) := by decide +kernel
theorem dX12_init_140 : decode cX12_init 140 = .ok (.putfield 58, 3) := by decide +kernel
theorem dX12_init_143 : decode cX12_init 143 = .ok (.aload_n 0, 1) := by decide +kernel
theorem dX12_init_144 : decode cX12_init 144 = .ok (.bipush 8, 2) := by decide +kernel
theorem dX12_init_146 : decode cX12_init 146 = .ok (.newarray .int, 2) := by decide +kernel
theorem dX12_init_148 : decode cX12_init 148 = .ok (.putfield 61, 3) := by decide +kernel
theorem dX12_init_151 : decode cX12_init 151 = .ok (.aload_n 0, 1) := by decide +kernel
theorem dX12_init_152 : decode cX12_init 152 = .ok (.bipush 8, 2) := by decide +kernel
theorem dX12_init_154 : decode cX12_init 154 = .ok (.newarray .int, 2) := by decide +kernel
theorem dX12_init_156 : decode cX12_init 156 = .ok (.putfield 64, 3) := by decide +kernel
theorem dX12_init_159 : decode cX12_init 159 = .ok (.aload_n 0, 1) := by decide +kernel
theorem dX12_init_160 : decode cX12_init 160 = .ok (.bipush 8, 2) := by decide +kernel
theorem dX12_init_162 : decode cX12_init 162 = .ok (.newarray .int, 2) := by decide +kernel
theorem dX12_init_164 : decode cX12_init 164 = .ok (.putfield 67, 3) := by decide +kernel
theorem dX12_init_167 : decode cX12_init 167 = .ok (.aload_n 0, 1) := by decide +kernel
theorem dX12_init_168 : decode cX12_init 168 = .ok (.sipush 16384, 3) := by decide +kernel
theorem dX12_init_171 : decode cX12_init 171 = .ok (.newarray .byte, 2) := by decide +kernel
theorem dX12_init_173 : decode cX12_init 173 = .ok (.putfield 70, 3) := by decide +kernel
theorem dX12_init_176 : decode cX12_init 176 = .ok (.aload_n 0, 1) := by decide +kernel
theorem dX12_init_177 : decode cX12_init 177 = .ok (.bipush 8, 2) := by decide +kernel
theorem dX12_init_179 : decode cX12_init 179 = .ok (.newarray .int, 2) := by decide +kernel
theorem dX12_init_181 : decode cX12_init 181 = .ok (.putfield 73, 3) := by decide +kernel
theorem dX12_init_184 : decode cX12_init 184 = .ok (.aload_n 0, 1) := by decide +kernel
theorem dX12_init_185 : decode cX12_init 185 = .ok (.sipush 2048, 3) := by decide +kernel
theorem dX12_init_188 : decode cX12_init 188 = .ok (.newarray .byte, 2) := by decide +kernel
theorem dX12_init_190 : decode cX12_init 190 = .ok (.putfield 76, 3) := by decide +kernel
theorem dX12_init_193 : decode cX12_init 193 = .ok (.aload_n 0, 1) := by decide +kernel
theorem dX12_init_194 : decode cX12_init 194 = .ok (.sipush 128, 3) := by decide +kernel
theorem dX12_init_197 : decode cX12_init 197 = .ok (.newarray .int, 2) := by decide +kernel
theorem dX12_init_199 : decode cX12_init 199 = .ok (.putfield 79, 3) := by decide +kernel
theorem dX12_init_202 : decode cX12_init 202 = .ok (.aload_n 0, 1) := by decide +kernel
theorem dX12_init_203 : decode cX12_init 203 = .ok (.sipush 256, 3) := by decide +kernel
theorem dX12_init_206 : decode cX12_init 206 = .ok (.newarray .boolean, 2) := by decide +kernel
theorem dX12_init_208 : decode cX12_init 208 = .ok (.putfield 82, 3) := by decide +kernel
theorem dX12_init_211 : decode cX12_init 211 = .ok (.aload_n 0, 1) := by decide +kernel
theorem dX12_init_212 : decode cX12_init 212 = .ok (.sipush 256, 3) := by decide +kernel
theorem dX12_init_215 : decode cX12_init 215 = .ok (.newarray .boolean, 2) := by decide +kernel
theorem dX12_init_217 : decode cX12_init 217 = .ok (.putfield 85, 3) := by decide +kernel
theorem dX12_init_220 : decode cX12_init 220 = .ok (.aload_n 0, 1) := by decide +kernel
theorem dX12_init_221 : decode cX12_init 221 = .ok (.sipush 128, 3) := by decide +kernel
theorem dX12_init_224 : decode cX12_init 224 = .ok (.newarray .int, 2) := by decide +kernel
theorem dX12_init_226 : decode cX12_init 226 = .ok (.putfield 88, 3) := by decide +kernel
theorem dX12_init_229 : decode cX12_init 229 = .ok (.aload_n 0, 1) := by decide +kernel
theorem dX12_init_230 : decode cX12_init 230 = .ok (.bipush 8, 2) := by decide +kernel
theorem dX12_init_232 : decode cX12_init 232 = .ok (.newarray .int, 2) := by decide +kernel
theorem dX12_init_234 : decode cX12_init 234 = .ok (.putfield 91, 3) := by decide +kernel
theorem dX12_init_237 : decode cX12_init 237 = .ok (.aload_n 0, 1) := by decide +kernel
theorem dX12_init_238 : decode cX12_init 238 = .ok (.sipush 128, 3) := by decide +kernel
theorem dX12_init_241 : decode cX12_init 241 = .ok (.newarray .int, 2) := by decide +kernel
theorem dX12_init_243 : decode cX12_init 243 = .ok (.putfield 94, 3) := by decide +kernel
theorem dX12_init_246 : decode cX12_init 246 = .ok (.aload_n 0, 1) := by decide +kernel
theorem dX12_init_247 : decode cX12_init 247 = .ok (.sipush 8192, 3) := by decide +kernel
theorem dX12_init_250 : decode cX12_init 250 = .ok (.newarray .byte, 2) := by decide +kernel
theorem dX12_init_252 : decode cX12_init 252 = .ok (.putfield 97, 3) := by decide +kernel
theorem dX12_init_255 : decode cX12_init 255 = .ok (.aload_n 0, 1) := by decide +kernel
theorem dX12_init_256 : decode cX12_init 256 = .ok (.bipush 16, 2) := by decide +kernel
theorem dX12_init_258 : decode cX12_init 258 = .ok (.newarray .byte, 2) := by decide +kernel
theorem dX12_init_260 : decode cX12_init 260 = .ok (.putfield 100, 3) := by decide +kernel
theorem dX12_init_263 : decode cX12_init 263 = .ok (.aload_n 0, 1) := by decide +kernel
theorem dX12_init_264 : decode cX12_init 264 = .ok (.bipush 64, 2) := by decide +kernel
theorem dX12_init_266 : decode cX12_init 266 = .ok (.newarray .byte, 2) := by decide +kernel
theorem dX12_init_268 : decode cX12_init 268 = .ok (.putfield 103, 3) := by decide +kernel
theorem dX12_init_271 : decode cX12_init 271 = .ok (.aload_n 0, 1) := by decide +kernel
theorem dX12_init_272 : decode cX12_init 272 = .ok (.sipush 32664, 3) := by decide +kernel
theorem dX12_init_275 : decode cX12_init 275 = .ok (.newarray .long, 2) := by decide +kernel
theorem dX12_init_277 : decode cX12_init 277 = .ok (.putfield 106, 3) := by decide +kernel
theorem dX12_init_280 : decode cX12_init 280 = .ok (.aload_n 0, 1) := by decide +kernel
theorem dX12_init_281 : decode cX12_init 281 = .ok (.sipush 32664, 3) := by decide +kernel
theorem dX12_init_284 : decode cX12_init 284 = .ok (.newarray .long, 2) := by decide +kernel
theorem dX12_init_286 : decode cX12_init 286 = .ok (.putfield 109, 3) := by decide +kernel
theorem dX12_init_289 : decode cX12_init 289 = .ok (.aload_n 0, 1) := by decide +kernel
theorem dX12_init_290 : decode cX12_init 290 = .ok (.sipush 32664, 3) := by decide +kernel
theorem dX12_init_293 : decode cX12_init 293 = .ok (.newarray .long, 2) := by decide +kernel
theorem dX12_init_295 : decode cX12_init 295 = .ok (.putfield 112, 3) := by decide +kernel
theorem dX12_init_298 : decode cX12_init 298 = .ok (.aload_n 0, 1) := by decide +kernel
theorem dX12_init_299 : decode cX12_init 299 = .ok (.sipush 32664, 3) := by decide +kernel
theorem dX12_init_302 : decode cX12_init 302 = .ok (.newarray .long, 2) := by decide +kernel
theorem dX12_init_304 : decode cX12_init 304 = .ok (.putfield 115, 3) := by decide +kernel
theorem dX12_init_307 : decode cX12_init 307 = .ok (.aload_n 0, 1) := by decide +kernel
theorem dX12_init_308 : decode cX12_init 308 = .ok (.sipush 32664, 3) := by decide +kernel
theorem dX12_init_311 : decode cX12_init 311 = .ok (.newarray .long, 2) := by decide +kernel
theorem dX12_init_313 : decode cX12_init 313 = .ok (.putfield 118, 3) := by decide +kernel
theorem dX12_init_316 : decode cX12_init 316 = .ok (.aload_n 0, 1) := by decide +kernel
theorem dX12_init_317 : decode cX12_init 317 = .ok (.sipush 32664, 3) := by decide +kernel
theorem dX12_init_320 : decode cX12_init 320 = .ok (.newarray .long, 2) := by decide +kernel
theorem dX12_init_322 : decode cX12_init 322 = .ok (.putfield 121, 3) := by decide +kernel
theorem dX12_init_325 : decode cX12_init 325 = .ok (.aload_n 0, 1) := by decide +kernel
theorem dX12_init_326 : decode cX12_init 326 = .ok (.sipush 32664, 3) := by decide +kernel
theorem dX12_init_329 : decode cX12_init 329 = .ok (.newarray .byte, 2) := by decide +kernel
theorem dX12_init_331 : decode cX12_init 331 = .ok (.putfield 124, 3) := by decide +kernel
theorem dX12_init_334 : decode cX12_init 334 = .ok (.aload_n 0, 1) := by decide +kernel
theorem dX12_init_335 : decode cX12_init 335 = .ok (.sipush 32664, 3) := by decide +kernel
theorem dX12_init_338 : decode cX12_init 338 = .ok (.newarray .int, 2) := by decide +kernel
theorem dX12_init_340 : decode cX12_init 340 = .ok (.putfield 127, 3) := by decide +kernel
theorem dX12_init_343 : decode cX12_init 343 = .ok (.aload_n 0, 1) := by decide +kernel
theorem dX12_init_344 : decode cX12_init 344 = .ok (.sipush 32664, 3) := by decide +kernel
theorem dX12_init_347 : decode cX12_init 347 = .ok (.newarray .int, 2) := by decide +kernel
theorem dX12_init_349 : decode cX12_init 349 = .ok (.putfield 130, 3) := by decide +kernel
theorem dX12_init_352 : decode cX12_init 352 = .ok (.aload_n 0, 1) := by decide +kernel
theorem dX12_init_353 : decode cX12_init 353 = .ok (.sipush 32664, 3) := by decide +kernel
theorem dX12_init_356 : decode cX12_init 356 = .ok (.newarray .int, 2) := by decide +kernel
theorem dX12_init_358 : decode cX12_init 358 = .ok (.putfield 133, 3) := by decide +kernel
theorem dX12_init_361 : decode cX12_init 361 = .ok (.aload_n 0, 1) := by decide +kernel
theorem dX12_init_362 : decode cX12_init 362 = .ok (.sipush 32664, 3) := by decide +kernel
theorem dX12_init_365 : decode cX12_init 365 = .ok (.newarray .int, 2) := by decide +kernel
theorem dX12_init_367 : decode cX12_init 367 = .ok (.putfield 136, 3) := by decide +kernel
theorem dX12_init_370 : decode cX12_init 370 = .ok (.aload_n 0, 1) := by decide +kernel
theorem dX12_init_371 : decode cX12_init 371 = .ok (.sipush 314, 3) := by decide +kernel
theorem dX12_init_374 : decode cX12_init 374 = .ok (.newarray .int, 2) := by decide +kernel
theorem dX12_init_376 : decode cX12_init 376 = .ok (.putfield 139, 3) := by decide +kernel
theorem dX12_init_379 : decode cX12_init 379 = .ok (.aload_n 0, 1) := by decide +kernel
theorem dX12_init_380 : decode cX12_init 380 = .ok (.sipush 1256, 3) := by decide +kernel
theorem dX12_init_383 : decode cX12_init 383 = .ok (.newarray .int, 2) := by decide +kernel
theorem dX12_init_385 : decode cX12_init 385 = .ok (.putfield 142, 3) := by decide +kernel
theorem dX12_init_388 : decode cX12_init 388 = .ok (.aload_n 0, 1) := by decide +kernel
theorem dX12_init_389 : decode cX12_init 389 = .ok (.sipush 314, 3) := by decide +kernel
theorem dX12_init_392 : decode cX12_init 392 = .ok (.newarray .int, 2) := by decide +kernel
theorem dX12_init_394 : decode cX12_init 394 = .ok (.putfield 145, 3) := by decide +kernel
theorem dX12_init_397 : decode cX12_init 397 = .ok (.aload_n 0, 1) := by decide +kernel
theorem dX12_init_398 : decode cX12_init 398 = .ok (.sipush 20096, 3) := by decide +kernel
theorem dX12_init_401 : decode cX12_init 401 = .ok (.newarray .int, 2) := by decide +kernel
theorem dX12_init_403 : decode cX12_init 403 = .ok (.putfield 148, 3) := by decide +kernel
theorem dX12_init_406 : decode cX12_init 406 = .ok (.aload_n 0, 1) := by decide +kernel
theorem dX12_init_407 : decode cX12_init 407 = .ok (.sipush 252, 3) := by decide +kernel
theorem dX12_init_410 : decode cX12_init 410 = .ok (.newarray .int, 2) := by decide +kernel
theorem dX12_init_412 : decode cX12_init 412 = .ok (.putfield 151, 3) := by decide +kernel
theorem dX12_init_415 : decode cX12_init 415 = .ok (.aload_n 0, 1) := by decide +kernel
theorem dX12_init_416 : decode cX12_init 416 = .ok (.sipush 252, 3) := by decide +kernel
theorem dX12_init_419 : decode cX12_init 419 = .ok (.newarray .int, 2) := by decide +kernel
theorem dX12_init_421 : decode cX12_init 421 = .ok (.putfield 154, 3) := by decide +kernel
theorem dX12_init_424 : decode cX12_init 424 = .ok (.aload_n 0, 1) := by decide +kernel
theorem dX12_init_425 : decode cX12_init 425 = .ok (.sipush 252, 3) := by decide +kernel
theorem dX12_init_428 : decode cX12_init 428 = .ok (.newarray .int, 2) := by decide +kernel
theorem dX12_init_430 : decode cX12_init 430 = .ok (.putfield 157, 3) := by decide +kernel
theorem dX12_init_433 : decode cX12_init 433 = .ok (.aload_n 0, 1) := by decide +kernel
theorem dX12_init_434 : decode cX12_init 434 = .ok (.sipush 252, 3) := by decide +kernel
theorem dX12_init_437 : decode cX12_init 437 = .ok (.newarray .int, 2) := by decide +kernel
theorem dX12_init_439 : decode cX12_init 439 = .ok (.putfield 160, 3) := by decide +kernel
theorem dX12_init_442 : decode cX12_init 442 = .ok (.aload_n 0, 1) := by decide +kernel
theorem dX12_init_443 : decode cX12_init 443 = .ok (.sipush 252, 3) := by decide +kernel
theorem dX12_init_446 : decode cX12_init 446 = .ok (.newarray .int, 2) := by decide +kernel
theorem dX12_init_448 : decode cX12_init 448 = .ok (.putfield 163, 3) := by decide +kernel
theorem dX12_init_451 : decode cX12_init 451 = .ok (.aload_n 0, 1) := by decide +kernel
theorem dX12_init_452 : decode cX12_init 452 = .ok (.bipush 60, 2) := by decide +kernel
theorem dX12_init_454 : decode cX12_init 454 = .ok (.newarray .int, 2) := by decide +kernel
theorem dX12_init_456 : decode cX12_init 456 = .ok (.putfield 166, 3) := by decide +kernel
theorem dX12_init_459 : decode cX12_init 459 = .ok (.aload_n 0, 1) := by decide +kernel
theorem dX12_init_460 : decode cX12_init 460 = .ok (.bipush 60, 2) := by decide +kernel
theorem dX12_init_462 : decode cX12_init 462 = .ok (.newarray .int, 2) := by decide +kernel
theorem dX12_init_464 : decode cX12_init 464 = .ok (.putfield 169, 3) := by decide +kernel
theorem dX12_init_467 : decode cX12_init 467 = .ok (.aload_n 0, 1) := by decide +kernel
theorem dX12_init_468 : decode cX12_init 468 = .ok (.bipush 60, 2) := by decide +kernel
theorem dX12_init_470 : decode cX12_init 470 = .ok (.newarray .int, 2) := by decide +kernel
theorem dX12_init_472 : decode cX12_init 472 = .ok (.putfield 172, 3) := by decide +kernel
theorem dX12_init_475 : decode cX12_init 475 = .ok (.aload_n 0, 1) := by decide +kernel
theorem dX12_init_476 : decode cX12_init 476 = .ok (.sipush 201, 3) := by decide +kernel
theorem dX12_init_479 : decode cX12_init 479 = .ok (.newarray .boolean, 2) := by decide +kernel
theorem dX12_init_481 : decode cX12_init 481 = .ok (.putfield 175, 3) := by decide +kernel
theorem dX12_init_484 : decode cX12_init 484 = .ok (.aload_n 0, 1) := by decide +kernel
theorem dX12_init_485 : decode cX12_init 485 = .ok (.sipush 201, 3) := by decide +kernel
theorem dX12_init_488 : decode cX12_init 488 = .ok (.newarray .boolean, 2) := by decide +kernel
theorem dX12_init_490 : decode cX12_init 490 = .ok (.putfield 178, 3) := by decide +kernel
theorem dX12_init_493 : decode cX12_init 493 = .ok (.aload_n 0, 1) := by decide +kernel
theorem dX12_init_494 : decode cX12_init 494 = .ok (.sipush 201, 3) := by decide +kernel
theorem dX12_init_497 : decode cX12_init 497 = .ok (.newarray .boolean, 2) := by decide +kernel
theorem dX12_init_499 : decode cX12_init 499 = .ok (.putfield 181, 3) := by decide +kernel
theorem dX12_init_502 : decode cX12_init 502 = .ok (.aload_n 0, 1) := by decide +kernel
theorem dX12_init_503 : decode cX12_init 503 = .ok (.bipush 6, 2) := by decide +kernel
theorem dX12_init_505 : decode cX12_init 505 = .ok (.newarray .int, 2) := by decide +kernel
theorem dX12_init_507 : decode cX12_init 507 = .ok (.putfield 184, 3) := by decide +kernel
theorem dX12_init_510 : decode cX12_init 510 = .ok (.aload_n 0, 1) := by decide +kernel
theorem dX12_init_511 : decode cX12_init 511 = .ok (.sipush 200, 3) := by decide +kernel
theorem dX12_init_514 : decode cX12_init 514 = .ok (.newarray .boolean, 2) := by decide +kernel
theorem dX12_init_516 : decode cX12_init 516 = .ok (.putfield 187, 3) := by decide +kernel
theorem dX12_init_519 : decode cX12_init 519 = .ok (.aload_n 0, 1) := by decide +kernel
theorem dX12_init_520 : decode cX12_init 520 = .ok (.sipush 12000, 3) := by decide +kernel
theorem dX12_init_523 : decode cX12_init 523 = .ok (.newarray .long, 2) := by decide +kernel
theorem dX12_init_525 : decode cX12_init 525 = .ok (.putfield 190, 3) := by decide +kernel
theorem dX12_init_528 : decode cX12_init 528 = .ok (.aload_n 0, 1) := by decide +kernel
theorem dX12_init_529 : decode cX12_init 529 = .ok (.sipush 8000, 3) := by decide +kernel
theorem dX12_init_532 : decode cX12_init 532 = .ok (.newarray .int, 2) := by decide +kernel
theorem dX12_init_534 : decode cX12_init 534 = .ok (.putfield 193, 3) := by decide +kernel
theorem dX12_init_537 : decode cX12_init 537 = .ok (.aload_n 0, 1) := by decide +kernel
theorem dX12_init_538 : decode cX12_init 538 = .ok (.sipush 600, 3) := by decide +kernel
theorem dX12_init_541 : decode cX12_init 541 = .ok (.newarray .int, 2) := by decide +kernel
theorem dX12_init_543 : decode cX12_init 543 = .ok (.putfield 196, 3) := by decide +kernel
theorem dX12_init_546 : decode cX12_init 546 = .ok (.aload_n 0, 1) := by decide +kernel
theorem dX12_init_547 : decode cX12_init 547 = .ok (.sipush 600, 3) := by decide +kernel
theorem dX12_init_550 : decode cX12_init 550 = .ok (.newarray .int, 2) := by decide +kernel
theorem dX12_init_552 : decode cX12_init 552 = .ok (.putfield 199, 3) := by decide +kernel
theorem dX12_init_555 : decode cX12_init 555 = .ok (.aload_n 0, 1) := by decide +kernel
theorem dX12_init_556 : decode cX12_init 556 = .ok (.sipush 256, 3) := by decide +kernel
theorem dX12_init_559 : decode cX12_init 559 = .ok (.newarray .byte, 2) := by decide +kernel
theorem dX12_init_561 : decode cX12_init 561 = .ok (.putfield 202, 3) := by decide +kernel
theorem dX12_init_564 : decode cX12_init 564 = .ok (.aload_n 0, 1) := by decide +kernel
theorem dX12_init_565 : decode cX12_init 565 = .ok (.sipush 2000, 3) := by decide +kernel
theorem dX12_init_568 : decode cX12_init 568 = .ok (.newarray .byte, 2) := by decide +kernel
theorem dX12_init_570 : decode cX12_init 570 = .ok (.putfield 205, 3) := by decide +kernel
theorem dX12_init_573 : decode cX12_init 573 = .ok (.aload_n 0, 1) := by decide +kernel
theorem dX12_init_574 : decode cX12_init 574 = .ok (.bipush 44, 2) := by decide +kernel
theorem dX12_init_576 : decode cX12_init 576 = .ok (.newarray .long, 2) := by decide +kernel
theorem dX12_init_578 : decode cX12_init 578 = .ok (.putfield 208, 3) := by decide +kernel
theorem dX12_init_581 : decode cX12_init 581 = .ok (.aload_n 0, 1) := by decide +kernel
theorem dX12_init_582 : decode cX12_init 582 = .ok (.sipush 512, 3) := by decide +kernel
theorem dX12_init_585 : decode cX12_init 585 = .ok (.newarray .byte, 2) := by decide +kernel
theorem dX12_init_587 : decode cX12_init 587 = .ok (.putfield 211, 3) := by decide +kernel
theorem dX12_init_590 : decode cX12_init 590 = .ok (.aload_n 0, 1) := by decide +kernel
theorem dX12_init_591 : decode cX12_init 591 = .ok (.iconst 4, 1) := by decide +kernel
theorem dX12_init_592 : decode cX12_init 592 = .ok (.newarray .int, 2) := by decide +kernel
theorem dX12_init_594 : decode cX12_init 594 = .ok (.putfield 214, 3) := by decide +kernel
theorem dX12_init_597 : decode cX12_init 597 = .ok (.aload_n 0, 1) := by decide +kernel
theorem dX12_init_598 : decode cX12_init 598 = .ok (.sipush 4096, 3) := by decide +kernel
theorem dX12_init_601 : decode cX12_init 601 = .ok (.newarray .byte, 2) := by decide +kernel
theorem dX12_init_603 : decode cX12_init 603 = .ok (.putfield 217, 3) := by decide +kernel
theorem dX12_init_606 : decode cX12_init 606 = .ok (.aload_n 0, 1) := by decide +kernel
theorem dX12_init_607 : decode cX12_init 607 = .ok (.bipush 64, 2) := by decide +kernel
theorem dX12_init_609 : decode cX12_init 609 = .ok (.newarray .int, 2) := by decide +kernel
theorem dX12_init_611 : decode cX12_init 611 = .ok (.putfield 220, 3) := by decide +kernel
theorem dX12_init_614 : decode cX12_init 614 = .ok (.aload_n 0, 1) := by decide +kernel
theorem dX12_init_615 : decode cX12_init 615 = .ok (.bipush 64, 2) := by decide +kernel
theorem dX12_init_617 : decode cX12_init 617 = .ok (.newarray .int, 2) := by decide +kernel
theorem dX12_init_619 : decode cX12_init 619 = .ok (.putfield 223, 3) := by decide +kernel
theorem dX12_init_622 : decode cX12_init 622 = .ok (.aload_n 0, 1) := by decide +kernel
theorem dX12_init_623 : decode cX12_init 623 = .ok (.bipush 64, 2) := by decide +kernel
theorem dX12_init_625 : decode cX12_init 625 = .ok (.newarray .boolean, 2) := by decide +kernel
theorem dX12_init_627 : decode cX12_init 627 = .ok (.putfield 226, 3) := by decide +kernel
theorem dX12_init_630 : decode cX12_init 630 = .ok (.aload_n 0, 1) := by decide +kernel
theorem dX12_init_631 : decode cX12_init 631 = .ok (.lconst 1, 1) := by decide +kernel
theorem dX12_init_632 : decode cX12_init 632 = .ok (.putfield 229, 3) := by decide +kernel
theorem dX12_init_635 : decode cX12_init 635 = .ok (.return_, 1) := by decide +kernel
theorem dX12_isKind_0 : decode cX12_isKind 0 = .ok (.iload_n 1, 1) := by decide +kernel
theorem dX12_isKind_1 : decode cX12_isKind 1 = .ok (.invokestatic 291, 3) := by decide +kernel
theorem dX12_isKind_4 : decode cX12_isKind 4 = .ok (.ifCond .eq 26, 3) := by decide +kernel
theorem dX12_isKind_7 : decode cX12_isKind 7 = .ok (.aload_n 0, 1) := by decide +kernel
theorem dX12_isKind_8 : decode cX12_isKind 8 = .ok (.getfield 55, 3) := by decide +kernel
theorem dX12_isKind_11 : decode cX12_isKind 11 = .ok (.iload_n 1, 1) := by decide +kernel
theorem dX12_isKind_12 : decode cX12_isKind 12 = .ok (.baload, 1) := by decide +kernel
theorem dX12_isKind_13 : decode cX12_isKind 13 = .ok (.ifCond .eq 17, 3) := by decide +kernel
theorem dX12_isKind_30 : decode cX12_isKind 30 = .ok (.iconst 0, 1) := by decide +kernel
theorem dX12_isKind_31 : decode cX12_isKind 31 = .ok (.ireturn, 1) := by decide +kernel
theorem dX12_isSlot_0 : decode cX12_isSlot 0 = .ok (.iload_n 0, 1) := by decide +kernel
theorem dX12_isSlot_1 : decode cX12_isSlot 1 = .ok (.ifCond .lt 13, 3) := by decide +kernel
theorem dX12_isSlot_4 : decode cX12_isSlot 4 = .ok (.iload_n 0, 1) := by decide +kernel
theorem dX12_isSlot_5 : decode cX12_isSlot 5 = .ok (.bipush 8, 2) := by decide +kernel
theorem dX12_isSlot_7 : decode cX12_isSlot 7 = .ok (.if_icmp .ge 7, 3) := by decide +kernel
theorem dX12_isSlot_10 : decode cX12_isSlot 10 = .ok (.iconst 1, 1) := by decide +kernel
theorem dX12_isSlot_11 : decode cX12_isSlot 11 = .ok (.goto 4, 3) := by decide +kernel
theorem dX12_isSlot_14 : decode cX12_isSlot 14 = .ok (.iconst 0, 1) := by decide +kernel
theorem dX12_isSlot_15 : decode cX12_isSlot 15 = .ok (.ireturn, 1) := by decide +kernel
theorem dX12_judge_0 : decode cX12_judge 0 = .ok (.iload_n 1, 1) := by decide +kernel
theorem dX12_judge_1 : decode cX12_judge 1 = .ok (.invokestatic 291, 3) := by decide +kernel
theorem dX12_judge_4 : decode cX12_judge 4 = .ok (.ifCond .eq 12, 3) := by decide +kernel
theorem dX12_judge_7 : decode cX12_judge 7 = .ok (.aload_n 0, 1) := by decide +kernel
theorem dX12_judge_8 : decode cX12_judge 8 = .ok (.getfield 20, 3) := by decide +kernel
theorem dX12_judge_11 : decode cX12_judge 11 = .ok (.iload_n 1, 1) := by decide +kernel
theorem dX12_judge_12 : decode cX12_judge 12 = .ok (.iaload, 1) := by decide +kernel
theorem dX12_judge_13 : decode cX12_judge 13 = .ok (.ifCond .ne 5, 3) := by decide +kernel
theorem dX12_judge_16 : decode cX12_judge 16 = .ok (.iconst (-1), 1) := by decide +kernel
theorem dX12_judge_17 : decode cX12_judge 17 = .ok (.ireturn, 1) := by decide +kernel
theorem dX12_known_0 : decode cX12_known 0 = .ok (.iload_n 1, 1) := by decide +kernel
theorem dX12_known_1 : decode cX12_known 1 = .ok (.ifCond .lt 39, 3) := by decide +kernel
theorem dX12_known_4 : decode cX12_known 4 = .ok (.iload_n 1, 1) := by decide +kernel
theorem dX12_known_5 : decode cX12_known 5 = .ok (.sipush 200, 3) := by decide +kernel
theorem dX12_known_8 : decode cX12_known 8 = .ok (.if_icmp .ge 32, 3) := by decide +kernel
theorem dX12_known_11 : decode cX12_known 11 = .ok (.aload_n 0, 1) := by decide +kernel
theorem dX12_known_12 : decode cX12_known 12 = .ok (.getfield 187, 3) := by decide +kernel
theorem dX12_known_15 : decode cX12_known 15 = .ok (.iload_n 1, 1) := by decide +kernel
theorem dX12_known_16 : decode cX12_known 16 = .ok (.baload, 1) := by decide +kernel
theorem dX12_known_17 : decode cX12_known 17 = .ok (.ifCond .eq 23, 3) := by decide +kernel
theorem dX12_known_40 : decode cX12_known 40 = .ok (.ldc2_w 803, 3) := by decide +kernel
theorem dX12_known_43 : decode cX12_known 43 = .ok (.lreturn, 1) := by decide +kernel
theorem dX12_lay_0 : decode cX12_lay 0 = .ok (.bipush 24, 2) := by decide +kernel
theorem dX12_lay_2 : decode cX12_lay 2 = .ok (.istore_n 2, 1) := by decide +kernel
theorem dX12_lay_3 : decode cX12_lay 3 = .ok (.iload_n 2, 1) := by decide +kernel
theorem dX12_lay_4 : decode cX12_lay 4 = .ok (.ifCond .lt 32, 3) := by decide +kernel
theorem dX12_lay_7 : decode cX12_lay 7 = .ok (.aload_n 0, 1) := by decide +kernel
theorem dX12_lay_8 : decode cX12_lay 8 = .ok (.getfield 7, 3) := by decide +kernel
theorem dX12_lay_11 : decode cX12_lay 11 = .ok (.aload_n 0, 1) := by decide +kernel
theorem dX12_lay_12 : decode cX12_lay 12 = .ok (.getfield 233, 3) := by decide +kernel
theorem dX12_lay_15 : decode cX12_lay 15 = .ok (.iload_n 1, 1) := by decide +kernel
theorem dX12_lay_16 : decode cX12_lay 16 = .ok (.iload_n 2, 1) := by decide +kernel
theorem dX12_lay_17 : decode cX12_lay 17 = .ok (.ishr, 1) := by decide +kernel
theorem dX12_lay_18 : decode cX12_lay 18 = .ok (.i2b, 1) := by decide +kernel
theorem dX12_lay_19 : decode cX12_lay 19 = .ok (.bastore, 1) := by decide +kernel
theorem dX12_lay_20 : decode cX12_lay 20 = .ok (.aload_n 0, 1) := by decide +kernel
theorem dX12_lay_21 : decode cX12_lay 21 = .ok (.dup, 1) := by decide +kernel
theorem dX12_lay_22 : decode cX12_lay 22 = .ok (.getfield 233, 3) := by decide +kernel
theorem dX12_lay_25 : decode cX12_lay 25 = .ok (.iconst 1, 1) := by decide +kernel
theorem dX12_lay_26 : decode cX12_lay 26 = .ok (.iadd, 1) := by decide +kernel
theorem dX12_lay_27 : decode cX12_lay 27 = .ok (.putfield 233, 3) := by decide +kernel
theorem dX12_lay_30 : decode cX12_lay 30 = .ok (.iinc 2 (-8), 3) := by decide +kernel
theorem dX12_lay_33 : decode cX12_lay 33 = .ok (.goto (-30), 3) := by decide +kernel
theorem dX12_lay_36 : decode cX12_lay 36 = .ok (.return_, 1) := by decide +kernel
theorem dX12_length_0 : decode cX12_length 0 = .ok (.aload_n 0, 1) := by decide +kernel
theorem dX12_length_1 : decode cX12_length 1 = .ok (.getfield 1194, 3) := by decide +kernel
theorem dX12_length_4 : decode cX12_length 4 = .ok (.ireturn, 1) := by decide +kernel
theorem dX12_link_0 : decode cX12_link 0 = .ok (.aload_n 0, 1) := by decide +kernel
theorem dX12_link_1 : decode cX12_link 1 = .ok (.iload_n 1, 1) := by decide +kernel
theorem dX12_link_2 : decode cX12_link 2 = .ok (.iconst 2, 1) := by decide +kernel
theorem dX12_link_3 : decode cX12_link 3 = .ok (.invokevirtual 785, 3) := by decide +kernel
theorem dX12_link_6 : decode cX12_link 6 = .ok (.ifCond .eq 28, 3) := by decide +kernel
theorem dX12_link_34 : decode cX12_link 34 = .ok (.iconst 0, 1) := by decide +kernel
theorem dX12_link_35 : decode cX12_link 35 = .ok (.ireturn, 1) := by decide +kernel
theorem dX12_load_0 : decode cX12_load 0 = .ok (.aload_n 0, 1) := by decide +kernel
theorem dX12_load_1 : decode cX12_load 1 = .ok (.invokevirtual 287, 3) := by decide +kernel
theorem dX12_load_4 : decode cX12_load 4 = .ok (.istore_n 2, 1) := by decide +kernel
theorem dX12_load_5 : decode cX12_load 5 = .ok (.iload_n 1, 1) := by decide +kernel
theorem dX12_load_6 : decode cX12_load 6 = .ok (.invokestatic 291, 3) := by decide +kernel
theorem dX12_load_9 : decode cX12_load 9 = .ok (.ifCond .eq 23, 3) := by decide +kernel
theorem dX12_load_12 : decode cX12_load 12 = .ok (.iload_n 2, 1) := by decide +kernel
theorem dX12_load_13 : decode cX12_load 13 = .ok (.bipush 8, 2) := by decide +kernel
theorem dX12_load_15 : decode cX12_load 15 = .ok (.if_icmp .lt 17, 3) := by decide +kernel
theorem dX12_load_32 : decode cX12_load 32 = .ok (.iconst (-1), 1) := by decide +kernel
theorem dX12_load_33 : decode cX12_load 33 = .ok (.ireturn, 1) := by decide +kernel
theorem dX12_map_0 : decode cX12_map 0 = .ok (.iload_n 1, 1) := by decide +kernel
theorem dX12_map_1 : decode cX12_map 1 = .ok (.invokestatic 291, 3) := by decide +kernel
theorem dX12_map_4 : decode cX12_map 4 = .ok (.ifCond .eq 34, 3) := by decide +kernel
theorem dX12_map_7 : decode cX12_map 7 = .ok (.aload_n 0, 1) := by decide +kernel
theorem dX12_map_8 : decode cX12_map 8 = .ok (.getfield 55, 3) := by decide +kernel
theorem dX12_map_11 : decode cX12_map 11 = .ok (.iload_n 1, 1) := by decide +kernel
theorem dX12_map_12 : decode cX12_map 12 = .ok (.baload, 1) := by decide +kernel
theorem dX12_map_13 : decode cX12_map 13 = .ok (.ifCond .ne 25, 3) := by decide +kernel
theorem dX12_map_16 : decode cX12_map 16 = .ok (.iload_n 2, 1) := by decide +kernel
theorem dX12_map_17 : decode cX12_map 17 = .ok (.ifCond .lt 21, 3) := by decide +kernel
theorem dX12_map_20 : decode cX12_map 20 = .ok (.iload_n 2, 1) := by decide +kernel
theorem dX12_map_21 : decode cX12_map 21 = .ok (.iconst 3, 1) := by decide +kernel
theorem dX12_map_22 : decode cX12_map 22 = .ok (.if_icmp .gt 16, 3) := by decide +kernel
theorem dX12_map_25 : decode cX12_map 25 = .ok (.iload 5, 2) := by decide +kernel
theorem dX12_map_27 : decode cX12_map 27 = .ok (.iconst 1, 1) := by decide +kernel
theorem dX12_map_28 : decode cX12_map 28 = .ok (.if_icmp .lt 10, 3) := by decide +kernel
theorem dX12_map_31 : decode cX12_map 31 = .ok (.iload 5, 2) := by decide +kernel
theorem dX12_map_33 : decode cX12_map 33 = .ok (.bipush 16, 2) := by decide +kernel
theorem dX12_map_35 : decode cX12_map 35 = .ok (.if_icmp .le 5, 3) := by decide +kernel
theorem dX12_map_38 : decode cX12_map 38 = .ok (.iconst 0, 1) := by decide +kernel
theorem dX12_map_39 : decode cX12_map 39 = .ok (.ireturn, 1) := by decide +kernel
theorem dX12_map_40 : decode cX12_map 40 = .ok (.iload_n 2, 1) := by decide +kernel
theorem dX12_map_41 : decode cX12_map 41 = .ok (.ifCond .ne 16, 3) := by decide +kernel
theorem dX12_map_44 : decode cX12_map 44 = .ok (.iload_n 3, 1) := by decide +kernel
theorem dX12_map_45 : decode cX12_map 45 = .ok (.iconst 4, 1) := by decide +kernel
theorem dX12_map_46 : decode cX12_map 46 = .ok (.if_icmp .ne 7, 3) := by decide +kernel
theorem dX12_map_49 : decode cX12_map 49 = .ok (.iconst 1, 1) := by decide +kernel
theorem dX12_map_50 : decode cX12_map 50 = .ok (.goto 40, 3) := by decide +kernel
theorem dX12_map_53 : decode cX12_map 53 = .ok (.iconst 0, 1) := by decide +kernel
theorem dX12_map_54 : decode cX12_map 54 = .ok (.goto 36, 3) := by decide +kernel
theorem dX12_map_57 : decode cX12_map 57 = .ok (.iload_n 2, 1) := by decide +kernel
theorem dX12_map_58 : decode cX12_map 58 = .ok (.iconst 1, 1) := by decide +kernel
theorem dX12_map_59 : decode cX12_map 59 = .ok (.if_icmp .ne 22, 3) := by decide +kernel
theorem dX12_map_62 : decode cX12_map 62 = .ok (.iload_n 3, 1) := by decide +kernel
theorem dX12_map_63 : decode cX12_map 63 = .ok (.iconst 1, 1) := by decide +kernel
theorem dX12_map_64 : decode cX12_map 64 = .ok (.if_icmp .lt 13, 3) := by decide +kernel
theorem dX12_map_67 : decode cX12_map 67 = .ok (.iload_n 3, 1) := by decide +kernel
theorem dX12_map_68 : decode cX12_map 68 = .ok (.bipush 16, 2) := by decide +kernel
theorem dX12_map_70 : decode cX12_map 70 = .ok (.if_icmp .gt 7, 3) := by decide +kernel
theorem dX12_map_73 : decode cX12_map 73 = .ok (.iconst 1, 1) := by decide +kernel
theorem dX12_map_74 : decode cX12_map 74 = .ok (.goto 16, 3) := by decide +kernel
theorem dX12_map_77 : decode cX12_map 77 = .ok (.iconst 0, 1) := by decide +kernel
theorem dX12_map_78 : decode cX12_map 78 = .ok (.goto 12, 3) := by decide +kernel
theorem dX12_map_81 : decode cX12_map 81 = .ok (.iload_n 3, 1) := by decide +kernel
theorem dX12_map_82 : decode cX12_map 82 = .ok (.ifCond .ne 7, 3) := by decide +kernel
theorem dX12_map_85 : decode cX12_map 85 = .ok (.iconst 1, 1) := by decide +kernel
theorem dX12_map_86 : decode cX12_map 86 = .ok (.goto 4, 3) := by decide +kernel
theorem dX12_map_89 : decode cX12_map 89 = .ok (.iconst 0, 1) := by decide +kernel
theorem dX12_map_90 : decode cX12_map 90 = .ok (.istore 6, 2) := by decide +kernel
theorem dX12_map_92 : decode cX12_map 92 = .ok (.iload 6, 2) := by decide +kernel
theorem dX12_map_94 : decode cX12_map 94 = .ok (.ifCond .eq 33, 3) := by decide +kernel
theorem dX12_map_97 : decode cX12_map 97 = .ok (.iload_n 2, 1) := by decide +kernel
theorem dX12_map_98 : decode cX12_map 98 = .ok (.iconst 1, 1) := by decide +kernel
theorem dX12_map_99 : decode cX12_map 99 = .ok (.if_icmp .gt 19, 3) := by decide +kernel
theorem dX12_map_102 : decode cX12_map 102 = .ok (.iload 4, 2) := by decide +kernel
theorem dX12_map_104 : decode cX12_map 104 = .ok (.iconst 1, 1) := by decide +kernel
theorem dX12_map_105 : decode cX12_map 105 = .ok (.if_icmp .lt 22, 3) := by decide +kernel
theorem dX12_map_108 : decode cX12_map 108 = .ok (.iload 4, 2) := by decide +kernel
theorem dX12_map_110 : decode cX12_map 110 = .ok (.bipush 64, 2) := by decide +kernel
theorem dX12_map_112 : decode cX12_map 112 = .ok (.if_icmp .gt 15, 3) := by decide +kernel
theorem dX12_map_115 : decode cX12_map 115 = .ok (.goto 8, 3) := by decide +kernel
theorem dX12_map_118 : decode cX12_map 118 = .ok (.iload 4, 2) := by decide +kernel
theorem dX12_map_120 : decode cX12_map 120 = .ok (.ifCond .ne 7, 3) := by decide +kernel
theorem dX12_map_123 : decode cX12_map 123 = .ok (.iconst 1, 1) := by decide +kernel
theorem dX12_map_124 : decode cX12_map 124 = .ok (.goto 4, 3) := by decide +kernel
theorem dX12_map_127 : decode cX12_map 127 = .ok (.iconst 0, 1) := by decide +kernel
theorem dX12_map_128 : decode cX12_map 128 = .ok (.istore 6, 2) := by decide +kernel
theorem dX12_map_130 : decode cX12_map 130 = .ok (.iload 6, 2) := by decide +kernel
theorem dX12_map_132 : decode cX12_map 132 = .ok (.ifCond .ne 5, 3) := by decide +kernel
theorem dX12_map_135 : decode cX12_map 135 = .ok (.iconst 0, 1) := by decide +kernel
theorem dX12_map_136 : decode cX12_map 136 = .ok (.ireturn, 1) := by decide +kernel
theorem dX12_map_137 : decode cX12_map 137 = .ok (.aload_n 0, 1) := by decide +kernel
theorem dX12_map_138 : decode cX12_map 138 = .ok (.getfield 55, 3) := by decide +kernel
theorem dX12_map_141 : decode cX12_map 141 = .ok (.iload_n 1, 1) := by decide +kernel
theorem dX12_map_142 : decode cX12_map 142 = .ok (.iconst 1, 1) := by decide +kernel
theorem dX12_map_143 : decode cX12_map 143 = .ok (.bastore, 1) := by decide +kernel
theorem dX12_map_144 : decode cX12_map 144 = .ok (.aload_n 0, 1) := by decide +kernel
theorem dX12_map_145 : decode cX12_map 145 = .ok (.getfield 58, 3) := by decide +kernel
theorem dX12_map_148 : decode cX12_map 148 = .ok (.iload_n 1, 1) := by decide +kernel
theorem dX12_map_149 : decode cX12_map 149 = .ok (.iload_n 2, 1) := by decide +kernel
theorem dX12_map_150 : decode cX12_map 150 = .ok (.iastore, 1) := by decide +kernel
theorem dX12_map_151 : decode cX12_map 151 = .ok (.aload_n 0, 1) := by decide +kernel
theorem dX12_map_152 : decode cX12_map 152 = .ok (.getfield 61, 3) := by decide +kernel
theorem dX12_map_155 : decode cX12_map 155 = .ok (.iload_n 1, 1) := by decide +kernel
theorem dX12_map_156 : decode cX12_map 156 = .ok (.iload_n 3, 1) := by decide +kernel
theorem dX12_map_157 : decode cX12_map 157 = .ok (.iastore, 1) := by decide +kernel
theorem dX12_map_158 : decode cX12_map 158 = .ok (.aload_n 0, 1) := by decide +kernel
theorem dX12_map_159 : decode cX12_map 159 = .ok (.getfield 64, 3) := by decide +kernel
theorem dX12_map_162 : decode cX12_map 162 = .ok (.iload_n 1, 1) := by decide +kernel
theorem dX12_map_163 : decode cX12_map 163 = .ok (.iload 4, 2) := by decide +kernel
theorem dX12_map_165 : decode cX12_map 165 = .ok (.iastore, 1) := by decide +kernel
theorem dX12_map_166 : decode cX12_map 166 = .ok (.aload_n 0, 1) := by decide +kernel
theorem dX12_map_167 : decode cX12_map 167 = .ok (.getfield 67, 3) := by decide +kernel
theorem dX12_map_170 : decode cX12_map 170 = .ok (.iload_n 1, 1) := by decide +kernel
theorem dX12_map_171 : decode cX12_map 171 = .ok (.iload 5, 2) := by decide +kernel
theorem dX12_map_173 : decode cX12_map 173 = .ok (.iastore, 1) := by decide +kernel
theorem dX12_map_174 : decode cX12_map 174 = .ok (.iconst 0, 1) := by decide +kernel
theorem dX12_map_175 : decode cX12_map 175 = .ok (.istore 7, 2) := by decide +kernel
theorem dX12_map_177 : decode cX12_map 177 = .ok (.iload 7, 2) := by decide +kernel
theorem dX12_map_179 : decode cX12_map 179 = .ok (.bipush 16, 2) := by decide +kernel
theorem dX12_map_181 : decode cX12_map 181 = .ok (.if_icmp .ge 22, 3) := by decide +kernel
theorem dX12_map_184 : decode cX12_map 184 = .ok (.aload_n 0, 1) := by decide +kernel
theorem dX12_map_185 : decode cX12_map 185 = .ok (.getfield 88, 3) := by decide +kernel
theorem dX12_map_188 : decode cX12_map 188 = .ok (.bipush 16, 2) := by decide +kernel
theorem dX12_map_190 : decode cX12_map 190 = .ok (.iload_n 1, 1) := by decide +kernel
theorem dX12_map_191 : decode cX12_map 191 = .ok (.imul, 1) := by decide +kernel
theorem dX12_map_192 : decode cX12_map 192 = .ok (.iload 7, 2) := by decide +kernel
theorem dX12_map_194 : decode cX12_map 194 = .ok (.iadd, 1) := by decide +kernel
theorem dX12_map_195 : decode cX12_map 195 = .ok (.iconst (-1), 1) := by decide +kernel
theorem dX12_map_196 : decode cX12_map 196 = .ok (.iastore, 1) := by decide +kernel
theorem dX12_map_197 : decode cX12_map 197 = .ok (.iinc 7 1, 3) := by decide +kernel
theorem dX12_map_200 : decode cX12_map 200 = .ok (.goto (-23), 3) := by decide +kernel
theorem dX12_map_203 : decode cX12_map 203 = .ok (.iconst 1, 1) := by decide +kernel
theorem dX12_map_204 : decode cX12_map 204 = .ok (.ireturn, 1) := by decide +kernel
theorem dX12_mark_0 : decode cX12_mark 0 = .ok (.aload_n 0, 1) := by decide +kernel
theorem dX12_mark_1 : decode cX12_mark 1 = .ok (.getfield 1197, 3) := by decide +kernel
theorem dX12_mark_4 : decode cX12_mark 4 = .ok (.ireturn, 1) := by decide +kernel
theorem dX12_mistake_0 : decode cX12_mistake 0 = .ok (.aload_n 0, 1) := by decide +kernel
theorem dX12_mistake_1 : decode cX12_mistake 1 = .ok (.aload_n 0, 1) := by decide +kernel
theorem dX12_mistake_2 : decode cX12_mistake 2 = .ok (.getfield 347, 3) := by decide +kernel
theorem dX12_mistake_5 : decode cX12_mistake 5 = .ok (.ifCond .ge 7, 3) := by decide +kernel
theorem dX12_mistake_8 : decode cX12_mistake 8 = .ok (.iload_n 1, 1) := by decide +kernel
theorem dX12_mistake_9 : decode cX12_mistake 9 = .ok (.goto 7, 3) := by decide +kernel
theorem dX12_mistake_16 : decode cX12_mistake 16 = .ok (.putfield 347, 3) := by decide +kernel
theorem dX12_mistake_19 : decode cX12_mistake 19 = .ok (.return_, 1) := by decide +kernel
theorem dX12_next_0 : decode cX12_next 0 = .ok (.aload_n 0, 1) := by decide +kernel
theorem dX12_next_1 : decode cX12_next 1 = .ok (.iload_n 1, 1) := by decide +kernel
theorem dX12_next_2 : decode cX12_next 2 = .ok (.iconst 3, 1) := by decide +kernel
theorem dX12_next_3 : decode cX12_next 3 = .ok (.invokevirtual 785, 3) := by decide +kernel
theorem dX12_next_6 : decode cX12_next 6 = .ok (.ifCond .eq 12, 3) := by decide +kernel
theorem dX12_next_18 : decode cX12_next 18 = .ok (.iconst (-1), 1) := by decide +kernel
theorem dX12_next_19 : decode cX12_next 19 = .ok (.ireturn, 1) := by decide +kernel
theorem dX12_out_0 : decode cX12_out 0 = .ok (.iload_n 1, 1) := by decide +kernel
theorem dX12_out_1 : decode cX12_out 1 = .ok (.ifCond .lt 24, 3) := by decide +kernel
theorem dX12_out_4 : decode cX12_out 4 = .ok (.iload_n 1, 1) := by decide +kernel
theorem dX12_out_5 : decode cX12_out 5 = .ok (.aload_n 0, 1) := by decide +kernel
theorem dX12_out_6 : decode cX12_out 6 = .ok (.getfield 296, 3) := by decide +kernel
theorem dX12_out_9 : decode cX12_out 9 = .ok (.if_icmp .ge 16, 3) := by decide +kernel
theorem dX12_out_25 : decode cX12_out 25 = .ok (.iconst (-1), 1) := by decide +kernel
theorem dX12_out_26 : decode cX12_out 26 = .ok (.ireturn, 1) := by decide +kernel
theorem dX12_outs_0 : decode cX12_outs 0 = .ok (.aload_n 0, 1) := by decide +kernel
theorem dX12_outs_1 : decode cX12_outs 1 = .ok (.getfield 296, 3) := by decide +kernel
theorem dX12_outs_4 : decode cX12_outs 4 = .ok (.ireturn, 1) := by decide +kernel
theorem dX12_packet_0 : decode cX12_packet 0 = .ok (.aload_n 0, 1) := by decide +kernel
theorem dX12_packet_1 : decode cX12_packet 1 = .ok (.invokevirtual 287, 3) := by decide +kernel
theorem dX12_packet_4 : decode cX12_packet 4 = .ok (.istore_n 1, 1) := by decide +kernel
theorem dX12_packet_5 : decode cX12_packet 5 = .ok (.iload_n 1, 1) := by decide +kernel
theorem dX12_packet_6 : decode cX12_packet 6 = .ok (.sipush 256, 3) := by decide +kernel
theorem dX12_packet_9 : decode cX12_packet 9 = .ok (.if_icmp .le 5, 3) := by decide +kernel
theorem dX12_packet_14 : decode cX12_packet 14 = .ok (.iconst 0, 1) := by decide +kernel
theorem dX12_packet_15 : decode cX12_packet 15 = .ok (.istore_n 2, 1) := by decide +kernel
theorem dX12_packet_16 : decode cX12_packet 16 = .ok (.iload_n 2, 1) := by decide +kernel
theorem dX12_packet_17 : decode cX12_packet 17 = .ok (.iload_n 1, 1) := by decide +kernel
theorem dX12_packet_18 : decode cX12_packet 18 = .ok (.if_icmp .ge 21, 3) := by decide +kernel
theorem dX12_packet_39 : decode cX12_packet 39 = .ok (.aload_n 0, 1) := by decide +kernel
theorem dX12_packet_40 : decode cX12_packet 40 = .ok (.iload_n 1, 1) := by decide +kernel
theorem dX12_packet_41 : decode cX12_packet 41 = .ok (.putfield 1194, 3) := by decide +kernel
theorem dX12_packet_44 : decode cX12_packet 44 = .ok (.iload_n 1, 1) := by decide +kernel
theorem dX12_packet_45 : decode cX12_packet 45 = .ok (.ireturn, 1) := by decide +kernel
theorem dX12_packetByte_0 : decode cX12_packetByte 0 = .ok (.iload_n 1, 1) := by decide +kernel
theorem dX12_packetByte_1 : decode cX12_packetByte 1 = .ok (.ifCond .lt 24, 3) := by decide +kernel
theorem dX12_packetByte_4 : decode cX12_packetByte 4 = .ok (.iload_n 1, 1) := by decide +kernel
theorem dX12_packetByte_5 : decode cX12_packetByte 5 = .ok (.aload_n 0, 1) := by decide +kernel
theorem dX12_packetByte_6 : decode cX12_packetByte 6 = .ok (.getfield 1194, 3) := by decide +kernel
theorem dX12_packetByte_9 : decode cX12_packetByte 9 = .ok (.if_icmp .ge 16, 3) := by decide +kernel
theorem dX12_packetByte_25 : decode cX12_packetByte 25 = .ok (.iconst (-1), 1) := by decide +kernel
theorem dX12_packetByte_26 : decode cX12_packetByte 26 = .ok (.ireturn, 1) := by decide +kernel
theorem dX12_peek_0 : decode cX12_peek 0 = .ok (.aload_n 0, 1) := by decide +kernel
theorem dX12_peek_1 : decode cX12_peek 1 = .ok (.getfield 299, 3) := by decide +kernel
theorem dX12_peek_4 : decode cX12_peek 4 = .ok (.iload_n 1, 1) := by decide +kernel
theorem dX12_peek_5 : decode cX12_peek 5 = .ok (.iadd, 1) := by decide +kernel
theorem dX12_peek_6 : decode cX12_peek 6 = .ok (.aload_n 0, 1) := by decide +kernel
theorem dX12_peek_7 : decode cX12_peek 7 = .ok (.getfield 302, 3) := by decide +kernel
theorem dX12_peek_10 : decode cX12_peek 10 = .ok (.if_icmp .ge 21, 3) := by decide +kernel
theorem dX12_peek_31 : decode cX12_peek 31 = .ok (.iconst (-1), 1) := by decide +kernel
theorem dX12_peek_32 : decode cX12_peek 32 = .ok (.ireturn, 1) := by decide +kernel
theorem dX12_print_0 : decode cX12_print 0 = .ok (.iload_n 1, 1) := by decide +kernel
theorem dX12_print_1 : decode cX12_print 1 = .ok (.invokestatic 291, 3) := by decide +kernel
theorem dX12_print_4 : decode cX12_print 4 = .ok (.ifCond .eq 12, 3) := by decide +kernel
theorem dX12_print_7 : decode cX12_print 7 = .ok (.aload_n 0, 1) := by decide +kernel
theorem dX12_print_8 : decode cX12_print 8 = .ok (.getfield 20, 3) := by decide +kernel
theorem dX12_print_11 : decode cX12_print 11 = .ok (.iload_n 1, 1) := by decide +kernel
theorem dX12_print_12 : decode cX12_print 12 = .ok (.iaload, 1) := by decide +kernel
theorem dX12_print_13 : decode cX12_print 13 = .ok (.ifCond .ne 5, 3) := by decide +kernel
theorem dX12_print_16 : decode cX12_print 16 = .ok (.iconst (-1), 1) := by decide +kernel
theorem dX12_print_17 : decode cX12_print 17 = .ok (.ireturn, 1) := by decide +kernel
theorem dX12_put_0 : decode cX12_put 0 = .ok (.aload_n 0, 1) := by decide +kernel
theorem dX12_put_1 : decode cX12_put 1 = .ok (.iload_n 1, 1) := by decide +kernel
theorem dX12_put_2 : decode cX12_put 2 = .ok (.iconst 1, 1) := by decide +kernel
theorem dX12_put_3 : decode cX12_put 3 = .ok (.invokevirtual 771, 3) := by decide +kernel
theorem dX12_put_6 : decode cX12_put 6 = .ok (.ifCond .eq 13, 3) := by decide +kernel
theorem dX12_put_19 : decode cX12_put 19 = .ok (.iconst (-1), 1) := by decide +kernel
theorem dX12_put_20 : decode cX12_put 20 = .ok (.ireturn, 1) := by decide +kernel
theorem dX12_remove_0 : decode cX12_remove 0 = .ok (.aload_n 0, 1) := by decide +kernel
theorem dX12_remove_1 : decode cX12_remove 1 = .ok (.iload_n 1, 1) := by decide +kernel
theorem dX12_remove_2 : decode cX12_remove 2 = .ok (.iconst 0, 1) := by decide +kernel
theorem dX12_remove_3 : decode cX12_remove 3 = .ok (.invokevirtual 771, 3) := by decide +kernel
theorem dX12_remove_6 : decode cX12_remove 6 = .ok (.ifCond .eq 11, 3) := by decide +kernel
theorem dX12_remove_17 : decode cX12_remove 17 = .ok (.iconst (-1), 1) := by decide +kernel
theorem dX12_remove_18 : decode cX12_remove 18 = .ok (.ireturn, 1) := by decide +kernel
theorem dX12_result_0 : decode cX12_result 0 = .ok (.aload_n 0, 1) := by decide +kernel
theorem dX12_result_1 : decode cX12_result 1 = .ok (.getfield 1203, 3) := by decide +kernel
theorem dX12_result_4 : decode cX12_result 4 = .ok (.lreturn, 1) := by decide +kernel
theorem dX12_run_0 : decode cX12_run 0 = .ok (.iload_n 1, 1) := by decide +kernel
theorem dX12_run_1 : decode cX12_run 1 = .ok (.invokestatic 291, 3) := by decide +kernel
theorem dX12_run_4 : decode cX12_run 4 = .ok (.ifCond .eq 21, 3) := by decide +kernel
theorem dX12_run_7 : decode cX12_run 7 = .ok (.aload_n 0, 1) := by decide +kernel
theorem dX12_run_8 : decode cX12_run 8 = .ok (.getfield 24, 3) := by decide +kernel
theorem dX12_run_11 : decode cX12_run 11 = .ok (.iload_n 1, 1) := by decide +kernel
theorem dX12_run_12 : decode cX12_run 12 = .ok (.baload, 1) := by decide +kernel
theorem dX12_run_13 : decode cX12_run 13 = .ok (.ifCond .eq 12, 3) := by decide +kernel
theorem dX12_run_25 : decode cX12_run 25 = .ok (.iconst (-1), 1) := by decide +kernel
theorem dX12_run_26 : decode cX12_run 26 = .ok (.ireturn, 1) := by decide +kernel
theorem dX12_size_0 : decode cX12_size 0 = .ok (.iload_n 1, 1) := by decide +kernel
theorem dX12_size_1 : decode cX12_size 1 = .ok (.invokestatic 291, 3) := by decide +kernel
theorem dX12_size_4 : decode cX12_size 4 = .ok (.ifCond .eq 12, 3) := by decide +kernel
theorem dX12_size_7 : decode cX12_size 7 = .ok (.aload_n 0, 1) := by decide +kernel
theorem dX12_size_8 : decode cX12_size 8 = .ok (.getfield 55, 3) := by decide +kernel
theorem dX12_size_11 : decode cX12_size 11 = .ok (.iload_n 1, 1) := by decide +kernel
theorem dX12_size_12 : decode cX12_size 12 = .ok (.baload, 1) := by decide +kernel
theorem dX12_size_13 : decode cX12_size 13 = .ok (.ifCond .ne 5, 3) := by decide +kernel
theorem dX12_size_16 : decode cX12_size 16 = .ok (.iconst (-1), 1) := by decide +kernel
theorem dX12_size_17 : decode cX12_size 17 = .ok (.ireturn, 1) := by decide +kernel
theorem dX12_steps_0 : decode cX12_steps 0 = .ok (.aload_n 0, 1) := by decide +kernel
theorem dX12_steps_1 : decode cX12_steps 1 = .ok (.getfield 1209, 3) := by decide +kernel
theorem dX12_steps_4 : decode cX12_steps 4 = .ok (.lreturn, 1) := by decide +kernel
theorem dX12_tails_0 : decode cX12_tails 0 = .ok (.aload_n 0, 1) := by decide +kernel
theorem dX12_tails_1 : decode cX12_tails 1 = .ok (.getfield 1206, 3) := by decide +kernel
theorem dX12_tails_4 : decode cX12_tails 4 = .ok (.ireturn, 1) := by decide +kernel
theorem dX12_takeKey_0 : decode cX12_takeKey 0 = .ok (.aload_n 0, 1) := by decide +kernel
theorem dX12_takeKey_1 : decode cX12_takeKey 1 = .ok (.invokevirtual 287, 3) := by decide +kernel
theorem dX12_takeKey_4 : decode cX12_takeKey 4 = .ok (.istore_n 3, 1) := by decide +kernel
theorem dX12_takeKey_5 : decode cX12_takeKey 5 = .ok (.aload_n 0, 1) := by decide +kernel
theorem dX12_takeKey_6 : decode cX12_takeKey 6 = .ok (.iload_n 1, 1) := by decide +kernel
theorem dX12_takeKey_7 : decode cX12_takeKey 7 = .ok (.invokevirtual 768, 3) := by decide +kernel
theorem dX12_takeKey_10 : decode cX12_takeKey 10 = .ok (.ifCond .eq 28, 3) := by decide +kernel
theorem dX12_takeKey_38 : decode cX12_takeKey 38 = .ok (.iconst 0, 1) := by decide +kernel
theorem dX12_takeKey_39 : decode cX12_takeKey 39 = .ok (.ireturn, 1) := by decide +kernel
theorem dX12_takeTape_0 : decode cX12_takeTape 0 = .ok (.aload_n 0, 1) := by decide +kernel
theorem dX12_takeTape_1 : decode cX12_takeTape 1 = .ok (.getfield 233, 3) := by decide +kernel
theorem dX12_takeTape_4 : decode cX12_takeTape 4 = .ok (.istore_n 1, 1) := by decide +kernel
theorem dX12_takeTape_5 : decode cX12_takeTape 5 = .ok (.aload_n 0, 1) := by decide +kernel
theorem dX12_takeTape_6 : decode cX12_takeTape 6 = .ok (.iconst 0, 1) := by decide +kernel
theorem dX12_takeTape_7 : decode cX12_takeTape 7 = .ok (.putfield 233, 3) := by decide +kernel
theorem dX12_takeTape_10 : decode cX12_takeTape 10 = .ok (.iload_n 1, 1) := by decide +kernel
theorem dX12_takeTape_11 : decode cX12_takeTape 11 = .ok (.ireturn, 1) := by decide +kernel
theorem dX12_taken_0 : decode cX12_taken 0 = .ok (.iload_n 1, 1) := by decide +kernel
theorem dX12_taken_1 : decode cX12_taken 1 = .ok (.invokestatic 291, 3) := by decide +kernel
theorem dX12_taken_4 : decode cX12_taken 4 = .ok (.ifCond .eq 16, 3) := by decide +kernel
theorem dX12_taken_7 : decode cX12_taken 7 = .ok (.aload_n 0, 1) := by decide +kernel
theorem dX12_taken_8 : decode cX12_taken 8 = .ok (.getfield 24, 3) := by decide +kernel
theorem dX12_taken_11 : decode cX12_taken 11 = .ok (.iload_n 1, 1) := by decide +kernel
theorem dX12_taken_12 : decode cX12_taken 12 = .ok (.baload, 1) := by decide +kernel
theorem dX12_taken_13 : decode cX12_taken 13 = .ok (.ifCond .eq 7, 3) := by decide +kernel
theorem dX12_taken_20 : decode cX12_taken 20 = .ok (.iconst 0, 1) := by decide +kernel
theorem dX12_taken_21 : decode cX12_taken 21 = .ok (.ireturn, 1) := by decide +kernel
theorem dX12_tear_0 : decode cX12_tear 0 = .ok (.aload_n 0, 1) := by decide +kernel
theorem dX12_tear_1 : decode cX12_tear 1 = .ok (.getfield 1212, 3) := by decide +kernel
theorem dX12_tear_4 : decode cX12_tear 4 = .ok (.istore_n 1, 1) := by decide +kernel
theorem dX12_tear_5 : decode cX12_tear 5 = .ok (.aload_n 0, 1) := by decide +kernel
theorem dX12_tear_6 : decode cX12_tear 6 = .ok (.iconst 0, 1) := by decide +kernel
theorem dX12_tear_7 : decode cX12_tear 7 = .ok (.putfield 1212, 3) := by decide +kernel
theorem dX12_tear_10 : decode cX12_tear 10 = .ok (.iload_n 1, 1) := by decide +kernel
theorem dX12_tear_11 : decode cX12_tear 11 = .ok (.ireturn, 1) := by decide +kernel
theorem dX12_told_0 : decode cX12_told 0 = .ok (.iload_n 1, 1) := by decide +kernel
theorem dX12_told_1 : decode cX12_told 1 = .ok (.ifCond .lt 8, 3) := by decide +kernel
theorem dX12_told_4 : decode cX12_told 4 = .ok (.iload_n 1, 1) := by decide +kernel
theorem dX12_told_5 : decode cX12_told 5 = .ok (.iconst 5, 1) := by decide +kernel
theorem dX12_told_6 : decode cX12_told 6 = .ok (.if_icmp .le 7, 3) := by decide +kernel
theorem dX12_told_9 : decode cX12_told 9 = .ok (.iconst (-1), 1) := by decide +kernel
theorem dX12_told_10 : decode cX12_told 10 = .ok (.goto 28, 3) := by decide +kernel
theorem dX12_told_13 : decode cX12_told 13 = .ok (.aload_n 0, 1) := by decide +kernel
theorem dX12_told_14 : decode cX12_told 14 = .ok (.getfield 918, 3) := by decide +kernel
theorem dX12_told_17 : decode cX12_told 17 = .ok (.ifCond .ne 15, 3) := by decide +kernel
theorem dX12_told_20 : decode cX12_told 20 = .ok (.iload_n 1, 1) := by decide +kernel
theorem dX12_told_21 : decode cX12_told 21 = .ok (.ifCond .ne 7, 3) := by decide +kernel
theorem dX12_told_24 : decode cX12_told 24 = .ok (.iconst (-1), 1) := by decide +kernel
theorem dX12_told_25 : decode cX12_told 25 = .ok (.goto 13, 3) := by decide +kernel
theorem dX12_told_28 : decode cX12_told 28 = .ok (.iconst 0, 1) := by decide +kernel
theorem dX12_told_29 : decode cX12_told 29 = .ok (.goto 9, 3) := by decide +kernel
theorem dX12_told_38 : decode cX12_told 38 = .ok (.ireturn, 1) := by decide +kernel
theorem dX12_trace_0 : decode cX12_trace 0 = .ok (.iload_n 1, 1) := by decide +kernel
theorem dX12_trace_1 : decode cX12_trace 1 = .ok (.ifCond .lt 24, 3) := by decide +kernel
theorem dX12_trace_4 : decode cX12_trace 4 = .ok (.iload_n 1, 1) := by decide +kernel
theorem dX12_trace_5 : decode cX12_trace 5 = .ok (.aload_n 0, 1) := by decide +kernel
theorem dX12_trace_6 : decode cX12_trace 6 = .ok (.getfield 1212, 3) := by decide +kernel
theorem dX12_trace_9 : decode cX12_trace 9 = .ok (.if_icmp .ge 16, 3) := by decide +kernel
theorem dX12_trace_25 : decode cX12_trace 25 = .ok (.iconst (-1), 1) := by decide +kernel
theorem dX12_trace_26 : decode cX12_trace 26 = .ok (.ireturn, 1) := by decide +kernel
theorem dX12_traces_0 : decode cX12_traces 0 = .ok (.aload_n 0, 1) := by decide +kernel
theorem dX12_traces_1 : decode cX12_traces 1 = .ok (.getfield 1212, 3) := by decide +kernel
theorem dX12_traces_4 : decode cX12_traces 4 = .ok (.ireturn, 1) := by decide +kernel
theorem dX12_word_0 : decode cX12_word 0 = .ok (.iload_n 1, 1) := by decide +kernel
theorem dX12_word_1 : decode cX12_word 1 = .ok (.invokestatic 291, 3) := by decide +kernel
theorem dX12_word_4 : decode cX12_word 4 = .ok (.ifCond .eq 32, 3) := by decide +kernel
theorem dX12_word_7 : decode cX12_word 7 = .ok (.iload_n 2, 1) := by decide +kernel
theorem dX12_word_8 : decode cX12_word 8 = .ok (.ifCond .lt 28, 3) := by decide +kernel
theorem dX12_word_11 : decode cX12_word 11 = .ok (.iload_n 2, 1) := by decide +kernel
theorem dX12_word_12 : decode cX12_word 12 = .ok (.aload_n 0, 1) := by decide +kernel
theorem dX12_word_13 : decode cX12_word 13 = .ok (.getfield 20, 3) := by decide +kernel
theorem dX12_word_16 : decode cX12_word 16 = .ok (.iload_n 1, 1) := by decide +kernel
theorem dX12_word_17 : decode cX12_word 17 = .ok (.iaload, 1) := by decide +kernel
theorem dX12_word_18 : decode cX12_word 18 = .ok (.if_icmp .ge 18, 3) := by decide +kernel
theorem dX12_word_36 : decode cX12_word 36 = .ok (.lconst 0, 1) := by decide +kernel
theorem dX12_word_37 : decode cX12_word 37 = .ok (.lreturn, 1) := by decide +kernel
theorem dX12_words_0 : decode cX12_words 0 = .ok (.iload_n 1, 1) := by decide +kernel
theorem dX12_words_1 : decode cX12_words 1 = .ok (.invokestatic 291, 3) := by decide +kernel
theorem dX12_words_4 : decode cX12_words 4 = .ok (.ifCond .eq 12, 3) := by decide +kernel
theorem dX12_words_7 : decode cX12_words 7 = .ok (.aload_n 0, 1) := by decide +kernel
theorem dX12_words_8 : decode cX12_words 8 = .ok (.getfield 20, 3) := by decide +kernel
theorem dX12_words_11 : decode cX12_words 11 = .ok (.iload_n 1, 1) := by decide +kernel
theorem dX12_words_12 : decode cX12_words 12 = .ok (.iaload, 1) := by decide +kernel
theorem dX12_words_13 : decode cX12_words 13 = .ok (.goto 4, 3) := by decide +kernel
theorem dX12_words_16 : decode cX12_words 16 = .ok (.iconst 0, 1) := by decide +kernel
theorem dX12_words_17 : decode cX12_words 17 = .ok (.ireturn, 1) := by decide +kernel
theorem dX1_init_0 : decode cX1_init 0 = .ok (.aload_n 0, 1) := by decide +kernel
theorem dX1_init_1 : decode cX1_init 1 = .ok (.invokespecial 7, 3) := by decide +kernel
theorem dX1_init_4 : decode cX1_init 4 = .ok (.aload_n 0, 1) := by decide +kernel
theorem dX1_init_5 : decode cX1_init 5 = .ok (.bipush 6, 2) := by decide +kernel
theorem dX1_init_7 : decode cX1_init 7 = .ok (.newarray .int, 2) := by decide +kernel
theorem dX1_init_9 : decode cX1_init 9 = .ok (.dup, 1) := by decide +kernel
theorem dX1_init_10 : decode cX1_init 10 = .ok (.iconst 0, 1) := by decide +kernel
theorem dX1_init_11 : decode cX1_init 11 = .ok (.iconst (-1), 1) := by decide +kernel
theorem dX1_init_12 : decode cX1_init 12 = .ok (.iastore, 1) := by decide +kernel
theorem dX1_init_13 : decode cX1_init 13 = .ok (.dup, 1) := by decide +kernel
theorem dX1_init_14 : decode cX1_init 14 = .ok (.iconst 1, 1) := by decide +kernel
theorem dX1_init_15 : decode cX1_init 15 = .ok (.iconst 0, 1) := by decide +kernel
theorem dX1_init_16 : decode cX1_init 16 = .ok (.iastore, 1) := by decide +kernel
theorem dX1_init_17 : decode cX1_init 17 = .ok (.dup, 1) := by decide +kernel
theorem dX1_init_18 : decode cX1_init 18 = .ok (.iconst 2, 1) := by decide +kernel
theorem dX1_init_19 : decode cX1_init 19 = .ok (.iconst 0, 1) := by decide +kernel
theorem dX1_init_20 : decode cX1_init 20 = .ok (.iastore, 1) := by decide +kernel
theorem dX1_init_21 : decode cX1_init 21 = .ok (.dup, 1) := by decide +kernel
theorem dX1_init_22 : decode cX1_init 22 = .ok (.iconst 3, 1) := by decide +kernel
theorem dX1_init_23 : decode cX1_init 23 = .ok (.iconst 0, 1) := by decide +kernel
theorem dX1_init_24 : decode cX1_init 24 = .ok (.iastore, 1) := by decide +kernel
theorem dX1_init_25 : decode cX1_init 25 = .ok (.dup, 1) := by decide +kernel
theorem dX1_init_26 : decode cX1_init 26 = .ok (.iconst 4, 1) := by decide +kernel
theorem dX1_init_27 : decode cX1_init 27 = .ok (.iconst 0, 1) := by decide +kernel
theorem dX1_init_28 : decode cX1_init 28 = .ok (.iastore, 1) := by decide +kernel
theorem dX1_init_29 : decode cX1_init 29 = .ok (.dup, 1) := by decide +kernel
theorem dX1_init_30 : decode cX1_init 30 = .ok (.iconst 5, 1) := by decide +kernel
theorem dX1_init_31 : decode cX1_init 31 = .ok (.iconst 0, 1) := by decide +kernel
theorem dX1_init_32 : decode cX1_init 32 = .ok (.iastore, 1) := by decide +kernel
theorem dX1_init_33 : decode cX1_init 33 = .ok (.putfield 13, 3) := by decide +kernel
theorem dX1_init_36 : decode cX1_init 36 = .ok (.aload_n 0, 1) := by decide +kernel
theorem dX1_init_37 : decode cX1_init 37 = .ok (.sipush 200, 3) := by decide +kernel
theorem dX1_init_40 : decode cX1_init 40 = .ok (.newarray .boolean, 2) := by decide +kernel
theorem dX1_init_42 : decode cX1_init 42 = .ok (.putfield 19, 3) := by decide +kernel
theorem dX1_init_45 : decode cX1_init 45 = .ok (.aload_n 0, 1) := by decide +kernel
theorem dX1_init_46 : decode cX1_init 46 = .ok (.sipush 22000, 3) := by decide +kernel
theorem dX1_init_49 : decode cX1_init 49 = .ok (.newarray .long, 2) := by decide +kernel
theorem dX1_init_51 : decode cX1_init 51 = .ok (.putfield 23, 3) := by decide +kernel
theorem dX1_init_54 : decode cX1_init 54 = .ok (.aload_n 0, 1) := by decide +kernel
theorem dX1_init_55 : decode cX1_init 55 = .ok (.sipush 200, 3) := by decide +kernel
theorem dX1_init_58 : decode cX1_init 58 = .ok (.newarray .boolean, 2) := by decide +kernel
theorem dX1_init_60 : decode cX1_init 60 = .ok (.putfield 27, 3) := by decide +kernel
theorem dX1_init_63 : decode cX1_init 63 = .ok (.aload_n 0, 1) := by decide +kernel
theorem dX1_init_64 : decode cX1_init 64 = .ok (.sipush 200, 3) := by decide +kernel
theorem dX1_init_67 : decode cX1_init 67 = .ok (.newarray .boolean, 2) := by decide +kernel
theorem dX1_init_69 : decode cX1_init 69 = .ok (.putfield 30, 3) := by decide +kernel
theorem dX1_init_72 : decode cX1_init 72 = .ok (.aload_n 0, 1) := by decide +kernel
theorem dX1_init_73 : decode cX1_init 73 = .ok (.sipush 200, 3) := by decide +kernel
theorem dX1_init_76 : decode cX1_init 76 = .ok (.newarray .boolean, 2) := by decide +kernel
theorem dX1_init_78 : decode cX1_init 78 = .ok (.putfield 33, 3) := by decide +kernel
theorem dX1_init_81 : decode cX1_init 81 = .ok (.aload_n 0, 1) := by decide +kernel
theorem dX1_init_82 : decode cX1_init 82 = .ok (.sipush 200, 3) := by decide +kernel
theorem dX1_init_85 : decode cX1_init 85 = .ok (.newarray .int, 2) := by decide +kernel
theorem dX1_init_87 : decode cX1_init 87 = .ok (.putfield 36, 3) := by decide +kernel
theorem dX1_init_90 : decode cX1_init 90 = .ok (.aload_n 0, 1) := by decide +kernel
theorem dX1_init_91 : decode cX1_init 91 = .ok (.sipush 250, 3) := by decide +kernel
theorem dX1_init_94 : decode cX1_init 94 = .ok (.anewarray 3, 3) := by decide +kernel
theorem dX1_init_97 : decode cX1_init 97 = .ok (.putfield 39, 3) := by decide +kernel
theorem dX1_init_100 : decode cX1_init 100 = .ok (.aload_n 0, 1) := by decide +kernel
theorem dX1_init_101 : decode cX1_init 101 = .ok (.bipush 60, 2) := by decide +kernel
theorem dX1_init_103 : decode cX1_init 103 = .ok (.anewarray 3, 3) := by decide +kernel
theorem dX1_init_106 : decode cX1_init 106 = .ok (.putfield 43, 3) := by decide +kernel
theorem dX1_init_109 : decode cX1_init 109 = .ok (.aload_n 0, 1) := by decide +kernel
theorem dX1_init_110 : decode cX1_init 110 = .ok (.sipush 200, 3) := by decide +kernel
theorem dX1_init_113 : decode cX1_init 113 = .ok (.anewarray 3, 3) := by decide +kernel
theorem dX1_init_116 : decode cX1_init 116 = .ok (.putfield 46, 3) := by decide +kernel
theorem dX1_init_119 : decode cX1_init 119 = .ok (.aload_n 0, 1) := by decide +kernel
theorem dX1_init_120 : decode cX1_init 120 = .ok (.sipush 200, 3) := by decide +kernel
theorem dX1_init_123 : decode cX1_init 123 = .ok (.anewarray 3, 3) := by decide +kernel
theorem dX1_init_126 : decode cX1_init 126 = .ok (.putfield 49, 3) := by decide +kernel
theorem dX1_init_129 : decode cX1_init 129 = .ok (.aload_n 0, 1) := by decide +kernel
theorem dX1_init_130 : decode cX1_init 130 = .ok (.new 3, 3) := by decide +kernel
theorem dX1_init_133 : decode cX1_init 133 = .ok (.dup, 1) := by decide +kernel
theorem dX1_init_134 : decode cX1_init 134 = .ok (.invokespecial 52, 3) := by decide +kernel
theorem dX1_init_137 : decode cX1_init 137 = .ok (.putfield 53, 3) := by decide +kernel
theorem dX1_init_140 : decode cX1_init 140 = .ok (.aload_n 0, 1) := by decide +kernel
theorem dX1_init_141 : decode cX1_init 141 = .ok (.new 3, 3) := by decide +kernel
theorem dX1_init_144 : decode cX1_init 144 = .ok (.dup, 1) := by decide +kernel
theorem dX1_init_145 : decode cX1_init 145 = .ok (.invokespecial 52, 3) := by decide +kernel
theorem dX1_init_148 : decode cX1_init 148 = .ok (.putfield 57, 3) := by decide +kernel
theorem dX1_init_151 : decode cX1_init 151 = .ok (.aload_n 0, 1) := by decide +kernel
theorem dX1_init_152 : decode cX1_init 152 = .ok (.sipush 345, 3) := by decide +kernel
theorem dX1_init_155 : decode cX1_init 155 = .ok (.newarray .int, 2) := by decide +kernel
theorem dX1_init_157 : decode cX1_init 157 = .ok (.putfield 60, 3) := by decide +kernel
theorem dX1_init_160 : decode cX1_init 160 = .ok (.aload_n 0, 1) := by decide +kernel
theorem dX1_init_161 : decode cX1_init 161 = .ok (.new 63, 3) := by decide +kernel
theorem dX1_init_164 : decode cX1_init 164 = .ok (.dup, 1) := by decide +kernel
theorem dX1_init_165 : decode cX1_init 165 = .ok (.aload_n 1, 1) := by decide +kernel
theorem dX1_init_166 : decode cX1_init 166 = .ok (.invokespecial 65, 3) := by decide +kernel
theorem dX1_init_169 : decode cX1_init 169 = .ok (.putfield 68, 3) := by decide +kernel
theorem dX1_init_172 : decode cX1_init 172 = .ok (.return_, 1) := by decide +kernel
theorem dX1_seenValue_0 : decode cX1_seenValue 0 = .ok (.iload_n 1, 1) := by decide +kernel
theorem dX1_seenValue_1 : decode cX1_seenValue 1 = .ok (.ifCond .lt 39, 3) := by decide +kernel
theorem dX1_seenValue_4 : decode cX1_seenValue 4 = .ok (.iload_n 1, 1) := by decide +kernel
theorem dX1_seenValue_5 : decode cX1_seenValue 5 = .ok (.sipush 200, 3) := by decide +kernel
theorem dX1_seenValue_8 : decode cX1_seenValue 8 = .ok (.if_icmp .ge 32, 3) := by decide +kernel
theorem dX1_seenValue_11 : decode cX1_seenValue 11 = .ok (.iload_n 2, 1) := by decide +kernel
theorem dX1_seenValue_12 : decode cX1_seenValue 12 = .ok (.ifCond .lt 28, 3) := by decide +kernel
theorem dX1_seenValue_15 : decode cX1_seenValue 15 = .ok (.iload_n 2, 1) := by decide +kernel
theorem dX1_seenValue_16 : decode cX1_seenValue 16 = .ok (.bipush 10, 2) := by decide +kernel
theorem dX1_seenValue_18 : decode cX1_seenValue 18 = .ok (.if_icmp .ge 22, 3) := by decide +kernel
theorem dX1_seenValue_21 : decode cX1_seenValue 21 = .ok (.iload_n 3, 1) := by decide +kernel
theorem dX1_seenValue_22 : decode cX1_seenValue 22 = .ok (.ifCond .lt 18, 3) := by decide +kernel
theorem dX1_seenValue_25 : decode cX1_seenValue 25 = .ok (.iload_n 3, 1) := by decide +kernel
theorem dX1_seenValue_26 : decode cX1_seenValue 26 = .ok (.bipush 9, 2) := by decide +kernel
theorem dX1_seenValue_28 : decode cX1_seenValue 28 = .ok (.if_icmp .gt 12, 3) := by decide +kernel
theorem dX1_seenValue_31 : decode cX1_seenValue 31 = .ok (.aload_n 0, 1) := by decide +kernel
theorem dX1_seenValue_32 : decode cX1_seenValue 32 = .ok (.getfield 19, 3) := by decide +kernel
theorem dX1_seenValue_35 : decode cX1_seenValue 35 = .ok (.iload_n 1, 1) := by decide +kernel
theorem dX1_seenValue_36 : decode cX1_seenValue 36 = .ok (.baload, 1) := by decide +kernel
theorem dX1_seenValue_37 : decode cX1_seenValue 37 = .ok (.ifCond .ne 7, 3) := by decide +kernel
theorem dX1_seenValue_40 : decode cX1_seenValue 40 = .ok (.ldc2_w 88, 3) := by decide +kernel
theorem dX1_seenValue_43 : decode cX1_seenValue 43 = .ok (.lreturn, 1) := by decide +kernel
theorem dX2_init_0 : decode cX2_init 0 = .ok (.aload_n 0, 1) := by decide +kernel
theorem dX2_init_1 : decode cX2_init 1 = .ok (.invokespecial 5, 3) := by decide +kernel
theorem dX2_init_4 : decode cX2_init 4 = .ok (.aload_n 0, 1) := by decide +kernel
theorem dX2_init_5 : decode cX2_init 5 = .ok (.sipush 25364, 3) := by decide +kernel
theorem dX2_init_8 : decode cX2_init 8 = .ok (.newarray .byte, 2) := by decide +kernel
theorem dX2_init_10 : decode cX2_init 10 = .ok (.putfield 11, 3) := by decide +kernel
theorem dX2_init_13 : decode cX2_init 13 = .ok (.aload_n 0, 1) := by decide +kernel
theorem dX2_init_14 : decode cX2_init 14 = .ok (.sipush 4096, 3) := by decide +kernel
theorem dX2_init_17 : decode cX2_init 17 = .ok (.newarray .byte, 2) := by decide +kernel
theorem dX2_init_19 : decode cX2_init 19 = .ok (.putfield 15, 3) := by decide +kernel
theorem dX2_init_22 : decode cX2_init 22 = .ok (.aload_n 0, 1) := by decide +kernel
theorem dX2_init_23 : decode cX2_init 23 = .ok (.bipush 8, 2) := by decide +kernel
theorem dX2_init_25 : decode cX2_init 25 = .ok (.newarray .boolean, 2) := by decide +kernel
theorem dX2_init_27 : decode cX2_init 27 = .ok (.putfield 18, 3) := by decide +kernel
theorem dX2_init_30 : decode cX2_init 30 = .ok (.aload_n 0, 1) := by decide +kernel
theorem dX2_init_31 : decode cX2_init 31 = .ok (.bipush 8, 2) := by decide +kernel
theorem dX2_init_33 : decode cX2_init 33 = .ok (.newarray .int, 2) := by decide +kernel
theorem dX2_init_35 : decode cX2_init 35 = .ok (.putfield 22, 3) := by decide +kernel
theorem dX2_init_38 : decode cX2_init 38 = .ok (.aload_n 0, 1) := by decide +kernel
theorem dX2_init_39 : decode cX2_init 39 = .ok (.bipush 8, 2) := by decide +kernel
theorem dX2_init_41 : decode cX2_init 41 = .ok (.newarray .int, 2) := by decide +kernel
theorem dX2_init_43 : decode cX2_init 43 = .ok (.putfield 26, 3) := by decide +kernel
theorem dX2_init_46 : decode cX2_init 46 = .ok (.aload_n 0, 1) := by decide +kernel
theorem dX2_init_47 : decode cX2_init 47 = .ok (.bipush 8, 2) := by decide +kernel
theorem dX2_init_49 : decode cX2_init 49 = .ok (.newarray .int, 2) := by decide +kernel
theorem dX2_init_51 : decode cX2_init 51 = .ok (.putfield 29, 3) := by decide +kernel
theorem dX2_init_54 : decode cX2_init 54 = .ok (.aload_n 0, 1) := by decide +kernel
theorem dX2_init_55 : decode cX2_init 55 = .ok (.bipush 8, 2) := by decide +kernel
theorem dX2_init_57 : decode cX2_init 57 = .ok (.newarray .int, 2) := by decide +kernel
theorem dX2_init_59 : decode cX2_init 59 = .ok (.putfield 32, 3) := by decide +kernel
theorem dX2_init_62 : decode cX2_init 62 = .ok (.aload_n 0, 1) := by decide +kernel
theorem dX2_init_63 : decode cX2_init 63 = .ok (.bipush 8, 2) := by decide +kernel
theorem dX2_init_65 : decode cX2_init 65 = .ok (.newarray .int, 2) := by decide +kernel
theorem dX2_init_67 : decode cX2_init 67 = .ok (.putfield 35, 3) := by decide +kernel
theorem dX2_init_70 : decode cX2_init 70 = .ok (.aload_n 0, 1) := by decide +kernel
theorem dX2_init_71 : decode cX2_init 71 = .ok (.sipush 128, 3) := by decide +kernel
theorem dX2_init_74 : decode cX2_init 74 = .ok (.newarray .int, 2) := by decide +kernel
theorem dX2_init_76 : decode cX2_init 76 = .ok (.putfield 38, 3) := by decide +kernel
theorem dX2_init_79 : decode cX2_init 79 = .ok (.aload_n 0, 1) := by decide +kernel
theorem dX2_init_80 : decode cX2_init 80 = .ok (.sipush 128, 3) := by decide +kernel
theorem dX2_init_83 : decode cX2_init 83 = .ok (.newarray .int, 2) := by decide +kernel
theorem dX2_init_85 : decode cX2_init 85 = .ok (.putfield 41, 3) := by decide +kernel
theorem dX2_init_88 : decode cX2_init 88 = .ok (.aload_n 0, 1) := by decide +kernel
theorem dX2_init_89 : decode cX2_init 89 = .ok (.sipush 256, 3) := by decide +kernel
theorem dX2_init_92 : decode cX2_init 92 = .ok (.newarray .byte, 2) := by decide +kernel
theorem dX2_init_94 : decode cX2_init 94 = .ok (.putfield 44, 3) := by decide +kernel
theorem dX2_init_97 : decode cX2_init 97 = .ok (.aload_n 0, 1) := by decide +kernel
theorem dX2_init_98 : decode cX2_init 98 = .ok (.bipush 8, 2) := by decide +kernel
theorem dX2_init_100 : decode cX2_init 100 = .ok (.newarray .int, 2) := by decide +kernel
theorem dX2_init_102 : decode cX2_init 102 = .ok (.putfield 47, 3) := by decide +kernel
theorem dX2_init_105 : decode cX2_init 105 = .ok (.aload_n 0, 1) := by decide +kernel
theorem dX2_init_106 : decode cX2_init 106 = .ok (.iconst 0, 1) := by decide +kernel
theorem dX2_init_107 : decode cX2_init 107 = .ok (.putfield 50, 3) := by decide +kernel
theorem dX2_init_110 : decode cX2_init 110 = .ok (.return_, 1) := by decide +kernel
theorem dX2_isKeyed_0 : decode cX2_isKeyed 0 = .ok (.aload_n 0, 1) := by decide +kernel
theorem dX2_isKeyed_1 : decode cX2_isKeyed 1 = .ok (.iload_n 1, 1) := by decide +kernel
theorem dX2_isKeyed_2 : decode cX2_isKeyed 2 = .ok (.invokevirtual 54, 3) := by decide +kernel
theorem dX2_isKeyed_5 : decode cX2_isKeyed 5 = .ok (.ifCond .eq 26, 3) := by decide +kernel
theorem dX2_isKeyed_31 : decode cX2_isKeyed 31 = .ok (.iconst 0, 1) := by decide +kernel
theorem dX2_isKeyed_32 : decode cX2_isKeyed 32 = .ok (.ireturn, 1) := by decide +kernel
theorem dX2_isKind_0 : decode cX2_isKind 0 = .ok (.aload_n 0, 1) := by decide +kernel
theorem dX2_isKind_1 : decode cX2_isKind 1 = .ok (.iload_n 1, 1) := by decide +kernel
theorem dX2_isKind_2 : decode cX2_isKind 2 = .ok (.invokevirtual 54, 3) := by decide +kernel
theorem dX2_isKind_5 : decode cX2_isKind 5 = .ok (.ifCond .eq 17, 3) := by decide +kernel
theorem dX2_isKind_22 : decode cX2_isKind 22 = .ok (.iconst 0, 1) := by decide +kernel
theorem dX2_isKind_23 : decode cX2_isKind 23 = .ok (.ireturn, 1) := by decide +kernel
theorem dX2_isShape_0 : decode cX2_isShape 0 = .ok (.iload_n 2, 1) := by decide +kernel
theorem dX2_isShape_1 : decode cX2_isShape 1 = .ok (.iconst 1, 1) := by decide +kernel
theorem dX2_isShape_2 : decode cX2_isShape 2 = .ok (.if_icmp .lt 13, 3) := by decide +kernel
theorem dX2_isShape_5 : decode cX2_isShape 5 = .ok (.iload_n 2, 1) := by decide +kernel
theorem dX2_isShape_6 : decode cX2_isShape 6 = .ok (.bipush 64, 2) := by decide +kernel
theorem dX2_isShape_8 : decode cX2_isShape 8 = .ok (.if_icmp .gt 7, 3) := by decide +kernel
theorem dX2_isShape_11 : decode cX2_isShape 11 = .ok (.iconst 1, 1) := by decide +kernel
theorem dX2_isShape_12 : decode cX2_isShape 12 = .ok (.goto 4, 3) := by decide +kernel
theorem dX2_isShape_15 : decode cX2_isShape 15 = .ok (.iconst 0, 1) := by decide +kernel
theorem dX2_isShape_16 : decode cX2_isShape 16 = .ok (.istore_n 3, 1) := by decide +kernel
theorem dX2_isShape_17 : decode cX2_isShape 17 = .ok (.iload_n 0, 1) := by decide +kernel
theorem dX2_isShape_18 : decode cX2_isShape 18 = .ok (.tableswitch 80 0 3 #[30, 45, 66, 66], 30) := by decide +kernel
theorem dX2_isShape_48 : decode cX2_isShape 48 = .ok (.iload_n 1, 1) := by decide +kernel
theorem dX2_isShape_49 : decode cX2_isShape 49 = .ok (.iconst 4, 1) := by decide +kernel
theorem dX2_isShape_50 : decode cX2_isShape 50 = .ok (.if_icmp .ne 11, 3) := by decide +kernel
theorem dX2_isShape_53 : decode cX2_isShape 53 = .ok (.iload_n 3, 1) := by decide +kernel
theorem dX2_isShape_54 : decode cX2_isShape 54 = .ok (.ifCond .eq 7, 3) := by decide +kernel
theorem dX2_isShape_57 : decode cX2_isShape 57 = .ok (.iconst 1, 1) := by decide +kernel
theorem dX2_isShape_58 : decode cX2_isShape 58 = .ok (.goto 4, 3) := by decide +kernel
theorem dX2_isShape_61 : decode cX2_isShape 61 = .ok (.iconst 0, 1) := by decide +kernel
theorem dX2_isShape_62 : decode cX2_isShape 62 = .ok (.ireturn, 1) := by decide +kernel
theorem dX2_isShape_63 : decode cX2_isShape 63 = .ok (.iload_n 1, 1) := by decide +kernel
theorem dX2_isShape_64 : decode cX2_isShape 64 = .ok (.iconst 1, 1) := by decide +kernel
theorem dX2_isShape_65 : decode cX2_isShape 65 = .ok (.if_icmp .lt 17, 3) := by decide +kernel
theorem dX2_isShape_68 : decode cX2_isShape 68 = .ok (.iload_n 1, 1) := by decide +kernel
theorem dX2_isShape_69 : decode cX2_isShape 69 = .ok (.bipush 16, 2) := by decide +kernel
theorem dX2_isShape_71 : decode cX2_isShape 71 = .ok (.if_icmp .gt 11, 3) := by decide +kernel
theorem dX2_isShape_74 : decode cX2_isShape 74 = .ok (.iload_n 3, 1) := by decide +kernel
theorem dX2_isShape_75 : decode cX2_isShape 75 = .ok (.ifCond .eq 7, 3) := by decide +kernel
theorem dX2_isShape_78 : decode cX2_isShape 78 = .ok (.iconst 1, 1) := by decide +kernel
theorem dX2_isShape_79 : decode cX2_isShape 79 = .ok (.goto 4, 3) := by decide +kernel
theorem dX2_isShape_82 : decode cX2_isShape 82 = .ok (.iconst 0, 1) := by decide +kernel
theorem dX2_isShape_83 : decode cX2_isShape 83 = .ok (.ireturn, 1) := by decide +kernel
theorem dX2_isShape_84 : decode cX2_isShape 84 = .ok (.iload_n 1, 1) := by decide +kernel
theorem dX2_isShape_85 : decode cX2_isShape 85 = .ok (.ifCond .ne 11, 3) := by decide +kernel
theorem dX2_isShape_88 : decode cX2_isShape 88 = .ok (.iload_n 2, 1) := by decide +kernel
theorem dX2_isShape_89 : decode cX2_isShape 89 = .ok (.ifCond .ne 7, 3) := by decide +kernel
theorem dX2_isShape_92 : decode cX2_isShape 92 = .ok (.iconst 1, 1) := by decide +kernel
theorem dX2_isShape_93 : decode cX2_isShape 93 = .ok (.goto 4, 3) := by decide +kernel
theorem dX2_isShape_96 : decode cX2_isShape 96 = .ok (.iconst 0, 1) := by decide +kernel
theorem dX2_isShape_97 : decode cX2_isShape 97 = .ok (.ireturn, 1) := by decide +kernel
theorem dX2_isShape_98 : decode cX2_isShape 98 = .ok (.iconst 0, 1) := by decide +kernel
theorem dX2_isShape_99 : decode cX2_isShape 99 = .ok (.ireturn, 1) := by decide +kernel
theorem dX2_isTold_0 : decode cX2_isTold 0 = .ok (.iload_n 1, 1) := by decide +kernel
theorem dX2_isTold_1 : decode cX2_isTold 1 = .ok (.ifCond .lt 22, 3) := by decide +kernel
theorem dX2_isTold_4 : decode cX2_isTold 4 = .ok (.iload_n 1, 1) := by decide +kernel
theorem dX2_isTold_5 : decode cX2_isTold 5 = .ok (.bipush 8, 2) := by decide +kernel
theorem dX2_isTold_7 : decode cX2_isTold 7 = .ok (.if_icmp .ge 16, 3) := by decide +kernel
theorem dX2_isTold_10 : decode cX2_isTold 10 = .ok (.aload_n 0, 1) := by decide +kernel
theorem dX2_isTold_11 : decode cX2_isTold 11 = .ok (.getfield 18, 3) := by decide +kernel
theorem dX2_isTold_14 : decode cX2_isTold 14 = .ok (.iload_n 1, 1) := by decide +kernel
theorem dX2_isTold_15 : decode cX2_isTold 15 = .ok (.baload, 1) := by decide +kernel
theorem dX2_isTold_16 : decode cX2_isTold 16 = .ok (.ifCond .eq 7, 3) := by decide +kernel
theorem dX2_isTold_23 : decode cX2_isTold 23 = .ok (.iconst 0, 1) := by decide +kernel
theorem dX2_isTold_24 : decode cX2_isTold 24 = .ok (.ireturn, 1) := by decide +kernel
theorem dX2_tell_0 : decode cX2_tell 0 = .ok (.iload_n 1, 1) := by decide +kernel
theorem dX2_tell_1 : decode cX2_tell 1 = .ok (.ifCond .lt 31, 3) := by decide +kernel
theorem dX2_tell_4 : decode cX2_tell 4 = .ok (.iload_n 1, 1) := by decide +kernel
theorem dX2_tell_5 : decode cX2_tell 5 = .ok (.bipush 8, 2) := by decide +kernel
theorem dX2_tell_7 : decode cX2_tell 7 = .ok (.if_icmp .ge 25, 3) := by decide +kernel
theorem dX2_tell_10 : decode cX2_tell 10 = .ok (.aload_n 0, 1) := by decide +kernel
theorem dX2_tell_11 : decode cX2_tell 11 = .ok (.getfield 18, 3) := by decide +kernel
theorem dX2_tell_14 : decode cX2_tell 14 = .ok (.iload_n 1, 1) := by decide +kernel
theorem dX2_tell_15 : decode cX2_tell 15 = .ok (.baload, 1) := by decide +kernel
theorem dX2_tell_16 : decode cX2_tell 16 = .ok (.ifCond .ne 16, 3) := by decide +kernel
theorem dX2_tell_19 : decode cX2_tell 19 = .ok (.iload 5, 2) := by decide +kernel
theorem dX2_tell_21 : decode cX2_tell 21 = .ok (.iconst 1, 1) := by decide +kernel
theorem dX2_tell_22 : decode cX2_tell 22 = .ok (.if_icmp .lt 10, 3) := by decide +kernel
theorem dX2_tell_25 : decode cX2_tell 25 = .ok (.iload 5, 2) := by decide +kernel
theorem dX2_tell_27 : decode cX2_tell 27 = .ok (.bipush 16, 2) := by decide +kernel
theorem dX2_tell_29 : decode cX2_tell 29 = .ok (.if_icmp .le 5, 3) := by decide +kernel
theorem dX2_tell_32 : decode cX2_tell 32 = .ok (.iconst 0, 1) := by decide +kernel
theorem dX2_tell_33 : decode cX2_tell 33 = .ok (.ireturn, 1) := by decide +kernel
theorem dX2_tell_34 : decode cX2_tell 34 = .ok (.iload_n 2, 1) := by decide +kernel
theorem dX2_tell_35 : decode cX2_tell 35 = .ok (.iload_n 3, 1) := by decide +kernel
theorem dX2_tell_36 : decode cX2_tell 36 = .ok (.iload 4, 2) := by decide +kernel
theorem dX2_tell_38 : decode cX2_tell 38 = .ok (.invokestatic 58, 3) := by decide +kernel
theorem dX2_tell_41 : decode cX2_tell 41 = .ok (.ifCond .ne 5, 3) := by decide +kernel
theorem dX2_tell_44 : decode cX2_tell 44 = .ok (.iconst 0, 1) := by decide +kernel
theorem dX2_tell_45 : decode cX2_tell 45 = .ok (.ireturn, 1) := by decide +kernel
theorem dX2_tell_46 : decode cX2_tell 46 = .ok (.aload_n 0, 1) := by decide +kernel
theorem dX2_tell_47 : decode cX2_tell 47 = .ok (.getfield 18, 3) := by decide +kernel
theorem dX2_tell_50 : decode cX2_tell 50 = .ok (.iload_n 1, 1) := by decide +kernel
theorem dX2_tell_51 : decode cX2_tell 51 = .ok (.iconst 1, 1) := by decide +kernel
theorem dX2_tell_52 : decode cX2_tell 52 = .ok (.bastore, 1) := by decide +kernel
theorem dX2_tell_53 : decode cX2_tell 53 = .ok (.aload_n 0, 1) := by decide +kernel
theorem dX2_tell_54 : decode cX2_tell 54 = .ok (.getfield 22, 3) := by decide +kernel
theorem dX2_tell_57 : decode cX2_tell 57 = .ok (.iload_n 1, 1) := by decide +kernel
theorem dX2_tell_58 : decode cX2_tell 58 = .ok (.iload_n 2, 1) := by decide +kernel
theorem dX2_tell_59 : decode cX2_tell 59 = .ok (.iastore, 1) := by decide +kernel
theorem dX2_tell_60 : decode cX2_tell 60 = .ok (.aload_n 0, 1) := by decide +kernel
theorem dX2_tell_61 : decode cX2_tell 61 = .ok (.getfield 26, 3) := by decide +kernel
theorem dX2_tell_64 : decode cX2_tell 64 = .ok (.iload_n 1, 1) := by decide +kernel
theorem dX2_tell_65 : decode cX2_tell 65 = .ok (.iload_n 3, 1) := by decide +kernel
theorem dX2_tell_66 : decode cX2_tell 66 = .ok (.iastore, 1) := by decide +kernel
theorem dX2_tell_67 : decode cX2_tell 67 = .ok (.aload_n 0, 1) := by decide +kernel
theorem dX2_tell_68 : decode cX2_tell 68 = .ok (.getfield 29, 3) := by decide +kernel
theorem dX2_tell_71 : decode cX2_tell 71 = .ok (.iload_n 1, 1) := by decide +kernel
theorem dX2_tell_72 : decode cX2_tell 72 = .ok (.iload 4, 2) := by decide +kernel
theorem dX2_tell_74 : decode cX2_tell 74 = .ok (.iastore, 1) := by decide +kernel
theorem dX2_tell_75 : decode cX2_tell 75 = .ok (.aload_n 0, 1) := by decide +kernel
theorem dX2_tell_76 : decode cX2_tell 76 = .ok (.getfield 32, 3) := by decide +kernel
theorem dX2_tell_79 : decode cX2_tell 79 = .ok (.iload_n 1, 1) := by decide +kernel
theorem dX2_tell_80 : decode cX2_tell 80 = .ok (.iload 5, 2) := by decide +kernel
theorem dX2_tell_82 : decode cX2_tell 82 = .ok (.iastore, 1) := by decide +kernel
theorem dX2_tell_83 : decode cX2_tell 83 = .ok (.aload_n 0, 1) := by decide +kernel
theorem dX2_tell_84 : decode cX2_tell 84 = .ok (.getfield 35, 3) := by decide +kernel
theorem dX2_tell_87 : decode cX2_tell 87 = .ok (.iload_n 1, 1) := by decide +kernel
theorem dX2_tell_88 : decode cX2_tell 88 = .ok (.iload_n 2, 1) := by decide +kernel
theorem dX2_tell_89 : decode cX2_tell 89 = .ok (.ifCond .ne 8, 3) := by decide +kernel
theorem dX2_tell_92 : decode cX2_tell 92 = .ok (.iload 5, 2) := by decide +kernel
theorem dX2_tell_94 : decode cX2_tell 94 = .ok (.goto 4, 3) := by decide +kernel
theorem dX2_tell_97 : decode cX2_tell 97 = .ok (.iconst 0, 1) := by decide +kernel
theorem dX2_tell_98 : decode cX2_tell 98 = .ok (.iastore, 1) := by decide +kernel
theorem dX2_tell_99 : decode cX2_tell 99 = .ok (.iconst 0, 1) := by decide +kernel
theorem dX2_tell_100 : decode cX2_tell 100 = .ok (.istore 6, 2) := by decide +kernel
theorem dX2_tell_102 : decode cX2_tell 102 = .ok (.iload 6, 2) := by decide +kernel
theorem dX2_tell_104 : decode cX2_tell 104 = .ok (.bipush 16, 2) := by decide +kernel
theorem dX2_tell_106 : decode cX2_tell 106 = .ok (.if_icmp .ge 22, 3) := by decide +kernel
theorem dX2_tell_109 : decode cX2_tell 109 = .ok (.aload_n 0, 1) := by decide +kernel
theorem dX2_tell_110 : decode cX2_tell 110 = .ok (.getfield 38, 3) := by decide +kernel
theorem dX2_tell_113 : decode cX2_tell 113 = .ok (.iload_n 1, 1) := by decide +kernel
theorem dX2_tell_114 : decode cX2_tell 114 = .ok (.bipush 16, 2) := by decide +kernel
theorem dX2_tell_116 : decode cX2_tell 116 = .ok (.imul, 1) := by decide +kernel
theorem dX2_tell_117 : decode cX2_tell 117 = .ok (.iload 6, 2) := by decide +kernel
theorem dX2_tell_119 : decode cX2_tell 119 = .ok (.iadd, 1) := by decide +kernel
theorem dX2_tell_120 : decode cX2_tell 120 = .ok (.iconst (-1), 1) := by decide +kernel
theorem dX2_tell_121 : decode cX2_tell 121 = .ok (.iastore, 1) := by decide +kernel
theorem dX2_tell_122 : decode cX2_tell 122 = .ok (.iinc 6 1, 3) := by decide +kernel
theorem dX2_tell_125 : decode cX2_tell 125 = .ok (.goto (-23), 3) := by decide +kernel
theorem dX2_tell_128 : decode cX2_tell 128 = .ok (.iconst 1, 1) := by decide +kernel
theorem dX2_tell_129 : decode cX2_tell 129 = .ok (.ireturn, 1) := by decide +kernel
theorem dX3_init_0 : decode cX3_init 0 = .ok (.aload_n 0, 1) := by decide +kernel
theorem dX3_init_1 : decode cX3_init 1 = .ok (.invokespecial 3, 3) := by decide +kernel
theorem dX3_init_4 : decode cX3_init 4 = .ok (.return_, 1) := by decide +kernel
theorem dX4_init_0 : decode cX4_init 0 = .ok (.aload_n 0, 1) := by decide +kernel
theorem dX4_init_1 : decode cX4_init 1 = .ok (.invokespecial 1, 3) := by decide +kernel
theorem dX4_init_4 : decode cX4_init 4 = .ok (.aload_n 0, 1) := by decide +kernel
theorem dX4_init_5 : decode cX4_init 5 = .ok (.sipush 8192, 3) := by decide +kernel
theorem dX4_init_8 : decode cX4_init 8 = .ok (.newarray .byte, 2) := by decide +kernel
theorem dX4_init_10 : decode cX4_init 10 = .ok (.putfield 9, 3) := by decide +kernel
theorem dX4_init_13 : decode cX4_init 13 = .ok (.aload_n 0, 1) := by decide +kernel
theorem dX4_init_14 : decode cX4_init 14 = .ok (.iconst 0, 1) := by decide +kernel
theorem dX4_init_15 : decode cX4_init 15 = .ok (.putfield 13, 3) := by decide +kernel
theorem dX4_init_18 : decode cX4_init 18 = .ok (.aload_n 0, 1) := by decide +kernel
theorem dX4_init_19 : decode cX4_init 19 = .ok (.bipush 20, 2) := by decide +kernel
theorem dX4_init_21 : decode cX4_init 21 = .ok (.newarray .byte, 2) := by decide +kernel
theorem dX4_init_23 : decode cX4_init 23 = .ok (.putfield 17, 3) := by decide +kernel
theorem dX4_init_26 : decode cX4_init 26 = .ok (.return_, 1) := by decide +kernel
theorem dX5_init_0 : decode cX5_init 0 = .ok (.aload_n 0, 1) := by decide +kernel
theorem dX5_init_1 : decode cX5_init 1 = .ok (.invokespecial 1, 3) := by decide +kernel
theorem dX5_init_4 : decode cX5_init 4 = .ok (.aload_n 0, 1) := by decide +kernel
theorem dX5_init_5 : decode cX5_init 5 = .ok (.bipush 8, 2) := by decide +kernel
theorem dX5_init_7 : decode cX5_init 7 = .ok (.anewarray 9, 3) := by decide +kernel
theorem dX5_init_10 : decode cX5_init 10 = .ok (.putfield 11, 3) := by decide +kernel
theorem dX5_init_13 : decode cX5_init 13 = .ok (.aload_n 0, 1) := by decide +kernel
theorem dX5_init_14 : decode cX5_init 14 = .ok (.bipush 8, 2) := by decide +kernel
theorem dX5_init_16 : decode cX5_init 16 = .ok (.newarray .int, 2) := by decide +kernel
theorem dX5_init_18 : decode cX5_init 18 = .ok (.putfield 17, 3) := by decide +kernel
theorem dX5_init_21 : decode cX5_init 21 = .ok (.aload_n 0, 1) := by decide +kernel
theorem dX5_init_22 : decode cX5_init 22 = .ok (.sipush 200, 3) := by decide +kernel
theorem dX5_init_25 : decode cX5_init 25 = .ok (.newarray .int, 2) := by decide +kernel
theorem dX5_init_27 : decode cX5_init 27 = .ok (.putfield 20, 3) := by decide +kernel
theorem dX5_init_30 : decode cX5_init 30 = .ok (.return_, 1) := by decide +kernel
theorem dX6_addToken_0 : decode cX6_addToken 0 = .ok (.aload_n 0, 1) := by decide +kernel
theorem dX6_addToken_1 : decode cX6_addToken 1 = .ok (.getfield 17, 3) := by decide +kernel
theorem dX6_addToken_4 : decode cX6_addToken 4 = .ok (.aload_n 0, 1) := by decide +kernel
theorem dX6_addToken_5 : decode cX6_addToken 5 = .ok (.getfield 60, 3) := by decide +kernel
theorem dX6_addToken_8 : decode cX6_addToken 8 = .ok (.iload_n 1, 1) := by decide +kernel
theorem dX6_addToken_9 : decode cX6_addToken 9 = .ok (.iastore, 1) := by decide +kernel
theorem dX6_addToken_10 : decode cX6_addToken 10 = .ok (.aload_n 0, 1) := by decide +kernel
theorem dX6_addToken_11 : decode cX6_addToken 11 = .ok (.getfield 21, 3) := by decide +kernel
theorem dX6_addToken_14 : decode cX6_addToken 14 = .ok (.aload_n 0, 1) := by decide +kernel
theorem dX6_addToken_15 : decode cX6_addToken 15 = .ok (.getfield 60, 3) := by decide +kernel
theorem dX6_addToken_18 : decode cX6_addToken 18 = .ok (.iload_n 2, 1) := by decide +kernel
theorem dX6_addToken_19 : decode cX6_addToken 19 = .ok (.iastore, 1) := by decide +kernel
theorem dX6_addToken_20 : decode cX6_addToken 20 = .ok (.aload_n 0, 1) := by decide +kernel
theorem dX6_addToken_21 : decode cX6_addToken 21 = .ok (.getfield 24, 3) := by decide +kernel
theorem dX6_addToken_24 : decode cX6_addToken 24 = .ok (.aload_n 0, 1) := by decide +kernel
theorem dX6_addToken_25 : decode cX6_addToken 25 = .ok (.getfield 60, 3) := by decide +kernel
theorem dX6_addToken_28 : decode cX6_addToken 28 = .ok (.iload_n 3, 1) := by decide +kernel
theorem dX6_addToken_29 : decode cX6_addToken 29 = .ok (.iastore, 1) := by decide +kernel
theorem dX6_addToken_30 : decode cX6_addToken 30 = .ok (.aload_n 0, 1) := by decide +kernel
theorem dX6_addToken_31 : decode cX6_addToken 31 = .ok (.getfield 27, 3) := by decide +kernel
theorem dX6_addToken_34 : decode cX6_addToken 34 = .ok (.aload_n 0, 1) := by decide +kernel
theorem dX6_addToken_35 : decode cX6_addToken 35 = .ok (.getfield 60, 3) := by decide +kernel
theorem dX6_addToken_38 : decode cX6_addToken 38 = .ok (.lload 4, 2) := by decide +kernel
theorem dX6_addToken_40 : decode cX6_addToken 40 = .ok (.lastore, 1) := by decide +kernel
theorem dX6_addToken_41 : decode cX6_addToken 41 = .ok (.aload_n 0, 1) := by decide +kernel
theorem dX6_addToken_42 : decode cX6_addToken 42 = .ok (.dup, 1) := by decide +kernel
theorem dX6_addToken_43 : decode cX6_addToken 43 = .ok (.getfield 60, 3) := by decide +kernel
theorem dX6_addToken_46 : decode cX6_addToken 46 = .ok (.iconst 1, 1) := by decide +kernel
theorem dX6_addToken_47 : decode cX6_addToken 47 = .ok (.iadd, 1) := by decide +kernel
theorem dX6_addToken_48 : decode cX6_addToken 48 = .ok (.putfield 60, 3) := by decide +kernel
theorem dX6_addToken_51 : decode cX6_addToken 51 = .ok (.return_, 1) := by decide +kernel
theorem dX6_findTokens_0 : decode cX6_findTokens 0 = .ok (.aload_n 0, 1) := by decide +kernel
theorem dX6_findTokens_1 : decode cX6_findTokens 1 = .ok (.iconst 0, 1) := by decide +kernel
theorem dX6_findTokens_2 : decode cX6_findTokens 2 = .ok (.putfield 60, 3) := by decide +kernel
theorem dX6_findTokens_5 : decode cX6_findTokens 5 = .ok (.iconst 0, 1) := by decide +kernel
theorem dX6_findTokens_6 : decode cX6_findTokens 6 = .ok (.istore_n 2, 1) := by decide +kernel
theorem dX6_findTokens_7 : decode cX6_findTokens 7 = .ok (.iconst 0, 1) := by decide +kernel
theorem dX6_findTokens_8 : decode cX6_findTokens 8 = .ok (.istore_n 3, 1) := by decide +kernel
theorem dX6_findTokens_9 : decode cX6_findTokens 9 = .ok (.iload_n 3, 1) := by decide +kernel
theorem dX6_findTokens_10 : decode cX6_findTokens 10 = .ok (.sipush 4000, 3) := by decide +kernel
theorem dX6_findTokens_13 : decode cX6_findTokens 13 = .ok (.if_icmp .gt 72, 3) := by decide +kernel
theorem dX6_findTokens_16 : decode cX6_findTokens 16 = .ok (.iload_n 2, 1) := by decide +kernel
theorem dX6_findTokens_17 : decode cX6_findTokens 17 = .ok (.iload_n 1, 1) := by decide +kernel
theorem dX6_findTokens_18 : decode cX6_findTokens 18 = .ok (.if_icmp .ge 67, 3) := by decide +kernel
theorem dX6_findTokens_85 : decode cX6_findTokens 85 = .ok (.aload_n 0, 1) := by decide +kernel
theorem dX6_findTokens_86 : decode cX6_findTokens 86 = .ok (.bipush 6, 2) := by decide +kernel
theorem dX6_findTokens_88 : decode cX6_findTokens 88 = .ok (.iload_n 1, 1) := by decide +kernel
theorem dX6_findTokens_89 : decode cX6_findTokens 89 = .ok (.iload_n 1, 1) := by decide +kernel
theorem dX6_findTokens_90 : decode cX6_findTokens 90 = .ok (.lconst 0, 1) := by decide +kernel
theorem dX6_findTokens_91 : decode cX6_findTokens 91 = .ok (.invokevirtual 78, 3) := by decide +kernel
theorem dX6_findTokens_94 : decode cX6_findTokens 94 = .ok (.return_, 1) := by decide +kernel
theorem dX6_init_0 : decode cX6_init 0 = .ok (.aload_n 0, 1) := by decide +kernel
theorem dX6_init_1 : decode cX6_init 1 = .ok (.invokespecial 3, 3) := by decide +kernel
theorem dX6_init_4 : decode cX6_init 4 = .ok (.aload_n 0, 1) := by decide +kernel
theorem dX6_init_5 : decode cX6_init 5 = .ok (.sipush 200, 3) := by decide +kernel
theorem dX6_init_8 : decode cX6_init 8 = .ok (.newarray .long, 2) := by decide +kernel
theorem dX6_init_10 : decode cX6_init 10 = .ok (.putfield 11, 3) := by decide +kernel
theorem dX6_init_13 : decode cX6_init 13 = .ok (.aload_n 0, 1) := by decide +kernel
theorem dX6_init_14 : decode cX6_init 14 = .ok (.sipush 4001, 3) := by decide +kernel
theorem dX6_init_17 : decode cX6_init 17 = .ok (.newarray .int, 2) := by decide +kernel
theorem dX6_init_19 : decode cX6_init 19 = .ok (.putfield 17, 3) := by decide +kernel
theorem dX6_init_22 : decode cX6_init 22 = .ok (.aload_n 0, 1) := by decide +kernel
theorem dX6_init_23 : decode cX6_init 23 = .ok (.sipush 4001, 3) := by decide +kernel
theorem dX6_init_26 : decode cX6_init 26 = .ok (.newarray .int, 2) := by decide +kernel
theorem dX6_init_28 : decode cX6_init 28 = .ok (.putfield 21, 3) := by decide +kernel
theorem dX6_init_31 : decode cX6_init 31 = .ok (.aload_n 0, 1) := by decide +kernel
theorem dX6_init_32 : decode cX6_init 32 = .ok (.sipush 4001, 3) := by decide +kernel
theorem dX6_init_35 : decode cX6_init 35 = .ok (.newarray .int, 2) := by decide +kernel
theorem dX6_init_37 : decode cX6_init 37 = .ok (.putfield 24, 3) := by decide +kernel
theorem dX6_init_40 : decode cX6_init 40 = .ok (.aload_n 0, 1) := by decide +kernel
theorem dX6_init_41 : decode cX6_init 41 = .ok (.sipush 4001, 3) := by decide +kernel
theorem dX6_init_44 : decode cX6_init 44 = .ok (.newarray .long, 2) := by decide +kernel
theorem dX6_init_46 : decode cX6_init 46 = .ok (.putfield 27, 3) := by decide +kernel
theorem dX6_init_49 : decode cX6_init 49 = .ok (.aload_n 0, 1) := by decide +kernel
theorem dX6_init_50 : decode cX6_init 50 = .ok (.sipush 4000, 3) := by decide +kernel
theorem dX6_init_53 : decode cX6_init 53 = .ok (.newarray .int, 2) := by decide +kernel
theorem dX6_init_55 : decode cX6_init 55 = .ok (.putfield 30, 3) := by decide +kernel
theorem dX6_init_58 : decode cX6_init 58 = .ok (.aload_n 0, 1) := by decide +kernel
theorem dX6_init_59 : decode cX6_init 59 = .ok (.sipush 400, 3) := by decide +kernel
theorem dX6_init_62 : decode cX6_init 62 = .ok (.newarray .int, 2) := by decide +kernel
theorem dX6_init_64 : decode cX6_init 64 = .ok (.putfield 33, 3) := by decide +kernel
theorem dX6_init_67 : decode cX6_init 67 = .ok (.return_, 1) := by decide +kernel
theorem dX6_read_0 : decode cX6_read 0 = .ok (.aload_n 0, 1) := by decide +kernel
theorem dX6_read_1 : decode cX6_read 1 = .ok (.aload_n 1, 1) := by decide +kernel
theorem dX6_read_2 : decode cX6_read 2 = .ok (.putfield 36, 3) := by decide +kernel
theorem dX6_read_5 : decode cX6_read 5 = .ok (.aload_n 0, 1) := by decide +kernel
theorem dX6_read_6 : decode cX6_read 6 = .ok (.iload_n 2, 1) := by decide +kernel
theorem dX6_read_7 : decode cX6_read 7 = .ok (.invokevirtual 40, 3) := by decide +kernel
theorem dX6_read_10 : decode cX6_read 10 = .ok (.aload_n 0, 1) := by decide +kernel
theorem dX6_read_11 : decode cX6_read 11 = .ok (.iconst 0, 1) := by decide +kernel
theorem dX6_read_12 : decode cX6_read 12 = .ok (.putfield 44, 3) := by decide +kernel
theorem dX6_read_15 : decode cX6_read 15 = .ok (.aload_n 0, 1) := by decide +kernel
theorem dX6_read_16 : decode cX6_read 16 = .ok (.iconst 0, 1) := by decide +kernel
theorem dX6_read_17 : decode cX6_read 17 = .ok (.putfield 48, 3) := by decide +kernel
theorem dX6_read_20 : decode cX6_read 20 = .ok (.aload_n 0, 1) := by decide +kernel
theorem dX6_read_21 : decode cX6_read 21 = .ok (.iconst 0, 1) := by decide +kernel
theorem dX6_read_22 : decode cX6_read 22 = .ok (.putfield 51, 3) := by decide +kernel
theorem dX6_read_25 : decode cX6_read 25 = .ok (.aload_n 0, 1) := by decide +kernel
theorem dX6_read_26 : decode cX6_read 26 = .ok (.iconst 0, 1) := by decide +kernel
theorem dX6_read_27 : decode cX6_read 27 = .ok (.putfield 54, 3) := by decide +kernel
theorem dX6_read_30 : decode cX6_read 30 = .ok (.aload_n 0, 1) := by decide +kernel
theorem dX6_read_31 : decode cX6_read 31 = .ok (.iconst (-1), 1) := by decide +kernel
theorem dX6_read_32 : decode cX6_read 32 = .ok (.putfield 57, 3) := by decide +kernel
theorem dX6_read_35 : decode cX6_read 35 = .ok (.iconst 0, 1) := by decide +kernel
theorem dX6_read_36 : decode cX6_read 36 = .ok (.istore_n 3, 1) := by decide +kernel
theorem dX6_read_37 : decode cX6_read 37 = .ok (.iload_n 3, 1) := by decide +kernel
theorem dX6_read_38 : decode cX6_read 38 = .ok (.aload_n 0, 1) := by decide +kernel
theorem dX6_read_39 : decode cX6_read 39 = .ok (.getfield 60, 3) := by decide +kernel
theorem dX6_read_42 : decode cX6_read 42 = .ok (.if_icmp .gt 43, 3) := by decide +kernel
theorem dX6_read_45 : decode cX6_read 45 = .ok (.aload_n 0, 1) := by decide +kernel
theorem dX6_read_46 : decode cX6_read 46 = .ok (.invokevirtual 63, 3) := by decide +kernel
theorem dX6_read_49 : decode cX6_read 49 = .ok (.ifCond .eq 36, 3) := by decide +kernel
theorem dX6_read_52 : decode cX6_read 52 = .ok (.aload_n 0, 1) := by decide +kernel
theorem dX6_read_53 : decode cX6_read 53 = .ok (.getfield 17, 3) := by decide +kernel
theorem dX6_read_56 : decode cX6_read 56 = .ok (.aload_n 0, 1) := by decide +kernel
theorem dX6_read_57 : decode cX6_read 57 = .ok (.getfield 44, 3) := by decide +kernel
theorem dX6_read_60 : decode cX6_read 60 = .ok (.iaload, 1) := by decide +kernel
theorem dX6_read_61 : decode cX6_read 61 = .ok (.bipush 6, 2) := by decide +kernel
theorem dX6_read_63 : decode cX6_read 63 = .ok (.if_icmp .ne 6, 3) := by decide +kernel
theorem dX6_read_66 : decode cX6_read 66 = .ok (.goto 19, 3) := by decide +kernel
theorem dX6_read_85 : decode cX6_read 85 = .ok (.aload_n 0, 1) := by decide +kernel
theorem dX6_read_86 : decode cX6_read 86 = .ok (.getfield 57, 3) := by decide +kernel
theorem dX6_read_89 : decode cX6_read 89 = .ok (.ifCond .ge 7, 3) := by decide +kernel
theorem dX6_read_92 : decode cX6_read 92 = .ok (.aload_n 0, 1) := by decide +kernel
theorem dX6_read_93 : decode cX6_read 93 = .ok (.invokevirtual 67, 3) := by decide +kernel
theorem dX6_read_96 : decode cX6_read 96 = .ok (.aload_n 0, 1) := by decide +kernel
theorem dX6_read_97 : decode cX6_read 97 = .ok (.getfield 57, 3) := by decide +kernel
theorem dX6_read_100 : decode cX6_read 100 = .ok (.ifCond .ge 15, 3) := by decide +kernel
theorem dX6_read_103 : decode cX6_read 103 = .ok (.aload_n 0, 1) := by decide +kernel
theorem dX6_read_104 : decode cX6_read 104 = .ok (.getfield 48, 3) := by decide +kernel
theorem dX6_read_107 : decode cX6_read 107 = .ok (.ifCond .ne 8, 3) := by decide +kernel
theorem dX6_read_110 : decode cX6_read 110 = .ok (.aload_n 0, 1) := by decide +kernel
theorem dX6_read_111 : decode cX6_read 111 = .ok (.iload_n 2, 1) := by decide +kernel
theorem dX6_read_112 : decode cX6_read 112 = .ok (.putfield 57, 3) := by decide +kernel
theorem dX6_read_115 : decode cX6_read 115 = .ok (.aload_n 0, 1) := by decide +kernel
theorem dX6_read_116 : decode cX6_read 116 = .ok (.getfield 57, 3) := by decide +kernel
theorem dX6_read_119 : decode cX6_read 119 = .ok (.ifCond .ge 10, 3) := by decide +kernel
theorem dX6_read_129 : decode cX6_read 129 = .ok (.bipush (-10), 2) := by decide +kernel
theorem dX6_read_131 : decode cX6_read 131 = .ok (.aload_n 0, 1) := by decide +kernel
theorem dX6_read_132 : decode cX6_read 132 = .ok (.getfield 57, 3) := by decide +kernel
theorem dX6_read_135 : decode cX6_read 135 = .ok (.isub, 1) := by decide +kernel
theorem dX6_read_136 : decode cX6_read 136 = .ok (.ireturn, 1) := by decide +kernel
theorem dX6_readLine_0 : decode cX6_readLine 0 = .ok (.aload_n 0, 1) := by decide +kernel
theorem dX6_readLine_1 : decode cX6_readLine 1 = .ok (.getfield 17, 3) := by decide +kernel
theorem dX6_readLine_4 : decode cX6_readLine 4 = .ok (.aload_n 0, 1) := by decide +kernel
theorem dX6_readLine_5 : decode cX6_readLine 5 = .ok (.getfield 44, 3) := by decide +kernel
theorem dX6_readLine_8 : decode cX6_readLine 8 = .ok (.iaload, 1) := by decide +kernel
theorem dX6_readLine_9 : decode cX6_readLine 9 = .ok (.iconst 1, 1) := by decide +kernel
theorem dX6_readLine_10 : decode cX6_readLine 10 = .ok (.if_icmp .ne 15, 3) := by decide +kernel
theorem dX6_readLine_25 : decode cX6_readLine 25 = .ok (.iconst 0, 1) := by decide +kernel
theorem dX6_readLine_26 : decode cX6_readLine 26 = .ok (.istore_n 1, 1) := by decide +kernel
theorem dX6_readLine_27 : decode cX6_readLine 27 = .ok (.iload_n 1, 1) := by decide +kernel
theorem dX6_readLine_28 : decode cX6_readLine 28 = .ok (.ifCond .eq 105, 3) := by decide +kernel
theorem dX6_readLine_133 : decode cX6_readLine 133 = .ok (.aload_n 0, 1) := by decide +kernel
theorem dX6_readLine_134 : decode cX6_readLine 134 = .ok (.getfield 17, 3) := by decide +kernel
theorem dX6_readLine_137 : decode cX6_readLine 137 = .ok (.aload_n 0, 1) := by decide +kernel
theorem dX6_readLine_138 : decode cX6_readLine 138 = .ok (.getfield 44, 3) := by decide +kernel
theorem dX6_readLine_141 : decode cX6_readLine 141 = .ok (.iaload, 1) := by decide +kernel
theorem dX6_readLine_142 : decode cX6_readLine 142 = .ok (.iconst 5, 1) := by decide +kernel
theorem dX6_readLine_143 : decode cX6_readLine 143 = .ok (.if_icmp .eq 17, 3) := by decide +kernel
theorem dX6_readLine_146 : decode cX6_readLine 146 = .ok (.aload_n 0, 1) := by decide +kernel
theorem dX6_readLine_147 : decode cX6_readLine 147 = .ok (.getfield 17, 3) := by decide +kernel
theorem dX6_readLine_150 : decode cX6_readLine 150 = .ok (.aload_n 0, 1) := by decide +kernel
theorem dX6_readLine_151 : decode cX6_readLine 151 = .ok (.getfield 44, 3) := by decide +kernel
theorem dX6_readLine_154 : decode cX6_readLine 154 = .ok (.iaload, 1) := by decide +kernel
theorem dX6_readLine_155 : decode cX6_readLine 155 = .ok (.bipush 6, 2) := by decide +kernel
theorem dX6_readLine_157 : decode cX6_readLine 157 = .ok (.if_icmp .ne 5, 3) := by decide +kernel
theorem dX6_readLine_160 : decode cX6_readLine 160 = .ok (.iconst 1, 1) := by decide +kernel
theorem dX6_readLine_161 : decode cX6_readLine 161 = .ok (.ireturn, 1) := by decide +kernel
theorem dX6_resolve_0 : decode cX6_resolve 0 = .ok (.iconst 0, 1) := by decide +kernel
theorem dX6_resolve_1 : decode cX6_resolve 1 = .ok (.istore_n 1, 1) := by decide +kernel
theorem dX6_resolve_2 : decode cX6_resolve 2 = .ok (.iload_n 1, 1) := by decide +kernel
theorem dX6_resolve_3 : decode cX6_resolve 3 = .ok (.aload_n 0, 1) := by decide +kernel
theorem dX6_resolve_4 : decode cX6_resolve 4 = .ok (.getfield 54, 3) := by decide +kernel
theorem dX6_resolve_7 : decode cX6_resolve 7 = .ok (.if_icmp .ge 83, 3) := by decide +kernel
theorem dX6_resolve_90 : decode cX6_resolve 90 = .ok (.return_, 1) := by decide +kernel
theorem dX7_init_0 : decode cX7_init 0 = .ok (.aload_n 0, 1) := by decide +kernel
theorem dX7_init_1 : decode cX7_init 1 = .ok (.invokespecial 3, 3) := by decide +kernel
theorem dX7_init_4 : decode cX7_init 4 = .ok (.aload_n 0, 1) := by decide +kernel
theorem dX7_init_5 : decode cX7_init 5 = .ok (.new 9, 3) := by decide +kernel
theorem dX7_init_8 : decode cX7_init 8 = .ok (.dup, 1) := by decide +kernel
theorem dX7_init_9 : decode cX7_init 9 = .ok (.invokespecial 11, 3) := by decide +kernel
theorem dX7_init_12 : decode cX7_init 12 = .ok (.putfield 12, 3) := by decide +kernel
theorem dX7_init_15 : decode cX7_init 15 = .ok (.aload_n 0, 1) := by decide +kernel
theorem dX7_init_16 : decode cX7_init 16 = .ok (.bipush 16, 2) := by decide +kernel
theorem dX7_init_18 : decode cX7_init 18 = .ok (.newarray .long, 2) := by decide +kernel
theorem dX7_init_20 : decode cX7_init 20 = .ok (.putfield 18, 3) := by decide +kernel
theorem dX7_init_23 : decode cX7_init 23 = .ok (.aload_n 0, 1) := by decide +kernel
theorem dX7_init_24 : decode cX7_init 24 = .ok (.bipush 40, 2) := by decide +kernel
theorem dX7_init_26 : decode cX7_init 26 = .ok (.newarray .long, 2) := by decide +kernel
theorem dX7_init_28 : decode cX7_init 28 = .ok (.putfield 24, 3) := by decide +kernel
theorem dX7_init_31 : decode cX7_init 31 = .ok (.aload_n 0, 1) := by decide +kernel
theorem dX7_init_32 : decode cX7_init 32 = .ok (.iconst 4, 1) := by decide +kernel
theorem dX7_init_33 : decode cX7_init 33 = .ok (.newarray .int, 2) := by decide +kernel
theorem dX7_init_35 : decode cX7_init 35 = .ok (.putfield 27, 3) := by decide +kernel
theorem dX7_init_38 : decode cX7_init 38 = .ok (.aload_n 0, 1) := by decide +kernel
theorem dX7_init_39 : decode cX7_init 39 = .ok (.iconst 0, 1) := by decide +kernel
theorem dX7_init_40 : decode cX7_init 40 = .ok (.putfield 31, 3) := by decide +kernel
theorem dX7_init_43 : decode cX7_init 43 = .ok (.aload_n 0, 1) := by decide +kernel
theorem dX7_init_44 : decode cX7_init 44 = .ok (.iconst 0, 1) := by decide +kernel
theorem dX7_init_45 : decode cX7_init 45 = .ok (.putfield 35, 3) := by decide +kernel
theorem dX7_init_48 : decode cX7_init 48 = .ok (.aload_n 0, 1) := by decide +kernel
theorem dX7_init_49 : decode cX7_init 49 = .ok (.iconst 0, 1) := by decide +kernel
theorem dX7_init_50 : decode cX7_init 50 = .ok (.putfield 38, 3) := by decide +kernel
theorem dX7_init_53 : decode cX7_init 53 = .ok (.aload_n 0, 1) := by decide +kernel
theorem dX7_init_54 : decode cX7_init 54 = .ok (.lconst 1, 1) := by decide +kernel
theorem dX7_init_55 : decode cX7_init 55 = .ok (.putfield 41, 3) := by decide +kernel
theorem dX7_init_58 : decode cX7_init 58 = .ok (.aload_n 0, 1) := by decide +kernel
theorem dX7_init_59 : decode cX7_init 59 = .ok (.lconst 0, 1) := by decide +kernel
theorem dX7_init_60 : decode cX7_init 60 = .ok (.putfield 45, 3) := by decide +kernel
theorem dX7_init_63 : decode cX7_init 63 = .ok (.aload_n 0, 1) := by decide +kernel
theorem dX7_init_64 : decode cX7_init 64 = .ok (.iconst 0, 1) := by decide +kernel
theorem dX7_init_65 : decode cX7_init 65 = .ok (.putfield 48, 3) := by decide +kernel
theorem dX7_init_68 : decode cX7_init 68 = .ok (.aload_n 0, 1) := by decide +kernel
theorem dX7_init_69 : decode cX7_init 69 = .ok (.lconst 0, 1) := by decide +kernel
theorem dX7_init_70 : decode cX7_init 70 = .ok (.putfield 51, 3) := by decide +kernel
theorem dX7_init_73 : decode cX7_init 73 = .ok (.aload_n 0, 1) := by decide +kernel
theorem dX7_init_74 : decode cX7_init 74 = .ok (.sipush 2000, 3) := by decide +kernel
theorem dX7_init_77 : decode cX7_init 77 = .ok (.newarray .byte, 2) := by decide +kernel
theorem dX7_init_79 : decode cX7_init 79 = .ok (.putfield 54, 3) := by decide +kernel
theorem dX7_init_82 : decode cX7_init 82 = .ok (.aload_n 0, 1) := by decide +kernel
theorem dX7_init_83 : decode cX7_init 83 = .ok (.iconst 0, 1) := by decide +kernel
theorem dX7_init_84 : decode cX7_init 84 = .ok (.putfield 58, 3) := by decide +kernel
theorem dX7_init_87 : decode cX7_init 87 = .ok (.aload_n 0, 1) := by decide +kernel
theorem dX7_init_88 : decode cX7_init 88 = .ok (.aload_n 1, 1) := by decide +kernel
theorem dX7_init_89 : decode cX7_init 89 = .ok (.putfield 61, 3) := by decide +kernel
theorem dX7_init_92 : decode cX7_init 92 = .ok (.aload_n 0, 1) := by decide +kernel
theorem dX7_init_93 : decode cX7_init 93 = .ok (.aload_n 2, 1) := by decide +kernel
theorem dX7_init_94 : decode cX7_init 94 = .ok (.putfield 65, 3) := by decide +kernel
theorem dX7_init_97 : decode cX7_init 97 = .ok (.return_, 1) := by decide +kernel
theorem dX8_init_0 : decode cX8_init 0 = .ok (.aload_n 0, 1) := by decide +kernel
theorem dX8_init_1 : decode cX8_init 1 = .ok (.invokespecial 1, 3) := by decide +kernel
theorem dX8_init_4 : decode cX8_init 4 = .ok (.aload_n 0, 1) := by decide +kernel
theorem dX8_init_5 : decode cX8_init 5 = .ok (.bipush 8, 2) := by decide +kernel
theorem dX8_init_7 : decode cX8_init 7 = .ok (.sipush 200, 3) := by decide +kernel
theorem dX8_init_10 : decode cX8_init 10 = .ok (.multianewarray 9 2, 4) := by decide +kernel
theorem dX8_init_14 : decode cX8_init 14 = .ok (.putfield 11, 3) := by decide +kernel
theorem dX8_init_17 : decode cX8_init 17 = .ok (.aload_n 0, 1) := by decide +kernel
theorem dX8_init_18 : decode cX8_init 18 = .ok (.bipush 8, 2) := by decide +kernel
theorem dX8_init_20 : decode cX8_init 20 = .ok (.newarray .int, 2) := by decide +kernel
theorem dX8_init_22 : decode cX8_init 22 = .ok (.putfield 14, 3) := by decide +kernel
theorem dX8_init_25 : decode cX8_init 25 = .ok (.aload_n 0, 1) := by decide +kernel
theorem dX8_init_26 : decode cX8_init 26 = .ok (.bipush 8, 2) := by decide +kernel
theorem dX8_init_28 : decode cX8_init 28 = .ok (.newarray .boolean, 2) := by decide +kernel
theorem dX8_init_30 : decode cX8_init 30 = .ok (.putfield 18, 3) := by decide +kernel
theorem dX8_init_33 : decode cX8_init 33 = .ok (.aload_n 0, 1) := by decide +kernel
theorem dX8_init_34 : decode cX8_init 34 = .ok (.bipush 8, 2) := by decide +kernel
theorem dX8_init_36 : decode cX8_init 36 = .ok (.newarray .boolean, 2) := by decide +kernel
theorem dX8_init_38 : decode cX8_init 38 = .ok (.putfield 22, 3) := by decide +kernel
theorem dX8_init_41 : decode cX8_init 41 = .ok (.return_, 1) := by decide +kernel
theorem dX8_isSlot_0 : decode cX8_isSlot 0 = .ok (.iload_n 0, 1) := by decide +kernel
theorem dX8_isSlot_1 : decode cX8_isSlot 1 = .ok (.ifCond .lt 13, 3) := by decide +kernel
theorem dX8_isSlot_4 : decode cX8_isSlot 4 = .ok (.iload_n 0, 1) := by decide +kernel
theorem dX8_isSlot_5 : decode cX8_isSlot 5 = .ok (.bipush 8, 2) := by decide +kernel
theorem dX8_isSlot_7 : decode cX8_isSlot 7 = .ok (.if_icmp .ge 7, 3) := by decide +kernel
theorem dX8_isSlot_10 : decode cX8_isSlot 10 = .ok (.iconst 1, 1) := by decide +kernel
theorem dX8_isSlot_11 : decode cX8_isSlot 11 = .ok (.goto 4, 3) := by decide +kernel
theorem dX8_isSlot_14 : decode cX8_isSlot 14 = .ok (.iconst 0, 1) := by decide +kernel
theorem dX8_isSlot_15 : decode cX8_isSlot 15 = .ok (.ireturn, 1) := by decide +kernel
theorem dX9_init_0 : decode cX9_init 0 = .ok (.aload_n 0, 1) := by decide +kernel
theorem dX9_init_1 : decode cX9_init 1 = .ok (.invokespecial 5, 3) := by decide +kernel
theorem dX9_init_4 : decode cX9_init 4 = .ok (.aload_n 0, 1) := by decide +kernel
theorem dX9_init_5 : decode cX9_init 5 = .ok (.sipush 1188, 3) := by decide +kernel
theorem dX9_init_8 : decode cX9_init 8 = .ok (.newarray .long, 2) := by decide +kernel
theorem dX9_init_10 : decode cX9_init 10 = .ok (.putfield 11, 3) := by decide +kernel
theorem dX9_init_13 : decode cX9_init 13 = .ok (.aload_n 0, 1) := by decide +kernel
theorem dX9_init_14 : decode cX9_init 14 = .ok (.iconst 4, 1) := by decide +kernel
theorem dX9_init_15 : decode cX9_init 15 = .ok (.newarray .int, 2) := by decide +kernel
theorem dX9_init_17 : decode cX9_init 17 = .ok (.putfield 15, 3) := by decide +kernel
theorem dX9_init_20 : decode cX9_init 20 = .ok (.aload_n 0, 1) := by decide +kernel
theorem dX9_init_21 : decode cX9_init 21 = .ok (.bipush 64, 2) := by decide +kernel
theorem dX9_init_23 : decode cX9_init 23 = .ok (.newarray .int, 2) := by decide +kernel
theorem dX9_init_25 : decode cX9_init 25 = .ok (.putfield 19, 3) := by decide +kernel
theorem dX9_init_28 : decode cX9_init 28 = .ok (.return_, 1) := by decide +kernel
