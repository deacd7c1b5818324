def RX0 : String := "BentTale$Chronicle"
def TX0 : u_T := fun k => match k with
  | 0 => ("BentTale$Chronicle", "stage", "LBentTale$Stage;", true)
  | 1 => ("BentTale$Chronicle", "play", "LBentTale$Play;", true)
  | 2 => ("BentTale$Chronicle", "teller", "LBentTale$Teller;", true)
  | 3 => ("BentTale$Chronicle", "first", "LBentTale$World;", true)
  | 4 => ("BentTale$Chronicle", "entries", "[I", true)
  | 5 => ("BentTale$Chronicle", "acts", "[I", true)
  | _ => ("BentTale$Chronicle", "turns", "I", false)
def tyX0 : Nat → FieldType := fun k => match k with
  | 0 => .object "BentTale$Stage"
  | 1 => .object "BentTale$Play"
  | 2 => .object "BentTale$Teller"
  | 3 => .object "BentTale$World"
  | 4 => .array .int
  | 5 => .array .int
  | _ => .int
abbrev wsX00 : List Cond := u_ws RX0 TX0 7
theorem nmX0 : ∀ a, a < 7 → ∀ b, b < 7 → a ≠ b → (TX0 a).2.1 ≠ (TX0 b).2.1 := by decide +kernel
theorem tyX0_ok : ∀ k, k < 7 → parseFieldDescriptor (TX0 k).2.2.1 = some (tyX0 k) := by decide +kernel
def RX1 : String := "BentTale$LawReader"
def TX1 : u_T := fun k => match k with
  | 0 => ("BentTale$LawReader", "tape", "LBentTale$Tape;", true)
  | 1 => ("BentTale$LawReader", "laws", "LBentTale$Laws;", true)
  | 2 => ("BentTale$LawReader", "clauses", "I", false)
  | 3 => ("BentTale$LawReader", "mask", "I", false)
  | _ => ("BentTale$LawReader", "value", "I", false)
def tyX1 : Nat → FieldType := fun k => match k with
  | 0 => .object "BentTale$Tape"
  | 1 => .object "BentTale$Laws"
  | 2 => .int
  | 3 => .int
  | _ => .int
abbrev wsX10 : List Cond := u_ws RX1 TX1 5
theorem nmX1 : ∀ a, a < 5 → ∀ b, b < 5 → a ≠ b → (TX1 a).2.1 ≠ (TX1 b).2.1 := by decide +kernel
theorem tyX1_ok : ∀ k, k < 5 → parseFieldDescriptor (TX1 k).2.2.1 = some (tyX1 k) := by decide +kernel
def RX2 : String := "BentTale$Laws"
def TX2 : u_T := fun k => match k with
  | 0 => ("BentTale$Laws", "sorts", "[I", true)
  | 1 => ("BentTale$Laws", "firstMasks", "[I", true)
  | 2 => ("BentTale$Laws", "firstValues", "[I", true)
  | 3 => ("BentTale$Laws", "secondMasks", "[I", true)
  | 4 => ("BentTale$Laws", "secondValues", "[I", true)
  | 5 => ("BentTale$Laws", "limits", "[I", true)
  | 6 => ("BentTale$Laws", "sizes", "[I", true)
  | _ => ("BentTale$Laws", "many", "I", false)
def tyX2 : Nat → FieldType := fun k => match k with
  | 0 => .array .int
  | 1 => .array .int
  | 2 => .array .int
  | 3 => .array .int
  | 4 => .array .int
  | 5 => .array .int
  | 6 => .array .int
  | _ => .int
abbrev wsX20 : List Cond := u_ws RX2 TX2 8
theorem nmX2 : ∀ a, a < 8 → ∀ b, b < 8 → a ≠ b → (TX2 a).2.1 ≠ (TX2 b).2.1 := by decide +kernel
theorem tyX2_ok : ∀ k, k < 8 → parseFieldDescriptor (TX2 k).2.2.1 = some (tyX2 k) := by decide +kernel
def RX3 : String := "BentTale$Planner"
def TX3 : u_T := fun k => match k with
  | 0 => ("BentTale$Planner", "stage", "LBentTale$Stage;", true)
  | 1 => ("BentTale$Planner", "wishes", "LBentTale$Wishes;", true)
  | 2 => ("BentTale$Planner", "keys", "[J", true)
  | 3 => ("BentTale$Planner", "plans", "[J", true)
  | 4 => ("BentTale$Planner", "yes", "[I", true)
  | 5 => ("BentTale$Planner", "no", "[I", true)
  | 6 => ("BentTale$Planner", "toMeet", "[I", true)
  | 7 => ("BentTale$Planner", "toHit", "[I", true)
  | 8 => ("BentTale$Planner", "toHold", "[I", true)
  | 9 => ("BentTale$Planner", "source", "[I", true)
  | 10 => ("BentTale$Planner", "folk", "I", false)
  | 11 => ("BentTale$Planner", "wishRow", "I", false)
  | 12 => ("BentTale$Planner", "limit", "I", false)
  | 13 => ("BentTale$Planner", "bestCost", "I", false)
  | _ => ("BentTale$Planner", "best", "J", false)
def tyX3 : Nat → FieldType := fun k => match k with
  | 0 => .object "BentTale$Stage"
  | 1 => .object "BentTale$Wishes"
  | 2 => .array .long
  | 3 => .array .long
  | 4 => .array .int
  | 5 => .array .int
  | 6 => .array .int
  | 7 => .array .int
  | 8 => .array .int
  | 9 => .array .int
  | 10 => .int
  | 11 => .int
  | 12 => .int
  | 13 => .int
  | _ => .long
abbrev wsX30 : List Cond := u_ws RX3 TX3 15
theorem nmX3 : ∀ a, a < 15 → ∀ b, b < 15 → a ≠ b → (TX3 a).2.1 ≠ (TX3 b).2.1 := by decide +kernel
theorem tyX3_ok : ∀ k, k < 15 → parseFieldDescriptor (TX3 k).2.2.1 = some (tyX3 k) := by decide +kernel
def RX4 : String := "BentTale$Play"
def TX4 : u_T := fun k => match k with
  | 0 => ("BentTale$Play", "stage", "LBentTale$Stage;", true)
  | 1 => ("BentTale$Play", "laws", "LBentTale$Laws;", true)
  | 2 => ("BentTale$Play", "planner", "LBentTale$Planner;", true)
  | _ => ("BentTale$Play", "entries", "[I", true)
def tyX4 : Nat → FieldType := fun k => match k with
  | 0 => .object "BentTale$Stage"
  | 1 => .object "BentTale$Laws"
  | 2 => .object "BentTale$Planner"
  | _ => .array .int
abbrev wsX40 : List Cond := u_ws RX4 TX4 4
theorem nmX4 : ∀ a, a < 4 → ∀ b, b < 4 → a ≠ b → (TX4 a).2.1 ≠ (TX4 b).2.1 := by decide +kernel
theorem tyX4_ok : ∀ k, k < 4 → parseFieldDescriptor (TX4 k).2.2.1 = some (tyX4 k) := by decide +kernel
def RX5 : String := "BentTale$Stage"
def TX5 : u_T := fun k => match k with
  | 0 => ("BentTale$Stage", "deeds", "[I", true)
  | 1 => ("BentTale$Stage", "costs", "[I", true)
  | 2 => ("BentTale$Stage", "ways", "[I", true)
  | 3 => ("BentTale$Stage", "doors", "J", false)
  | 4 => ("BentTale$Stage", "weapons", "I", false)
  | _ => ("BentTale$Stage", "things", "I", false)
def tyX5 : Nat → FieldType := fun k => match k with
  | 0 => .array .int
  | 1 => .array .int
  | 2 => .array .int
  | 3 => .long
  | 4 => .int
  | _ => .int
abbrev wsX50 : List Cond := u_ws RX5 TX5 6
theorem nmX5 : ∀ a, a < 6 → ∀ b, b < 6 → a ≠ b → (TX5 a).2.1 ≠ (TX5 b).2.1 := by decide +kernel
theorem tyX5_ok : ∀ k, k < 6 → parseFieldDescriptor (TX5 k).2.2.1 = some (tyX5 k) := by decide +kernel
def RX6 : String := "BentTale$Tape"
def TX6 : u_T := fun k => match k with
  | 0 => ("BentTale$Tape", "bytes", "[I", true)
  | 1 => ("BentTale$Tape", "length", "I", false)
  | 2 => ("BentTale$Tape", "end", "I", false)
  | 3 => ("BentTale$Tape", "at", "I", false)
  | _ => ("BentTale$Tape", "fault", "I", false)
def tyX6 : Nat → FieldType := fun k => match k with
  | 0 => .array .int
  | 1 => .int
  | 2 => .int
  | 3 => .int
  | _ => .int
abbrev wsX60 : List Cond := u_ws RX6 TX6 5
theorem nmX6 : ∀ a, a < 5 → ∀ b, b < 5 → a ≠ b → (TX6 a).2.1 ≠ (TX6 b).2.1 := by decide +kernel
theorem tyX6_ok : ∀ k, k < 5 → parseFieldDescriptor (TX6 k).2.2.1 = some (tyX6 k) := by decide +kernel
def RX7 : String := "BentTale$Teller"
def TX7 : u_T := fun k => match k with
  | 0 => ("BentTale$Teller", "stage", "LBentTale$Stage;", true)
  | 1 => ("BentTale$Teller", "play", "LBentTale$Play;", true)
  | 2 => ("BentTale$Teller", "acted", "[LBentTale$World;", true)
  | 3 => ("BentTale$Teller", "played", "[LBentTale$World;", true)
  | _ => ("BentTale$Teller", "harms", "[I", true)
def tyX7 : Nat → FieldType := fun k => match k with
  | 0 => .object "BentTale$Stage"
  | 1 => .object "BentTale$Play"
  | 2 => .array (.object "BentTale$World")
  | 3 => .array (.object "BentTale$World")
  | _ => .array .int
abbrev wsX70 : List Cond := u_ws RX7 TX7 5
theorem nmX7 : ∀ a, a < 5 → ∀ b, b < 5 → a ≠ b → (TX7 a).2.1 ≠ (TX7 b).2.1 := by decide +kernel
theorem tyX7_ok : ∀ k, k < 5 → parseFieldDescriptor (TX7 k).2.2.1 = some (tyX7 k) := by decide +kernel
def RX8 : String := "BentTale$WishReader"
def TX8 : u_T := fun k => match k with
  | 0 => ("BentTale$WishReader", "tape", "LBentTale$Tape;", true)
  | 1 => ("BentTale$WishReader", "tokens", "[I", true)
  | _ => ("BentTale$WishReader", "size", "I", false)
def tyX8 : Nat → FieldType := fun k => match k with
  | 0 => .object "BentTale$Tape"
  | 1 => .array .int
  | _ => .int
abbrev wsX80 : List Cond := u_ws RX8 TX8 3
theorem nmX8 : ∀ a, a < 3 → ∀ b, b < 3 → a ≠ b → (TX8 a).2.1 ≠ (TX8 b).2.1 := by decide +kernel
theorem tyX8_ok : ∀ k, k < 3 → parseFieldDescriptor (TX8 k).2.2.1 = some (tyX8 k) := by decide +kernel
def RX9 : String := "BentTale$Wishes"
def TX9 : u_T := fun k => match k with
  | 0 => ("BentTale$Wishes", "tokens", "[I", true)
  | 1 => ("BentTale$Wishes", "sizes", "[I", true)
  | 2 => ("BentTale$Wishes", "weights", "[I", true)
  | 3 => ("BentTale$Wishes", "order", "[I", true)
  | _ => ("BentTale$Wishes", "counts", "[I", true)
def tyX9 : Nat → FieldType := fun k => match k with
  | 0 => .array .int
  | 1 => .array .int
  | 2 => .array .int
  | 3 => .array .int
  | _ => .array .int
abbrev wsX90 : List Cond := u_ws RX9 TX9 5
theorem nmX9 : ∀ a, a < 5 → ∀ b, b < 5 → a ≠ b → (TX9 a).2.1 ≠ (TX9 b).2.1 := by decide +kernel
theorem tyX9_ok : ∀ k, k < 5 → parseFieldDescriptor (TX9 k).2.2.1 = some (tyX9 k) := by decide +kernel
def RX10 : String := "BentTale$World"
def TX10 : u_T := fun k => match k with
  | 0 => ("BentTale$World", "minds", "[J", true)
  | 1 => ("BentTale$World", "marks", "[I", true)
  | 2 => ("BentTale$World", "brokenIn", "[I", true)
  | 3 => ("BentTale$World", "found", "[I", true)
  | 4 => ("BentTale$World", "truth", "J", false)
  | 5 => ("BentTale$World", "sets", "J", false)
  | 6 => ("BentTale$World", "turn", "I", false)
  | 7 => ("BentTale$World", "brokenLaws", "I", false)
  | 8 => ("BentTale$World", "settles", "I", false)
  | 9 => ("BentTale$World", "shifts", "I", false)
  | 10 => ("BentTale$World", "pushing", "I", false)
  | 11 => ("BentTale$World", "events", "I", false)
  | _ => ("BentTale$World", "acted", "Z", false)
def tyX10 : Nat → FieldType := fun k => match k with
  | 0 => .array .long
  | 1 => .array .int
  | 2 => .array .int
  | 3 => .array .int
  | 4 => .long
  | 5 => .long
  | 6 => .int
  | 7 => .int
  | 8 => .int
  | 9 => .int
  | 10 => .int
  | 11 => .int
  | _ => .boolean
abbrev wsX100 : List Cond := u_ws RX10 TX10 13
theorem nmX10 : ∀ a, a < 13 → ∀ b, b < 13 → a ≠ b → (TX10 a).2.1 ≠ (TX10 b).2.1 := by decide +kernel
theorem tyX10_ok : ∀ k, k < 13 → parseFieldDescriptor (TX10 k).2.2.1 = some (tyX10 k) := by decide +kernel
def RX11 : String := "BentTale"
def TX11 : u_T := fun k => match k with
  | 0 => ("BentTale", "tape", "LBentTale$Tape;", true)
  | 1 => ("BentTale", "stage", "LBentTale$Stage;", true)
  | 2 => ("BentTale", "wishes", "LBentTale$Wishes;", true)
  | 3 => ("BentTale", "laws", "LBentTale$Laws;", true)
  | 4 => ("BentTale", "now", "LBentTale$World;", true)
  | 5 => ("BentTale", "spare", "LBentTale$World;", true)
  | 6 => ("BentTale", "wishReader", "LBentTale$WishReader;", true)
  | 7 => ("BentTale", "lawReader", "LBentTale$LawReader;", true)
  | 8 => ("BentTale", "planner", "LBentTale$Planner;", true)
  | 9 => ("BentTale", "play", "LBentTale$Play;", true)
  | 10 => ("BentTale", "teller", "LBentTale$Teller;", true)
  | 11 => ("BentTale", "chronicle", "LBentTale$Chronicle;", true)
  | _ => ("BentTale", "begun", "Z", false)
def tyX11 : Nat → FieldType := fun k => match k with
  | 0 => .object "BentTale$Tape"
  | 1 => .object "BentTale$Stage"
  | 2 => .object "BentTale$Wishes"
  | 3 => .object "BentTale$Laws"
  | 4 => .object "BentTale$World"
  | 5 => .object "BentTale$World"
  | 6 => .object "BentTale$WishReader"
  | 7 => .object "BentTale$LawReader"
  | 8 => .object "BentTale$Planner"
  | 9 => .object "BentTale$Play"
  | 10 => .object "BentTale$Teller"
  | 11 => .object "BentTale$Chronicle"
  | _ => .boolean
abbrev wsX110 : List Cond := u_ws RX11 TX11 13
theorem nmX11 : ∀ a, a < 13 → ∀ b, b < 13 → a ≠ b → (TX11 a).2.1 ≠ (TX11 b).2.1 := by decide +kernel
theorem tyX11_ok : ∀ k, k < 13 → parseFieldDescriptor (TX11 k).2.2.1 = some (tyX11 k) := by decide +kernel
def RX12 : String := "BentTaleModel"
def TX12 : u_T := fun k => match k with
  | 0 => ("BentTaleModel", "row", "[I", true)
  | 1 => ("BentTaleModel", "laid", "[I", true)
  | 2 => ("BentTaleModel", "things", "I", false)
  | 3 => ("BentTaleModel", "laws", "I", false)
  | 4 => ("BentTaleModel", "isBegun", "Z", false)
  | 5 => ("BentTaleModel", "isDoor", "[Z", true)
  | 6 => ("BentTaleModel", "isWeapon", "[Z", true)
  | 7 => ("BentTaleModel", "prices", "[I", true)
  | 8 => ("BentTaleModel", "tape", "[B", true)
  | 9 => ("BentTaleModel", "taped", "I", false)
  | 10 => ("BentTaleModel", "place0", "I", false)
  | 11 => ("BentTaleModel", "length0", "I", false)
  | 12 => ("BentTaleModel", "fault", "I", false)
  | 13 => ("BentTaleModel", "open", "I", false)
  | 14 => ("BentTaleModel", "waiting", "I", false)
  | 15 => ("BentTaleModel", "codeMany", "I", false)
  | 16 => ("BentTaleModel", "waits", "[I", true)
  | 17 => ("BentTaleModel", "said", "[I", true)
  | 18 => ("BentTaleModel", "wishMany", "[I", true)
  | 19 => ("BentTaleModel", "weights", "[I", true)
  | 20 => ("BentTaleModel", "wishCodes", "[I", true)
  | 21 => ("BentTaleModel", "codes", "[I", true)
  | 22 => ("BentTaleModel", "digit", "I", false)
  | 23 => ("BentTaleModel", "clauseMany", "[I", true)
  | 24 => ("BentTaleModel", "letterOf", "[I", true)
  | 25 => ("BentTaleModel", "likeKind", "[I", true)
  | 26 => ("BentTaleModel", "likeWho", "[I", true)
  | 27 => ("BentTaleModel", "likeX", "[I", true)
  | 28 => ("BentTaleModel", "likeY", "[I", true)
  | 29 => ("BentTaleModel", "numberOf", "[I", true)
  | 30 => ("BentTaleModel", "isUnseen", "[Z", true)
  | 31 => ("BentTaleModel", "mind", "[I", true)
  | 32 => ("BentTaleModel", "truth", "[Z", true)
  | 33 => ("BentTaleModel", "bestCost", "I", false)
  | 34 => ("BentTaleModel", "bestMany", "I", false)
  | 35 => ("BentTaleModel", "chosen", "[I", true)
  | 36 => ("BentTaleModel", "bestRow", "[I", true)
  | 37 => ("BentTaleModel", "next", "[I", true)
  | 38 => ("BentTaleModel", "cost", "[I", true)
  | 39 => ("BentTaleModel", "memoKey", "[J", true)
  | 40 => ("BentTaleModel", "memoFirst", "[I", true)
  | 41 => ("BentTaleModel", "memoMany", "I", false)
  | 42 => ("BentTaleModel", "wantedWish", "I", false)
  | 43 => ("BentTaleModel", "wantedDeed", "I", false)
  | 44 => ("BentTaleModel", "nowCode", "[I", true)
  | 45 => ("BentTaleModel", "nowSaw", "[I", true)
  | 46 => ("BentTaleModel", "nowWish", "[I", true)
  | 47 => ("BentTaleModel", "isDone", "[Z", true)
  | 48 => ("BentTaleModel", "didCode", "[I", true)
  | 49 => ("BentTaleModel", "didSaw", "[I", true)
  | 50 => ("BentTaleModel", "didWish", "[I", true)
  | 51 => ("BentTaleModel", "actOf", "[I", true)
  | 52 => ("BentTaleModel", "wasDone", "[Z", true)
  | _ => ("BentTaleModel", "kindMany", "[I", true)
def tyX12 : Nat → FieldType := fun k => match k with
  | 0 => .array .int
  | 1 => .array .int
  | 2 => .int
  | 3 => .int
  | 4 => .boolean
  | 5 => .array .boolean
  | 6 => .array .boolean
  | 7 => .array .int
  | 8 => .array .byte
  | 9 => .int
  | 10 => .int
  | 11 => .int
  | 12 => .int
  | 13 => .int
  | 14 => .int
  | 15 => .int
  | 16 => .array .int
  | 17 => .array .int
  | 18 => .array .int
  | 19 => .array .int
  | 20 => .array .int
  | 21 => .array .int
  | 22 => .int
  | 23 => .array .int
  | 24 => .array .int
  | 25 => .array .int
  | 26 => .array .int
  | 27 => .array .int
  | 28 => .array .int
  | 29 => .array .int
  | 30 => .array .boolean
  | 31 => .array .int
  | 32 => .array .boolean
  | 33 => .int
  | 34 => .int
  | 35 => .array .int
  | 36 => .array .int
  | 37 => .array .int
  | 38 => .array .int
  | 39 => .array .long
  | 40 => .array .int
  | 41 => .int
  | 42 => .int
  | 43 => .int
  | 44 => .array .int
  | 45 => .array .int
  | 46 => .array .int
  | 47 => .array .boolean
  | 48 => .array .int
  | 49 => .array .int
  | 50 => .array .int
  | 51 => .array .int
  | 52 => .array .boolean
  | _ => .array .int
abbrev wsX120 : List Cond := u_ws RX12 TX12 54
theorem nmX12 : ∀ a, a < 54 → ∀ b, b < 54 → a ≠ b → (TX12 a).2.1 ≠ (TX12 b).2.1 := by decide +kernel
theorem tyX12_ok : ∀ k, k < 54 → parseFieldDescriptor (TX12 k).2.2.1 = some (tyX12 k) := by decide +kernel
