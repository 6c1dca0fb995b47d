def RX0 : String := "FortyBasket$Best"
def TX0 : u_T := fun k => match k with
  | 0 => ("FortyBasket$Best", "found", "Z", false)
  | 1 => ("FortyBasket$Best", "value", "I", false)
  | 2 => ("FortyBasket$Best", "length", "I", false)
  | _ => ("FortyBasket$Best", "row", "[I", true)
def tyX0 : Nat → FieldType := fun k => match k with
  | 0 => .boolean
  | 1 => .int
  | 2 => .int
  | _ => .array .int
theorem nmX0 : ∀ a, a < 4 → ∀ b, b < 4 → a ≠ b → (TX0 a).2.1 ≠ (TX0 b).2.1 := by decide +kernel
theorem tyX0_ok : ∀ k, k < 4 → parseFieldDescriptor (TX0 k).2.2.1 = some (tyX0 k) := by decide +kernel
def RX1 : String := "FortyBasket$Past"
def TX1 : u_T := fun k => match k with
  | 0 => ("FortyBasket$Past", "states", "[LFortyBasket$State;", true)
  | 1 => ("FortyBasket$Past", "next", "I", false)
  | _ => ("FortyBasket$Past", "kept", "I", false)
def tyX1 : Nat → FieldType := fun k => match k with
  | 0 => .array (.object "FortyBasket$State")
  | 1 => .int
  | _ => .int
theorem nmX1 : ∀ a, a < 3 → ∀ b, b < 3 → a ≠ b → (TX1 a).2.1 ≠ (TX1 b).2.1 := by decide +kernel
theorem tyX1_ok : ∀ k, k < 3 → parseFieldDescriptor (TX1 k).2.2.1 = some (tyX1 k) := by decide +kernel
def RX2 : String := "FortyBasket$Planner"
def TX2 : u_T := fun k => match k with
  | 0 => ("FortyBasket$Planner", "now", "LFortyBasket$World;", true)
  | 1 => ("FortyBasket$Planner", "till", "LFortyBasket$Till;", true)
  | 2 => ("FortyBasket$Planner", "best", "LFortyBasket$Best;", true)
  | 3 => ("FortyBasket$Planner", "row", "[I", true)
  | 4 => ("FortyBasket$Planner", "dear", "[I", true)
  | 5 => ("FortyBasket$Planner", "sums", "[I", true)
  | 6 => ("FortyBasket$Planner", "ahead", "[I", true)
  | 7 => ("FortyBasket$Planner", "left", "[I", true)
  | 8 => ("FortyBasket$Planner", "ruledBy", "[I", true)
  | 9 => ("FortyBasket$Planner", "alike", "[I", true)
  | 10 => ("FortyBasket$Planner", "lived", "LFortyBasket$State;", true)
  | 11 => ("FortyBasket$Planner", "basketSum", "I", false)
  | 12 => ("FortyBasket$Planner", "basketSize", "I", false)
  | 13 => ("FortyBasket$Planner", "bestFree", "I", false)
  | 14 => ("FortyBasket$Planner", "bestGain", "I", false)
  | 15 => ("FortyBasket$Planner", "receipts", "I", false)
  | 16 => ("FortyBasket$Planner", "inAll", "I", false)
  | 17 => ("FortyBasket$Planner", "ruledCount", "I", false)
  | 18 => ("FortyBasket$Planner", "livedPaid", "I", false)
  | _ => ("FortyBasket$Planner", "livedThings", "I", false)
def tyX2 : Nat → FieldType := fun k => match k with
  | 0 => .object "FortyBasket$World"
  | 1 => .object "FortyBasket$Till"
  | 2 => .object "FortyBasket$Best"
  | 3 => .array .int
  | 4 => .array .int
  | 5 => .array .int
  | 6 => .array .int
  | 7 => .array .int
  | 8 => .array .int
  | 9 => .array .int
  | 10 => .object "FortyBasket$State"
  | 11 => .int
  | 12 => .int
  | 13 => .int
  | 14 => .int
  | 15 => .int
  | 16 => .int
  | 17 => .int
  | 18 => .int
  | _ => .int
theorem nmX2 : ∀ a, a < 20 → ∀ b, b < 20 → a ≠ b → (TX2 a).2.1 ≠ (TX2 b).2.1 := by decide +kernel
theorem tyX2_ok : ∀ k, k < 20 → parseFieldDescriptor (TX2 k).2.2.1 = some (tyX2 k) := by decide +kernel
def RX3 : String := "FortyBasket$Rule"
def TX3 : u_T := fun k => match k with
  | 0 => ("FortyBasket$Rule", "instructions", "[I", true)
  | 1 => ("FortyBasket$Rule", "sumFrom", "[I", true)
  | 2 => ("FortyBasket$Rule", "testFrom", "[I", true)
  | 3 => ("FortyBasket$Rule", "testEnd", "[I", true)
  | 4 => ("FortyBasket$Rule", "stack", "[J", true)
  | 5 => ("FortyBasket$Rule", "length", "I", false)
  | _ => ("FortyBasket$Rule", "clauses", "I", false)
def tyX3 : Nat → FieldType := fun k => match k with
  | 0 => .array .int
  | 1 => .array .int
  | 2 => .array .int
  | 3 => .array .int
  | 4 => .array .long
  | 5 => .int
  | _ => .int
theorem nmX3 : ∀ a, a < 7 → ∀ b, b < 7 → a ≠ b → (TX3 a).2.1 ≠ (TX3 b).2.1 := by decide +kernel
theorem tyX3_ok : ∀ k, k < 7 → parseFieldDescriptor (TX3 k).2.2.1 = some (tyX3 k) := by decide +kernel
def RX4 : String := "FortyBasket$RuleReader"
def TX4 : u_T := fun k => match k with
  | 0 => ("FortyBasket$RuleReader", "text", "LFortyBasket$Text;", true)
  | 1 => ("FortyBasket$RuleReader", "rule", "LFortyBasket$Rule;", false)
  | _ => ("FortyBasket$RuleReader", "values", "I", false)
def tyX4 : Nat → FieldType := fun k => match k with
  | 0 => .object "FortyBasket$Text"
  | 1 => .object "FortyBasket$Rule"
  | _ => .int
theorem nmX4 : ∀ a, a < 3 → ∀ b, b < 3 → a ≠ b → (TX4 a).2.1 ≠ (TX4 b).2.1 := by decide +kernel
theorem tyX4_ok : ∀ k, k < 3 → parseFieldDescriptor (TX4 k).2.2.1 = some (tyX4 k) := by decide +kernel
def RX5 : String := "FortyBasket$Shop"
def TX5 : u_T := fun k => match k with
  | 0 => ("FortyBasket$Shop", "open", "Z", false)
  | 1 => ("FortyBasket$Shop", "carriage", "I", false)
  | 2 => ("FortyBasket$Shop", "free", "I", false)
  | 3 => ("FortyBasket$Shop", "again", "Z", false)
  | 4 => ("FortyBasket$Shop", "things", "I", false)
  | 5 => ("FortyBasket$Shop", "price", "[I", true)
  | 6 => ("FortyBasket$Shop", "worth", "[I", true)
  | 7 => ("FortyBasket$Shop", "stock", "[I", true)
  | 8 => ("FortyBasket$Shop", "wants", "I", false)
  | 9 => ("FortyBasket$Shop", "wantThing", "[I", true)
  | 10 => ("FortyBasket$Shop", "wantDay", "[I", true)
  | 11 => ("FortyBasket$Shop", "sales", "I", false)
  | 12 => ("FortyBasket$Shop", "saleFirst", "[I", true)
  | 13 => ("FortyBasket$Shop", "saleLast", "[I", true)
  | 14 => ("FortyBasket$Shop", "salePercent", "[I", true)
  | 15 => ("FortyBasket$Shop", "codes", "I", false)
  | 16 => ("FortyBasket$Shop", "codeKind", "[I", true)
  | 17 => ("FortyBasket$Shop", "codeMuch", "[I", true)
  | 18 => ("FortyBasket$Shop", "codeFrom", "[I", true)
  | _ => ("FortyBasket$Shop", "codeAlone", "[I", true)
def tyX5 : Nat → FieldType := fun k => match k with
  | 0 => .boolean
  | 1 => .int
  | 2 => .int
  | 3 => .boolean
  | 4 => .int
  | 5 => .array .int
  | 6 => .array .int
  | 7 => .array .int
  | 8 => .int
  | 9 => .array .int
  | 10 => .array .int
  | 11 => .int
  | 12 => .array .int
  | 13 => .array .int
  | 14 => .array .int
  | 15 => .int
  | 16 => .array .int
  | 17 => .array .int
  | 18 => .array .int
  | _ => .array .int
theorem nmX5 : ∀ a, a < 20 → ∀ b, b < 20 → a ≠ b → (TX5 a).2.1 ≠ (TX5 b).2.1 := by decide +kernel
theorem tyX5_ok : ∀ k, k < 20 → parseFieldDescriptor (TX5 k).2.2.1 = some (tyX5 k) := by decide +kernel
def RX6 : String := "FortyBasket$ShopReader"
def TX6 : u_T := fun k => match k with
  | 0 => ("FortyBasket$ShopReader", "text", "LFortyBasket$Text;", true)
  | 1 => ("FortyBasket$ShopReader", "shop", "LFortyBasket$Shop;", false)
  | _ => ("FortyBasket$ShopReader", "clauses", "I", false)
def tyX6 : Nat → FieldType := fun k => match k with
  | 0 => .object "FortyBasket$Text"
  | 1 => .object "FortyBasket$Shop"
  | _ => .int
theorem nmX6 : ∀ a, a < 3 → ∀ b, b < 3 → a ≠ b → (TX6 a).2.1 ≠ (TX6 b).2.1 := by decide +kernel
theorem tyX6_ok : ∀ k, k < 3 → parseFieldDescriptor (TX6 k).2.2.1 = some (tyX6 k) := by decide +kernel
def RX7 : String := "FortyBasket$State"
def TX7 : u_T := fun k => match k with
  | 0 => ("FortyBasket$State", "basket", "[I", true)
  | 1 => ("FortyBasket$State", "stock", "[I", true)
  | 2 => ("FortyBasket$State", "had", "[I", true)
  | 3 => ("FortyBasket$State", "looks", "[I", true)
  | 4 => ("FortyBasket$State", "last", "[I", true)
  | 5 => ("FortyBasket$State", "lastDear", "[I", true)
  | 6 => ("FortyBasket$State", "laid", "[I", true)
  | 7 => ("FortyBasket$State", "lastLaid", "[I", true)
  | 8 => ("FortyBasket$State", "laidCount", "I", false)
  | 9 => ("FortyBasket$State", "lastLaidCount", "I", false)
  | 10 => ("FortyBasket$State", "used", "I", false)
  | 11 => ("FortyBasket$State", "paid", "I", false)
  | 12 => ("FortyBasket$State", "lastPaid", "I", false)
  | _ => ("FortyBasket$State", "day", "I", false)
def tyX7 : Nat → FieldType := fun k => match k with
  | 0 => .array .int
  | 1 => .array .int
  | 2 => .array .int
  | 3 => .array .int
  | 4 => .array .int
  | 5 => .array .int
  | 6 => .array .int
  | 7 => .array .int
  | 8 => .int
  | 9 => .int
  | 10 => .int
  | 11 => .int
  | 12 => .int
  | _ => .int
theorem nmX7 : ∀ a, a < 14 → ∀ b, b < 14 → a ≠ b → (TX7 a).2.1 ≠ (TX7 b).2.1 := by decide +kernel
theorem tyX7_ok : ∀ k, k < 14 → parseFieldDescriptor (TX7 k).2.2.1 = some (tyX7 k) := by decide +kernel
def RX8 : String := "FortyBasket$Text"
def TX8 : u_T := fun k => match k with
  | 0 => ("FortyBasket$Text", "bytes", "[B", true)
  | 1 => ("FortyBasket$Text", "length", "I", false)
  | 2 => ("FortyBasket$Text", "place", "I", false)
  | 3 => ("FortyBasket$Text", "token", "I", false)
  | 4 => ("FortyBasket$Text", "at", "I", false)
  | 5 => ("FortyBasket$Text", "number", "I", false)
  | _ => ("FortyBasket$Text", "fault", "I", false)
def tyX8 : Nat → FieldType := fun k => match k with
  | 0 => .array .byte
  | 1 => .int
  | 2 => .int
  | 3 => .int
  | 4 => .int
  | 5 => .int
  | _ => .int
theorem nmX8 : ∀ a, a < 7 → ∀ b, b < 7 → a ≠ b → (TX8 a).2.1 ≠ (TX8 b).2.1 := by decide +kernel
theorem tyX8_ok : ∀ k, k < 7 → parseFieldDescriptor (TX8 k).2.2.1 = some (tyX8 k) := by decide +kernel
def RX9 : String := "FortyBasket$Till"
def TX9 : u_T := fun k => match k with
  | 0 => ("FortyBasket$Till", "now", "LFortyBasket$World;", true)
  | 1 => ("FortyBasket$Till", "rules", "[LFortyBasket$Rule;", true)
  | 2 => ("FortyBasket$Till", "ruleCount", "I", false)
  | 3 => ("FortyBasket$Till", "words", "[J", true)
  | _ => ("FortyBasket$Till", "carriage", "I", false)
def tyX9 : Nat → FieldType := fun k => match k with
  | 0 => .object "FortyBasket$World"
  | 1 => .array (.object "FortyBasket$Rule")
  | 2 => .int
  | 3 => .array .long
  | _ => .int
theorem nmX9 : ∀ a, a < 5 → ∀ b, b < 5 → a ≠ b → (TX9 a).2.1 ≠ (TX9 b).2.1 := by decide +kernel
theorem tyX9_ok : ∀ k, k < 5 → parseFieldDescriptor (TX9 k).2.2.1 = some (tyX9 k) := by decide +kernel
def RX10 : String := "FortyBasket$World"
def TX10 : u_T := fun k => match k with
  | 0 => ("FortyBasket$World", "shop", "LFortyBasket$Shop;", false)
  | 1 => ("FortyBasket$World", "state", "LFortyBasket$State;", true)
  | 2 => ("FortyBasket$World", "inForce", "I", false)
  | 3 => ("FortyBasket$World", "x", "I", false)
  | 4 => ("FortyBasket$World", "toldThing", "[I", true)
  | 5 => ("FortyBasket$World", "toldDay", "[I", true)
  | 6 => ("FortyBasket$World", "toldLooks", "[I", true)
  | 7 => ("FortyBasket$World", "toldDear", "[I", true)
  | _ => ("FortyBasket$World", "toldCount", "I", false)
def tyX10 : Nat → FieldType := fun k => match k with
  | 0 => .object "FortyBasket$Shop"
  | 1 => .object "FortyBasket$State"
  | 2 => .int
  | 3 => .int
  | 4 => .array .int
  | 5 => .array .int
  | 6 => .array .int
  | 7 => .array .int
  | _ => .int
theorem nmX10 : ∀ a, a < 9 → ∀ b, b < 9 → a ≠ b → (TX10 a).2.1 ≠ (TX10 b).2.1 := by decide +kernel
theorem tyX10_ok : ∀ k, k < 9 → parseFieldDescriptor (TX10 k).2.2.1 = some (tyX10 k) := by decide +kernel
def RX11 : String := "FortyBasket"
def TX11 : u_T := fun k => match k with
  | 0 => ("FortyBasket", "tape", "LFortyBasket$Text;", true)
  | 1 => ("FortyBasket", "shopReader", "LFortyBasket$ShopReader;", true)
  | 2 => ("FortyBasket", "ruleReader", "LFortyBasket$RuleReader;", true)
  | 3 => ("FortyBasket", "now", "LFortyBasket$World;", true)
  | 4 => ("FortyBasket", "till", "LFortyBasket$Till;", true)
  | 5 => ("FortyBasket", "planner", "LFortyBasket$Planner;", true)
  | 6 => ("FortyBasket", "past", "LFortyBasket$Past;", true)
  | 7 => ("FortyBasket", "images", "[LFortyBasket$World;", true)
  | _ => ("FortyBasket", "imaged", "[Z", true)
def tyX11 : Nat → FieldType := fun k => match k with
  | 0 => .object "FortyBasket$Text"
  | 1 => .object "FortyBasket$ShopReader"
  | 2 => .object "FortyBasket$RuleReader"
  | 3 => .object "FortyBasket$World"
  | 4 => .object "FortyBasket$Till"
  | 5 => .object "FortyBasket$Planner"
  | 6 => .object "FortyBasket$Past"
  | 7 => .array (.object "FortyBasket$World")
  | _ => .array .boolean
theorem nmX11 : ∀ a, a < 9 → ∀ b, b < 9 → a ≠ b → (TX11 a).2.1 ≠ (TX11 b).2.1 := by decide +kernel
theorem tyX11_ok : ∀ k, k < 9 → parseFieldDescriptor (TX11 k).2.2.1 = some (tyX11 k) := by decide +kernel
def RX12 : String := "FortyBasketModel"
def TX12 : u_T := fun k => match k with
  | 0 => ("FortyBasketModel", "tape", "[B", true)
  | 1 => ("FortyBasketModel", "taped", "I", false)
  | 2 => ("FortyBasketModel", "rules", "I", false)
  | 3 => ("FortyBasketModel", "sign", "[I", true)
  | 4 => ("FortyBasketModel", "length", "[I", true)
  | 5 => ("FortyBasketModel", "clause", "[I", true)
  | 6 => ("FortyBasketModel", "clauses", "[I", true)
  | 7 => ("FortyBasketModel", "read", "[I", true)
  | 8 => ("FortyBasketModel", "next", "I", false)
  | 9 => ("FortyBasketModel", "wrong", "I", false)
  | 10 => ("FortyBasketModel", "number", "I", false)
  | 11 => ("FortyBasketModel", "text", "I", false)
  | 12 => ("FortyBasketModel", "made", "I", false)
  | 13 => ("FortyBasketModel", "deep", "I", false)
  | 14 => ("FortyBasketModel", "lines", "I", false)
  | 15 => ("FortyBasketModel", "open", "[I", true)
  | 16 => ("FortyBasketModel", "opened", "I", false)
  | 17 => ("FortyBasketModel", "stack", "[J", true)
  | 18 => ("FortyBasketModel", "top", "I", false)
  | 19 => ("FortyBasketModel", "word", "[J", true)
  | 20 => ("FortyBasketModel", "said", "[I", true)
  | 21 => ("FortyBasketModel", "force", "I", false)
  | 22 => ("FortyBasketModel", "x", "I", false)
  | 23 => ("FortyBasketModel", "codeRow", "[I", true)
  | 24 => ("FortyBasketModel", "codeMany", "I", false)
  | 25 => ("FortyBasketModel", "carried", "I", false)
  | 26 => ("FortyBasketModel", "wasSaid", "[I", true)
  | 27 => ("FortyBasketModel", "undone", "I", false)
  | 28 => ("FortyBasketModel", "bestRow", "[I", true)
  | 29 => ("FortyBasketModel", "bestMany", "I", false)
  | 30 => ("FortyBasketModel", "bestMuch", "I", false)
  | 31 => ("FortyBasketModel", "thingRow", "[I", true)
  | 32 => ("FortyBasketModel", "wantRow", "[I", true)
  | 33 => ("FortyBasketModel", "sums", "[I", true)
  | 34 => ("FortyBasketModel", "kept", "[I", true)
  | 35 => ("FortyBasketModel", "sentRow", "[I", true)
  | 36 => ("FortyBasketModel", "receiptMany", "I", false)
  | 37 => ("FortyBasketModel", "receiptBits", "I", false)
  | 38 => ("FortyBasketModel", "receiptLong", "I", false)
  | 39 => ("FortyBasketModel", "dears", "[I", true)
  | 40 => ("FortyBasketModel", "drawX", "J", false)
  | 41 => ("FortyBasketModel", "drawnPaid", "I", false)
  | 42 => ("FortyBasketModel", "drawnMany", "I", false)
  | 43 => ("FortyBasketModel", "images", "[I", true)
  | 44 => ("FortyBasketModel", "imageForce", "[I", true)
  | 45 => ("FortyBasketModel", "imageX", "[I", true)
  | _ => ("FortyBasketModel", "isMade", "[Z", true)
def tyX12 : Nat → FieldType := fun k => match k with
  | 0 => .array .byte
  | 1 => .int
  | 2 => .int
  | 3 => .array .int
  | 4 => .array .int
  | 5 => .array .int
  | 6 => .array .int
  | 7 => .array .int
  | 8 => .int
  | 9 => .int
  | 10 => .int
  | 11 => .int
  | 12 => .int
  | 13 => .int
  | 14 => .int
  | 15 => .array .int
  | 16 => .int
  | 17 => .array .long
  | 18 => .int
  | 19 => .array .long
  | 20 => .array .int
  | 21 => .int
  | 22 => .int
  | 23 => .array .int
  | 24 => .int
  | 25 => .int
  | 26 => .array .int
  | 27 => .int
  | 28 => .array .int
  | 29 => .int
  | 30 => .int
  | 31 => .array .int
  | 32 => .array .int
  | 33 => .array .int
  | 34 => .array .int
  | 35 => .array .int
  | 36 => .int
  | 37 => .int
  | 38 => .int
  | 39 => .array .int
  | 40 => .long
  | 41 => .int
  | 42 => .int
  | 43 => .array .int
  | 44 => .array .int
  | 45 => .array .int
  | _ => .array .boolean
theorem nmX12 : ∀ a, a < 47 → ∀ b, b < 47 → a ≠ b → (TX12 a).2.1 ≠ (TX12 b).2.1 := by decide +kernel
theorem tyX12_ok : ∀ k, k < 47 → parseFieldDescriptor (TX12 k).2.2.1 = some (tyX12 k) := by decide +kernel
