def RX0 : String := "PlanMemo$Bodies"
def TX0 : u_T := fun k => match k with
  | 0 => ("PlanMemo$Bodies", "kept", "[I", true)
  | 1 => ("PlanMemo$Bodies", "chain", "[I", true)
  | 2 => ("PlanMemo$Bodies", "ran", "I", false)
  | 3 => ("PlanMemo$Bodies", "a", "J", false)
  | 4 => ("PlanMemo$Bodies", "b", "J", false)
  | _ => ("PlanMemo$Bodies", "\x72", "J", false)
def tyX0 : Nat → FieldType := fun k => match k with
  | 0 => .array .int
  | 1 => .array .int
  | 2 => .int
  | 3 => .long
  | 4 => .long
  | _ => .long
theorem nmX0 : ∀ a, a < 6 → ∀ b, b < 6 → a ≠ b → (TX0 a).2.1 ≠ (TX0 b).2.1 := by decide +kernel
theorem tyX0_ok : ∀ k, k < 6 → parseFieldDescriptor (TX0 k).2.2.1 = some (tyX0 k) := by decide +kernel
def RX1 : String := "PlanMemo$Costs"
def TX1 : u_T := fun k => match k with
  | 0 => ("PlanMemo$Costs", "memo", "LPlanMemo$Memo;", true)
  | 1 => ("PlanMemo$Costs", "ways", "LPlanMemo$Ways;", true)
  | 2 => ("PlanMemo$Costs", "least", "[J", true)
  | 3 => ("PlanMemo$Costs", "list", "[I", true)
  | 4 => ("PlanMemo$Costs", "marked", "[B", true)
  | 5 => ("PlanMemo$Costs", "listed", "I", false)
  | _ => ("PlanMemo$Costs", "version", "I", false)
def tyX1 : Nat → FieldType := fun k => match k with
  | 0 => .object "PlanMemo$Memo"
  | 1 => .object "PlanMemo$Ways"
  | 2 => .array .long
  | 3 => .array .int
  | 4 => .array .byte
  | 5 => .int
  | _ => .int
theorem nmX1 : ∀ a, a < 7 → ∀ b, b < 7 → a ≠ b → (TX1 a).2.1 ≠ (TX1 b).2.1 := by decide +kernel
theorem tyX1_ok : ∀ k, k < 7 → parseFieldDescriptor (TX1 k).2.2.1 = some (tyX1 k) := by decide +kernel
def RX2 : String := "PlanMemo$Firing"
def TX2 : u_T := fun k => match k with
  | 0 => ("PlanMemo$Firing", "memo", "LPlanMemo$Memo;", true)
  | 1 => ("PlanMemo$Firing", "e", "I", false)
  | 2 => ("PlanMemo$Firing", "rule", "I", false)
  | 3 => ("PlanMemo$Firing", "f", "I", false)
  | 4 => ("PlanMemo$Firing", "innerKind", "I", false)
  | 5 => ("PlanMemo$Firing", "innerOwn", "I", false)
  | 6 => ("PlanMemo$Firing", "innerLeft", "I", false)
  | 7 => ("PlanMemo$Firing", "innerRight", "I", false)
  | 8 => ("PlanMemo$Firing", "kind", "I", false)
  | 9 => ("PlanMemo$Firing", "own", "I", false)
  | 10 => ("PlanMemo$Firing", "left", "I", false)
  | _ => ("PlanMemo$Firing", "right", "I", false)
def tyX2 : Nat → FieldType := fun k => match k with
  | 0 => .object "PlanMemo$Memo"
  | 1 => .int
  | 2 => .int
  | 3 => .int
  | 4 => .int
  | 5 => .int
  | 6 => .int
  | 7 => .int
  | 8 => .int
  | 9 => .int
  | 10 => .int
  | _ => .int
theorem nmX2 : ∀ a, a < 12 → ∀ b, b < 12 → a ≠ b → (TX2 a).2.1 ≠ (TX2 b).2.1 := by decide +kernel
theorem tyX2_ok : ∀ k, k < 12 → parseFieldDescriptor (TX2 k).2.2.1 = some (tyX2 k) := by decide +kernel
def RX3 : String := "PlanMemo$Memo"
def TX3 : u_T := fun k => match k with
  | 0 => ("PlanMemo$Memo", "tables", "I", false)
  | 1 => ("PlanMemo$Memo", "tableFacts", "[I", true)
  | 2 => ("PlanMemo$Memo", "distinct", "[I", true)
  | 3 => ("PlanMemo$Memo", "expressions", "I", false)
  | 4 => ("PlanMemo$Memo", "kind", "[I", true)
  | 5 => ("PlanMemo$Memo", "own", "[I", true)
  | 6 => ("PlanMemo$Memo", "left", "[I", true)
  | 7 => ("PlanMemo$Memo", "right", "[I", true)
  | 8 => ("PlanMemo$Memo", "home", "[I", true)
  | 9 => ("PlanMemo$Memo", "groups", "I", false)
  | 10 => ("PlanMemo$Memo", "into", "[I", true)
  | 11 => ("PlanMemo$Memo", "columns", "[I", true)
  | 12 => ("PlanMemo$Memo", "members", "[J", true)
  | 13 => ("PlanMemo$Memo", "settled", "[J", true)
  | 14 => ("PlanMemo$Memo", "firedBy", "[I", true)
  | 15 => ("PlanMemo$Memo", "allowed", "I", false)
  | 16 => ("PlanMemo$Memo", "seed", "I", false)
  | _ => ("PlanMemo$Memo", "version", "I", false)
def tyX3 : Nat → FieldType := fun k => match k with
  | 0 => .int
  | 1 => .array .int
  | 2 => .array .int
  | 3 => .int
  | 4 => .array .int
  | 5 => .array .int
  | 6 => .array .int
  | 7 => .array .int
  | 8 => .array .int
  | 9 => .int
  | 10 => .array .int
  | 11 => .array .int
  | 12 => .array .long
  | 13 => .array .long
  | 14 => .array .int
  | 15 => .int
  | 16 => .int
  | _ => .int
theorem nmX3 : ∀ a, a < 18 → ∀ b, b < 18 → a ≠ b → (TX3 a).2.1 ≠ (TX3 b).2.1 := by decide +kernel
theorem tyX3_ok : ∀ k, k < 18 → parseFieldDescriptor (TX3 k).2.2.1 = some (tyX3 k) := by decide +kernel
def RX4 : String := "PlanMemo$Plan"
def TX4 : u_T := fun k => match k with
  | 0 => ("PlanMemo$Plan", "facts", "[I", true)
  | 1 => ("PlanMemo$Plan", "nodeCosts", "[J", true)
  | 2 => ("PlanMemo$Plan", "stack", "[I", true)
  | _ => ("PlanMemo$Plan", "nodes", "I", false)
def tyX4 : Nat → FieldType := fun k => match k with
  | 0 => .array .int
  | 1 => .array .long
  | 2 => .array .int
  | _ => .int
theorem nmX4 : ∀ a, a < 4 → ∀ b, b < 4 → a ≠ b → (TX4 a).2.1 ≠ (TX4 b).2.1 := by decide +kernel
theorem tyX4_ok : ∀ k, k < 4 → parseFieldDescriptor (TX4 k).2.2.1 = some (tyX4 k) := by decide +kernel
def RX5 : String := "PlanMemo$Reade\x72"
def TX5 : u_T := fun k => match k with
  | 0 => ("PlanMemo$Reade\x72", "memo", "LPlanMemo$Memo;", true)
  | 1 => ("PlanMemo$Reade\x72", "row", "LPlanMemo$Shelf;", false)
  | 2 => ("PlanMemo$Reade\x72", "at", "I", false)
  | 3 => ("PlanMemo$Reade\x72", "parts", "I", false)
  | 4 => ("PlanMemo$Reade\x72", "kind", "[I", true)
  | 5 => ("PlanMemo$Reade\x72", "own", "[I", true)
  | 6 => ("PlanMemo$Reade\x72", "left", "[I", true)
  | 7 => ("PlanMemo$Reade\x72", "right", "[I", true)
  | 8 => ("PlanMemo$Reade\x72", "columns", "[I", true)
  | 9 => ("PlanMemo$Reade\x72", "groups", "[I", true)
  | 10 => ("PlanMemo$Reade\x72", "open", "I", false)
  | 11 => ("PlanMemo$Reade\x72", "openKind", "[I", true)
  | 12 => ("PlanMemo$Reade\x72", "openOwn", "[I", true)
  | 13 => ("PlanMemo$Reade\x72", "openLeft", "[I", true)
  | _ => ("PlanMemo$Reade\x72", "openFrom", "[I", true)
def tyX5 : Nat → FieldType := fun k => match k with
  | 0 => .object "PlanMemo$Memo"
  | 1 => .object "PlanMemo$Shelf"
  | 2 => .int
  | 3 => .int
  | 4 => .array .int
  | 5 => .array .int
  | 6 => .array .int
  | 7 => .array .int
  | 8 => .array .int
  | 9 => .array .int
  | 10 => .int
  | 11 => .array .int
  | 12 => .array .int
  | 13 => .array .int
  | _ => .array .int
theorem nmX5 : ∀ a, a < 15 → ∀ b, b < 15 → a ≠ b → (TX5 a).2.1 ≠ (TX5 b).2.1 := by decide +kernel
theorem tyX5_ok : ∀ k, k < 15 → parseFieldDescriptor (TX5 k).2.2.1 = some (tyX5 k) := by decide +kernel
def RX6 : String := "PlanMemo$Shelf"
def TX6 : u_T := fun k => match k with
  | 0 => ("PlanMemo$Shelf", "elements", "[J", true)
  | 1 => ("PlanMemo$Shelf", "size", "I", false)
  | 2 => ("PlanMemo$Shelf", "sort", "I", false)
  | _ => ("PlanMemo$Shelf", "shown", "I", false)
def tyX6 : Nat → FieldType := fun k => match k with
  | 0 => .array .long
  | 1 => .int
  | 2 => .int
  | _ => .int
theorem nmX6 : ∀ a, a < 4 → ∀ b, b < 4 → a ≠ b → (TX6 a).2.1 ≠ (TX6 b).2.1 := by decide +kernel
theorem tyX6_ok : ∀ k, k < 4 → parseFieldDescriptor (TX6 k).2.2.1 = some (tyX6 k) := by decide +kernel
def RX7 : String := "PlanMemo$Sizes"
def TX7 : u_T := fun k => match k with
  | 0 => ("PlanMemo$Sizes", "memo", "LPlanMemo$Memo;", true)
  | 1 => ("PlanMemo$Sizes", "rows", "[I", true)
  | 2 => ("PlanMemo$Sizes", "trees", "[J", false)
  | 3 => ("PlanMemo$Sizes", "treesBelow", "[J", false)
  | _ => ("PlanMemo$Sizes", "version", "I", false)
def tyX7 : Nat → FieldType := fun k => match k with
  | 0 => .object "PlanMemo$Memo"
  | 1 => .array .int
  | 2 => .array .long
  | 3 => .array .long
  | _ => .int
theorem nmX7 : ∀ a, a < 5 → ∀ b, b < 5 → a ≠ b → (TX7 a).2.1 ≠ (TX7 b).2.1 := by decide +kernel
theorem tyX7_ok : ∀ k, k < 5 → parseFieldDescriptor (TX7 k).2.2.1 = some (tyX7 k) := by decide +kernel
def RX8 : String := "PlanMemo$Ways"
def TX8 : u_T := fun k => match k with
  | 0 => ("PlanMemo$Ways", "memo", "LPlanMemo$Memo;", true)
  | 1 => ("PlanMemo$Ways", "sizes", "LPlanMemo$Sizes;", true)
  | 2 => ("PlanMemo$Ways", "bodies", "LPlanMemo$Bodies;", true)
  | 3 => ("PlanMemo$Ways", "pricesOfExpressions", "[J", true)
  | 4 => ("PlanMemo$Ways", "pricesOfGroups", "[J", true)
  | 5 => ("PlanMemo$Ways", "allowed", "I", false)
  | 6 => ("PlanMemo$Ways", "group", "I", false)
  | 7 => ("PlanMemo$Ways", "orde\x72", "I", false)
  | 8 => ("PlanMemo$Ways", "place", "I", false)
  | 9 => ("PlanMemo$Ways", "e", "I", false)
  | 10 => ("PlanMemo$Ways", "slot", "I", false)
  | 11 => ("PlanMemo$Ways", "kind", "I", false)
  | 12 => ("PlanMemo$Ways", "at", "I", false)
  | 13 => ("PlanMemo$Ways", "first", "I", false)
  | 14 => ("PlanMemo$Ways", "second", "I", false)
  | _ => ("PlanMemo$Ways", "price", "J", false)
def tyX8 : Nat → FieldType := fun k => match k with
  | 0 => .object "PlanMemo$Memo"
  | 1 => .object "PlanMemo$Sizes"
  | 2 => .object "PlanMemo$Bodies"
  | 3 => .array .long
  | 4 => .array .long
  | 5 => .int
  | 6 => .int
  | 7 => .int
  | 8 => .int
  | 9 => .int
  | 10 => .int
  | 11 => .int
  | 12 => .int
  | 13 => .int
  | 14 => .int
  | _ => .long
theorem nmX8 : ∀ a, a < 16 → ∀ b, b < 16 → a ≠ b → (TX8 a).2.1 ≠ (TX8 b).2.1 := by decide +kernel
theorem tyX8_ok : ∀ k, k < 16 → parseFieldDescriptor (TX8 k).2.2.1 = some (tyX8 k) := by decide +kernel
def RX9 : String := "PlanMemo"
def TX9 : u_T := fun k => match k with
  | 0 => ("PlanMemo", "shelves", "[LPlanMemo$Shelf;", true)
  | 1 => ("PlanMemo", "memo", "LPlanMemo$Memo;", true)
  | 2 => ("PlanMemo", "image", "LPlanMemo$Memo;", true)
  | 3 => ("PlanMemo", "firing", "LPlanMemo$Firing;", true)
  | 4 => ("PlanMemo", "sizes", "LPlanMemo$Sizes;", true)
  | 5 => ("PlanMemo", "costs", "LPlanMemo$Costs;", true)
  | 6 => ("PlanMemo", "reade\x72", "LPlanMemo$Reader;", true)
  | 7 => ("PlanMemo", "bodies", "LPlanMemo$Bodies;", true)
  | 8 => ("PlanMemo", "refusals", "[I", true)
  | 9 => ("PlanMemo", "plan", "LPlanMemo$Plan;", false)
  | 10 => ("PlanMemo", "spare", "LPlanMemo$Plan;", false)
  | 11 => ("PlanMemo", "imaged", "Z", false)
  | _ => ("PlanMemo", "fault", "I", false)
def tyX9 : Nat → FieldType := fun k => match k with
  | 0 => .array (.object "PlanMemo$Shelf")
  | 1 => .object "PlanMemo$Memo"
  | 2 => .object "PlanMemo$Memo"
  | 3 => .object "PlanMemo$Firing"
  | 4 => .object "PlanMemo$Sizes"
  | 5 => .object "PlanMemo$Costs"
  | 6 => .object "PlanMemo$Reade\x72"
  | 7 => .object "PlanMemo$Bodies"
  | 8 => .array .int
  | 9 => .object "PlanMemo$Plan"
  | 10 => .object "PlanMemo$Plan"
  | 11 => .boolean
  | _ => .int
theorem nmX9 : ∀ a, a < 13 → ∀ b, b < 13 → a ≠ b → (TX9 a).2.1 ≠ (TX9 b).2.1 := by decide +kernel
theorem tyX9_ok : ∀ k, k < 13 → parseFieldDescriptor (TX9 k).2.2.1 = some (tyX9 k) := by decide +kernel
def RX10 : String := "PlanMemoModel"
def TX10 : u_T := fun k => match k with
  | 0 => ("PlanMemoModel", "tables", "I", false)
  | 1 => ("PlanMemoModel", "many", "I", false)
  | 2 => ("PlanMemoModel", "groups", "I", false)
  | 3 => ("PlanMemoModel", "fires", "I", false)
  | 4 => ("PlanMemoModel", "allowed", "I", false)
  | 5 => ("PlanMemoModel", "seed", "I", false)
  | 6 => ("PlanMemoModel", "fault", "I", false)
  | 7 => ("PlanMemoModel", "bodies", "I", false)
  | 8 => ("PlanMemoModel", "nodes", "I", false)
  | 9 => ("PlanMemoModel", "refused", "[I", true)
  | 10 => ("PlanMemoModel", "distinct", "[I", true)
  | 11 => ("PlanMemoModel", "rowsOf", "[I", true)
  | 12 => ("PlanMemoModel", "columnsOf", "[I", true)
  | 13 => ("PlanMemoModel", "orderOf", "[I", true)
  | 14 => ("PlanMemoModel", "placeOf", "[I", true)
  | 15 => ("PlanMemoModel", "kind", "[I", true)
  | 16 => ("PlanMemoModel", "pa\x72", "[I", true)
  | 17 => ("PlanMemoModel", "ex", "[I", true)
  | 18 => ("PlanMemoModel", "ey", "[I", true)
  | 19 => ("PlanMemoModel", "in", "[I", true)
  | 20 => ("PlanMemoModel", "into", "[I", true)
  | 21 => ("PlanMemoModel", "gone", "[Z", true)
  | 22 => ("PlanMemoModel", "was", "[Z", true)
  | 23 => ("PlanMemoModel", "firedBy", "[I", true)
  | 24 => ("PlanMemoModel", "held", "[I", true)
  | 25 => ("PlanMemoModel", "sort", "[I", true)
  | 26 => ("PlanMemoModel", "size", "[I", true)
  | 27 => ("PlanMemoModel", "shown", "[I", true)
  | 28 => ("PlanMemoModel", "cells", "[J", true)
  | 29 => ("PlanMemoModel", "carried", "[J", true)
  | 30 => ("PlanMemoModel", "rows", "[I", true)
  | 31 => ("PlanMemoModel", "columns", "[I", true)
  | 32 => ("PlanMemoModel", "least", "[I", true)
  | 33 => ("PlanMemoModel", "cost", "[J", true)
  | 34 => ("PlanMemoModel", "prices", "[J", true)
  | 35 => ("PlanMemoModel", "ways", "I", false)
  | 36 => ("PlanMemoModel", "wayKind", "[I", true)
  | 37 => ("PlanMemoModel", "wayBy", "[I", true)
  | 38 => ("PlanMemoModel", "wayOne", "[I", true)
  | 39 => ("PlanMemoModel", "wayTwo", "[I", true)
  | 40 => ("PlanMemoModel", "wayAt", "[I", true)
  | 41 => ("PlanMemoModel", "wayPrice", "[J", true)
  | 42 => ("PlanMemoModel", "nodeKind", "[I", true)
  | 43 => ("PlanMemoModel", "nodePa\x72", "[I", true)
  | 44 => ("PlanMemoModel", "nodeGroup", "[I", true)
  | 45 => ("PlanMemoModel", "nodeOrde\x72", "[I", true)
  | 46 => ("PlanMemoModel", "nodePlace", "[I", true)
  | 47 => ("PlanMemoModel", "nodeAt", "[I", true)
  | 48 => ("PlanMemoModel", "nodeMany", "[I", true)
  | 49 => ("PlanMemoModel", "nodeHalf", "[I", true)
  | 50 => ("PlanMemoModel", "nodeBy", "[I", true)
  | 51 => ("PlanMemoModel", "nodeCost", "[J", true)
  | 52 => ("PlanMemoModel", "made", "I", false)
  | 53 => ("PlanMemoModel", "tKind", "[I", true)
  | 54 => ("PlanMemoModel", "tPa\x72", "[I", true)
  | 55 => ("PlanMemoModel", "tGroup", "[I", true)
  | 56 => ("PlanMemoModel", "tOrde\x72", "[I", true)
  | 57 => ("PlanMemoModel", "tPlace", "[I", true)
  | 58 => ("PlanMemoModel", "tAt", "[I", true)
  | 59 => ("PlanMemoModel", "tMany", "[I", true)
  | 60 => ("PlanMemoModel", "tHalf", "[I", true)
  | 61 => ("PlanMemoModel", "tCost", "[J", true)
  | 62 => ("PlanMemoModel", "trace", "[I", true)
  | 63 => ("PlanMemoModel", "letters", "[I", true)
  | 64 => ("PlanMemoModel", "lettersMany", "I", false)
  | 65 => ("PlanMemoModel", "nextE", "I", false)
  | 66 => ("PlanMemoModel", "nextRule", "I", false)
  | 67 => ("PlanMemoModel", "nextF", "I", false)
  | 68 => ("PlanMemoModel", "text", "[I", false)
  | 69 => ("PlanMemoModel", "textSize", "I", false)
  | 70 => ("PlanMemoModel", "at", "I", false)
  | 71 => ("PlanMemoModel", "isKept", "Z", false)
  | 72 => ("PlanMemoModel", "keptInts", "[I", false)
  | 73 => ("PlanMemoModel", "keptGone", "[Z", false)
  | 74 => ("PlanMemoModel", "keptWas", "[Z", false)
  | 75 => ("PlanMemoModel", "what", "[I", true)
  | 76 => ("PlanMemoModel", "demanded", "[Z", true)
  | 77 => ("PlanMemoModel", "trees", "[J", true)
  | _ => ("PlanMemoModel", "highe\x72", "[J", true)
def tyX10 : Nat → FieldType := fun k => match k with
  | 0 => .int
  | 1 => .int
  | 2 => .int
  | 3 => .int
  | 4 => .int
  | 5 => .int
  | 6 => .int
  | 7 => .int
  | 8 => .int
  | 9 => .array .int
  | 10 => .array .int
  | 11 => .array .int
  | 12 => .array .int
  | 13 => .array .int
  | 14 => .array .int
  | 15 => .array .int
  | 16 => .array .int
  | 17 => .array .int
  | 18 => .array .int
  | 19 => .array .int
  | 20 => .array .int
  | 21 => .array .boolean
  | 22 => .array .boolean
  | 23 => .array .int
  | 24 => .array .int
  | 25 => .array .int
  | 26 => .array .int
  | 27 => .array .int
  | 28 => .array .long
  | 29 => .array .long
  | 30 => .array .int
  | 31 => .array .int
  | 32 => .array .int
  | 33 => .array .long
  | 34 => .array .long
  | 35 => .int
  | 36 => .array .int
  | 37 => .array .int
  | 38 => .array .int
  | 39 => .array .int
  | 40 => .array .int
  | 41 => .array .long
  | 42 => .array .int
  | 43 => .array .int
  | 44 => .array .int
  | 45 => .array .int
  | 46 => .array .int
  | 47 => .array .int
  | 48 => .array .int
  | 49 => .array .int
  | 50 => .array .int
  | 51 => .array .long
  | 52 => .int
  | 53 => .array .int
  | 54 => .array .int
  | 55 => .array .int
  | 56 => .array .int
  | 57 => .array .int
  | 58 => .array .int
  | 59 => .array .int
  | 60 => .array .int
  | 61 => .array .long
  | 62 => .array .int
  | 63 => .array .int
  | 64 => .int
  | 65 => .int
  | 66 => .int
  | 67 => .int
  | 68 => .array .int
  | 69 => .int
  | 70 => .int
  | 71 => .boolean
  | 72 => .array .int
  | 73 => .array .boolean
  | 74 => .array .boolean
  | 75 => .array .int
  | 76 => .array .boolean
  | 77 => .array .long
  | _ => .array .long
theorem nmX10 : ∀ a, a < 79 → ∀ b, b < 79 → a ≠ b → (TX10 a).2.1 ≠ (TX10 b).2.1 := by decide +kernel
theorem tyX10_ok : ∀ k, k < 79 → parseFieldDescriptor (TX10 k).2.2.1 = some (tyX10 k) := by decide +kernel
def am_cn : Nat → String := fun i => bif Nat.blt i 9 then (bif Nat.blt i 4 then (bif Nat.blt i 2 then (bif Nat.blt i 1 then (bif Nat.beq i 0 then "PlanMemo$Bodies" else "") else (bif Nat.beq i 1 then "PlanMemo$Costs" else "")) else (bif Nat.blt i 3 then (bif Nat.beq i 2 then "PlanMemo$Firing" else "") else (bif Nat.beq i 3 then "PlanMemo$Memo" else ""))) else (bif Nat.blt i 6 then (bif Nat.blt i 5 then (bif Nat.beq i 4 then "PlanMemo$Plan" else "") else (bif Nat.beq i 5 then "PlanMemo$Reade\x72" else "")) else (bif Nat.blt i 7 then (bif Nat.beq i 6 then "PlanMemo$Shelf" else "") else (bif Nat.blt i 8 then (bif Nat.beq i 7 then "PlanMemo$Sizes" else "") else (bif Nat.beq i 8 then "PlanMemo$Ways" else ""))))) else (bif Nat.blt i 13 then (bif Nat.blt i 11 then (bif Nat.blt i 10 then (bif Nat.beq i 9 then "PlanMemo" else "") else (bif Nat.beq i 10 then "PlanMemoModel" else "")) else (bif Nat.blt i 12 then (bif Nat.beq i 11 then "PlanMemoLaw" else "") else (bif Nat.beq i 12 then "java/lang/Long" else ""))) else (bif Nat.blt i 15 then (bif Nat.blt i 14 then (bif Nat.beq i 13 then "java/lang/Math" else "") else (bif Nat.beq i 14 then "java/lang/String" else "")) else (bif Nat.blt i 16 then (bif Nat.beq i 15 then "java/lang/StringLatin1" else "") else (bif Nat.blt i 17 then (bif Nat.beq i 16 then "jdk/internal/util/Preconditions" else "") else (bif Nat.beq i 17 then "java/util/Arrays" else "")))))
def am_own : Nat → Nat := fun i => bif Nat.blt i 139 then (bif Nat.blt i 69 then (bif Nat.blt i 34 then (bif Nat.blt i 17 then (bif Nat.blt i 8 then (bif Nat.blt i 4 then (bif Nat.blt i 2 then (bif Nat.blt i 1 then (bif Nat.beq i 0 then 17 else 99) else (bif Nat.beq i 1 then 3 else 99)) else (bif Nat.blt i 3 then (bif Nat.beq i 2 then 2 else 99) else (bif Nat.beq i 3 then 7 else 99))) else (bif Nat.blt i 6 then (bif Nat.blt i 5 then (bif Nat.beq i 4 then 0 else 99) else (bif Nat.beq i 5 then 8 else 99)) else (bif Nat.blt i 7 then (bif Nat.beq i 6 then 1 else 99) else (bif Nat.beq i 7 then 5 else 99)))) else (bif Nat.blt i 12 then (bif Nat.blt i 10 then (bif Nat.blt i 9 then (bif Nat.beq i 8 then 4 else 99) else (bif Nat.beq i 9 then 6 else 99)) else (bif Nat.blt i 11 then (bif Nat.beq i 10 then 9 else 99) else (bif Nat.beq i 11 then 10 else 99))) else (bif Nat.blt i 14 then (bif Nat.blt i 13 then (bif Nat.beq i 12 then 9 else 99) else (bif Nat.beq i 13 then 9 else 99)) else (bif Nat.blt i 15 then (bif Nat.beq i 14 then 17 else 99) else (bif Nat.blt i 16 then (bif Nat.beq i 15 then 6 else 99) else (bif Nat.beq i 16 then 9 else 99)))))) else (bif Nat.blt i 25 then (bif Nat.blt i 21 then (bif Nat.blt i 19 then (bif Nat.blt i 18 then (bif Nat.beq i 17 then 10 else 99) else (bif Nat.beq i 18 then 10 else 99)) else (bif Nat.blt i 20 then (bif Nat.beq i 19 then 10 else 99) else (bif Nat.beq i 20 then 6 else 99))) else (bif Nat.blt i 23 then (bif Nat.blt i 22 then (bif Nat.beq i 21 then 6 else 99) else (bif Nat.beq i 22 then 9 else 99)) else (bif Nat.blt i 24 then (bif Nat.beq i 23 then 6 else 99) else (bif Nat.beq i 24 then 6 else 99)))) else (bif Nat.blt i 29 then (bif Nat.blt i 27 then (bif Nat.blt i 26 then (bif Nat.beq i 25 then 9 else 99) else (bif Nat.beq i 26 then 10 else 99)) else (bif Nat.blt i 28 then (bif Nat.beq i 27 then 10 else 99) else (bif Nat.beq i 28 then 9 else 99))) else (bif Nat.blt i 31 then (bif Nat.blt i 30 then (bif Nat.beq i 29 then 10 else 99) else (bif Nat.beq i 30 then 9 else 99)) else (bif Nat.blt i 32 then (bif Nat.beq i 31 then 10 else 99) else (bif Nat.blt i 33 then (bif Nat.beq i 32 then 3 else 99) else (bif Nat.beq i 33 then 6 else 99))))))) else (bif Nat.blt i 51 then (bif Nat.blt i 42 then (bif Nat.blt i 38 then (bif Nat.blt i 36 then (bif Nat.blt i 35 then (bif Nat.beq i 34 then 9 else 99) else (bif Nat.beq i 35 then 10 else 99)) else (bif Nat.blt i 37 then (bif Nat.beq i 36 then 10 else 99) else (bif Nat.beq i 37 then 9 else 99))) else (bif Nat.blt i 40 then (bif Nat.blt i 39 then (bif Nat.beq i 38 then 10 else 99) else (bif Nat.beq i 39 then 9 else 99)) else (bif Nat.blt i 41 then (bif Nat.beq i 40 then 3 else 99) else (bif Nat.beq i 41 then 9 else 99)))) else (bif Nat.blt i 46 then (bif Nat.blt i 44 then (bif Nat.blt i 43 then (bif Nat.beq i 42 then 9 else 99) else (bif Nat.beq i 43 then 10 else 99)) else (bif Nat.blt i 45 then (bif Nat.beq i 44 then 10 else 99) else (bif Nat.beq i 45 then 10 else 99))) else (bif Nat.blt i 48 then (bif Nat.blt i 47 then (bif Nat.beq i 46 then 10 else 99) else (bif Nat.beq i 47 then 9 else 99)) else (bif Nat.blt i 49 then (bif Nat.beq i 48 then 9 else 99) else (bif Nat.blt i 50 then (bif Nat.beq i 49 then 3 else 99) else (bif Nat.beq i 50 then 9 else 99)))))) else (bif Nat.blt i 60 then (bif Nat.blt i 55 then (bif Nat.blt i 53 then (bif Nat.blt i 52 then (bif Nat.beq i 51 then 10 else 99) else (bif Nat.beq i 52 then 10 else 99)) else (bif Nat.blt i 54 then (bif Nat.beq i 53 then 3 else 99) else (bif Nat.beq i 54 then 3 else 99))) else (bif Nat.blt i 57 then (bif Nat.blt i 56 then (bif Nat.beq i 55 then 9 else 99) else (bif Nat.beq i 56 then 10 else 99)) else (bif Nat.blt i 58 then (bif Nat.beq i 57 then 9 else 99) else (bif Nat.blt i 59 then (bif Nat.beq i 58 then 10 else 99) else (bif Nat.beq i 59 then 3 else 99))))) else (bif Nat.blt i 64 then (bif Nat.blt i 62 then (bif Nat.blt i 61 then (bif Nat.beq i 60 then 3 else 99) else (bif Nat.beq i 61 then 3 else 99)) else (bif Nat.blt i 63 then (bif Nat.beq i 62 then 9 else 99) else (bif Nat.beq i 63 then 3 else 99))) else (bif Nat.blt i 66 then (bif Nat.blt i 65 then (bif Nat.beq i 64 then 3 else 99) else (bif Nat.beq i 65 then 9 else 99)) else (bif Nat.blt i 67 then (bif Nat.beq i 66 then 9 else 99) else (bif Nat.blt i 68 then (bif Nat.beq i 67 then 10 else 99) else (bif Nat.beq i 68 then 10 else 99)))))))) else (bif Nat.blt i 104 then (bif Nat.blt i 86 then (bif Nat.blt i 77 then (bif Nat.blt i 73 then (bif Nat.blt i 71 then (bif Nat.blt i 70 then (bif Nat.beq i 69 then 10 else 99) else (bif Nat.beq i 70 then 10 else 99)) else (bif Nat.blt i 72 then (bif Nat.beq i 71 then 10 else 99) else (bif Nat.beq i 72 then 3 else 99))) else (bif Nat.blt i 75 then (bif Nat.blt i 74 then (bif Nat.beq i 73 then 9 else 99) else (bif Nat.beq i 74 then 3 else 99)) else (bif Nat.blt i 76 then (bif Nat.beq i 75 then 9 else 99) else (bif Nat.beq i 76 then 10 else 99)))) else (bif Nat.blt i 81 then (bif Nat.blt i 79 then (bif Nat.blt i 78 then (bif Nat.beq i 77 then 10 else 99) else (bif Nat.beq i 78 then 10 else 99)) else (bif Nat.blt i 80 then (bif Nat.beq i 79 then 10 else 99) else (bif Nat.beq i 80 then 9 else 99))) else (bif Nat.blt i 83 then (bif Nat.blt i 82 then (bif Nat.beq i 81 then 10 else 99) else (bif Nat.beq i 82 then 9 else 99)) else (bif Nat.blt i 84 then (bif Nat.beq i 83 then 9 else 99) else (bif Nat.blt i 85 then (bif Nat.beq i 84 then 10 else 99) else (bif Nat.beq i 85 then 10 else 99)))))) else (bif Nat.blt i 95 then (bif Nat.blt i 90 then (bif Nat.blt i 88 then (bif Nat.blt i 87 then (bif Nat.beq i 86 then 9 else 99) else (bif Nat.beq i 87 then 10 else 99)) else (bif Nat.blt i 89 then (bif Nat.beq i 88 then 6 else 99) else (bif Nat.beq i 89 then 5 else 99))) else (bif Nat.blt i 92 then (bif Nat.blt i 91 then (bif Nat.beq i 90 then 5 else 99) else (bif Nat.beq i 91 then 9 else 99)) else (bif Nat.blt i 93 then (bif Nat.beq i 92 then 14 else 99) else (bif Nat.blt i 94 then (bif Nat.beq i 93 then 14 else 99) else (bif Nat.beq i 94 then 14 else 99))))) else (bif Nat.blt i 99 then (bif Nat.blt i 97 then (bif Nat.blt i 96 then (bif Nat.beq i 95 then 16 else 99) else (bif Nat.beq i 96 then 14 else 99)) else (bif Nat.blt i 98 then (bif Nat.beq i 97 then 15 else 99) else (bif Nat.beq i 98 then 14 else 99))) else (bif Nat.blt i 101 then (bif Nat.blt i 100 then (bif Nat.beq i 99 then 5 else 99) else (bif Nat.beq i 100 then 5 else 99)) else (bif Nat.blt i 102 then (bif Nat.beq i 101 then 5 else 99) else (bif Nat.blt i 103 then (bif Nat.beq i 102 then 5 else 99) else (bif Nat.beq i 103 then 5 else 99))))))) else (bif Nat.blt i 121 then (bif Nat.blt i 112 then (bif Nat.blt i 108 then (bif Nat.blt i 106 then (bif Nat.blt i 105 then (bif Nat.beq i 104 then 5 else 99) else (bif Nat.beq i 105 then 5 else 99)) else (bif Nat.blt i 107 then (bif Nat.beq i 106 then 5 else 99) else (bif Nat.beq i 107 then 5 else 99))) else (bif Nat.blt i 110 then (bif Nat.blt i 109 then (bif Nat.beq i 108 then 3 else 99) else (bif Nat.beq i 109 then 5 else 99)) else (bif Nat.blt i 111 then (bif Nat.beq i 110 then 9 else 99) else (bif Nat.beq i 111 then 10 else 99)))) else (bif Nat.blt i 116 then (bif Nat.blt i 114 then (bif Nat.blt i 113 then (bif Nat.beq i 112 then 10 else 99) else (bif Nat.beq i 113 then 10 else 99)) else (bif Nat.blt i 115 then (bif Nat.beq i 114 then 10 else 99) else (bif Nat.beq i 115 then 10 else 99))) else (bif Nat.blt i 118 then (bif Nat.blt i 117 then (bif Nat.beq i 116 then 9 else 99) else (bif Nat.beq i 117 then 10 else 99)) else (bif Nat.blt i 119 then (bif Nat.beq i 118 then 3 else 99) else (bif Nat.blt i 120 then (bif Nat.beq i 119 then 3 else 99) else (bif Nat.beq i 120 then 3 else 99)))))) else (bif Nat.blt i 130 then (bif Nat.blt i 125 then (bif Nat.blt i 123 then (bif Nat.blt i 122 then (bif Nat.beq i 121 then 9 else 99) else (bif Nat.beq i 122 then 10 else 99)) else (bif Nat.blt i 124 then (bif Nat.beq i 123 then 10 else 99) else (bif Nat.beq i 124 then 9 else 99))) else (bif Nat.blt i 127 then (bif Nat.blt i 126 then (bif Nat.beq i 125 then 10 else 99) else (bif Nat.beq i 126 then 12 else 99)) else (bif Nat.blt i 128 then (bif Nat.beq i 127 then 7 else 99) else (bif Nat.blt i 129 then (bif Nat.beq i 128 then 7 else 99) else (bif Nat.beq i 129 then 7 else 99))))) else (bif Nat.blt i 134 then (bif Nat.blt i 132 then (bif Nat.blt i 131 then (bif Nat.beq i 130 then 3 else 99) else (bif Nat.beq i 131 then 3 else 99)) else (bif Nat.blt i 133 then (bif Nat.beq i 132 then 9 else 99) else (bif Nat.beq i 133 then 10 else 99))) else (bif Nat.blt i 136 then (bif Nat.blt i 135 then (bif Nat.beq i 134 then 9 else 99) else (bif Nat.beq i 135 then 10 else 99)) else (bif Nat.blt i 137 then (bif Nat.beq i 136 then 2 else 99) else (bif Nat.blt i 138 then (bif Nat.beq i 137 then 2 else 99) else (bif Nat.beq i 138 then 2 else 99))))))))) else (bif Nat.blt i 208 then (bif Nat.blt i 173 then (bif Nat.blt i 156 then (bif Nat.blt i 147 then (bif Nat.blt i 143 then (bif Nat.blt i 141 then (bif Nat.blt i 140 then (bif Nat.beq i 139 then 2 else 99) else (bif Nat.beq i 140 then 2 else 99)) else (bif Nat.blt i 142 then (bif Nat.beq i 141 then 2 else 99) else (bif Nat.beq i 142 then 2 else 99))) else (bif Nat.blt i 145 then (bif Nat.blt i 144 then (bif Nat.beq i 143 then 2 else 99) else (bif Nat.beq i 144 then 2 else 99)) else (bif Nat.blt i 146 then (bif Nat.beq i 145 then 2 else 99) else (bif Nat.beq i 146 then 9 else 99)))) else (bif Nat.blt i 151 then (bif Nat.blt i 149 then (bif Nat.blt i 148 then (bif Nat.beq i 147 then 10 else 99) else (bif Nat.beq i 148 then 10 else 99)) else (bif Nat.blt i 150 then (bif Nat.beq i 149 then 10 else 99) else (bif Nat.beq i 150 then 10 else 99))) else (bif Nat.blt i 153 then (bif Nat.blt i 152 then (bif Nat.beq i 151 then 10 else 99) else (bif Nat.beq i 152 then 10 else 99)) else (bif Nat.blt i 154 then (bif Nat.beq i 153 then 10 else 99) else (bif Nat.blt i 155 then (bif Nat.beq i 154 then 10 else 99) else (bif Nat.beq i 155 then 9 else 99)))))) else (bif Nat.blt i 164 then (bif Nat.blt i 160 then (bif Nat.blt i 158 then (bif Nat.blt i 157 then (bif Nat.beq i 156 then 10 else 99) else (bif Nat.beq i 157 then 9 else 99)) else (bif Nat.blt i 159 then (bif Nat.beq i 158 then 10 else 99) else (bif Nat.beq i 159 then 9 else 99))) else (bif Nat.blt i 162 then (bif Nat.blt i 161 then (bif Nat.beq i 160 then 9 else 99) else (bif Nat.beq i 161 then 10 else 99)) else (bif Nat.blt i 163 then (bif Nat.beq i 162 then 10 else 99) else (bif Nat.beq i 163 then 9 else 99)))) else (bif Nat.blt i 168 then (bif Nat.blt i 166 then (bif Nat.blt i 165 then (bif Nat.beq i 164 then 9 else 99) else (bif Nat.beq i 165 then 9 else 99)) else (bif Nat.blt i 167 then (bif Nat.beq i 166 then 0 else 99) else (bif Nat.beq i 167 then 0 else 99))) else (bif Nat.blt i 170 then (bif Nat.blt i 169 then (bif Nat.beq i 168 then 0 else 99) else (bif Nat.beq i 169 then 0 else 99)) else (bif Nat.blt i 171 then (bif Nat.beq i 170 then 0 else 99) else (bif Nat.blt i 172 then (bif Nat.beq i 171 then 8 else 99) else (bif Nat.beq i 172 then 8 else 99))))))) else (bif Nat.blt i 190 then (bif Nat.blt i 181 then (bif Nat.blt i 177 then (bif Nat.blt i 175 then (bif Nat.blt i 174 then (bif Nat.beq i 173 then 1 else 99) else (bif Nat.beq i 174 then 9 else 99)) else (bif Nat.blt i 176 then (bif Nat.beq i 175 then 1 else 99) else (bif Nat.beq i 176 then 8 else 99))) else (bif Nat.blt i 179 then (bif Nat.blt i 178 then (bif Nat.beq i 177 then 8 else 99) else (bif Nat.beq i 178 then 8 else 99)) else (bif Nat.blt i 180 then (bif Nat.beq i 179 then 8 else 99) else (bif Nat.beq i 180 then 9 else 99)))) else (bif Nat.blt i 185 then (bif Nat.blt i 183 then (bif Nat.blt i 182 then (bif Nat.beq i 181 then 8 else 99) else (bif Nat.beq i 182 then 8 else 99)) else (bif Nat.blt i 184 then (bif Nat.beq i 183 then 8 else 99) else (bif Nat.beq i 184 then 1 else 99))) else (bif Nat.blt i 187 then (bif Nat.blt i 186 then (bif Nat.beq i 185 then 1 else 99) else (bif Nat.beq i 186 then 1 else 99)) else (bif Nat.blt i 188 then (bif Nat.beq i 187 then 1 else 99) else (bif Nat.blt i 189 then (bif Nat.beq i 188 then 1 else 99) else (bif Nat.beq i 189 then 1 else 99)))))) else (bif Nat.blt i 199 then (bif Nat.blt i 194 then (bif Nat.blt i 192 then (bif Nat.blt i 191 then (bif Nat.beq i 190 then 9 else 99) else (bif Nat.beq i 191 then 9 else 99)) else (bif Nat.blt i 193 then (bif Nat.beq i 192 then 10 else 99) else (bif Nat.beq i 193 then 10 else 99))) else (bif Nat.blt i 196 then (bif Nat.blt i 195 then (bif Nat.beq i 194 then 10 else 99) else (bif Nat.beq i 195 then 10 else 99)) else (bif Nat.blt i 197 then (bif Nat.beq i 196 then 10 else 99) else (bif Nat.blt i 198 then (bif Nat.beq i 197 then 10 else 99) else (bif Nat.beq i 198 then 10 else 99))))) else (bif Nat.blt i 203 then (bif Nat.blt i 201 then (bif Nat.blt i 200 then (bif Nat.beq i 199 then 10 else 99) else (bif Nat.beq i 200 then 10 else 99)) else (bif Nat.blt i 202 then (bif Nat.beq i 201 then 10 else 99) else (bif Nat.beq i 202 then 10 else 99))) else (bif Nat.blt i 205 then (bif Nat.blt i 204 then (bif Nat.beq i 203 then 10 else 99) else (bif Nat.beq i 204 then 10 else 99)) else (bif Nat.blt i 206 then (bif Nat.beq i 205 then 10 else 99) else (bif Nat.blt i 207 then (bif Nat.beq i 206 then 10 else 99) else (bif Nat.beq i 207 then 10 else 99)))))))) else (bif Nat.blt i 243 then (bif Nat.blt i 225 then (bif Nat.blt i 216 then (bif Nat.blt i 212 then (bif Nat.blt i 210 then (bif Nat.blt i 209 then (bif Nat.beq i 208 then 10 else 99) else (bif Nat.beq i 209 then 1 else 99)) else (bif Nat.blt i 211 then (bif Nat.beq i 210 then 9 else 99) else (bif Nat.beq i 211 then 10 else 99))) else (bif Nat.blt i 214 then (bif Nat.blt i 213 then (bif Nat.beq i 212 then 9 else 99) else (bif Nat.beq i 213 then 17 else 99)) else (bif Nat.blt i 215 then (bif Nat.beq i 214 then 1 else 99) else (bif Nat.beq i 215 then 1 else 99)))) else (bif Nat.blt i 220 then (bif Nat.blt i 218 then (bif Nat.blt i 217 then (bif Nat.beq i 216 then 9 else 99) else (bif Nat.beq i 217 then 10 else 99)) else (bif Nat.blt i 219 then (bif Nat.beq i 218 then 10 else 99) else (bif Nat.beq i 219 then 1 else 99))) else (bif Nat.blt i 222 then (bif Nat.blt i 221 then (bif Nat.beq i 220 then 9 else 99) else (bif Nat.beq i 221 then 10 else 99)) else (bif Nat.blt i 223 then (bif Nat.beq i 222 then 9 else 99) else (bif Nat.blt i 224 then (bif Nat.beq i 223 then 10 else 99) else (bif Nat.beq i 224 then 9 else 99)))))) else (bif Nat.blt i 234 then (bif Nat.blt i 229 then (bif Nat.blt i 227 then (bif Nat.blt i 226 then (bif Nat.beq i 225 then 10 else 99) else (bif Nat.beq i 226 then 1 else 99)) else (bif Nat.blt i 228 then (bif Nat.beq i 227 then 4 else 99) else (bif Nat.beq i 228 then 8 else 99))) else (bif Nat.blt i 231 then (bif Nat.blt i 230 then (bif Nat.beq i 229 then 8 else 99) else (bif Nat.beq i 230 then 4 else 99)) else (bif Nat.blt i 232 then (bif Nat.beq i 231 then 4 else 99) else (bif Nat.blt i 233 then (bif Nat.beq i 232 then 4 else 99) else (bif Nat.beq i 233 then 4 else 99))))) else (bif Nat.blt i 238 then (bif Nat.blt i 236 then (bif Nat.blt i 235 then (bif Nat.beq i 234 then 9 else 99) else (bif Nat.beq i 235 then 10 else 99)) else (bif Nat.blt i 237 then (bif Nat.beq i 236 then 10 else 99) else (bif Nat.beq i 237 then 4 else 99))) else (bif Nat.blt i 240 then (bif Nat.blt i 239 then (bif Nat.beq i 238 then 9 else 99) else (bif Nat.beq i 239 then 10 else 99)) else (bif Nat.blt i 241 then (bif Nat.beq i 240 then 9 else 99) else (bif Nat.blt i 242 then (bif Nat.beq i 241 then 10 else 99) else (bif Nat.beq i 242 then 4 else 99))))))) else (bif Nat.blt i 260 then (bif Nat.blt i 251 then (bif Nat.blt i 247 then (bif Nat.blt i 245 then (bif Nat.blt i 244 then (bif Nat.beq i 243 then 4 else 99) else (bif Nat.beq i 244 then 4 else 99)) else (bif Nat.blt i 246 then (bif Nat.beq i 245 then 4 else 99) else (bif Nat.beq i 246 then 9 else 99))) else (bif Nat.blt i 249 then (bif Nat.blt i 248 then (bif Nat.beq i 247 then 10 else 99) else (bif Nat.beq i 248 then 10 else 99)) else (bif Nat.blt i 250 then (bif Nat.beq i 249 then 10 else 99) else (bif Nat.beq i 250 then 7 else 99)))) else (bif Nat.blt i 255 then (bif Nat.blt i 253 then (bif Nat.blt i 252 then (bif Nat.beq i 251 then 7 else 99) else (bif Nat.beq i 252 then 9 else 99)) else (bif Nat.blt i 254 then (bif Nat.beq i 253 then 10 else 99) else (bif Nat.beq i 254 then 9 else 99))) else (bif Nat.blt i 257 then (bif Nat.blt i 256 then (bif Nat.beq i 255 then 9 else 99) else (bif Nat.beq i 256 then 10 else 99)) else (bif Nat.blt i 258 then (bif Nat.beq i 257 then 0 else 99) else (bif Nat.blt i 259 then (bif Nat.beq i 258 then 9 else 99) else (bif Nat.beq i 259 then 10 else 99)))))) else (bif Nat.blt i 269 then (bif Nat.blt i 264 then (bif Nat.blt i 262 then (bif Nat.blt i 261 then (bif Nat.beq i 260 then 3 else 99) else (bif Nat.beq i 261 then 3 else 99)) else (bif Nat.blt i 263 then (bif Nat.beq i 262 then 9 else 99) else (bif Nat.beq i 263 then 10 else 99))) else (bif Nat.blt i 266 then (bif Nat.blt i 265 then (bif Nat.beq i 264 then 10 else 99) else (bif Nat.beq i 265 then 9 else 99)) else (bif Nat.blt i 267 then (bif Nat.beq i 266 then 10 else 99) else (bif Nat.blt i 268 then (bif Nat.beq i 267 then 3 else 99) else (bif Nat.beq i 268 then 9 else 99))))) else (bif Nat.blt i 273 then (bif Nat.blt i 271 then (bif Nat.blt i 270 then (bif Nat.beq i 269 then 10 else 99) else (bif Nat.beq i 270 then 9 else 99)) else (bif Nat.blt i 272 then (bif Nat.beq i 271 then 10 else 99) else (bif Nat.beq i 272 then 3 else 99))) else (bif Nat.blt i 275 then (bif Nat.blt i 274 then (bif Nat.beq i 273 then 3 else 99) else (bif Nat.beq i 274 then 3 else 99)) else (bif Nat.blt i 276 then (bif Nat.beq i 275 then 9 else 99) else (bif Nat.blt i 277 then (bif Nat.beq i 276 then 10 else 99) else (bif Nat.beq i 277 then 11 else 99)))))))))
def am_by_0 : Nat → ByteArray := fun i => bif Nat.blt i 4 then (bif Nat.blt i 2 then (bif Nat.blt i 1 then (bif Nat.beq i 0 then prog_19_method_103_code else .empty) else (bif Nat.beq i 1 then prog_5_method_1_code else .empty)) else (bif Nat.blt i 3 then (bif Nat.beq i 2 then prog_4_method_1_code else .empty) else (bif Nat.beq i 3 then prog_9_method_1_code else .empty))) else (bif Nat.blt i 6 then (bif Nat.blt i 5 then (bif Nat.beq i 4 then prog_2_method_1_code else .empty) else (bif Nat.beq i 5 then prog_10_method_1_code else .empty)) else (bif Nat.blt i 7 then (bif Nat.beq i 6 then prog_3_method_1_code else .empty) else (bif Nat.beq i 7 then prog_7_method_1_code else .empty)))
def am_by_1 : Nat → ByteArray := fun i => bif Nat.blt i 12 then (bif Nat.blt i 10 then (bif Nat.blt i 9 then (bif Nat.beq i 8 then prog_6_method_1_code else .empty) else (bif Nat.beq i 9 then prog_8_method_1_code else .empty)) else (bif Nat.blt i 11 then (bif Nat.beq i 10 then prog_1_method_1_code else .empty) else (bif Nat.beq i 11 then prog_12_method_1_code else .empty))) else (bif Nat.blt i 14 then (bif Nat.blt i 13 then (bif Nat.beq i 12 then prog_1_method_53_code else .empty) else (bif Nat.beq i 13 then prog_1_method_45_code else .empty)) else (bif Nat.blt i 15 then (bif Nat.beq i 14 then prog_19_method_101_code else .empty) else (bif Nat.beq i 15 then prog_8_method_2_code else .empty)))
def am_by_2 : Nat → ByteArray := fun i => bif Nat.blt i 20 then (bif Nat.blt i 18 then (bif Nat.blt i 17 then (bif Nat.beq i 16 then prog_1_method_2_code else .empty) else (bif Nat.beq i 17 then prog_12_method_4_code else .empty)) else (bif Nat.blt i 19 then (bif Nat.beq i 18 then prog_12_method_2_code else .empty) else (bif Nat.beq i 19 then prog_12_method_8_code else .empty))) else (bif Nat.blt i 22 then (bif Nat.blt i 21 then (bif Nat.beq i 20 then prog_8_method_5_code else .empty) else (bif Nat.beq i 21 then prog_8_method_4_code else .empty)) else (bif Nat.blt i 23 then (bif Nat.beq i 22 then prog_1_method_47_code else .empty) else (bif Nat.beq i 23 then prog_8_method_6_code else .empty)))
def am_by_3 : Nat → ByteArray := fun i => bif Nat.blt i 28 then (bif Nat.blt i 26 then (bif Nat.blt i 25 then (bif Nat.beq i 24 then prog_8_method_7_code else .empty) else (bif Nat.beq i 25 then prog_1_method_3_code else .empty)) else (bif Nat.blt i 27 then (bif Nat.beq i 26 then prog_12_method_9_code else .empty) else (bif Nat.beq i 27 then prog_12_method_10_code else .empty))) else (bif Nat.blt i 30 then (bif Nat.blt i 29 then (bif Nat.beq i 28 then prog_1_method_4_code else .empty) else (bif Nat.beq i 29 then prog_12_method_11_code else .empty)) else (bif Nat.blt i 31 then (bif Nat.beq i 30 then prog_1_method_5_code else .empty) else (bif Nat.beq i 31 then prog_12_method_12_code else .empty)))
def am_by_4 : Nat → ByteArray := fun i => bif Nat.blt i 36 then (bif Nat.blt i 34 then (bif Nat.blt i 33 then (bif Nat.beq i 32 then prog_5_method_4_code else .empty) else (bif Nat.beq i 33 then prog_8_method_3_code else .empty)) else (bif Nat.blt i 35 then (bif Nat.beq i 34 then prog_1_method_6_code else .empty) else (bif Nat.beq i 35 then prog_12_method_6_code else .empty))) else (bif Nat.blt i 38 then (bif Nat.blt i 37 then (bif Nat.beq i 36 then prog_12_method_13_code else .empty) else (bif Nat.beq i 37 then prog_1_method_7_code else .empty)) else (bif Nat.blt i 39 then (bif Nat.beq i 38 then prog_12_method_14_code else .empty) else (bif Nat.beq i 39 then prog_1_method_60_code else .empty)))
def am_by_5 : Nat → ByteArray := fun i => bif Nat.blt i 44 then (bif Nat.blt i 42 then (bif Nat.blt i 41 then (bif Nat.beq i 40 then prog_5_method_6_code else .empty) else (bif Nat.beq i 41 then prog_1_method_51_code else .empty)) else (bif Nat.blt i 43 then (bif Nat.beq i 42 then prog_1_method_8_code else .empty) else (bif Nat.beq i 43 then prog_12_method_7_code else .empty))) else (bif Nat.blt i 46 then (bif Nat.blt i 45 then (bif Nat.beq i 44 then prog_12_method_15_code else .empty) else (bif Nat.beq i 45 then prog_12_method_21_code else .empty)) else (bif Nat.blt i 47 then (bif Nat.beq i 46 then prog_12_method_16_code else .empty) else (bif Nat.beq i 47 then prog_1_method_54_code else .empty)))
def am_by_6 : Nat → ByteArray := fun i => bif Nat.blt i 52 then (bif Nat.blt i 50 then (bif Nat.blt i 49 then (bif Nat.beq i 48 then prog_1_method_59_code else .empty) else (bif Nat.beq i 49 then prog_5_method_7_code else .empty)) else (bif Nat.blt i 51 then (bif Nat.beq i 50 then prog_1_method_9_code else .empty) else (bif Nat.beq i 51 then prog_12_method_18_code else .empty))) else (bif Nat.blt i 54 then (bif Nat.blt i 53 then (bif Nat.beq i 52 then prog_12_method_17_code else .empty) else (bif Nat.beq i 53 then prog_5_method_3_code else .empty)) else (bif Nat.blt i 55 then (bif Nat.beq i 54 then prog_5_method_8_code else .empty) else (bif Nat.beq i 55 then prog_1_method_10_code else .empty)))
def am_by_7 : Nat → ByteArray := fun i => bif Nat.blt i 60 then (bif Nat.blt i 58 then (bif Nat.blt i 57 then (bif Nat.beq i 56 then prog_12_method_19_code else .empty) else (bif Nat.beq i 57 then prog_1_method_11_code else .empty)) else (bif Nat.blt i 59 then (bif Nat.beq i 58 then prog_12_method_20_code else .empty) else (bif Nat.beq i 59 then prog_5_method_14_code else .empty))) else (bif Nat.blt i 62 then (bif Nat.blt i 61 then (bif Nat.beq i 60 then prog_5_method_5_code else .empty) else (bif Nat.beq i 61 then prog_5_method_10_code else .empty)) else (bif Nat.blt i 63 then (bif Nat.beq i 62 then prog_1_method_65_code else .empty) else (bif Nat.beq i 63 then prog_5_method_16_code else .empty)))
def am_by_8 : Nat → ByteArray := fun i => bif Nat.blt i 68 then (bif Nat.blt i 66 then (bif Nat.blt i 65 then (bif Nat.beq i 64 then prog_5_method_15_code else .empty) else (bif Nat.beq i 65 then prog_1_method_50_code else .empty)) else (bif Nat.blt i 67 then (bif Nat.beq i 66 then prog_1_method_12_code else .empty) else (bif Nat.beq i 67 then prog_12_method_23_code else .empty))) else (bif Nat.blt i 70 then (bif Nat.blt i 69 then (bif Nat.beq i 68 then prog_12_method_24_code else .empty) else (bif Nat.beq i 69 then prog_12_method_25_code else .empty)) else (bif Nat.blt i 71 then (bif Nat.beq i 70 then prog_12_method_28_code else .empty) else (bif Nat.beq i 71 then prog_12_method_29_code else .empty)))
def am_by_9 : Nat → ByteArray := fun i => bif Nat.blt i 76 then (bif Nat.blt i 74 then (bif Nat.blt i 73 then (bif Nat.beq i 72 then prog_5_method_9_code else .empty) else (bif Nat.beq i 73 then prog_1_method_64_code else .empty)) else (bif Nat.blt i 75 then (bif Nat.beq i 74 then prog_5_method_13_code else .empty) else (bif Nat.beq i 75 then prog_1_method_13_code else .empty))) else (bif Nat.blt i 78 then (bif Nat.blt i 77 then (bif Nat.beq i 76 then prog_12_method_5_code else .empty) else (bif Nat.beq i 77 then prog_12_method_22_code else .empty)) else (bif Nat.blt i 79 then (bif Nat.beq i 78 then prog_12_method_27_code else .empty) else (bif Nat.beq i 79 then prog_12_method_30_code else .empty)))
def am_by_10 : Nat → ByteArray := fun i => bif Nat.blt i 84 then (bif Nat.blt i 82 then (bif Nat.blt i 81 then (bif Nat.beq i 80 then prog_1_method_14_code else .empty) else (bif Nat.beq i 81 then prog_12_method_31_code else .empty)) else (bif Nat.blt i 83 then (bif Nat.beq i 82 then prog_1_method_49_code else .empty) else (bif Nat.beq i 83 then prog_1_method_15_code else .empty))) else (bif Nat.blt i 86 then (bif Nat.blt i 85 then (bif Nat.beq i 84 then prog_12_method_32_code else .empty) else (bif Nat.beq i 85 then prog_12_method_33_code else .empty)) else (bif Nat.blt i 87 then (bif Nat.beq i 86 then prog_1_method_16_code else .empty) else (bif Nat.beq i 87 then prog_12_method_34_code else .empty)))
def am_by_11 : Nat → ByteArray := fun i => bif Nat.blt i 92 then (bif Nat.blt i 90 then (bif Nat.blt i 89 then (bif Nat.beq i 88 then prog_8_method_8_code else .empty) else (bif Nat.beq i 89 then prog_7_method_5_code else .empty)) else (bif Nat.blt i 91 then (bif Nat.beq i 90 then prog_7_method_7_code else .empty) else (bif Nat.beq i 91 then prog_1_method_63_code else .empty))) else (bif Nat.blt i 94 then (bif Nat.blt i 93 then (bif Nat.beq i 92 then prog_15_method_152_code else .empty) else (bif Nat.beq i 93 then prog_15_method_54_code else .empty)) else (bif Nat.blt i 95 then (bif Nat.beq i 94 then prog_15_method_154_code else .empty) else (bif Nat.beq i 95 then prog_20_method_11_code else .empty)))
def am_by_12 : Nat → ByteArray := fun i => bif Nat.blt i 100 then (bif Nat.blt i 98 then (bif Nat.blt i 97 then (bif Nat.beq i 96 then prog_15_method_155_code else .empty) else (bif Nat.beq i 97 then prog_16_method_2_code else .empty)) else (bif Nat.blt i 99 then (bif Nat.beq i 98 then prog_15_method_56_code else .empty) else (bif Nat.beq i 99 then prog_7_method_6_code else .empty))) else (bif Nat.blt i 102 then (bif Nat.blt i 101 then (bif Nat.beq i 100 then prog_7_method_8_code else .empty) else (bif Nat.beq i 101 then prog_7_method_4_code else .empty)) else (bif Nat.blt i 103 then (bif Nat.beq i 102 then prog_7_method_3_code else .empty) else (bif Nat.beq i 103 then prog_7_method_10_code else .empty)))
def am_by_13 : Nat → ByteArray := fun i => bif Nat.blt i 108 then (bif Nat.blt i 106 then (bif Nat.blt i 105 then (bif Nat.beq i 104 then prog_7_method_11_code else .empty) else (bif Nat.beq i 105 then prog_7_method_9_code else .empty)) else (bif Nat.blt i 107 then (bif Nat.beq i 106 then prog_7_method_2_code else .empty) else (bif Nat.beq i 107 then prog_7_method_13_code else .empty))) else (bif Nat.blt i 110 then (bif Nat.blt i 109 then (bif Nat.beq i 108 then prog_5_method_17_code else .empty) else (bif Nat.beq i 109 then prog_7_method_12_code else .empty)) else (bif Nat.blt i 111 then (bif Nat.beq i 110 then prog_1_method_17_code else .empty) else (bif Nat.beq i 111 then prog_12_method_35_code else .empty)))
def am_by_14 : Nat → ByteArray := fun i => bif Nat.blt i 116 then (bif Nat.blt i 114 then (bif Nat.blt i 113 then (bif Nat.beq i 112 then prog_12_method_36_code else .empty) else (bif Nat.beq i 113 then prog_12_method_37_code else .empty)) else (bif Nat.blt i 115 then (bif Nat.beq i 114 then prog_12_method_38_code else .empty) else (bif Nat.beq i 115 then prog_12_method_39_code else .empty))) else (bif Nat.blt i 118 then (bif Nat.blt i 117 then (bif Nat.beq i 116 then prog_1_method_18_code else .empty) else (bif Nat.beq i 117 then prog_12_method_40_code else .empty)) else (bif Nat.blt i 119 then (bif Nat.beq i 118 then prog_5_method_19_code else .empty) else (bif Nat.beq i 119 then prog_5_method_20_code else .empty)))
def am_by_15 : Nat → ByteArray := fun i => bif Nat.blt i 124 then (bif Nat.blt i 122 then (bif Nat.blt i 121 then (bif Nat.beq i 120 then prog_5_method_18_code else .empty) else (bif Nat.beq i 121 then prog_1_method_19_code else .empty)) else (bif Nat.blt i 123 then (bif Nat.beq i 122 then prog_12_method_26_code else .empty) else (bif Nat.beq i 123 then prog_12_method_41_code else .empty))) else (bif Nat.blt i 126 then (bif Nat.blt i 125 then (bif Nat.beq i 124 then prog_1_method_20_code else .empty) else (bif Nat.beq i 125 then prog_12_method_42_code else .empty)) else (bif Nat.blt i 127 then (bif Nat.beq i 126 then prog_13_method_50_code else .empty) else (bif Nat.beq i 127 then prog_9_method_2_code else .empty)))
def am_by_16 : Nat → ByteArray := fun i => bif Nat.blt i 132 then (bif Nat.blt i 130 then (bif Nat.blt i 129 then (bif Nat.beq i 128 then prog_9_method_4_code else .empty) else (bif Nat.beq i 129 then prog_9_method_3_code else .empty)) else (bif Nat.blt i 131 then (bif Nat.beq i 130 then prog_5_method_11_code else .empty) else (bif Nat.beq i 131 then prog_5_method_12_code else .empty))) else (bif Nat.blt i 134 then (bif Nat.blt i 133 then (bif Nat.beq i 132 then prog_1_method_21_code else .empty) else (bif Nat.beq i 133 then prog_12_method_43_code else .empty)) else (bif Nat.blt i 135 then (bif Nat.beq i 134 then prog_1_method_22_code else .empty) else (bif Nat.beq i 135 then prog_12_method_44_code else .empty)))
def am_by_17 : Nat → ByteArray := fun i => bif Nat.blt i 140 then (bif Nat.blt i 138 then (bif Nat.blt i 137 then (bif Nat.beq i 136 then prog_4_method_4_code else .empty) else (bif Nat.beq i 137 then prog_4_method_3_code else .empty)) else (bif Nat.blt i 139 then (bif Nat.beq i 138 then prog_4_method_2_code else .empty) else (bif Nat.beq i 139 then prog_4_method_10_code else .empty))) else (bif Nat.blt i 142 then (bif Nat.blt i 141 then (bif Nat.beq i 140 then prog_4_method_11_code else .empty) else (bif Nat.beq i 141 then prog_4_method_9_code else .empty)) else (bif Nat.blt i 143 then (bif Nat.beq i 142 then prog_4_method_8_code else .empty) else (bif Nat.beq i 143 then prog_4_method_6_code else .empty)))
def am_by_18 : Nat → ByteArray := fun i => bif Nat.blt i 148 then (bif Nat.blt i 146 then (bif Nat.blt i 145 then (bif Nat.beq i 144 then prog_4_method_5_code else .empty) else (bif Nat.beq i 145 then prog_4_method_7_code else .empty)) else (bif Nat.blt i 147 then (bif Nat.beq i 146 then prog_1_method_23_code else .empty) else (bif Nat.beq i 147 then prog_12_method_45_code else .empty))) else (bif Nat.blt i 150 then (bif Nat.blt i 149 then (bif Nat.beq i 148 then prog_12_method_46_code else .empty) else (bif Nat.beq i 149 then prog_12_method_47_code else .empty)) else (bif Nat.blt i 151 then (bif Nat.beq i 150 then prog_12_method_48_code else .empty) else (bif Nat.beq i 151 then prog_12_method_49_code else .empty)))
def am_by_19 : Nat → ByteArray := fun i => bif Nat.blt i 156 then (bif Nat.blt i 154 then (bif Nat.blt i 153 then (bif Nat.beq i 152 then prog_12_method_50_code else .empty) else (bif Nat.beq i 153 then prog_12_method_51_code else .empty)) else (bif Nat.blt i 155 then (bif Nat.beq i 154 then prog_12_method_52_code else .empty) else (bif Nat.beq i 155 then prog_1_method_24_code else .empty))) else (bif Nat.blt i 158 then (bif Nat.blt i 157 then (bif Nat.beq i 156 then prog_12_method_53_code else .empty) else (bif Nat.beq i 157 then prog_1_method_25_code else .empty)) else (bif Nat.blt i 159 then (bif Nat.beq i 158 then prog_12_method_54_code else .empty) else (bif Nat.beq i 159 then prog_1_method_58_code else .empty)))
def am_by_20 : Nat → ByteArray := fun i => bif Nat.blt i 164 then (bif Nat.blt i 162 then (bif Nat.blt i 161 then (bif Nat.beq i 160 then prog_1_method_26_code else .empty) else (bif Nat.beq i 161 then prog_12_method_73_code else .empty)) else (bif Nat.blt i 163 then (bif Nat.beq i 162 then prog_12_method_72_code else .empty) else (bif Nat.beq i 163 then prog_1_method_46_code else .empty))) else (bif Nat.blt i 166 then (bif Nat.blt i 165 then (bif Nat.beq i 164 then prog_1_method_55_code else .empty) else (bif Nat.beq i 165 then prog_1_method_56_code else .empty)) else (bif Nat.blt i 167 then (bif Nat.beq i 166 then prog_2_method_4_code else .empty) else (bif Nat.beq i 167 then prog_2_method_7_code else .empty)))
def am_by_21 : Nat → ByteArray := fun i => bif Nat.blt i 172 then (bif Nat.blt i 170 then (bif Nat.blt i 169 then (bif Nat.beq i 168 then prog_2_method_6_code else .empty) else (bif Nat.beq i 169 then prog_2_method_5_code else .empty)) else (bif Nat.blt i 171 then (bif Nat.beq i 170 then prog_2_method_2_code else .empty) else (bif Nat.beq i 171 then prog_10_method_3_code else .empty))) else (bif Nat.blt i 174 then (bif Nat.blt i 173 then (bif Nat.beq i 172 then prog_10_method_2_code else .empty) else (bif Nat.beq i 173 then prog_3_method_2_code else .empty)) else (bif Nat.blt i 175 then (bif Nat.beq i 174 then prog_1_method_62_code else .empty) else (bif Nat.beq i 175 then prog_3_method_5_code else .empty)))
def am_by_22 : Nat → ByteArray := fun i => bif Nat.blt i 180 then (bif Nat.blt i 178 then (bif Nat.blt i 177 then (bif Nat.beq i 176 then prog_10_method_4_code else .empty) else (bif Nat.beq i 177 then prog_10_method_6_code else .empty)) else (bif Nat.blt i 179 then (bif Nat.beq i 178 then prog_10_method_9_code else .empty) else (bif Nat.beq i 179 then prog_10_method_10_code else .empty))) else (bif Nat.blt i 182 then (bif Nat.blt i 181 then (bif Nat.beq i 180 then prog_1_method_61_code else .empty) else (bif Nat.beq i 181 then prog_10_method_7_code else .empty)) else (bif Nat.blt i 183 then (bif Nat.beq i 182 then prog_10_method_8_code else .empty) else (bif Nat.beq i 183 then prog_10_method_5_code else .empty)))
def am_by_23 : Nat → ByteArray := fun i => bif Nat.blt i 188 then (bif Nat.blt i 186 then (bif Nat.blt i 185 then (bif Nat.beq i 184 then prog_3_method_4_code else .empty) else (bif Nat.beq i 185 then prog_3_method_9_code else .empty)) else (bif Nat.blt i 187 then (bif Nat.beq i 186 then prog_3_method_8_code else .empty) else (bif Nat.beq i 187 then prog_3_method_7_code else .empty))) else (bif Nat.blt i 190 then (bif Nat.blt i 189 then (bif Nat.beq i 188 then prog_3_method_6_code else .empty) else (bif Nat.beq i 189 then prog_3_method_3_code else .empty)) else (bif Nat.blt i 191 then (bif Nat.beq i 190 then prog_1_method_52_code else .empty) else (bif Nat.beq i 191 then prog_1_method_27_code else .empty)))
def am_by_24 : Nat → ByteArray := fun i => bif Nat.blt i 196 then (bif Nat.blt i 194 then (bif Nat.blt i 193 then (bif Nat.beq i 192 then prog_12_method_3_code else .empty) else (bif Nat.beq i 193 then prog_12_method_70_code else .empty)) else (bif Nat.blt i 195 then (bif Nat.beq i 194 then prog_12_method_65_code else .empty) else (bif Nat.beq i 195 then prog_12_method_56_code else .empty))) else (bif Nat.blt i 198 then (bif Nat.blt i 197 then (bif Nat.beq i 196 then prog_12_method_55_code else .empty) else (bif Nat.beq i 197 then prog_12_method_57_code else .empty)) else (bif Nat.blt i 199 then (bif Nat.beq i 198 then prog_12_method_58_code else .empty) else (bif Nat.beq i 199 then prog_12_method_59_code else .empty)))
def am_by_25 : Nat → ByteArray := fun i => bif Nat.blt i 204 then (bif Nat.blt i 202 then (bif Nat.blt i 201 then (bif Nat.beq i 200 then prog_12_method_61_code else .empty) else (bif Nat.beq i 201 then prog_12_method_64_code else .empty)) else (bif Nat.blt i 203 then (bif Nat.beq i 202 then prog_12_method_63_code else .empty) else (bif Nat.beq i 203 then prog_12_method_66_code else .empty))) else (bif Nat.blt i 206 then (bif Nat.blt i 205 then (bif Nat.beq i 204 then prog_12_method_67_code else .empty) else (bif Nat.beq i 205 then prog_12_method_68_code else .empty)) else (bif Nat.blt i 207 then (bif Nat.beq i 206 then prog_12_method_69_code else .empty) else (bif Nat.beq i 207 then prog_12_method_71_code else .empty)))
def am_by_26 : Nat → ByteArray := fun i => bif Nat.blt i 212 then (bif Nat.blt i 210 then (bif Nat.blt i 209 then (bif Nat.beq i 208 then prog_12_method_74_code else .empty) else (bif Nat.beq i 209 then prog_3_method_10_code else .empty)) else (bif Nat.blt i 211 then (bif Nat.beq i 210 then prog_1_method_28_code else .empty) else (bif Nat.beq i 211 then prog_12_method_75_code else .empty))) else (bif Nat.blt i 214 then (bif Nat.blt i 213 then (bif Nat.beq i 212 then prog_1_method_48_code else .empty) else (bif Nat.beq i 213 then prog_19_method_109_code else .empty)) else (bif Nat.blt i 215 then (bif Nat.beq i 214 then prog_3_method_13_code else .empty) else (bif Nat.beq i 215 then prog_3_method_12_code else .empty)))
def am_by_27 : Nat → ByteArray := fun i => bif Nat.blt i 220 then (bif Nat.blt i 218 then (bif Nat.blt i 217 then (bif Nat.beq i 216 then prog_1_method_29_code else .empty) else (bif Nat.beq i 217 then prog_12_method_76_code else .empty)) else (bif Nat.blt i 219 then (bif Nat.beq i 218 then prog_12_method_77_code else .empty) else (bif Nat.beq i 219 then prog_3_method_14_code else .empty))) else (bif Nat.blt i 222 then (bif Nat.blt i 221 then (bif Nat.beq i 220 then prog_1_method_30_code else .empty) else (bif Nat.beq i 221 then prog_12_method_78_code else .empty)) else (bif Nat.blt i 223 then (bif Nat.beq i 222 then prog_1_method_31_code else .empty) else (bif Nat.beq i 223 then prog_12_method_79_code else .empty)))
def am_by_28 : Nat → ByteArray := fun i => bif Nat.blt i 228 then (bif Nat.blt i 226 then (bif Nat.blt i 225 then (bif Nat.beq i 224 then prog_1_method_32_code else .empty) else (bif Nat.beq i 225 then prog_12_method_80_code else .empty)) else (bif Nat.blt i 227 then (bif Nat.beq i 226 then prog_3_method_11_code else .empty) else (bif Nat.beq i 227 then prog_6_method_7_code else .empty))) else (bif Nat.blt i 230 then (bif Nat.blt i 229 then (bif Nat.beq i 228 then prog_10_method_11_code else .empty) else (bif Nat.beq i 229 then prog_10_method_12_code else .empty)) else (bif Nat.blt i 231 then (bif Nat.beq i 230 then prog_6_method_5_code else .empty) else (bif Nat.beq i 231 then prog_6_method_3_code else .empty)))
def am_by_29 : Nat → ByteArray := fun i => bif Nat.blt i 236 then (bif Nat.blt i 234 then (bif Nat.blt i 233 then (bif Nat.beq i 232 then prog_6_method_6_code else .empty) else (bif Nat.beq i 233 then prog_6_method_4_code else .empty)) else (bif Nat.blt i 235 then (bif Nat.beq i 234 then prog_1_method_33_code else .empty) else (bif Nat.beq i 235 then prog_12_method_81_code else .empty))) else (bif Nat.blt i 238 then (bif Nat.blt i 237 then (bif Nat.beq i 236 then prog_12_method_82_code else .empty) else (bif Nat.beq i 237 then prog_6_method_2_code else .empty)) else (bif Nat.blt i 239 then (bif Nat.beq i 238 then prog_1_method_34_code else .empty) else (bif Nat.beq i 239 then prog_12_method_83_code else .empty)))
def am_by_30 : Nat → ByteArray := fun i => bif Nat.blt i 244 then (bif Nat.blt i 242 then (bif Nat.blt i 241 then (bif Nat.beq i 240 then prog_1_method_35_code else .empty) else (bif Nat.beq i 241 then prog_12_method_84_code else .empty)) else (bif Nat.blt i 243 then (bif Nat.beq i 242 then prog_6_method_8_code else .empty) else (bif Nat.beq i 243 then prog_6_method_9_code else .empty))) else (bif Nat.blt i 246 then (bif Nat.blt i 245 then (bif Nat.beq i 244 then prog_6_method_10_code else .empty) else (bif Nat.beq i 245 then prog_6_method_11_code else .empty)) else (bif Nat.blt i 247 then (bif Nat.beq i 246 then prog_1_method_36_code else .empty) else (bif Nat.beq i 247 then prog_12_method_85_code else .empty)))
def am_by_31 : Nat → ByteArray := fun i => bif Nat.blt i 252 then (bif Nat.blt i 250 then (bif Nat.blt i 249 then (bif Nat.beq i 248 then prog_12_method_86_code else .empty) else (bif Nat.beq i 249 then prog_12_method_87_code else .empty)) else (bif Nat.blt i 251 then (bif Nat.beq i 250 then prog_9_method_6_code else .empty) else (bif Nat.beq i 251 then prog_9_method_5_code else .empty))) else (bif Nat.blt i 254 then (bif Nat.blt i 253 then (bif Nat.beq i 252 then prog_1_method_37_code else .empty) else (bif Nat.beq i 253 then prog_12_method_88_code else .empty)) else (bif Nat.blt i 255 then (bif Nat.beq i 254 then prog_1_method_57_code else .empty) else (bif Nat.beq i 255 then prog_1_method_38_code else .empty)))
def am_by_32 : Nat → ByteArray := fun i => bif Nat.blt i 260 then (bif Nat.blt i 258 then (bif Nat.blt i 257 then (bif Nat.beq i 256 then prog_12_method_60_code else .empty) else (bif Nat.beq i 257 then prog_2_method_3_code else .empty)) else (bif Nat.blt i 259 then (bif Nat.beq i 258 then prog_1_method_39_code else .empty) else (bif Nat.beq i 259 then prog_12_method_62_code else .empty))) else (bif Nat.blt i 262 then (bif Nat.blt i 261 then (bif Nat.beq i 260 then prog_5_method_25_code else .empty) else (bif Nat.beq i 261 then prog_5_method_24_code else .empty)) else (bif Nat.blt i 263 then (bif Nat.beq i 262 then prog_1_method_40_code else .empty) else (bif Nat.beq i 263 then prog_12_method_89_code else .empty)))
def am_by_33 : Nat → ByteArray := fun i => bif Nat.blt i 268 then (bif Nat.blt i 266 then (bif Nat.blt i 265 then (bif Nat.beq i 264 then prog_12_method_90_code else .empty) else (bif Nat.beq i 265 then prog_1_method_41_code else .empty)) else (bif Nat.blt i 267 then (bif Nat.beq i 266 then prog_12_method_91_code else .empty) else (bif Nat.beq i 267 then prog_5_method_2_code else .empty))) else (bif Nat.blt i 270 then (bif Nat.blt i 269 then (bif Nat.beq i 268 then prog_1_method_42_code else .empty) else (bif Nat.beq i 269 then prog_12_method_92_code else .empty)) else (bif Nat.blt i 271 then (bif Nat.beq i 270 then prog_1_method_43_code else .empty) else (bif Nat.beq i 271 then prog_12_method_93_code else .empty)))
def am_by_34 : Nat → ByteArray := fun i => bif Nat.blt i 275 then (bif Nat.blt i 273 then (bif Nat.beq i 272 then prog_5_method_21_code else .empty) else (bif Nat.blt i 274 then (bif Nat.beq i 273 then prog_5_method_22_code else .empty) else (bif Nat.beq i 274 then prog_5_method_23_code else .empty))) else (bif Nat.blt i 276 then (bif Nat.beq i 275 then prog_1_method_44_code else .empty) else (bif Nat.blt i 277 then (bif Nat.beq i 276 then prog_12_method_94_code else .empty) else (bif Nat.beq i 277 then code else .empty)))
def am_by_0_2 : Nat → ByteArray := fun i => bif Nat.blt i 8 then am_by_0 i else am_by_1 i
def am_by_2_4 : Nat → ByteArray := fun i => bif Nat.blt i 24 then am_by_2 i else am_by_3 i
def am_by_0_4 : Nat → ByteArray := fun i => bif Nat.blt i 16 then am_by_0_2 i else am_by_2_4 i
def am_by_4_6 : Nat → ByteArray := fun i => bif Nat.blt i 40 then am_by_4 i else am_by_5 i
def am_by_6_8 : Nat → ByteArray := fun i => bif Nat.blt i 56 then am_by_6 i else am_by_7 i
def am_by_4_8 : Nat → ByteArray := fun i => bif Nat.blt i 48 then am_by_4_6 i else am_by_6_8 i
def am_by_0_8 : Nat → ByteArray := fun i => bif Nat.blt i 32 then am_by_0_4 i else am_by_4_8 i
def am_by_8_10 : Nat → ByteArray := fun i => bif Nat.blt i 72 then am_by_8 i else am_by_9 i
def am_by_10_12 : Nat → ByteArray := fun i => bif Nat.blt i 88 then am_by_10 i else am_by_11 i
def am_by_8_12 : Nat → ByteArray := fun i => bif Nat.blt i 80 then am_by_8_10 i else am_by_10_12 i
def am_by_12_14 : Nat → ByteArray := fun i => bif Nat.blt i 104 then am_by_12 i else am_by_13 i
def am_by_15_17 : Nat → ByteArray := fun i => bif Nat.blt i 128 then am_by_15 i else am_by_16 i
def am_by_14_17 : Nat → ByteArray := fun i => bif Nat.blt i 120 then am_by_14 i else am_by_15_17 i
def am_by_12_17 : Nat → ByteArray := fun i => bif Nat.blt i 112 then am_by_12_14 i else am_by_14_17 i
def am_by_8_17 : Nat → ByteArray := fun i => bif Nat.blt i 96 then am_by_8_12 i else am_by_12_17 i
def am_by_0_17 : Nat → ByteArray := fun i => bif Nat.blt i 64 then am_by_0_8 i else am_by_8_17 i
def am_by_17_19 : Nat → ByteArray := fun i => bif Nat.blt i 144 then am_by_17 i else am_by_18 i
def am_by_19_21 : Nat → ByteArray := fun i => bif Nat.blt i 160 then am_by_19 i else am_by_20 i
def am_by_17_21 : Nat → ByteArray := fun i => bif Nat.blt i 152 then am_by_17_19 i else am_by_19_21 i
def am_by_21_23 : Nat → ByteArray := fun i => bif Nat.blt i 176 then am_by_21 i else am_by_22 i
def am_by_24_26 : Nat → ByteArray := fun i => bif Nat.blt i 200 then am_by_24 i else am_by_25 i
def am_by_23_26 : Nat → ByteArray := fun i => bif Nat.blt i 192 then am_by_23 i else am_by_24_26 i
def am_by_21_26 : Nat → ByteArray := fun i => bif Nat.blt i 184 then am_by_21_23 i else am_by_23_26 i
def am_by_17_26 : Nat → ByteArray := fun i => bif Nat.blt i 168 then am_by_17_21 i else am_by_21_26 i
def am_by_26_28 : Nat → ByteArray := fun i => bif Nat.blt i 216 then am_by_26 i else am_by_27 i
def am_by_28_30 : Nat → ByteArray := fun i => bif Nat.blt i 232 then am_by_28 i else am_by_29 i
def am_by_26_30 : Nat → ByteArray := fun i => bif Nat.blt i 224 then am_by_26_28 i else am_by_28_30 i
def am_by_30_32 : Nat → ByteArray := fun i => bif Nat.blt i 248 then am_by_30 i else am_by_31 i
def am_by_33_35 : Nat → ByteArray := fun i => bif Nat.blt i 272 then am_by_33 i else am_by_34 i
def am_by_32_35 : Nat → ByteArray := fun i => bif Nat.blt i 264 then am_by_32 i else am_by_33_35 i
def am_by_30_35 : Nat → ByteArray := fun i => bif Nat.blt i 256 then am_by_30_32 i else am_by_32_35 i
def am_by_26_35 : Nat → ByteArray := fun i => bif Nat.blt i 240 then am_by_26_30 i else am_by_30_35 i
def am_by_17_35 : Nat → ByteArray := fun i => bif Nat.blt i 208 then am_by_17_26 i else am_by_26_35 i
def am_by : Nat → ByteArray := fun i => bif Nat.blt i 136 then am_by_0_17 i else am_by_17_35 i
def am_nm_0 : Nat → MethodName := fun i => bif Nat.blt i 4 then (bif Nat.blt i 2 then (bif Nat.blt i 1 then (bif Nat.beq i 0 then ⟨"java/util/Arrays", "fill", "([II)V"⟩ else ⟨"", "", ""⟩) else (bif Nat.beq i 1 then ⟨"PlanMemo$Memo", "<init>", "()V"⟩ else ⟨"", "", ""⟩)) else (bif Nat.blt i 3 then (bif Nat.beq i 2 then ⟨"PlanMemo$Firing", "<init>", "(LPlanMemo$Memo;)V"⟩ else ⟨"", "", ""⟩) else (bif Nat.beq i 3 then ⟨"PlanMemo$Sizes", "<init>", "(LPlanMemo$Memo;)V"⟩ else ⟨"", "", ""⟩))) else (bif Nat.blt i 6 then (bif Nat.blt i 5 then (bif Nat.beq i 4 then ⟨"PlanMemo$Bodies", "<init>", "()V"⟩ else ⟨"", "", ""⟩) else (bif Nat.beq i 5 then ⟨"PlanMemo$Ways", "<init>", "(LPlanMemo$Memo;LPlanMemo$Sizes;)V"⟩ else ⟨"", "", ""⟩)) else (bif Nat.blt i 7 then (bif Nat.beq i 6 then ⟨"PlanMemo$Costs", "<init>", "(LPlanMemo$Memo;LPlanMemo$Sizes;)V"⟩ else ⟨"", "", ""⟩) else (bif Nat.beq i 7 then ⟨"PlanMemo$Reade\x72", "<init>", "(LPlanMemo$Memo;)V"⟩ else ⟨"", "", ""⟩)))
def am_nm_1 : Nat → MethodName := fun i => bif Nat.blt i 12 then (bif Nat.blt i 10 then (bif Nat.blt i 9 then (bif Nat.beq i 8 then ⟨"PlanMemo$Plan", "<init>", "()V"⟩ else ⟨"", "", ""⟩) else (bif Nat.beq i 9 then ⟨"PlanMemo$Shelf", "<init>", "()V"⟩ else ⟨"", "", ""⟩)) else (bif Nat.blt i 11 then (bif Nat.beq i 10 then ⟨"PlanMemo", "<init>", "()V"⟩ else ⟨"", "", ""⟩) else (bif Nat.beq i 11 then ⟨"PlanMemoModel", "<init>", "()V"⟩ else ⟨"", "", ""⟩))) else (bif Nat.blt i 14 then (bif Nat.blt i 13 then (bif Nat.beq i 12 then ⟨"PlanMemo", "isShelf", "(I)Z"⟩ else ⟨"", "", ""⟩) else (bif Nat.beq i 13 then ⟨"PlanMemo", "refuse", "(I)I"⟩ else ⟨"", "", ""⟩)) else (bif Nat.blt i 15 then (bif Nat.beq i 14 then ⟨"java/util/Arrays", "fill", "([JJ)V"⟩ else ⟨"", "", ""⟩) else (bif Nat.beq i 15 then ⟨"PlanMemo$Shelf", "takeRow", "(II)V"⟩ else ⟨"", "", ""⟩)))
def am_nm_2 : Nat → MethodName := fun i => bif Nat.blt i 20 then (bif Nat.blt i 18 then (bif Nat.blt i 17 then (bif Nat.beq i 16 then ⟨"PlanMemo", "row", "(III)I"⟩ else ⟨"", "", ""⟩) else (bif Nat.beq i 17 then ⟨"PlanMemoModel", "isShelf", "(I)Z"⟩ else ⟨"", "", ""⟩)) else (bif Nat.blt i 19 then (bif Nat.beq i 18 then ⟨"PlanMemoModel", "no", "(I)I"⟩ else ⟨"", "", ""⟩) else (bif Nat.beq i 19 then ⟨"PlanMemoModel", "row", "(III)I"⟩ else ⟨"", "", ""⟩))) else (bif Nat.blt i 22 then (bif Nat.blt i 21 then (bif Nat.beq i 20 then ⟨"PlanMemo$Shelf", "isExpression", "()Z"⟩ else ⟨"", "", ""⟩) else (bif Nat.beq i 21 then ⟨"PlanMemo$Shelf", "isRow", "()Z"⟩ else ⟨"", "", ""⟩)) else (bif Nat.blt i 23 then (bif Nat.beq i 22 then ⟨"PlanMemo", "rowRefusal", "(I)I"⟩ else ⟨"", "", ""⟩) else (bif Nat.beq i 23 then ⟨"PlanMemo$Shelf", "hasElements", "(II)Z"⟩ else ⟨"", "", ""⟩)))
def am_nm_3 : Nat → MethodName := fun i => bif Nat.blt i 28 then (bif Nat.blt i 26 then (bif Nat.blt i 25 then (bif Nat.beq i 24 then ⟨"PlanMemo$Shelf", "put", "(IJ)V"⟩ else ⟨"", "", ""⟩) else (bif Nat.beq i 25 then ⟨"PlanMemo", "set", "(IIJ)I"⟩ else ⟨"", "", ""⟩)) else (bif Nat.blt i 27 then (bif Nat.beq i 26 then ⟨"PlanMemoModel", "puts", "(IIJ)V"⟩ else ⟨"", "", ""⟩) else (bif Nat.beq i 27 then ⟨"PlanMemoModel", "set", "(IIJ)I"⟩ else ⟨"", "", ""⟩))) else (bif Nat.blt i 30 then (bif Nat.blt i 29 then (bif Nat.beq i 28 then ⟨"PlanMemo", "copy", "(IIIII)I"⟩ else ⟨"", "", ""⟩) else (bif Nat.beq i 29 then ⟨"PlanMemoModel", "copy", "(IIIII)I"⟩ else ⟨"", "", ""⟩)) else (bif Nat.blt i 31 then (bif Nat.beq i 30 then ⟨"PlanMemo", "element", "(II)J"⟩ else ⟨"", "", ""⟩) else (bif Nat.beq i 31 then ⟨"PlanMemoModel", "element", "(II)J"⟩ else ⟨"", "", ""⟩)))
def am_nm_4 : Nat → MethodName := fun i => bif Nat.blt i 36 then (bif Nat.blt i 34 then (bif Nat.blt i 33 then (bif Nat.beq i 32 then ⟨"PlanMemo$Memo", "isExpression", "(I)Z"⟩ else ⟨"", "", ""⟩) else (bif Nat.beq i 33 then ⟨"PlanMemo$Shelf", "takeExpression", "(I)V"⟩ else ⟨"", "", ""⟩)) else (bif Nat.blt i 35 then (bif Nat.beq i 34 then ⟨"PlanMemo", "show", "(II)I"⟩ else ⟨"", "", ""⟩) else (bif Nat.beq i 35 then ⟨"PlanMemoModel", "isExpression", "(I)Z"⟩ else ⟨"", "", ""⟩))) else (bif Nat.blt i 38 then (bif Nat.blt i 37 then (bif Nat.beq i 36 then ⟨"PlanMemoModel", "show", "(II)I"⟩ else ⟨"", "", ""⟩) else (bif Nat.beq i 37 then ⟨"PlanMemo", "holds", "(I)I"⟩ else ⟨"", "", ""⟩)) else (bif Nat.blt i 39 then (bif Nat.beq i 38 then ⟨"PlanMemoModel", "holds", "(I)I"⟩ else ⟨"", "", ""⟩) else (bif Nat.beq i 39 then ⟨"PlanMemo", "isUnde\x72", "(II)Z"⟩ else ⟨"", "", ""⟩)))
def am_nm_5 : Nat → MethodName := fun i => bif Nat.blt i 44 then (bif Nat.blt i 42 then (bif Nat.blt i 41 then (bif Nat.beq i 40 then ⟨"PlanMemo$Memo", "isGone", "(I)Z"⟩ else ⟨"", "", ""⟩) else (bif Nat.beq i 41 then ⟨"PlanMemo", "saying", "(II)I"⟩ else ⟨"", "", ""⟩)) else (bif Nat.blt i 43 then (bif Nat.beq i 42 then ⟨"PlanMemo", "says", "(II)I"⟩ else ⟨"", "", ""⟩) else (bif Nat.beq i 43 then ⟨"PlanMemoModel", "isFrom", "(III)Z"⟩ else ⟨"", "", ""⟩))) else (bif Nat.blt i 46 then (bif Nat.blt i 45 then (bif Nat.beq i 44 then ⟨"PlanMemoModel", "isOf", "(II)Z"⟩ else ⟨"", "", ""⟩) else (bif Nat.beq i 45 then ⟨"PlanMemoModel", "root", "(I)I"⟩ else ⟨"", "", ""⟩)) else (bif Nat.blt i 47 then (bif Nat.beq i 46 then ⟨"PlanMemoModel", "says", "(II)I"⟩ else ⟨"", "", ""⟩) else (bif Nat.beq i 47 then ⟨"PlanMemo", "isColumn", "(I)Z"⟩ else ⟨"", "", ""⟩)))
def am_nm_6 : Nat → MethodName := fun i => bif Nat.blt i 52 then (bif Nat.blt i 50 then (bif Nat.blt i 49 then (bif Nat.beq i 48 then ⟨"PlanMemo", "hasColumn", "(II)Z"⟩ else ⟨"", "", ""⟩) else (bif Nat.beq i 49 then ⟨"PlanMemo$Memo", "addTable", "(IIII)I"⟩ else ⟨"", "", ""⟩)) else (bif Nat.blt i 51 then (bif Nat.beq i 50 then ⟨"PlanMemo", "table", "(IIII)I"⟩ else ⟨"", "", ""⟩) else (bif Nat.beq i 51 then ⟨"PlanMemoModel", "isColumn", "(II)Z"⟩ else ⟨"", "", ""⟩))) else (bif Nat.blt i 54 then (bif Nat.blt i 53 then (bif Nat.beq i 52 then ⟨"PlanMemoModel", "table", "(IIII)I"⟩ else ⟨"", "", ""⟩) else (bif Nat.beq i 53 then ⟨"PlanMemo$Memo", "isTable", "(I)Z"⟩ else ⟨"", "", ""⟩)) else (bif Nat.blt i 55 then (bif Nat.beq i 54 then ⟨"PlanMemo$Memo", "factOfTable", "(II)I"⟩ else ⟨"", "", ""⟩) else (bif Nat.beq i 55 then ⟨"PlanMemo", "tableOf", "(II)I"⟩ else ⟨"", "", ""⟩)))
def am_nm_7 : Nat → MethodName := fun i => bif Nat.blt i 60 then (bif Nat.blt i 58 then (bif Nat.blt i 57 then (bif Nat.beq i 56 then ⟨"PlanMemoModel", "tableOf", "(II)I"⟩ else ⟨"", "", ""⟩) else (bif Nat.beq i 57 then ⟨"PlanMemo", "distinct", "(II)I"⟩ else ⟨"", "", ""⟩)) else (bif Nat.blt i 59 then (bif Nat.beq i 58 then ⟨"PlanMemoModel", "distinct", "(II)I"⟩ else ⟨"", "", ""⟩) else (bif Nat.beq i 59 then ⟨"PlanMemo$Memo", "alike", "(IIII)I"⟩ else ⟨"", "", ""⟩))) else (bif Nat.blt i 62 then (bif Nat.blt i 61 then (bif Nat.beq i 60 then ⟨"PlanMemo$Memo", "isGroup", "(I)Z"⟩ else ⟨"", "", ""⟩) else (bif Nat.beq i 61 then ⟨"PlanMemo$Memo", "columnsOf", "(I)I"⟩ else ⟨"", "", ""⟩)) else (bif Nat.blt i 63 then (bif Nat.beq i 62 then ⟨"PlanMemo", "columnsBy", "(IIII)I"⟩ else ⟨"", "", ""⟩) else (bif Nat.beq i 63 then ⟨"PlanMemo$Memo", "addTo", "(IIIII)V"⟩ else ⟨"", "", ""⟩)))
def am_nm_8 : Nat → MethodName := fun i => bif Nat.blt i 68 then (bif Nat.blt i 66 then (bif Nat.blt i 65 then (bif Nat.beq i 64 then ⟨"PlanMemo$Memo", "tell", "(IIII)I"⟩ else ⟨"", "", ""⟩) else (bif Nat.beq i 65 then ⟨"PlanMemo", "told", "(IIII)I"⟩ else ⟨"", "", ""⟩)) else (bif Nat.blt i 67 then (bif Nat.beq i 66 then ⟨"PlanMemo", "scan", "(I)I"⟩ else ⟨"", "", ""⟩) else (bif Nat.beq i 67 then ⟨"PlanMemoModel", "alike", "(IIII)I"⟩ else ⟨"", "", ""⟩))) else (bif Nat.blt i 70 then (bif Nat.blt i 69 then (bif Nat.beq i 68 then ⟨"PlanMemoModel", "adds", "(IIIII)I"⟩ else ⟨"", "", ""⟩) else (bif Nat.beq i 69 then ⟨"PlanMemoModel", "told", "(IIII)I"⟩ else ⟨"", "", ""⟩)) else (bif Nat.blt i 71 then (bif Nat.beq i 70 then ⟨"PlanMemoModel", "tellOf", "(IIII)I"⟩ else ⟨"", "", ""⟩) else (bif Nat.beq i 71 then ⟨"PlanMemoModel", "scan", "(I)I"⟩ else ⟨"", "", ""⟩)))
def am_nm_9 : Nat → MethodName := fun i => bif Nat.blt i 76 then (bif Nat.blt i 74 then (bif Nat.blt i 73 then (bif Nat.beq i 72 then ⟨"PlanMemo$Memo", "root", "(I)I"⟩ else ⟨"", "", ""⟩) else (bif Nat.beq i 73 then ⟨"PlanMemo", "fitsColumns", "(IIII)Z"⟩ else ⟨"", "", ""⟩)) else (bif Nat.blt i 75 then (bif Nat.beq i 74 then ⟨"PlanMemo$Memo", "mayBe", "(IIII)Z"⟩ else ⟨"", "", ""⟩) else (bif Nat.beq i 75 then ⟨"PlanMemo", "keep", "(II)I"⟩ else ⟨"", "", ""⟩))) else (bif Nat.blt i 78 then (bif Nat.blt i 77 then (bif Nat.beq i 76 then ⟨"PlanMemoModel", "isGroup", "(I)Z"⟩ else ⟨"", "", ""⟩) else (bif Nat.beq i 77 then ⟨"PlanMemoModel", "tells", "()V"⟩ else ⟨"", "", ""⟩)) else (bif Nat.blt i 79 then (bif Nat.beq i 78 then ⟨"PlanMemoModel", "may", "(IIII)Z"⟩ else ⟨"", "", ""⟩) else (bif Nat.beq i 79 then ⟨"PlanMemoModel", "keep", "(II)I"⟩ else ⟨"", "", ""⟩)))
def am_nm_10 : Nat → MethodName := fun i => bif Nat.blt i 84 then (bif Nat.blt i 82 then (bif Nat.blt i 81 then (bif Nat.beq i 80 then ⟨"PlanMemo", "tally", "(II)I"⟩ else ⟨"", "", ""⟩) else (bif Nat.beq i 81 then ⟨"PlanMemoModel", "tally", "(II)I"⟩ else ⟨"", "", ""⟩)) else (bif Nat.blt i 83 then (bif Nat.beq i 82 then ⟨"PlanMemo", "toldOfTwo", "(IIII)I"⟩ else ⟨"", "", ""⟩) else (bif Nat.beq i 83 then ⟨"PlanMemo", "join", "(III)I"⟩ else ⟨"", "", ""⟩))) else (bif Nat.blt i 86 then (bif Nat.blt i 85 then (bif Nat.beq i 84 then ⟨"PlanMemoModel", "two", "(IIII)I"⟩ else ⟨"", "", ""⟩) else (bif Nat.beq i 85 then ⟨"PlanMemoModel", "join", "(III)I"⟩ else ⟨"", "", ""⟩)) else (bif Nat.blt i 87 then (bif Nat.beq i 86 then ⟨"PlanMemo", "half", "(III)I"⟩ else ⟨"", "", ""⟩) else (bif Nat.beq i 87 then ⟨"PlanMemoModel", "half", "(III)I"⟩ else ⟨"", "", ""⟩)))
def am_nm_11 : Nat → MethodName := fun i => bif Nat.blt i 92 then (bif Nat.blt i 90 then (bif Nat.blt i 89 then (bif Nat.beq i 88 then ⟨"PlanMemo$Shelf", "letterAt", "(I)I"⟩ else ⟨"", "", ""⟩) else (bif Nat.beq i 89 then ⟨"PlanMemo$Reade\x72", "lette\x72", "()I"⟩ else ⟨"", "", ""⟩)) else (bif Nat.blt i 91 then (bif Nat.beq i 90 then ⟨"PlanMemo$Reade\x72", "kindBy", "(I)I"⟩ else ⟨"", "", ""⟩) else (bif Nat.beq i 91 then ⟨"PlanMemo", "wordOf", "(I)Ljava/lang/String;"⟩ else ⟨"", "", ""⟩))) else (bif Nat.blt i 94 then (bif Nat.blt i 93 then (bif Nat.beq i 92 then ⟨"java/lang/String", "code\x72", "()B"⟩ else ⟨"", "", ""⟩) else (bif Nat.beq i 93 then ⟨"java/lang/String", "length", "()I"⟩ else ⟨"", "", ""⟩)) else (bif Nat.blt i 95 then (bif Nat.beq i 94 then ⟨"java/lang/String", "isLatin1", "()Z"⟩ else ⟨"", "", ""⟩) else (bif Nat.beq i 95 then ⟨"jdk/internal/util/Preconditions", "checkIndex", "(IILjava/util/function/BiFunction;)I"⟩ else ⟨"", "", ""⟩)))
def am_nm_12 : Nat → MethodName := fun i => bif Nat.blt i 100 then (bif Nat.blt i 98 then (bif Nat.blt i 97 then (bif Nat.beq i 96 then ⟨"java/lang/String", "checkIndex", "(II)V"⟩ else ⟨"", "", ""⟩) else (bif Nat.beq i 97 then ⟨"java/lang/StringLatin1", "charAt", "([BI)C"⟩ else ⟨"", "", ""⟩)) else (bif Nat.blt i 99 then (bif Nat.beq i 98 then ⟨"java/lang/String", "charAt", "(I)C"⟩ else ⟨"", "", ""⟩) else (bif Nat.beq i 99 then ⟨"PlanMemo$Reade\x72", "take", "(I)Z"⟩ else ⟨"", "", ""⟩))) else (bif Nat.blt i 102 then (bif Nat.blt i 101 then (bif Nat.beq i 100 then ⟨"PlanMemo$Reade\x72", "digitsOf", "(I)I"⟩ else ⟨"", "", ""⟩) else (bif Nat.beq i 101 then ⟨"PlanMemo$Reade\x72", "beginOne", "()Z"⟩ else ⟨"", "", ""⟩)) else (bif Nat.blt i 103 then (bif Nat.beq i 102 then ⟨"PlanMemo$Reade\x72", "kindOpen", "()I"⟩ else ⟨"", "", ""⟩) else (bif Nat.beq i 103 then ⟨"PlanMemo$Reade\x72", "columnsOf", "(I)I"⟩ else ⟨"", "", ""⟩)))
def am_nm_13 : Nat → MethodName := fun i => bif Nat.blt i 108 then (bif Nat.blt i 106 then (bif Nat.blt i 105 then (bif Nat.beq i 104 then ⟨"PlanMemo$Reade\x72", "endOne", "(II)V"⟩ else ⟨"", "", ""⟩) else (bif Nat.beq i 105 then ⟨"PlanMemo$Reade\x72", "endAround", "()I"⟩ else ⟨"", "", ""⟩)) else (bif Nat.blt i 107 then (bif Nat.beq i 106 then ⟨"PlanMemo$Reade\x72", "faultIn", "(LPlanMemo$Shelf;)I"⟩ else ⟨"", "", ""⟩) else (bif Nat.beq i 107 then ⟨"PlanMemo$Reade\x72", "groupOfPart", "(I)I"⟩ else ⟨"", "", ""⟩))) else (bif Nat.blt i 110 then (bif Nat.blt i 109 then (bif Nat.beq i 108 then ⟨"PlanMemo$Memo", "takeBack", "(II)V"⟩ else ⟨"", "", ""⟩) else (bif Nat.beq i 109 then ⟨"PlanMemo$Reade\x72", "tellAll", "()I"⟩ else ⟨"", "", ""⟩)) else (bif Nat.blt i 111 then (bif Nat.beq i 110 then ⟨"PlanMemo", "read", "(I)I"⟩ else ⟨"", "", ""⟩) else (bif Nat.beq i 111 then ⟨"PlanMemoModel", "goes", "(I)Z"⟩ else ⟨"", "", ""⟩)))
def am_nm_14 : Nat → MethodName := fun i => bif Nat.blt i 116 then (bif Nat.blt i 114 then (bif Nat.blt i 113 then (bif Nat.beq i 112 then ⟨"PlanMemoModel", "goes", "(Ljava/lang/String;)Z"⟩ else ⟨"", "", ""⟩) else (bif Nat.beq i 113 then ⟨"PlanMemoModel", "digit", "(I)I"⟩ else ⟨"", "", ""⟩)) else (bif Nat.blt i 115 then (bif Nat.beq i 114 then ⟨"PlanMemoModel", "reads", "()I"⟩ else ⟨"", "", ""⟩) else (bif Nat.beq i 115 then ⟨"PlanMemoModel", "read", "(I)I"⟩ else ⟨"", "", ""⟩))) else (bif Nat.blt i 118 then (bif Nat.blt i 117 then (bif Nat.beq i 116 then ⟨"PlanMemo", "fault", "()I"⟩ else ⟨"", "", ""⟩) else (bif Nat.beq i 117 then ⟨"PlanMemoModel", "fault", "()I"⟩ else ⟨"", "", ""⟩)) else (bif Nat.blt i 119 then (bif Nat.beq i 118 then ⟨"PlanMemo$Memo", "mergePai\x72", "(II)V"⟩ else ⟨"", "", ""⟩) else (bif Nat.beq i 119 then ⟨"PlanMemo$Memo", "dropOneAlike", "()Z"⟩ else ⟨"", "", ""⟩)))
def am_nm_15 : Nat → MethodName := fun i => bif Nat.blt i 124 then (bif Nat.blt i 122 then (bif Nat.blt i 121 then (bif Nat.beq i 120 then ⟨"PlanMemo$Memo", "unify", "(II)V"⟩ else ⟨"", "", ""⟩) else (bif Nat.beq i 121 then ⟨"PlanMemo", "same", "(II)I"⟩ else ⟨"", "", ""⟩)) else (bif Nat.blt i 123 then (bif Nat.beq i 122 then ⟨"PlanMemoModel", "merges", "(II)V"⟩ else ⟨"", "", ""⟩) else (bif Nat.beq i 123 then ⟨"PlanMemoModel", "same", "(II)I"⟩ else ⟨"", "", ""⟩))) else (bif Nat.blt i 126 then (bif Nat.blt i 125 then (bif Nat.beq i 124 then ⟨"PlanMemo", "groupOf", "(I)I"⟩ else ⟨"", "", ""⟩) else (bif Nat.beq i 125 then ⟨"PlanMemoModel", "groupOf", "(I)I"⟩ else ⟨"", "", ""⟩)) else (bif Nat.blt i 127 then (bif Nat.beq i 126 then ⟨"java/lang/Long", "bitCount", "(J)I"⟩ else ⟨"", "", ""⟩) else (bif Nat.beq i 127 then ⟨"PlanMemo$Sizes", "rowsOf", "(I)I"⟩ else ⟨"", "", ""⟩)))
def am_nm_16 : Nat → MethodName := fun i => bif Nat.blt i 132 then (bif Nat.blt i 130 then (bif Nat.blt i 129 then (bif Nat.beq i 128 then ⟨"PlanMemo$Sizes", "rowsBy", "(I)J"⟩ else ⟨"", "", ""⟩) else (bif Nat.beq i 129 then ⟨"PlanMemo$Sizes", "refresh", "()V"⟩ else ⟨"", "", ""⟩)) else (bif Nat.blt i 131 then (bif Nat.beq i 130 then ⟨"PlanMemo$Memo", "memberFrom", "(II)I"⟩ else ⟨"", "", ""⟩) else (bif Nat.beq i 131 then ⟨"PlanMemo$Memo", "usersOf", "(I)I"⟩ else ⟨"", "", ""⟩))) else (bif Nat.blt i 134 then (bif Nat.blt i 133 then (bif Nat.beq i 132 then ⟨"PlanMemo", "group", "(II)I"⟩ else ⟨"", "", ""⟩) else (bif Nat.beq i 133 then ⟨"PlanMemoModel", "group", "(II)I"⟩ else ⟨"", "", ""⟩)) else (bif Nat.blt i 135 then (bif Nat.beq i 134 then ⟨"PlanMemo", "expression", "(II)I"⟩ else ⟨"", "", ""⟩) else (bif Nat.beq i 135 then ⟨"PlanMemoModel", "expression", "(II)I"⟩ else ⟨"", "", ""⟩)))
def am_nm_17 : Nat → MethodName := fun i => bif Nat.blt i 140 then (bif Nat.blt i 138 then (bif Nat.blt i 137 then (bif Nat.beq i 136 then ⟨"PlanMemo$Firing", "isPai\x72", "()Z"⟩ else ⟨"", "", ""⟩) else (bif Nat.beq i 137 then ⟨"PlanMemo$Firing", "findPartne\x72", "()Z"⟩ else ⟨"", "", ""⟩)) else (bif Nat.blt i 139 then (bif Nat.beq i 138 then ⟨"PlanMemo$Firing", "find", "()Z"⟩ else ⟨"", "", ""⟩) else (bif Nat.beq i 139 then ⟨"PlanMemo$Firing", "inne\x72", "(IIII)V"⟩ else ⟨"", "", ""⟩))) else (bif Nat.blt i 142 then (bif Nat.blt i 141 then (bif Nat.beq i 140 then ⟨"PlanMemo$Firing", "outcome", "(IIII)V"⟩ else ⟨"", "", ""⟩) else (bif Nat.beq i 141 then ⟨"PlanMemo$Firing", "shape", "()V"⟩ else ⟨"", "", ""⟩)) else (bif Nat.blt i 143 then (bif Nat.beq i 142 then ⟨"PlanMemo$Firing", "filled", "(II)I"⟩ else ⟨"", "", ""⟩) else (bif Nat.beq i 143 then ⟨"PlanMemo$Firing", "newOnes", "()I"⟩ else ⟨"", "", ""⟩)))
def am_nm_18 : Nat → MethodName := fun i => bif Nat.blt i 148 then (bif Nat.blt i 146 then (bif Nat.blt i 145 then (bif Nat.beq i 144 then ⟨"PlanMemo$Firing", "hasRoom", "()Z"⟩ else ⟨"", "", ""⟩) else (bif Nat.beq i 145 then ⟨"PlanMemo$Firing", "fire", "()V"⟩ else ⟨"", "", ""⟩)) else (bif Nat.blt i 147 then (bif Nat.beq i 146 then ⟨"PlanMemo", "explore", "(I)I"⟩ else ⟨"", "", ""⟩) else (bif Nat.beq i 147 then ⟨"PlanMemoModel", "fits", "(III)Z"⟩ else ⟨"", "", ""⟩))) else (bif Nat.blt i 150 then (bif Nat.blt i 149 then (bif Nat.beq i 148 then ⟨"PlanMemoModel", "finds", "()Z"⟩ else ⟨"", "", ""⟩) else (bif Nat.beq i 149 then ⟨"PlanMemoModel", "says", "(IIII)V"⟩ else ⟨"", "", ""⟩)) else (bif Nat.blt i 151 then (bif Nat.beq i 150 then ⟨"PlanMemoModel", "bracket", "()V"⟩ else ⟨"", "", ""⟩) else (bif Nat.beq i 151 then ⟨"PlanMemoModel", "comes", "(I)V"⟩ else ⟨"", "", ""⟩)))
def am_nm_19 : Nat → MethodName := fun i => bif Nat.blt i 156 then (bif Nat.blt i 154 then (bif Nat.blt i 153 then (bif Nat.beq i 152 then ⟨"PlanMemoModel", "news", "()I"⟩ else ⟨"", "", ""⟩) else (bif Nat.beq i 153 then ⟨"PlanMemoModel", "fires", "()V"⟩ else ⟨"", "", ""⟩)) else (bif Nat.blt i 155 then (bif Nat.beq i 154 then ⟨"PlanMemoModel", "explore", "(I)I"⟩ else ⟨"", "", ""⟩) else (bif Nat.beq i 155 then ⟨"PlanMemo", "next", "(I)I"⟩ else ⟨"", "", ""⟩))) else (bif Nat.blt i 158 then (bif Nat.blt i 157 then (bif Nat.beq i 156 then ⟨"PlanMemoModel", "next", "(I)I"⟩ else ⟨"", "", ""⟩) else (bif Nat.beq i 157 then ⟨"PlanMemo", "fired", "(I)I"⟩ else ⟨"", "", ""⟩)) else (bif Nat.blt i 159 then (bif Nat.beq i 158 then ⟨"PlanMemoModel", "fired", "(I)I"⟩ else ⟨"", "", ""⟩) else (bif Nat.beq i 159 then ⟨"PlanMemo", "isAllowable", "(I)Z"⟩ else ⟨"", "", ""⟩)))
def am_nm_20 : Nat → MethodName := fun i => bif Nat.blt i 164 then (bif Nat.blt i 162 then (bif Nat.blt i 161 then (bif Nat.beq i 160 then ⟨"PlanMemo", "allow", "(IZ)I"⟩ else ⟨"", "", ""⟩) else (bif Nat.beq i 161 then ⟨"PlanMemoModel", "isWay", "(I)Z"⟩ else ⟨"", "", ""⟩)) else (bif Nat.blt i 163 then (bif Nat.beq i 162 then ⟨"PlanMemoModel", "allow", "(IZ)I"⟩ else ⟨"", "", ""⟩) else (bif Nat.beq i 163 then ⟨"PlanMemo", "refuseFa\x72", "(I)I"⟩ else ⟨"", "", ""⟩))) else (bif Nat.blt i 166 then (bif Nat.blt i 165 then (bif Nat.beq i 164 then ⟨"PlanMemo", "isOrde\x72", "(I)Z"⟩ else ⟨"", "", ""⟩) else (bif Nat.beq i 165 then ⟨"PlanMemo", "isPlace", "(I)Z"⟩ else ⟨"", "", ""⟩)) else (bif Nat.blt i 167 then (bif Nat.beq i 166 then ⟨"PlanMemo$Bodies", "begin", "(I)V"⟩ else ⟨"", "", ""⟩) else (bif Nat.beq i 167 then ⟨"PlanMemo$Bodies", "digitsOf", "(J)I"⟩ else ⟨"", "", ""⟩)))
def am_nm_21 : Nat → MethodName := fun i => bif Nat.blt i 172 then (bif Nat.blt i 170 then (bif Nat.blt i 169 then (bif Nat.beq i 168 then ⟨"PlanMemo$Bodies", "endOf", "(IJ)J"⟩ else ⟨"", "", ""⟩) else (bif Nat.beq i 169 then ⟨"PlanMemo$Bodies", "runFrom", "(I[I)J"⟩ else ⟨"", "", ""⟩)) else (bif Nat.blt i 171 then (bif Nat.beq i 170 then ⟨"PlanMemo$Bodies", "priceBy", "(IIII)J"⟩ else ⟨"", "", ""⟩) else (bif Nat.beq i 171 then ⟨"PlanMemo$Ways", "reckonPricesOf", "(I)V"⟩ else ⟨"", "", ""⟩))) else (bif Nat.blt i 174 then (bif Nat.blt i 173 then (bif Nat.beq i 172 then ⟨"PlanMemo$Ways", "reckonPrices", "()V"⟩ else ⟨"", "", ""⟩) else (bif Nat.beq i 173 then ⟨"PlanMemo$Costs", "prepare", "(I)V"⟩ else ⟨"", "", ""⟩)) else (bif Nat.blt i 175 then (bif Nat.beq i 174 then ⟨"PlanMemo", "demandOf", "(III)I"⟩ else ⟨"", "", ""⟩) else (bif Nat.beq i 175 then ⟨"PlanMemo$Costs", "listIfUnknown", "(I)V"⟩ else ⟨"", "", ""⟩)))
def am_nm_22 : Nat → MethodName := fun i => bif Nat.blt i 180 then (bif Nat.blt i 178 then (bif Nat.blt i 177 then (bif Nat.beq i 176 then ⟨"PlanMemo$Ways", "beginAll", "(I)V"⟩ else ⟨"", "", ""⟩) else (bif Nat.beq i 177 then ⟨"PlanMemo$Ways", "isAllowed", "(I)Z"⟩ else ⟨"", "", ""⟩)) else (bif Nat.blt i 179 then (bif Nat.beq i 178 then ⟨"PlanMemo$Ways", "offersSort", "()Z"⟩ else ⟨"", "", ""⟩) else (bif Nat.beq i 179 then ⟨"PlanMemo$Ways", "offersShip", "()Z"⟩ else ⟨"", "", ""⟩))) else (bif Nat.blt i 182 then (bif Nat.blt i 181 then (bif Nat.beq i 180 then ⟨"PlanMemo", "meets", "(II)Z"⟩ else ⟨"", "", ""⟩) else (bif Nat.beq i 181 then ⟨"PlanMemo$Ways", "offersSingle", "()Z"⟩ else ⟨"", "", ""⟩)) else (bif Nat.blt i 183 then (bif Nat.beq i 182 then ⟨"PlanMemo$Ways", "offersAt", "(I)Z"⟩ else ⟨"", "", ""⟩) else (bif Nat.beq i 183 then ⟨"PlanMemo$Ways", "advance", "()Z"⟩ else ⟨"", "", ""⟩)))
def am_nm_23 : Nat → MethodName := fun i => bif Nat.blt i 188 then (bif Nat.blt i 186 then (bif Nat.blt i 185 then (bif Nat.beq i 184 then ⟨"PlanMemo$Costs", "listUnknown", "(I)V"⟩ else ⟨"", "", ""⟩) else (bif Nat.beq i 185 then ⟨"PlanMemo$Costs", "inputCost", "(I)J"⟩ else ⟨"", "", ""⟩)) else (bif Nat.blt i 187 then (bif Nat.beq i 186 then ⟨"PlanMemo$Costs", "costOfWay", "()J"⟩ else ⟨"", "", ""⟩) else (bif Nat.beq i 187 then ⟨"PlanMemo$Costs", "cheapestOf", "(I)J"⟩ else ⟨"", "", ""⟩))) else (bif Nat.blt i 190 then (bif Nat.blt i 189 then (bif Nat.beq i 188 then ⟨"PlanMemo$Costs", "lowerAll", "()V"⟩ else ⟨"", "", ""⟩) else (bif Nat.beq i 189 then ⟨"PlanMemo$Costs", "costOf", "(I)J"⟩ else ⟨"", "", ""⟩)) else (bif Nat.blt i 191 then (bif Nat.beq i 190 then ⟨"PlanMemo", "orNone", "(J)J"⟩ else ⟨"", "", ""⟩) else (bif Nat.beq i 191 then ⟨"PlanMemo", "cost", "(III)J"⟩ else ⟨"", "", ""⟩)))
def am_nm_24 : Nat → MethodName := fun i => bif Nat.blt i 196 then (bif Nat.blt i 194 then (bif Nat.blt i 193 then (bif Nat.beq i 192 then ⟨"PlanMemoModel", "noTen", "(I)I"⟩ else ⟨"", "", ""⟩) else (bif Nat.beq i 193 then ⟨"PlanMemoModel", "isDemand", "(II)Z"⟩ else ⟨"", "", ""⟩)) else (bif Nat.blt i 195 then (bif Nat.beq i 194 then ⟨"PlanMemoModel", "meets", "(II)Z"⟩ else ⟨"", "", ""⟩) else (bif Nat.beq i 195 then ⟨"PlanMemoModel", "runs", "(I)V"⟩ else ⟨"", "", ""⟩))) else (bif Nat.blt i 198 then (bif Nat.blt i 197 then (bif Nat.beq i 196 then ⟨"PlanMemoModel", "unde\x72", "(I)I"⟩ else ⟨"", "", ""⟩) else (bif Nat.beq i 197 then ⟨"PlanMemoModel", "reads", "(IJJJ)J"⟩ else ⟨"", "", ""⟩)) else (bif Nat.blt i 199 then (bif Nat.beq i 198 then ⟨"PlanMemoModel", "works", "(IJJJ)J"⟩ else ⟨"", "", ""⟩) else (bif Nat.beq i 199 then ⟨"PlanMemoModel", "priceOf", "(IJJJ)J"⟩ else ⟨"", "", ""⟩)))
def am_nm_25 : Nat → MethodName := fun i => bif Nat.blt i 204 then (bif Nat.blt i 202 then (bif Nat.blt i 201 then (bif Nat.beq i 200 then ⟨"PlanMemoModel", "silent", "(IJJJ)J"⟩ else ⟨"", "", ""⟩) else (bif Nat.beq i 201 then ⟨"PlanMemoModel", "way", "(IIIIIJJJ)V"⟩ else ⟨"", "", ""⟩)) else (bif Nat.blt i 203 then (bif Nat.beq i 202 then ⟨"PlanMemoModel", "demand", "(III)I"⟩ else ⟨"", "", ""⟩) else (bif Nat.beq i 203 then ⟨"PlanMemoModel", "waysBy", "(III)V"⟩ else ⟨"", "", ""⟩))) else (bif Nat.blt i 206 then (bif Nat.blt i 205 then (bif Nat.beq i 204 then ⟨"PlanMemoModel", "waysOf", "(I)V"⟩ else ⟨"", "", ""⟩) else (bif Nat.beq i 205 then ⟨"PlanMemoModel", "sum", "(I)J"⟩ else ⟨"", "", ""⟩)) else (bif Nat.blt i 207 then (bif Nat.beq i 206 then ⟨"PlanMemoModel", "costs", "()V"⟩ else ⟨"", "", ""⟩) else (bif Nat.beq i 207 then ⟨"PlanMemoModel", "orNone", "(J)J"⟩ else ⟨"", "", ""⟩)))
def am_nm_26 : Nat → MethodName := fun i => bif Nat.blt i 212 then (bif Nat.blt i 210 then (bif Nat.blt i 209 then (bif Nat.beq i 208 then ⟨"PlanMemoModel", "cost", "(III)J"⟩ else ⟨"", "", ""⟩) else (bif Nat.beq i 209 then ⟨"PlanMemo$Costs", "cheapestBy", "(II)J"⟩ else ⟨"", "", ""⟩)) else (bif Nat.blt i 211 then (bif Nat.beq i 210 then ⟨"PlanMemo", "costBy", "(III)J"⟩ else ⟨"", "", ""⟩) else (bif Nat.beq i 211 then ⟨"PlanMemoModel", "costBy", "(III)J"⟩ else ⟨"", "", ""⟩))) else (bif Nat.blt i 214 then (bif Nat.blt i 213 then (bif Nat.beq i 212 then ⟨"PlanMemo", "demandRefusal", "(III)I"⟩ else ⟨"", "", ""⟩) else (bif Nat.beq i 213 then ⟨"java/util/Arrays", "fill", "([BB)V"⟩ else ⟨"", "", ""⟩)) else (bif Nat.blt i 215 then (bif Nat.beq i 214 then ⟨"PlanMemo$Costs", "listIfUnmarked", "(I)V"⟩ else ⟨"", "", ""⟩) else (bif Nat.beq i 215 then ⟨"PlanMemo$Costs", "demandedBy", "(I)I"⟩ else ⟨"", "", ""⟩)))
def am_nm_27 : Nat → MethodName := fun i => bif Nat.blt i 220 then (bif Nat.blt i 218 then (bif Nat.blt i 217 then (bif Nat.beq i 216 then ⟨"PlanMemo", "demands", "(III)I"⟩ else ⟨"", "", ""⟩) else (bif Nat.beq i 217 then ⟨"PlanMemoModel", "closes", "(I)I"⟩ else ⟨"", "", ""⟩)) else (bif Nat.blt i 219 then (bif Nat.beq i 218 then ⟨"PlanMemoModel", "demands", "(III)I"⟩ else ⟨"", "", ""⟩) else (bif Nat.beq i 219 then ⟨"PlanMemo$Costs", "demandedWithin", "(IJ)I"⟩ else ⟨"", "", ""⟩))) else (bif Nat.blt i 222 then (bif Nat.blt i 221 then (bif Nat.beq i 220 then ⟨"PlanMemo", "within", "(III)I"⟩ else ⟨"", "", ""⟩) else (bif Nat.beq i 221 then ⟨"PlanMemoModel", "within", "(III)I"⟩ else ⟨"", "", ""⟩)) else (bif Nat.blt i 223 then (bif Nat.beq i 222 then ⟨"PlanMemo", "where", "(II)I"⟩ else ⟨"", "", ""⟩) else (bif Nat.beq i 223 then ⟨"PlanMemoModel", "where", "(II)I"⟩ else ⟨"", "", ""⟩)))
def am_nm_28 : Nat → MethodName := fun i => bif Nat.blt i 228 then (bif Nat.blt i 226 then (bif Nat.blt i 225 then (bif Nat.beq i 224 then ⟨"PlanMemo", "worth", "(IIII)J"⟩ else ⟨"", "", ""⟩) else (bif Nat.beq i 225 then ⟨"PlanMemoModel", "worth", "(IIII)J"⟩ else ⟨"", "", ""⟩)) else (bif Nat.blt i 227 then (bif Nat.beq i 226 then ⟨"PlanMemo$Costs", "tellTheWay", "(I)Z"⟩ else ⟨"", "", ""⟩) else (bif Nat.beq i 227 then ⟨"PlanMemo$Plan", "inputsOf", "(I)I"⟩ else ⟨"", "", ""⟩))) else (bif Nat.blt i 230 then (bif Nat.blt i 229 then (bif Nat.beq i 228 then ⟨"PlanMemo$Ways", "ownOfWay", "()I"⟩ else ⟨"", "", ""⟩) else (bif Nat.beq i 229 then ⟨"PlanMemo$Ways", "isOfHalf", "()Z"⟩ else ⟨"", "", ""⟩)) else (bif Nat.blt i 231 then (bif Nat.beq i 230 then ⟨"PlanMemo$Plan", "note", "(ILPlanMemo$Ways;)V"⟩ else ⟨"", "", ""⟩) else (bif Nat.beq i 231 then ⟨"PlanMemo$Plan", "fact", "(II)I"⟩ else ⟨"", "", ""⟩)))
def am_nm_29 : Nat → MethodName := fun i => bif Nat.blt i 236 then (bif Nat.blt i 234 then (bif Nat.blt i 233 then (bif Nat.beq i 232 then ⟨"PlanMemo$Plan", "countNodes", "()V"⟩ else ⟨"", "", ""⟩) else (bif Nat.beq i 233 then ⟨"PlanMemo$Plan", "make", "(LPlanMemo$Costs;I)Z"⟩ else ⟨"", "", ""⟩)) else (bif Nat.blt i 235 then (bif Nat.beq i 234 then ⟨"PlanMemo", "plan", "(III)I"⟩ else ⟨"", "", ""⟩) else (bif Nat.beq i 235 then ⟨"PlanMemoModel", "plans", "(I)Z"⟩ else ⟨"", "", ""⟩))) else (bif Nat.blt i 238 then (bif Nat.blt i 237 then (bif Nat.beq i 236 then ⟨"PlanMemoModel", "plan", "(III)I"⟩ else ⟨"", "", ""⟩) else (bif Nat.beq i 237 then ⟨"PlanMemo$Plan", "isNode", "(I)Z"⟩ else ⟨"", "", ""⟩)) else (bif Nat.blt i 239 then (bif Nat.beq i 238 then ⟨"PlanMemo", "planAt", "(II)I"⟩ else ⟨"", "", ""⟩) else (bif Nat.beq i 239 then ⟨"PlanMemoModel", "planAt", "(II)I"⟩ else ⟨"", "", ""⟩)))
def am_nm_30 : Nat → MethodName := fun i => bif Nat.blt i 244 then (bif Nat.blt i 242 then (bif Nat.blt i 241 then (bif Nat.beq i 240 then ⟨"PlanMemo", "planCost", "(I)J"⟩ else ⟨"", "", ""⟩) else (bif Nat.beq i 241 then ⟨"PlanMemoModel", "planCost", "(I)J"⟩ else ⟨"", "", ""⟩)) else (bif Nat.blt i 243 then (bif Nat.beq i 242 then ⟨"PlanMemo$Plan", "isSpelled", "(I)Z"⟩ else ⟨"", "", ""⟩) else (bif Nat.beq i 243 then ⟨"PlanMemo$Plan", "expressionKind", "(I)I"⟩ else ⟨"", "", ""⟩))) else (bif Nat.blt i 246 then (bif Nat.blt i 245 then (bif Nat.beq i 244 then ⟨"PlanMemo$Plan", "letters", "()I"⟩ else ⟨"", "", ""⟩) else (bif Nat.beq i 245 then ⟨"PlanMemo$Plan", "writeTo", "(LPlanMemo$Shelf;)V"⟩ else ⟨"", "", ""⟩)) else (bif Nat.blt i 247 then (bif Nat.beq i 246 then ⟨"PlanMemo", "spell", "(I)I"⟩ else ⟨"", "", ""⟩) else (bif Nat.beq i 247 then ⟨"PlanMemoModel", "writes", "(Ljava/lang/String;)V"⟩ else ⟨"", "", ""⟩)))
def am_nm_31 : Nat → MethodName := fun i => bif Nat.blt i 252 then (bif Nat.blt i 250 then (bif Nat.blt i 249 then (bif Nat.beq i 248 then ⟨"PlanMemoModel", "spells", "(I)I"⟩ else ⟨"", "", ""⟩) else (bif Nat.beq i 249 then ⟨"PlanMemoModel", "spell", "(I)I"⟩ else ⟨"", "", ""⟩)) else (bif Nat.blt i 251 then (bif Nat.beq i 250 then ⟨"PlanMemo$Sizes", "treesBy", "(I)J"⟩ else ⟨"", "", ""⟩) else (bif Nat.beq i 251 then ⟨"PlanMemo$Sizes", "treesOf", "(II)I"⟩ else ⟨"", "", ""⟩))) else (bif Nat.blt i 254 then (bif Nat.blt i 253 then (bif Nat.beq i 252 then ⟨"PlanMemo", "trees", "(II)I"⟩ else ⟨"", "", ""⟩) else (bif Nat.beq i 253 then ⟨"PlanMemoModel", "trees", "(II)I"⟩ else ⟨"", "", ""⟩)) else (bif Nat.blt i 255 then (bif Nat.beq i 254 then ⟨"PlanMemo", "isPriced", "(I)Z"⟩ else ⟨"", "", ""⟩) else (bif Nat.beq i 255 then ⟨"PlanMemo", "price", "(IIII)J"⟩ else ⟨"", "", ""⟩)))
def am_nm_32 : Nat → MethodName := fun i => bif Nat.blt i 260 then (bif Nat.blt i 258 then (bif Nat.blt i 257 then (bif Nat.beq i 256 then ⟨"PlanMemoModel", "price", "(IIII)J"⟩ else ⟨"", "", ""⟩) else (bif Nat.beq i 257 then ⟨"PlanMemo$Bodies", "ranAt", "(I)I"⟩ else ⟨"", "", ""⟩)) else (bif Nat.blt i 259 then (bif Nat.beq i 258 then ⟨"PlanMemo", "trace", "(I)I"⟩ else ⟨"", "", ""⟩) else (bif Nat.beq i 259 then ⟨"PlanMemoModel", "trace", "(I)I"⟩ else ⟨"", "", ""⟩))) else (bif Nat.blt i 262 then (bif Nat.blt i 261 then (bif Nat.beq i 260 then ⟨"PlanMemo$Memo", "draw", "(I)I"⟩ else ⟨"", "", ""⟩) else (bif Nat.beq i 261 then ⟨"PlanMemo$Memo", "dealOne", "()V"⟩ else ⟨"", "", ""⟩)) else (bif Nat.blt i 263 then (bif Nat.beq i 262 then ⟨"PlanMemo", "deal", "(I)I"⟩ else ⟨"", "", ""⟩) else (bif Nat.beq i 263 then ⟨"PlanMemoModel", "draw", "(I)I"⟩ else ⟨"", "", ""⟩)))
def am_nm_33 : Nat → MethodName := fun i => bif Nat.blt i 268 then (bif Nat.blt i 266 then (bif Nat.blt i 265 then (bif Nat.beq i 264 then ⟨"PlanMemoModel", "deal", "(I)I"⟩ else ⟨"", "", ""⟩) else (bif Nat.beq i 265 then ⟨"PlanMemo", "seed", "(I)I"⟩ else ⟨"", "", ""⟩)) else (bif Nat.blt i 267 then (bif Nat.beq i 266 then ⟨"PlanMemoModel", "seed", "(I)I"⟩ else ⟨"", "", ""⟩) else (bif Nat.beq i 267 then ⟨"PlanMemo$Memo", "becomeLike", "(LPlanMemo$Memo;)V"⟩ else ⟨"", "", ""⟩))) else (bif Nat.blt i 270 then (bif Nat.blt i 269 then (bif Nat.beq i 268 then ⟨"PlanMemo", "image", "()I"⟩ else ⟨"", "", ""⟩) else (bif Nat.beq i 269 then ⟨"PlanMemoModel", "image", "()I"⟩ else ⟨"", "", ""⟩)) else (bif Nat.blt i 271 then (bif Nat.beq i 270 then ⟨"PlanMemo", "restore", "()I"⟩ else ⟨"", "", ""⟩) else (bif Nat.beq i 271 then ⟨"PlanMemoModel", "restore", "()I"⟩ else ⟨"", "", ""⟩)))
def am_nm_34 : Nat → MethodName := fun i => bif Nat.blt i 275 then (bif Nat.blt i 273 then (bif Nat.beq i 272 then ⟨"PlanMemo$Memo", "roots", "()I"⟩ else ⟨"", "", ""⟩) else (bif Nat.blt i 274 then (bif Nat.beq i 273 then ⟨"PlanMemo$Memo", "goneOnes", "()I"⟩ else ⟨"", "", ""⟩) else (bif Nat.beq i 274 then ⟨"PlanMemo$Memo", "firings", "()I"⟩ else ⟨"", "", ""⟩))) else (bif Nat.blt i 276 then (bif Nat.beq i 275 then ⟨"PlanMemo", "status", "(I)I"⟩ else ⟨"", "", ""⟩) else (bif Nat.blt i 277 then (bif Nat.beq i 276 then ⟨"PlanMemoModel", "status", "(I)I"⟩ else ⟨"", "", ""⟩) else (bif Nat.beq i 277 then ⟨"PlanMemoLaw", "law", "([I)Z"⟩ else ⟨"", "", ""⟩)))
def am_nm_0_2 : Nat → MethodName := fun i => bif Nat.blt i 8 then am_nm_0 i else am_nm_1 i
def am_nm_2_4 : Nat → MethodName := fun i => bif Nat.blt i 24 then am_nm_2 i else am_nm_3 i
def am_nm_0_4 : Nat → MethodName := fun i => bif Nat.blt i 16 then am_nm_0_2 i else am_nm_2_4 i
def am_nm_4_6 : Nat → MethodName := fun i => bif Nat.blt i 40 then am_nm_4 i else am_nm_5 i
def am_nm_6_8 : Nat → MethodName := fun i => bif Nat.blt i 56 then am_nm_6 i else am_nm_7 i
def am_nm_4_8 : Nat → MethodName := fun i => bif Nat.blt i 48 then am_nm_4_6 i else am_nm_6_8 i
def am_nm_0_8 : Nat → MethodName := fun i => bif Nat.blt i 32 then am_nm_0_4 i else am_nm_4_8 i
def am_nm_8_10 : Nat → MethodName := fun i => bif Nat.blt i 72 then am_nm_8 i else am_nm_9 i
def am_nm_10_12 : Nat → MethodName := fun i => bif Nat.blt i 88 then am_nm_10 i else am_nm_11 i
def am_nm_8_12 : Nat → MethodName := fun i => bif Nat.blt i 80 then am_nm_8_10 i else am_nm_10_12 i
def am_nm_12_14 : Nat → MethodName := fun i => bif Nat.blt i 104 then am_nm_12 i else am_nm_13 i
def am_nm_15_17 : Nat → MethodName := fun i => bif Nat.blt i 128 then am_nm_15 i else am_nm_16 i
def am_nm_14_17 : Nat → MethodName := fun i => bif Nat.blt i 120 then am_nm_14 i else am_nm_15_17 i
def am_nm_12_17 : Nat → MethodName := fun i => bif Nat.blt i 112 then am_nm_12_14 i else am_nm_14_17 i
def am_nm_8_17 : Nat → MethodName := fun i => bif Nat.blt i 96 then am_nm_8_12 i else am_nm_12_17 i
def am_nm_0_17 : Nat → MethodName := fun i => bif Nat.blt i 64 then am_nm_0_8 i else am_nm_8_17 i
def am_nm_17_19 : Nat → MethodName := fun i => bif Nat.blt i 144 then am_nm_17 i else am_nm_18 i
def am_nm_19_21 : Nat → MethodName := fun i => bif Nat.blt i 160 then am_nm_19 i else am_nm_20 i
def am_nm_17_21 : Nat → MethodName := fun i => bif Nat.blt i 152 then am_nm_17_19 i else am_nm_19_21 i
def am_nm_21_23 : Nat → MethodName := fun i => bif Nat.blt i 176 then am_nm_21 i else am_nm_22 i
def am_nm_24_26 : Nat → MethodName := fun i => bif Nat.blt i 200 then am_nm_24 i else am_nm_25 i
def am_nm_23_26 : Nat → MethodName := fun i => bif Nat.blt i 192 then am_nm_23 i else am_nm_24_26 i
def am_nm_21_26 : Nat → MethodName := fun i => bif Nat.blt i 184 then am_nm_21_23 i else am_nm_23_26 i
def am_nm_17_26 : Nat → MethodName := fun i => bif Nat.blt i 168 then am_nm_17_21 i else am_nm_21_26 i
def am_nm_26_28 : Nat → MethodName := fun i => bif Nat.blt i 216 then am_nm_26 i else am_nm_27 i
def am_nm_28_30 : Nat → MethodName := fun i => bif Nat.blt i 232 then am_nm_28 i else am_nm_29 i
def am_nm_26_30 : Nat → MethodName := fun i => bif Nat.blt i 224 then am_nm_26_28 i else am_nm_28_30 i
def am_nm_30_32 : Nat → MethodName := fun i => bif Nat.blt i 248 then am_nm_30 i else am_nm_31 i
def am_nm_33_35 : Nat → MethodName := fun i => bif Nat.blt i 272 then am_nm_33 i else am_nm_34 i
def am_nm_32_35 : Nat → MethodName := fun i => bif Nat.blt i 264 then am_nm_32 i else am_nm_33_35 i
def am_nm_30_35 : Nat → MethodName := fun i => bif Nat.blt i 256 then am_nm_30_32 i else am_nm_32_35 i
def am_nm_26_35 : Nat → MethodName := fun i => bif Nat.blt i 240 then am_nm_26_30 i else am_nm_30_35 i
def am_nm_17_35 : Nat → MethodName := fun i => bif Nat.blt i 208 then am_nm_17_26 i else am_nm_26_35 i
def am_nm : Nat → MethodName := fun i => bif Nat.blt i 136 then am_nm_0_17 i else am_nm_17_35 i
def am_rt_0 : Nat → Option FieldType := fun i => bif Nat.blt i 4 then (bif Nat.blt i 2 then (bif Nat.blt i 1 then (bif Nat.beq i 0 then none else none) else (bif Nat.beq i 1 then none else none)) else (bif Nat.blt i 3 then (bif Nat.beq i 2 then none else none) else (bif Nat.beq i 3 then none else none))) else (bif Nat.blt i 6 then (bif Nat.blt i 5 then (bif Nat.beq i 4 then none else none) else (bif Nat.beq i 5 then none else none)) else (bif Nat.blt i 7 then (bif Nat.beq i 6 then none else none) else (bif Nat.beq i 7 then none else none)))
def am_rt_1 : Nat → Option FieldType := fun i => bif Nat.blt i 12 then (bif Nat.blt i 10 then (bif Nat.blt i 9 then (bif Nat.beq i 8 then none else none) else (bif Nat.beq i 9 then none else none)) else (bif Nat.blt i 11 then (bif Nat.beq i 10 then none else none) else (bif Nat.beq i 11 then none else none))) else (bif Nat.blt i 14 then (bif Nat.blt i 13 then (bif Nat.beq i 12 then (some .boolean) else none) else (bif Nat.beq i 13 then (some .int) else none)) else (bif Nat.blt i 15 then (bif Nat.beq i 14 then none else none) else (bif Nat.beq i 15 then none else none)))
def am_rt_2 : Nat → Option FieldType := fun i => bif Nat.blt i 20 then (bif Nat.blt i 18 then (bif Nat.blt i 17 then (bif Nat.beq i 16 then (some .int) else none) else (bif Nat.beq i 17 then (some .boolean) else none)) else (bif Nat.blt i 19 then (bif Nat.beq i 18 then (some .int) else none) else (bif Nat.beq i 19 then (some .int) else none))) else (bif Nat.blt i 22 then (bif Nat.blt i 21 then (bif Nat.beq i 20 then (some .boolean) else none) else (bif Nat.beq i 21 then (some .boolean) else none)) else (bif Nat.blt i 23 then (bif Nat.beq i 22 then (some .int) else none) else (bif Nat.beq i 23 then (some .boolean) else none)))
def am_rt_3 : Nat → Option FieldType := fun i => bif Nat.blt i 28 then (bif Nat.blt i 26 then (bif Nat.blt i 25 then (bif Nat.beq i 24 then none else none) else (bif Nat.beq i 25 then (some .int) else none)) else (bif Nat.blt i 27 then (bif Nat.beq i 26 then none else none) else (bif Nat.beq i 27 then (some .int) else none))) else (bif Nat.blt i 30 then (bif Nat.blt i 29 then (bif Nat.beq i 28 then (some .int) else none) else (bif Nat.beq i 29 then (some .int) else none)) else (bif Nat.blt i 31 then (bif Nat.beq i 30 then (some .long) else none) else (bif Nat.beq i 31 then (some .long) else none)))
def am_rt_4 : Nat → Option FieldType := fun i => bif Nat.blt i 36 then (bif Nat.blt i 34 then (bif Nat.blt i 33 then (bif Nat.beq i 32 then (some .boolean) else none) else (bif Nat.beq i 33 then none else none)) else (bif Nat.blt i 35 then (bif Nat.beq i 34 then (some .int) else none) else (bif Nat.beq i 35 then (some .boolean) else none))) else (bif Nat.blt i 38 then (bif Nat.blt i 37 then (bif Nat.beq i 36 then (some .int) else none) else (bif Nat.beq i 37 then (some .int) else none)) else (bif Nat.blt i 39 then (bif Nat.beq i 38 then (some .int) else none) else (bif Nat.beq i 39 then (some .boolean) else none)))
def am_rt_5 : Nat → Option FieldType := fun i => bif Nat.blt i 44 then (bif Nat.blt i 42 then (bif Nat.blt i 41 then (bif Nat.beq i 40 then (some .boolean) else none) else (bif Nat.beq i 41 then (some .int) else none)) else (bif Nat.blt i 43 then (bif Nat.beq i 42 then (some .int) else none) else (bif Nat.beq i 43 then (some .boolean) else none))) else (bif Nat.blt i 46 then (bif Nat.blt i 45 then (bif Nat.beq i 44 then (some .boolean) else none) else (bif Nat.beq i 45 then (some .int) else none)) else (bif Nat.blt i 47 then (bif Nat.beq i 46 then (some .int) else none) else (bif Nat.beq i 47 then (some .boolean) else none)))
def am_rt_6 : Nat → Option FieldType := fun i => bif Nat.blt i 52 then (bif Nat.blt i 50 then (bif Nat.blt i 49 then (bif Nat.beq i 48 then (some .boolean) else none) else (bif Nat.beq i 49 then (some .int) else none)) else (bif Nat.blt i 51 then (bif Nat.beq i 50 then (some .int) else none) else (bif Nat.beq i 51 then (some .boolean) else none))) else (bif Nat.blt i 54 then (bif Nat.blt i 53 then (bif Nat.beq i 52 then (some .int) else none) else (bif Nat.beq i 53 then (some .boolean) else none)) else (bif Nat.blt i 55 then (bif Nat.beq i 54 then (some .int) else none) else (bif Nat.beq i 55 then (some .int) else none)))
def am_rt_7 : Nat → Option FieldType := fun i => bif Nat.blt i 60 then (bif Nat.blt i 58 then (bif Nat.blt i 57 then (bif Nat.beq i 56 then (some .int) else none) else (bif Nat.beq i 57 then (some .int) else none)) else (bif Nat.blt i 59 then (bif Nat.beq i 58 then (some .int) else none) else (bif Nat.beq i 59 then (some .int) else none))) else (bif Nat.blt i 62 then (bif Nat.blt i 61 then (bif Nat.beq i 60 then (some .boolean) else none) else (bif Nat.beq i 61 then (some .int) else none)) else (bif Nat.blt i 63 then (bif Nat.beq i 62 then (some .int) else none) else (bif Nat.beq i 63 then none else none)))
def am_rt_8 : Nat → Option FieldType := fun i => bif Nat.blt i 68 then (bif Nat.blt i 66 then (bif Nat.blt i 65 then (bif Nat.beq i 64 then (some .int) else none) else (bif Nat.beq i 65 then (some .int) else none)) else (bif Nat.blt i 67 then (bif Nat.beq i 66 then (some .int) else none) else (bif Nat.beq i 67 then (some .int) else none))) else (bif Nat.blt i 70 then (bif Nat.blt i 69 then (bif Nat.beq i 68 then (some .int) else none) else (bif Nat.beq i 69 then (some .int) else none)) else (bif Nat.blt i 71 then (bif Nat.beq i 70 then (some .int) else none) else (bif Nat.beq i 71 then (some .int) else none)))
def am_rt_9 : Nat → Option FieldType := fun i => bif Nat.blt i 76 then (bif Nat.blt i 74 then (bif Nat.blt i 73 then (bif Nat.beq i 72 then (some .int) else none) else (bif Nat.beq i 73 then (some .boolean) else none)) else (bif Nat.blt i 75 then (bif Nat.beq i 74 then (some .boolean) else none) else (bif Nat.beq i 75 then (some .int) else none))) else (bif Nat.blt i 78 then (bif Nat.blt i 77 then (bif Nat.beq i 76 then (some .boolean) else none) else (bif Nat.beq i 77 then none else none)) else (bif Nat.blt i 79 then (bif Nat.beq i 78 then (some .boolean) else none) else (bif Nat.beq i 79 then (some .int) else none)))
def am_rt_10 : Nat → Option FieldType := fun i => bif Nat.blt i 84 then (bif Nat.blt i 82 then (bif Nat.blt i 81 then (bif Nat.beq i 80 then (some .int) else none) else (bif Nat.beq i 81 then (some .int) else none)) else (bif Nat.blt i 83 then (bif Nat.beq i 82 then (some .int) else none) else (bif Nat.beq i 83 then (some .int) else none))) else (bif Nat.blt i 86 then (bif Nat.blt i 85 then (bif Nat.beq i 84 then (some .int) else none) else (bif Nat.beq i 85 then (some .int) else none)) else (bif Nat.blt i 87 then (bif Nat.beq i 86 then (some .int) else none) else (bif Nat.beq i 87 then (some .int) else none)))
def am_rt_11 : Nat → Option FieldType := fun i => bif Nat.blt i 92 then (bif Nat.blt i 90 then (bif Nat.blt i 89 then (bif Nat.beq i 88 then (some .int) else none) else (bif Nat.beq i 89 then (some .int) else none)) else (bif Nat.blt i 91 then (bif Nat.beq i 90 then (some .int) else none) else (bif Nat.beq i 91 then (some (.object "java/lang/String")) else none))) else (bif Nat.blt i 94 then (bif Nat.blt i 93 then (bif Nat.beq i 92 then (some .byte) else none) else (bif Nat.beq i 93 then (some .int) else none)) else (bif Nat.blt i 95 then (bif Nat.beq i 94 then (some .boolean) else none) else (bif Nat.beq i 95 then (some .int) else none)))
def am_rt_12 : Nat → Option FieldType := fun i => bif Nat.blt i 100 then (bif Nat.blt i 98 then (bif Nat.blt i 97 then (bif Nat.beq i 96 then none else none) else (bif Nat.beq i 97 then (some .char) else none)) else (bif Nat.blt i 99 then (bif Nat.beq i 98 then (some .char) else none) else (bif Nat.beq i 99 then (some .boolean) else none))) else (bif Nat.blt i 102 then (bif Nat.blt i 101 then (bif Nat.beq i 100 then (some .int) else none) else (bif Nat.beq i 101 then (some .boolean) else none)) else (bif Nat.blt i 103 then (bif Nat.beq i 102 then (some .int) else none) else (bif Nat.beq i 103 then (some .int) else none)))
def am_rt_13 : Nat → Option FieldType := fun i => bif Nat.blt i 108 then (bif Nat.blt i 106 then (bif Nat.blt i 105 then (bif Nat.beq i 104 then none else none) else (bif Nat.beq i 105 then (some .int) else none)) else (bif Nat.blt i 107 then (bif Nat.beq i 106 then (some .int) else none) else (bif Nat.beq i 107 then (some .int) else none))) else (bif Nat.blt i 110 then (bif Nat.blt i 109 then (bif Nat.beq i 108 then none else none) else (bif Nat.beq i 109 then (some .int) else none)) else (bif Nat.blt i 111 then (bif Nat.beq i 110 then (some .int) else none) else (bif Nat.beq i 111 then (some .boolean) else none)))
def am_rt_14 : Nat → Option FieldType := fun i => bif Nat.blt i 116 then (bif Nat.blt i 114 then (bif Nat.blt i 113 then (bif Nat.beq i 112 then (some .boolean) else none) else (bif Nat.beq i 113 then (some .int) else none)) else (bif Nat.blt i 115 then (bif Nat.beq i 114 then (some .int) else none) else (bif Nat.beq i 115 then (some .int) else none))) else (bif Nat.blt i 118 then (bif Nat.blt i 117 then (bif Nat.beq i 116 then (some .int) else none) else (bif Nat.beq i 117 then (some .int) else none)) else (bif Nat.blt i 119 then (bif Nat.beq i 118 then none else none) else (bif Nat.beq i 119 then (some .boolean) else none)))
def am_rt_15 : Nat → Option FieldType := fun i => bif Nat.blt i 124 then (bif Nat.blt i 122 then (bif Nat.blt i 121 then (bif Nat.beq i 120 then none else none) else (bif Nat.beq i 121 then (some .int) else none)) else (bif Nat.blt i 123 then (bif Nat.beq i 122 then none else none) else (bif Nat.beq i 123 then (some .int) else none))) else (bif Nat.blt i 126 then (bif Nat.blt i 125 then (bif Nat.beq i 124 then (some .int) else none) else (bif Nat.beq i 125 then (some .int) else none)) else (bif Nat.blt i 127 then (bif Nat.beq i 126 then (some .int) else none) else (bif Nat.beq i 127 then (some .int) else none)))
def am_rt_16 : Nat → Option FieldType := fun i => bif Nat.blt i 132 then (bif Nat.blt i 130 then (bif Nat.blt i 129 then (bif Nat.beq i 128 then (some .long) else none) else (bif Nat.beq i 129 then none else none)) else (bif Nat.blt i 131 then (bif Nat.beq i 130 then (some .int) else none) else (bif Nat.beq i 131 then (some .int) else none))) else (bif Nat.blt i 134 then (bif Nat.blt i 133 then (bif Nat.beq i 132 then (some .int) else none) else (bif Nat.beq i 133 then (some .int) else none)) else (bif Nat.blt i 135 then (bif Nat.beq i 134 then (some .int) else none) else (bif Nat.beq i 135 then (some .int) else none)))
def am_rt_17 : Nat → Option FieldType := fun i => bif Nat.blt i 140 then (bif Nat.blt i 138 then (bif Nat.blt i 137 then (bif Nat.beq i 136 then (some .boolean) else none) else (bif Nat.beq i 137 then (some .boolean) else none)) else (bif Nat.blt i 139 then (bif Nat.beq i 138 then (some .boolean) else none) else (bif Nat.beq i 139 then none else none))) else (bif Nat.blt i 142 then (bif Nat.blt i 141 then (bif Nat.beq i 140 then none else none) else (bif Nat.beq i 141 then none else none)) else (bif Nat.blt i 143 then (bif Nat.beq i 142 then (some .int) else none) else (bif Nat.beq i 143 then (some .int) else none)))
def am_rt_18 : Nat → Option FieldType := fun i => bif Nat.blt i 148 then (bif Nat.blt i 146 then (bif Nat.blt i 145 then (bif Nat.beq i 144 then (some .boolean) else none) else (bif Nat.beq i 145 then none else none)) else (bif Nat.blt i 147 then (bif Nat.beq i 146 then (some .int) else none) else (bif Nat.beq i 147 then (some .boolean) else none))) else (bif Nat.blt i 150 then (bif Nat.blt i 149 then (bif Nat.beq i 148 then (some .boolean) else none) else (bif Nat.beq i 149 then none else none)) else (bif Nat.blt i 151 then (bif Nat.beq i 150 then none else none) else (bif Nat.beq i 151 then none else none)))
def am_rt_19 : Nat → Option FieldType := fun i => bif Nat.blt i 156 then (bif Nat.blt i 154 then (bif Nat.blt i 153 then (bif Nat.beq i 152 then (some .int) else none) else (bif Nat.beq i 153 then none else none)) else (bif Nat.blt i 155 then (bif Nat.beq i 154 then (some .int) else none) else (bif Nat.beq i 155 then (some .int) else none))) else (bif Nat.blt i 158 then (bif Nat.blt i 157 then (bif Nat.beq i 156 then (some .int) else none) else (bif Nat.beq i 157 then (some .int) else none)) else (bif Nat.blt i 159 then (bif Nat.beq i 158 then (some .int) else none) else (bif Nat.beq i 159 then (some .boolean) else none)))
def am_rt_20 : Nat → Option FieldType := fun i => bif Nat.blt i 164 then (bif Nat.blt i 162 then (bif Nat.blt i 161 then (bif Nat.beq i 160 then (some .int) else none) else (bif Nat.beq i 161 then (some .boolean) else none)) else (bif Nat.blt i 163 then (bif Nat.beq i 162 then (some .int) else none) else (bif Nat.beq i 163 then (some .int) else none))) else (bif Nat.blt i 166 then (bif Nat.blt i 165 then (bif Nat.beq i 164 then (some .boolean) else none) else (bif Nat.beq i 165 then (some .boolean) else none)) else (bif Nat.blt i 167 then (bif Nat.beq i 166 then none else none) else (bif Nat.beq i 167 then (some .int) else none)))
def am_rt_21 : Nat → Option FieldType := fun i => bif Nat.blt i 172 then (bif Nat.blt i 170 then (bif Nat.blt i 169 then (bif Nat.beq i 168 then (some .long) else none) else (bif Nat.beq i 169 then (some .long) else none)) else (bif Nat.blt i 171 then (bif Nat.beq i 170 then (some .long) else none) else (bif Nat.beq i 171 then none else none))) else (bif Nat.blt i 174 then (bif Nat.blt i 173 then (bif Nat.beq i 172 then none else none) else (bif Nat.beq i 173 then none else none)) else (bif Nat.blt i 175 then (bif Nat.beq i 174 then (some .int) else none) else (bif Nat.beq i 175 then none else none)))
def am_rt_22 : Nat → Option FieldType := fun i => bif Nat.blt i 180 then (bif Nat.blt i 178 then (bif Nat.blt i 177 then (bif Nat.beq i 176 then none else none) else (bif Nat.beq i 177 then (some .boolean) else none)) else (bif Nat.blt i 179 then (bif Nat.beq i 178 then (some .boolean) else none) else (bif Nat.beq i 179 then (some .boolean) else none))) else (bif Nat.blt i 182 then (bif Nat.blt i 181 then (bif Nat.beq i 180 then (some .boolean) else none) else (bif Nat.beq i 181 then (some .boolean) else none)) else (bif Nat.blt i 183 then (bif Nat.beq i 182 then (some .boolean) else none) else (bif Nat.beq i 183 then (some .boolean) else none)))
def am_rt_23 : Nat → Option FieldType := fun i => bif Nat.blt i 188 then (bif Nat.blt i 186 then (bif Nat.blt i 185 then (bif Nat.beq i 184 then none else none) else (bif Nat.beq i 185 then (some .long) else none)) else (bif Nat.blt i 187 then (bif Nat.beq i 186 then (some .long) else none) else (bif Nat.beq i 187 then (some .long) else none))) else (bif Nat.blt i 190 then (bif Nat.blt i 189 then (bif Nat.beq i 188 then none else none) else (bif Nat.beq i 189 then (some .long) else none)) else (bif Nat.blt i 191 then (bif Nat.beq i 190 then (some .long) else none) else (bif Nat.beq i 191 then (some .long) else none)))
def am_rt_24 : Nat → Option FieldType := fun i => bif Nat.blt i 196 then (bif Nat.blt i 194 then (bif Nat.blt i 193 then (bif Nat.beq i 192 then (some .int) else none) else (bif Nat.beq i 193 then (some .boolean) else none)) else (bif Nat.blt i 195 then (bif Nat.beq i 194 then (some .boolean) else none) else (bif Nat.beq i 195 then none else none))) else (bif Nat.blt i 198 then (bif Nat.blt i 197 then (bif Nat.beq i 196 then (some .int) else none) else (bif Nat.beq i 197 then (some .long) else none)) else (bif Nat.blt i 199 then (bif Nat.beq i 198 then (some .long) else none) else (bif Nat.beq i 199 then (some .long) else none)))
def am_rt_25 : Nat → Option FieldType := fun i => bif Nat.blt i 204 then (bif Nat.blt i 202 then (bif Nat.blt i 201 then (bif Nat.beq i 200 then (some .long) else none) else (bif Nat.beq i 201 then none else none)) else (bif Nat.blt i 203 then (bif Nat.beq i 202 then (some .int) else none) else (bif Nat.beq i 203 then none else none))) else (bif Nat.blt i 206 then (bif Nat.blt i 205 then (bif Nat.beq i 204 then none else none) else (bif Nat.beq i 205 then (some .long) else none)) else (bif Nat.blt i 207 then (bif Nat.beq i 206 then none else none) else (bif Nat.beq i 207 then (some .long) else none)))
def am_rt_26 : Nat → Option FieldType := fun i => bif Nat.blt i 212 then (bif Nat.blt i 210 then (bif Nat.blt i 209 then (bif Nat.beq i 208 then (some .long) else none) else (bif Nat.beq i 209 then (some .long) else none)) else (bif Nat.blt i 211 then (bif Nat.beq i 210 then (some .long) else none) else (bif Nat.beq i 211 then (some .long) else none))) else (bif Nat.blt i 214 then (bif Nat.blt i 213 then (bif Nat.beq i 212 then (some .int) else none) else (bif Nat.beq i 213 then none else none)) else (bif Nat.blt i 215 then (bif Nat.beq i 214 then none else none) else (bif Nat.beq i 215 then (some .int) else none)))
def am_rt_27 : Nat → Option FieldType := fun i => bif Nat.blt i 220 then (bif Nat.blt i 218 then (bif Nat.blt i 217 then (bif Nat.beq i 216 then (some .int) else none) else (bif Nat.beq i 217 then (some .int) else none)) else (bif Nat.blt i 219 then (bif Nat.beq i 218 then (some .int) else none) else (bif Nat.beq i 219 then (some .int) else none))) else (bif Nat.blt i 222 then (bif Nat.blt i 221 then (bif Nat.beq i 220 then (some .int) else none) else (bif Nat.beq i 221 then (some .int) else none)) else (bif Nat.blt i 223 then (bif Nat.beq i 222 then (some .int) else none) else (bif Nat.beq i 223 then (some .int) else none)))
def am_rt_28 : Nat → Option FieldType := fun i => bif Nat.blt i 228 then (bif Nat.blt i 226 then (bif Nat.blt i 225 then (bif Nat.beq i 224 then (some .long) else none) else (bif Nat.beq i 225 then (some .long) else none)) else (bif Nat.blt i 227 then (bif Nat.beq i 226 then (some .boolean) else none) else (bif Nat.beq i 227 then (some .int) else none))) else (bif Nat.blt i 230 then (bif Nat.blt i 229 then (bif Nat.beq i 228 then (some .int) else none) else (bif Nat.beq i 229 then (some .boolean) else none)) else (bif Nat.blt i 231 then (bif Nat.beq i 230 then none else none) else (bif Nat.beq i 231 then (some .int) else none)))
def am_rt_29 : Nat → Option FieldType := fun i => bif Nat.blt i 236 then (bif Nat.blt i 234 then (bif Nat.blt i 233 then (bif Nat.beq i 232 then none else none) else (bif Nat.beq i 233 then (some .boolean) else none)) else (bif Nat.blt i 235 then (bif Nat.beq i 234 then (some .int) else none) else (bif Nat.beq i 235 then (some .boolean) else none))) else (bif Nat.blt i 238 then (bif Nat.blt i 237 then (bif Nat.beq i 236 then (some .int) else none) else (bif Nat.beq i 237 then (some .boolean) else none)) else (bif Nat.blt i 239 then (bif Nat.beq i 238 then (some .int) else none) else (bif Nat.beq i 239 then (some .int) else none)))
def am_rt_30 : Nat → Option FieldType := fun i => bif Nat.blt i 244 then (bif Nat.blt i 242 then (bif Nat.blt i 241 then (bif Nat.beq i 240 then (some .long) else none) else (bif Nat.beq i 241 then (some .long) else none)) else (bif Nat.blt i 243 then (bif Nat.beq i 242 then (some .boolean) else none) else (bif Nat.beq i 243 then (some .int) else none))) else (bif Nat.blt i 246 then (bif Nat.blt i 245 then (bif Nat.beq i 244 then (some .int) else none) else (bif Nat.beq i 245 then none else none)) else (bif Nat.blt i 247 then (bif Nat.beq i 246 then (some .int) else none) else (bif Nat.beq i 247 then none else none)))
def am_rt_31 : Nat → Option FieldType := fun i => bif Nat.blt i 252 then (bif Nat.blt i 250 then (bif Nat.blt i 249 then (bif Nat.beq i 248 then (some .int) else none) else (bif Nat.beq i 249 then (some .int) else none)) else (bif Nat.blt i 251 then (bif Nat.beq i 250 then (some .long) else none) else (bif Nat.beq i 251 then (some .int) else none))) else (bif Nat.blt i 254 then (bif Nat.blt i 253 then (bif Nat.beq i 252 then (some .int) else none) else (bif Nat.beq i 253 then (some .int) else none)) else (bif Nat.blt i 255 then (bif Nat.beq i 254 then (some .boolean) else none) else (bif Nat.beq i 255 then (some .long) else none)))
def am_rt_32 : Nat → Option FieldType := fun i => bif Nat.blt i 260 then (bif Nat.blt i 258 then (bif Nat.blt i 257 then (bif Nat.beq i 256 then (some .long) else none) else (bif Nat.beq i 257 then (some .int) else none)) else (bif Nat.blt i 259 then (bif Nat.beq i 258 then (some .int) else none) else (bif Nat.beq i 259 then (some .int) else none))) else (bif Nat.blt i 262 then (bif Nat.blt i 261 then (bif Nat.beq i 260 then (some .int) else none) else (bif Nat.beq i 261 then none else none)) else (bif Nat.blt i 263 then (bif Nat.beq i 262 then (some .int) else none) else (bif Nat.beq i 263 then (some .int) else none)))
def am_rt_33 : Nat → Option FieldType := fun i => bif Nat.blt i 268 then (bif Nat.blt i 266 then (bif Nat.blt i 265 then (bif Nat.beq i 264 then (some .int) else none) else (bif Nat.beq i 265 then (some .int) else none)) else (bif Nat.blt i 267 then (bif Nat.beq i 266 then (some .int) else none) else (bif Nat.beq i 267 then none else none))) else (bif Nat.blt i 270 then (bif Nat.blt i 269 then (bif Nat.beq i 268 then (some .int) else none) else (bif Nat.beq i 269 then (some .int) else none)) else (bif Nat.blt i 271 then (bif Nat.beq i 270 then (some .int) else none) else (bif Nat.beq i 271 then (some .int) else none)))
def am_rt_34 : Nat → Option FieldType := fun i => bif Nat.blt i 275 then (bif Nat.blt i 273 then (bif Nat.beq i 272 then (some .int) else none) else (bif Nat.blt i 274 then (bif Nat.beq i 273 then (some .int) else none) else (bif Nat.beq i 274 then (some .int) else none))) else (bif Nat.blt i 276 then (bif Nat.beq i 275 then (some .int) else none) else (bif Nat.blt i 277 then (bif Nat.beq i 276 then (some .int) else none) else (bif Nat.beq i 277 then (some .boolean) else none)))
def am_rt_0_2 : Nat → Option FieldType := fun i => bif Nat.blt i 8 then am_rt_0 i else am_rt_1 i
def am_rt_2_4 : Nat → Option FieldType := fun i => bif Nat.blt i 24 then am_rt_2 i else am_rt_3 i
def am_rt_0_4 : Nat → Option FieldType := fun i => bif Nat.blt i 16 then am_rt_0_2 i else am_rt_2_4 i
def am_rt_4_6 : Nat → Option FieldType := fun i => bif Nat.blt i 40 then am_rt_4 i else am_rt_5 i
def am_rt_6_8 : Nat → Option FieldType := fun i => bif Nat.blt i 56 then am_rt_6 i else am_rt_7 i
def am_rt_4_8 : Nat → Option FieldType := fun i => bif Nat.blt i 48 then am_rt_4_6 i else am_rt_6_8 i
def am_rt_0_8 : Nat → Option FieldType := fun i => bif Nat.blt i 32 then am_rt_0_4 i else am_rt_4_8 i
def am_rt_8_10 : Nat → Option FieldType := fun i => bif Nat.blt i 72 then am_rt_8 i else am_rt_9 i
def am_rt_10_12 : Nat → Option FieldType := fun i => bif Nat.blt i 88 then am_rt_10 i else am_rt_11 i
def am_rt_8_12 : Nat → Option FieldType := fun i => bif Nat.blt i 80 then am_rt_8_10 i else am_rt_10_12 i
def am_rt_12_14 : Nat → Option FieldType := fun i => bif Nat.blt i 104 then am_rt_12 i else am_rt_13 i
def am_rt_15_17 : Nat → Option FieldType := fun i => bif Nat.blt i 128 then am_rt_15 i else am_rt_16 i
def am_rt_14_17 : Nat → Option FieldType := fun i => bif Nat.blt i 120 then am_rt_14 i else am_rt_15_17 i
def am_rt_12_17 : Nat → Option FieldType := fun i => bif Nat.blt i 112 then am_rt_12_14 i else am_rt_14_17 i
def am_rt_8_17 : Nat → Option FieldType := fun i => bif Nat.blt i 96 then am_rt_8_12 i else am_rt_12_17 i
def am_rt_0_17 : Nat → Option FieldType := fun i => bif Nat.blt i 64 then am_rt_0_8 i else am_rt_8_17 i
def am_rt_17_19 : Nat → Option FieldType := fun i => bif Nat.blt i 144 then am_rt_17 i else am_rt_18 i
def am_rt_19_21 : Nat → Option FieldType := fun i => bif Nat.blt i 160 then am_rt_19 i else am_rt_20 i
def am_rt_17_21 : Nat → Option FieldType := fun i => bif Nat.blt i 152 then am_rt_17_19 i else am_rt_19_21 i
def am_rt_21_23 : Nat → Option FieldType := fun i => bif Nat.blt i 176 then am_rt_21 i else am_rt_22 i
def am_rt_24_26 : Nat → Option FieldType := fun i => bif Nat.blt i 200 then am_rt_24 i else am_rt_25 i
def am_rt_23_26 : Nat → Option FieldType := fun i => bif Nat.blt i 192 then am_rt_23 i else am_rt_24_26 i
def am_rt_21_26 : Nat → Option FieldType := fun i => bif Nat.blt i 184 then am_rt_21_23 i else am_rt_23_26 i
def am_rt_17_26 : Nat → Option FieldType := fun i => bif Nat.blt i 168 then am_rt_17_21 i else am_rt_21_26 i
def am_rt_26_28 : Nat → Option FieldType := fun i => bif Nat.blt i 216 then am_rt_26 i else am_rt_27 i
def am_rt_28_30 : Nat → Option FieldType := fun i => bif Nat.blt i 232 then am_rt_28 i else am_rt_29 i
def am_rt_26_30 : Nat → Option FieldType := fun i => bif Nat.blt i 224 then am_rt_26_28 i else am_rt_28_30 i
def am_rt_30_32 : Nat → Option FieldType := fun i => bif Nat.blt i 248 then am_rt_30 i else am_rt_31 i
def am_rt_33_35 : Nat → Option FieldType := fun i => bif Nat.blt i 272 then am_rt_33 i else am_rt_34 i
def am_rt_32_35 : Nat → Option FieldType := fun i => bif Nat.blt i 264 then am_rt_32 i else am_rt_33_35 i
def am_rt_30_35 : Nat → Option FieldType := fun i => bif Nat.blt i 256 then am_rt_30_32 i else am_rt_32_35 i
def am_rt_26_35 : Nat → Option FieldType := fun i => bif Nat.blt i 240 then am_rt_26_30 i else am_rt_30_35 i
def am_rt_17_35 : Nat → Option FieldType := fun i => bif Nat.blt i 208 then am_rt_17_26 i else am_rt_26_35 i
def am_rt : Nat → Option FieldType := fun i => bif Nat.blt i 136 then am_rt_0_17 i else am_rt_17_35 i
def am_cl : List vw_C := [(RX0, TX0, 6), (RX1, TX1, 7), (RX2, TX2, 12), (RX3, TX3, 18), (RX4, TX4, 4), (RX5, TX5, 15), (RX6, TX6, 4), (RX7, TX7, 5), (RX8, TX8, 16), (RX9, TX9, 13), (RX10, TX10, 79)]
def am_T : Nat → u_T := fun i => bif Nat.blt i 5 then (bif Nat.blt i 2 then (bif Nat.blt i 1 then (bif Nat.beq i 0 then TX0 else fun _ => ("", "", "", false)) else (bif Nat.beq i 1 then TX1 else fun _ => ("", "", "", false))) else (bif Nat.blt i 3 then (bif Nat.beq i 2 then TX2 else fun _ => ("", "", "", false)) else (bif Nat.blt i 4 then (bif Nat.beq i 3 then TX3 else fun _ => ("", "", "", false)) else (bif Nat.beq i 4 then TX4 else fun _ => ("", "", "", false))))) else (bif Nat.blt i 8 then (bif Nat.blt i 6 then (bif Nat.beq i 5 then TX5 else fun _ => ("", "", "", false)) else (bif Nat.blt i 7 then (bif Nat.beq i 6 then TX6 else fun _ => ("", "", "", false)) else (bif Nat.beq i 7 then TX7 else fun _ => ("", "", "", false)))) else (bif Nat.blt i 9 then (bif Nat.beq i 8 then TX8 else fun _ => ("", "", "", false)) else (bif Nat.blt i 10 then (bif Nat.beq i 9 then TX9 else fun _ => ("", "", "", false)) else (bif Nat.beq i 10 then TX10 else fun _ => ("", "", "", false)))))
