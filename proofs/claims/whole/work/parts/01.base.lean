def RX0 : String := "FoodShares$Family"
def TX0 : u_T := fun k => match k with
  | 0 => ("FoodShares$Family", "heads", "I", true)
  | 1 => ("FoodShares$Family", "bars", "I", true)
  | 2 => ("FoodShares$Family", "hadOfGiver", "[I", true)
  | _ => ("FoodShares$Family", "newest", "LFoodShares$Referral;", false)
def tyX0 : Nat → FieldType := fun k => match k with
  | 0 => .int
  | 1 => .int
  | 2 => .array .int
  | _ => .object "FoodShares$Referral"
abbrev wsX00 : List Cond := u_ws RX0 TX0 4
theorem nmX0 : ∀ a, a < 4 → ∀ b, b < 4 → a ≠ b → (TX0 a).2.1 ≠ (TX0 b).2.1 := by decide +kernel
theorem tyX0_ok : ∀ k, k < 4 → parseFieldDescriptor (TX0 k).2.2.1 = some (tyX0 k) := by decide +kernel
def RX1 : String := "FoodShares$Line"
def TX1 : u_T := fun k => match k with
  | 0 => ("FoodShares$Line", "lot", "I", true)
  | _ => ("FoodShares$Line", "grams", "I", true)
def tyX1 : Nat → FieldType := fun k => match k with
  | 0 => .int
  | _ => .int
abbrev wsX10 : List Cond := u_ws RX1 TX1 2
theorem nmX1 : ∀ a, a < 2 → ∀ b, b < 2 → a ≠ b → (TX1 a).2.1 ≠ (TX1 b).2.1 := by decide +kernel
theorem tyX1_ok : ∀ k, k < 2 → parseFieldDescriptor (TX1 k).2.2.1 = some (tyX1 k) := by decide +kernel
def RX2 : String := "FoodShares$Lot"
def TX2 : u_T := fun k => match k with
  | 0 => ("FoodShares$Lot", "number", "I", true)
  | 1 => ("FoodShares$Lot", "kind", "I", true)
  | 2 => ("FoodShares$Lot", "told", "I", true)
  | 3 => ("FoodShares$Lot", "last", "I", true)
  | 4 => ("FoodShares$Lot", "giver", "I", true)
  | 5 => ("FoodShares$Lot", "left", "I", false)
  | 6 => ("FoodShares$Lot", "handed", "I", false)
  | 7 => ("FoodShares$Lot", "parted", "I", false)
  | 8 => ("FoodShares$Lot", "spoilt", "I", false)
  | 9 => ("FoodShares$Lot", "later", "LFoodShares$Lot;", false)
  | _ => ("FoodShares$Lot", "newest", "LFoodShares$Weighing;", false)
def tyX2 : Nat → FieldType := fun k => match k with
  | 0 => .int
  | 1 => .int
  | 2 => .int
  | 3 => .int
  | 4 => .int
  | 5 => .int
  | 6 => .int
  | 7 => .int
  | 8 => .int
  | 9 => .object "FoodShares$Lot"
  | _ => .object "FoodShares$Weighing"
abbrev wsX20 : List Cond := u_ws RX2 TX2 11
theorem nmX2 : ∀ a, a < 11 → ∀ b, b < 11 → a ≠ b → (TX2 a).2.1 ≠ (TX2 b).2.1 := by decide +kernel
theorem tyX2_ok : ∀ k, k < 11 → parseFieldDescriptor (TX2 k).2.2.1 = some (tyX2 k) := by decide +kernel
def RX3 : String := "FoodShares$Parcel"
def TX3 : u_T := fun k => match k with
  | 0 => ("FoodShares$Parcel", "family", "I", true)
  | 1 => ("FoodShares$Parcel", "day", "I", true)
  | 2 => ("FoodShares$Parcel", "lines", "Ljava/util/ArrayList;", true)
  | 3 => ("FoodShares$Parcel", "grams", "I", false)
  | _ => ("FoodShares$Parcel", "missing", "I", false)
def tyX3 : Nat → FieldType := fun k => match k with
  | 0 => .int
  | 1 => .int
  | 2 => .object "java/util/ArrayList"
  | 3 => .int
  | _ => .int
abbrev wsX30 : List Cond := u_ws RX3 TX3 5
theorem nmX3 : ∀ a, a < 5 → ∀ b, b < 5 → a ≠ b → (TX3 a).2.1 ≠ (TX3 b).2.1 := by decide +kernel
theorem tyX3_ok : ∀ k, k < 5 → parseFieldDescriptor (TX3 k).2.2.1 = some (tyX3 k) := by decide +kernel
def RX4 : String := "FoodShares$Referral"
def TX4 : u_T := fun k => match k with
  | 0 => ("FoodShares$Referral", "first", "I", true)
  | 1 => ("FoodShares$Referral", "last", "I", true)
  | 2 => ("FoodShares$Referral", "parcelsLeft", "I", false)
  | _ => ("FoodShares$Referral", "before", "LFoodShares$Referral;", true)
def tyX4 : Nat → FieldType := fun k => match k with
  | 0 => .int
  | 1 => .int
  | 2 => .int
  | _ => .object "FoodShares$Referral"
abbrev wsX40 : List Cond := u_ws RX4 TX4 4
theorem nmX4 : ∀ a, a < 4 → ∀ b, b < 4 → a ≠ b → (TX4 a).2.1 ≠ (TX4 b).2.1 := by decide +kernel
theorem tyX4_ok : ∀ k, k < 4 → parseFieldDescriptor (TX4 k).2.2.1 = some (tyX4 k) := by decide +kernel
def RX5 : String := "FoodShares$RuleReader"
def TX5 : u_T := fun k => match k with
  | 0 => ("FoodShares$RuleReader", "tape", "[B", true)
  | 1 => ("FoodShares$RuleReader", "draft", "LFoodShares$RuleSet;", false)
  | 2 => ("FoodShares$RuleReader", "tokenStart", "I", false)
  | 3 => ("FoodShares$RuleReader", "tokenBehind", "I", false)
  | 4 => ("FoodShares$RuleReader", "length", "I", false)
  | _ => ("FoodShares$RuleReader", "faultPlace", "I", false)
def tyX5 : Nat → FieldType := fun k => match k with
  | 0 => .array .byte
  | 1 => .object "FoodShares$RuleSet"
  | 2 => .int
  | 3 => .int
  | 4 => .int
  | _ => .int
abbrev wsX50 : List Cond := u_ws RX5 TX5 6
theorem nmX5 : ∀ a, a < 6 → ∀ b, b < 6 → a ≠ b → (TX5 a).2.1 ≠ (TX5 b).2.1 := by decide +kernel
theorem tyX5_ok : ∀ k, k < 6 → parseFieldDescriptor (TX5 k).2.2.1 = some (tyX5 k) := by decide +kernel
def RX6 : String := "FoodShares$RuleSet"
def TX6 : u_T := fun k => match k with
  | 0 => ("FoodShares$RuleSet", "verbs", "[I", true)
  | 1 => ("FoodShares$RuleSet", "kinds", "[I", true)
  | 2 => ("FoodShares$RuleSet", "amounts", "[I", true)
  | 3 => ("FoodShares$RuleSet", "aboves", "[I", true)
  | _ => ("FoodShares$RuleSet", "size", "I", false)
def tyX6 : Nat → FieldType := fun k => match k with
  | 0 => .array .int
  | 1 => .array .int
  | 2 => .array .int
  | 3 => .array .int
  | _ => .int
abbrev wsX60 : List Cond := u_ws RX6 TX6 5
theorem nmX6 : ∀ a, a < 5 → ∀ b, b < 5 → a ≠ b → (TX6 a).2.1 ≠ (TX6 b).2.1 := by decide +kernel
theorem tyX6_ok : ∀ k, k < 5 → parseFieldDescriptor (TX6 k).2.2.1 = some (tyX6 k) := by decide +kernel
def RX7 : String := "FoodShares$Stock"
def TX7 : u_T := fun k => match k with
  | 0 => ("FoodShares$Stock", "lots", "Ljava/util/ArrayList;", true)
  | _ => ("FoodShares$Stock", "soonest", "[LFoodShares$Lot;", true)
def tyX7 : Nat → FieldType := fun k => match k with
  | 0 => .object "java/util/ArrayList"
  | _ => .array (.object "FoodShares$Lot")
abbrev wsX70 : List Cond := u_ws RX7 TX7 2
theorem nmX7 : ∀ a, a < 2 → ∀ b, b < 2 → a ≠ b → (TX7 a).2.1 ≠ (TX7 b).2.1 := by decide +kernel
theorem tyX7_ok : ∀ k, k < 2 → parseFieldDescriptor (TX7 k).2.2.1 = some (tyX7 k) := by decide +kernel
def RX8 : String := "FoodShares$Table"
def TX8 : u_T := fun k => match k with
  | 0 => ("FoodShares$Table", "wants", "[I", true)
  | 1 => ("FoodShares$Table", "gotten", "[I", true)
  | _ => ("FoodShares$Table", "grams", "I", false)
def tyX8 : Nat → FieldType := fun k => match k with
  | 0 => .array .int
  | 1 => .array .int
  | _ => .int
abbrev wsX80 : List Cond := u_ws RX8 TX8 3
theorem nmX8 : ∀ a, a < 3 → ∀ b, b < 3 → a ≠ b → (TX8 a).2.1 ≠ (TX8 b).2.1 := by decide +kernel
theorem tyX8_ok : ∀ k, k < 3 → parseFieldDescriptor (TX8 k).2.2.1 = some (tyX8 k) := by decide +kernel
def RX9 : String := "FoodShares$Vans"
def TX9 : u_T := fun k => match k with
  | 0 => ("FoodShares$Vans", "minutes", "[[I", true)
  | 1 => ("FoodShares$Vans", "tableOf", "[I", true)
  | 2 => ("FoodShares$Vans", "gramsOf", "[I", true)
  | 3 => ("FoodShares$Vans", "members", "I", false)
  | 4 => ("FoodShares$Vans", "weight", "[I", true)
  | 5 => ("FoodShares$Vans", "way", "[I", true)
  | 6 => ("FoodShares$Vans", "oneRound", "[I", true)
  | 7 => ("FoodShares$Vans", "leastCost", "[I", true)
  | 8 => ("FoodShares$Vans", "row", "[I", true)
  | _ => ("FoodShares$Vans", "stops", "I", false)
def tyX9 : Nat → FieldType := fun k => match k with
  | 0 => .array (.array .int)
  | 1 => .array .int
  | 2 => .array .int
  | 3 => .int
  | 4 => .array .int
  | 5 => .array .int
  | 6 => .array .int
  | 7 => .array .int
  | 8 => .array .int
  | _ => .int
abbrev wsX90 : List Cond := u_ws RX9 TX9 10
theorem nmX9 : ∀ a, a < 10 → ∀ b, b < 10 → a ≠ b → (TX9 a).2.1 ≠ (TX9 b).2.1 := by decide +kernel
theorem tyX9_ok : ∀ k, k < 10 → parseFieldDescriptor (TX9 k).2.2.1 = some (tyX9 k) := by decide +kernel
def RX10 : String := "FoodShares$Weighing"
def TX10 : u_T := fun k => match k with
  | 0 => ("FoodShares$Weighing", "grams", "I", true)
  | 1 => ("FoodShares$Weighing", "known", "I", true)
  | _ => ("FoodShares$Weighing", "before", "LFoodShares$Weighing;", true)
def tyX10 : Nat → FieldType := fun k => match k with
  | 0 => .int
  | 1 => .int
  | _ => .object "FoodShares$Weighing"
abbrev wsX100 : List Cond := u_ws RX10 TX10 3
theorem nmX10 : ∀ a, a < 3 → ∀ b, b < 3 → a ≠ b → (TX10 a).2.1 ≠ (TX10 b).2.1 := by decide +kernel
theorem tyX10_ok : ∀ k, k < 3 → parseFieldDescriptor (TX10 k).2.2.1 = some (tyX10 k) := by decide +kernel
def RX11 : String := "FoodShares"
def TX11 : u_T := fun k => match k with
  | 0 => ("FoodShares", "contentsOfKind", "[I", true)
  | 1 => ("FoodShares", "stock", "LFoodShares$Stock;", true)
  | 2 => ("FoodShares", "tables", "Ljava/util/ArrayList;", true)
  | 3 => ("FoodShares", "families", "Ljava/util/ArrayList;", true)
  | 4 => ("FoodShares", "parcels", "Ljava/util/ArrayList;", true)
  | 5 => ("FoodShares", "reader", "LFoodShares$RuleReader;", true)
  | 6 => ("FoodShares", "vans", "LFoodShares$Vans;", true)
  | 7 => ("FoodShares", "ruleSet", "LFoodShares$RuleSet;", false)
  | 8 => ("FoodShares", "today", "I", false)
  | 9 => ("FoodShares", "referrals", "I", false)
  | 10 => ("FoodShares", "weighings", "I", false)
  | _ => ("FoodShares", "refusal", "I", false)
def tyX11 : Nat → FieldType := fun k => match k with
  | 0 => .array .int
  | 1 => .object "FoodShares$Stock"
  | 2 => .object "java/util/ArrayList"
  | 3 => .object "java/util/ArrayList"
  | 4 => .object "java/util/ArrayList"
  | 5 => .object "FoodShares$RuleReader"
  | 6 => .object "FoodShares$Vans"
  | 7 => .object "FoodShares$RuleSet"
  | 8 => .int
  | 9 => .int
  | 10 => .int
  | _ => .int
abbrev wsX110 : List Cond := u_ws RX11 TX11 12
theorem nmX11 : ∀ a, a < 12 → ∀ b, b < 12 → a ≠ b → (TX11 a).2.1 ≠ (TX11 b).2.1 := by decide +kernel
theorem tyX11_ok : ∀ k, k < 12 → parseFieldDescriptor (TX11 k).2.2.1 = some (tyX11 k) := by decide +kernel
def RJx4a65c : String := "java/util/ArrayList"
def TJx4a65c : u_T := fun k => match k with
  | 0 => ("java/util/AbstractList", "modCount", "I", false)
  | 1 => ("java/util/ArrayList", "elementData", "[Ljava/lang/Object;", false)
  | _ => ("java/util/ArrayList", "size", "I", false)
def tyJx4a65c : Nat → FieldType := fun k => match k with
  | 0 => .int
  | 1 => .array (.object "java/lang/Object")
  | _ => .int
abbrev wsJx4a65c0 : List Cond := u_ws RJx4a65c TJx4a65c 3
theorem nmJx4a65c : ∀ a, a < 3 → ∀ b, b < 3 → a ≠ b → (TJx4a65c a).2.1 ≠ (TJx4a65c b).2.1 := by decide +kernel
theorem tyJx4a65c_ok : ∀ k, k < 3 → parseFieldDescriptor (TJx4a65c k).2.2.1 = some (tyJx4a65c k) := by decide +kernel
abbrev vwCl : List vw_C := [(RJx4a65c, TJx4a65c, 3), (RX0, TX0, 4), (RX1, TX1, 2), (RX2, TX2, 11), (RX3, TX3, 5), (RX4, TX4, 4), (RX5, TX5, 6), (RX6, TX6, 5), (RX7, TX7, 2), (RX8, TX8, 3), (RX9, TX9, 10), (RX10, TX10, 3), (RX11, TX11, 12), (RX12, TX12, 69)]
/-! THE REFERENCE'S WORLD: one object and its arrays, by four functions: ints, longs, arrays of ints, arrays of longs, each by the number of the field -/
abbrev MS : Type := (Nat → Int32) × (Nat → Int64) × (Nat → Nat → Int32) × (Nat → Nat → Int64)
def mI (x : MS) (k : Nat) : Int32 := x.1 k
def mL (x : MS) (k : Nat) : Int64 := x.2.1 k
def mA (x : MS) (k : Nat) : Nat → Int32 := x.2.2.1 k
def mB (x : MS) (k : Nat) : Nat → Int64 := x.2.2.2 k
def sI (x : MS) (k : Nat) (v : Int32) : MS := (upd x.1 k v, x.2)
def sL (x : MS) (k : Nat) (v : Int64) : MS := (x.1, vp_updL x.2.1 k v, x.2.2)
def sA (x : MS) (k : Nat) (f : Nat → Int32) : MS := (x.1, x.2.1, (fun j => if j = k then f else x.2.2.1 j), x.2.2.2)
def sB (x : MS) (k : Nat) (f : Nat → Int64) : MS := (x.1, x.2.1, x.2.2.1, (fun j => if j = k then f else x.2.2.2 j))
theorem mI_sI (x : MS) (k : Nat) (v : Int32) (j : Nat) : mI (sI x k v) j = if j = k then v else mI x j := rfl
theorem mL_sI (x : MS) (k : Nat) (v : Int32) (j : Nat) : mL (sI x k v) j = mL x j := rfl
theorem mA_sI (x : MS) (k : Nat) (v : Int32) (j : Nat) : mA (sI x k v) j = mA x j := rfl
theorem mB_sI (x : MS) (k : Nat) (v : Int32) (j : Nat) : mB (sI x k v) j = mB x j := rfl
theorem mI_sL (x : MS) (k : Nat) (v : Int64) (j : Nat) : mI (sL x k v) j = mI x j := rfl
theorem mL_sL (x : MS) (k : Nat) (v : Int64) (j : Nat) : mL (sL x k v) j = if j = k then v else mL x j := rfl
theorem mA_sL (x : MS) (k : Nat) (v : Int64) (j : Nat) : mA (sL x k v) j = mA x j := rfl
theorem mB_sL (x : MS) (k : Nat) (v : Int64) (j : Nat) : mB (sL x k v) j = mB x j := rfl
theorem mI_sA (x : MS) (k : Nat) (f : Nat → Int32) (j : Nat) : mI (sA x k f) j = mI x j := rfl
theorem mL_sA (x : MS) (k : Nat) (f : Nat → Int32) (j : Nat) : mL (sA x k f) j = mL x j := rfl
theorem mA_sA (x : MS) (k : Nat) (f : Nat → Int32) (j : Nat) : mA (sA x k f) j = if j = k then f else mA x j := rfl
theorem mB_sA (x : MS) (k : Nat) (f : Nat → Int32) (j : Nat) : mB (sA x k f) j = mB x j := rfl
theorem mI_sB (x : MS) (k : Nat) (f : Nat → Int64) (j : Nat) : mI (sB x k f) j = mI x j := rfl
theorem mL_sB (x : MS) (k : Nat) (f : Nat → Int64) (j : Nat) : mL (sB x k f) j = mL x j := rfl
theorem mA_sB (x : MS) (k : Nat) (f : Nat → Int64) (j : Nat) : mA (sB x k f) j = mA x j := rfl
theorem mB_sB (x : MS) (k : Nat) (f : Nat → Int64) (j : Nat) : mB (sB x k f) j = if j = k then f else mB x j := rfl
/-- the fields -/
def fsM (ad : Nat → Nat) (x : MS) : List Value := [.int (mI x 0), .int (mI x 1), .int (mI x 2), .ref (ad 3), .int (mI x 4), .ref (ad 5), .ref (ad 6), .ref (ad 7), .ref (ad 8), .ref (ad 9), .ref (ad 10), .ref (ad 11), .ref (ad 12), .int (mI x 13), .ref (ad 14), .ref (ad 15), .int (mI x 16), .ref (ad 17), .ref (ad 18), .ref (ad 19), .int (mI x 20), .ref (ad 21), .ref (ad 22), .ref (ad 23), .ref (ad 24), .int (mI x 25), .ref (ad 26), .ref (ad 27), .ref (ad 28), .ref (ad 29), .ref (ad 30), .int (mI x 31), .int (mI x 32), .ref (ad 33), .ref (ad 34), .ref (ad 35), .ref (ad 36), .int (mI x 37), .ref (ad 38), .ref (ad 39), .long (mL x 40), .ref (ad 41), .ref (ad 42), .ref (ad 43), .int (mI x 44), .ref (ad 45), .ref (ad 46), .ref (ad 47), .ref (ad 48), .ref (ad 49), .ref (ad 50), .ref (ad 51), .ref (ad 52), .ref (ad 53), .int (mI x 54), .ref (ad 55), .int (mI x 56), .ref (ad 57), .int (mI x 58), .int (mI x 59), .int (mI x 60), .int (mI x 61), .long (mL x 62), .int (mI x 63), .int (mI x 64), .int (mI x 65), .ref (ad 66), .ref (ad 67), .ref (ad 68)]
/-- the cells -/
def wsM (cI cJ : ClassId) (ad : Nat → Nat) (x : MS) : va_W := [(ad 0, .inr (13, fsM ad x)), (ad 3, .inl (cI, 10, .inl (mA x 3))), (ad 5, .inl (cI, 200, .inl (mA x 5))), (ad 6, .inl (cI, 200, .inl (mA x 6))), (ad 7, .inl (cI, 200, .inl (mA x 7))), (ad 8, .inl (cI, 200, .inl (mA x 8))), (ad 9, .inl (cI, 200, .inl (mA x 9))), (ad 10, .inl (cI, 200, .inl (mA x 10))), (ad 11, .inl (cI, 200, .inl (mA x 11))), (ad 12, .inl (cI, 200, .inl (mA x 12))), (ad 14, .inl (cI, 120, .inl (mA x 14))), (ad 15, .inl (cJ, 120, .inr (.inl (mB x 15)))), (ad 17, .inl (cI, 40, .inl (mA x 17))), (ad 18, .inl (cI, 40, .inl (mA x 18))), (ad 19, .inl (cI, 40, .inl (mA x 19))), (ad 21, .inl (cI, 100, .inl (mA x 21))), (ad 22, .inl (cI, 100, .inl (mA x 22))), (ad 23, .inl (cI, 100, .inl (mA x 23))), (ad 24, .inl (cI, 100, .inl (mA x 24))), (ad 26, .inl (cI, 30, .inl (mA x 26))), (ad 27, .inl (cI, 30, .inl (mA x 27))), (ad 28, .inl (cI, 30, .inl (mA x 28))), (ad 29, .inl (cI, 30, .inl (mA x 29))), (ad 30, .inl (cI, 120, .inl (mA x 30))), (ad 33, .inl (cI, 520, .inl (mA x 33))), (ad 34, .inl (cI, 520, .inl (mA x 34))), (ad 35, .inl (cI, 521, .inl (mA x 35))), (ad 36, .inl (cI, 520, .inl (mA x 36))), (ad 38, .inl (cI, 24000, .inl (mA x 38))), (ad 39, .inl (cI, 24000, .inl (mA x 39))), (ad 41, .inl (cI, 12, .inl (mA x 41))), (ad 42, .inl (cI, 169, .inl (mA x 42))), (ad 43, .inl (cI, 12, .inl (mA x 43))), (ad 45, .inl (cI, 8, .inl (mA x 45))), (ad 46, .inl (cI, 2048, .inl (mA x 46))), (ad 47, .inl (cI, 256, .inl (mA x 47))), (ad 48, .inl (cJ, 256, .inr (.inl (mB x 48)))), (ad 49, .inl (cI, 256, .inl (mA x 49))), (ad 50, .inl (cI, 256, .inl (mA x 50))), (ad 51, .inl (cI, 4096, .inl (mA x 51))), (ad 52, .inl (cI, 256, .inl (mA x 52))), (ad 53, .inl (cI, 16, .inl (mA x 53))), (ad 55, .inl (cI, 16, .inl (mA x 55))), (ad 57, .inl (cI, 400, .inl (mA x 57))), (ad 66, .inl (cI, 100, .inl (mA x 66))), (ad 67, .inl (cI, 100, .inl (mA x 67))), (ad 68, .inl (cI, 100, .inl (mA x 68)))]
abbrev tyM (cI cJ : ClassId) : List (ClassId × FieldType) := [(cI, .int), (cJ, .long)]
theorem pI_0 (cI cJ : ClassId) (ad : Nat → Nat) (x : MS) (v : Int32) : (wsM cI cJ ad x).set 0 (ad 0, .inr (13, (fsM ad x).set 0 (.int v))) = wsM cI cJ ad (sI x 0 v) := rfl
theorem pI_1 (cI cJ : ClassId) (ad : Nat → Nat) (x : MS) (v : Int32) : (wsM cI cJ ad x).set 0 (ad 0, .inr (13, (fsM ad x).set 1 (.int v))) = wsM cI cJ ad (sI x 1 v) := rfl
theorem pI_2 (cI cJ : ClassId) (ad : Nat → Nat) (x : MS) (v : Int32) : (wsM cI cJ ad x).set 0 (ad 0, .inr (13, (fsM ad x).set 2 (.int v))) = wsM cI cJ ad (sI x 2 v) := rfl
theorem pA_3 (cI cJ : ClassId) (ad : Nat → Nat) (x : MS) (f : Nat → Int32) : (wsM cI cJ ad x).set 1 (ad 3, .inl (cI, 10, .inl f)) = wsM cI cJ ad (sA x 3 f) := rfl
theorem pI_4 (cI cJ : ClassId) (ad : Nat → Nat) (x : MS) (v : Int32) : (wsM cI cJ ad x).set 0 (ad 0, .inr (13, (fsM ad x).set 4 (.int v))) = wsM cI cJ ad (sI x 4 v) := rfl
theorem pA_5 (cI cJ : ClassId) (ad : Nat → Nat) (x : MS) (f : Nat → Int32) : (wsM cI cJ ad x).set 2 (ad 5, .inl (cI, 200, .inl f)) = wsM cI cJ ad (sA x 5 f) := rfl
theorem pA_6 (cI cJ : ClassId) (ad : Nat → Nat) (x : MS) (f : Nat → Int32) : (wsM cI cJ ad x).set 3 (ad 6, .inl (cI, 200, .inl f)) = wsM cI cJ ad (sA x 6 f) := rfl
theorem pA_7 (cI cJ : ClassId) (ad : Nat → Nat) (x : MS) (f : Nat → Int32) : (wsM cI cJ ad x).set 4 (ad 7, .inl (cI, 200, .inl f)) = wsM cI cJ ad (sA x 7 f) := rfl
theorem pA_8 (cI cJ : ClassId) (ad : Nat → Nat) (x : MS) (f : Nat → Int32) : (wsM cI cJ ad x).set 5 (ad 8, .inl (cI, 200, .inl f)) = wsM cI cJ ad (sA x 8 f) := rfl
theorem pA_9 (cI cJ : ClassId) (ad : Nat → Nat) (x : MS) (f : Nat → Int32) : (wsM cI cJ ad x).set 6 (ad 9, .inl (cI, 200, .inl f)) = wsM cI cJ ad (sA x 9 f) := rfl
theorem pA_10 (cI cJ : ClassId) (ad : Nat → Nat) (x : MS) (f : Nat → Int32) : (wsM cI cJ ad x).set 7 (ad 10, .inl (cI, 200, .inl f)) = wsM cI cJ ad (sA x 10 f) := rfl
theorem pA_11 (cI cJ : ClassId) (ad : Nat → Nat) (x : MS) (f : Nat → Int32) : (wsM cI cJ ad x).set 8 (ad 11, .inl (cI, 200, .inl f)) = wsM cI cJ ad (sA x 11 f) := rfl
theorem pA_12 (cI cJ : ClassId) (ad : Nat → Nat) (x : MS) (f : Nat → Int32) : (wsM cI cJ ad x).set 9 (ad 12, .inl (cI, 200, .inl f)) = wsM cI cJ ad (sA x 12 f) := rfl
theorem pI_13 (cI cJ : ClassId) (ad : Nat → Nat) (x : MS) (v : Int32) : (wsM cI cJ ad x).set 0 (ad 0, .inr (13, (fsM ad x).set 13 (.int v))) = wsM cI cJ ad (sI x 13 v) := rfl
theorem pA_14 (cI cJ : ClassId) (ad : Nat → Nat) (x : MS) (f : Nat → Int32) : (wsM cI cJ ad x).set 10 (ad 14, .inl (cI, 120, .inl f)) = wsM cI cJ ad (sA x 14 f) := rfl
theorem pA_15 (cI cJ : ClassId) (ad : Nat → Nat) (x : MS) (f : Nat → Int64) : (wsM cI cJ ad x).set 11 (ad 15, .inl (cJ, 120, .inr (.inl f))) = wsM cI cJ ad (sB x 15 f) := rfl
theorem pI_16 (cI cJ : ClassId) (ad : Nat → Nat) (x : MS) (v : Int32) : (wsM cI cJ ad x).set 0 (ad 0, .inr (13, (fsM ad x).set 16 (.int v))) = wsM cI cJ ad (sI x 16 v) := rfl
theorem pA_17 (cI cJ : ClassId) (ad : Nat → Nat) (x : MS) (f : Nat → Int32) : (wsM cI cJ ad x).set 12 (ad 17, .inl (cI, 40, .inl f)) = wsM cI cJ ad (sA x 17 f) := rfl
theorem pA_18 (cI cJ : ClassId) (ad : Nat → Nat) (x : MS) (f : Nat → Int32) : (wsM cI cJ ad x).set 13 (ad 18, .inl (cI, 40, .inl f)) = wsM cI cJ ad (sA x 18 f) := rfl
theorem pA_19 (cI cJ : ClassId) (ad : Nat → Nat) (x : MS) (f : Nat → Int32) : (wsM cI cJ ad x).set 14 (ad 19, .inl (cI, 40, .inl f)) = wsM cI cJ ad (sA x 19 f) := rfl
theorem pI_20 (cI cJ : ClassId) (ad : Nat → Nat) (x : MS) (v : Int32) : (wsM cI cJ ad x).set 0 (ad 0, .inr (13, (fsM ad x).set 20 (.int v))) = wsM cI cJ ad (sI x 20 v) := rfl
theorem pA_21 (cI cJ : ClassId) (ad : Nat → Nat) (x : MS) (f : Nat → Int32) : (wsM cI cJ ad x).set 15 (ad 21, .inl (cI, 100, .inl f)) = wsM cI cJ ad (sA x 21 f) := rfl
theorem pA_22 (cI cJ : ClassId) (ad : Nat → Nat) (x : MS) (f : Nat → Int32) : (wsM cI cJ ad x).set 16 (ad 22, .inl (cI, 100, .inl f)) = wsM cI cJ ad (sA x 22 f) := rfl
theorem pA_23 (cI cJ : ClassId) (ad : Nat → Nat) (x : MS) (f : Nat → Int32) : (wsM cI cJ ad x).set 17 (ad 23, .inl (cI, 100, .inl f)) = wsM cI cJ ad (sA x 23 f) := rfl
theorem pA_24 (cI cJ : ClassId) (ad : Nat → Nat) (x : MS) (f : Nat → Int32) : (wsM cI cJ ad x).set 18 (ad 24, .inl (cI, 100, .inl f)) = wsM cI cJ ad (sA x 24 f) := rfl
theorem pI_25 (cI cJ : ClassId) (ad : Nat → Nat) (x : MS) (v : Int32) : (wsM cI cJ ad x).set 0 (ad 0, .inr (13, (fsM ad x).set 25 (.int v))) = wsM cI cJ ad (sI x 25 v) := rfl
theorem pA_26 (cI cJ : ClassId) (ad : Nat → Nat) (x : MS) (f : Nat → Int32) : (wsM cI cJ ad x).set 19 (ad 26, .inl (cI, 30, .inl f)) = wsM cI cJ ad (sA x 26 f) := rfl
theorem pA_27 (cI cJ : ClassId) (ad : Nat → Nat) (x : MS) (f : Nat → Int32) : (wsM cI cJ ad x).set 20 (ad 27, .inl (cI, 30, .inl f)) = wsM cI cJ ad (sA x 27 f) := rfl
theorem pA_28 (cI cJ : ClassId) (ad : Nat → Nat) (x : MS) (f : Nat → Int32) : (wsM cI cJ ad x).set 21 (ad 28, .inl (cI, 30, .inl f)) = wsM cI cJ ad (sA x 28 f) := rfl
theorem pA_29 (cI cJ : ClassId) (ad : Nat → Nat) (x : MS) (f : Nat → Int32) : (wsM cI cJ ad x).set 22 (ad 29, .inl (cI, 30, .inl f)) = wsM cI cJ ad (sA x 29 f) := rfl
theorem pA_30 (cI cJ : ClassId) (ad : Nat → Nat) (x : MS) (f : Nat → Int32) : (wsM cI cJ ad x).set 23 (ad 30, .inl (cI, 120, .inl f)) = wsM cI cJ ad (sA x 30 f) := rfl
theorem pI_31 (cI cJ : ClassId) (ad : Nat → Nat) (x : MS) (v : Int32) : (wsM cI cJ ad x).set 0 (ad 0, .inr (13, (fsM ad x).set 31 (.int v))) = wsM cI cJ ad (sI x 31 v) := rfl
theorem pI_32 (cI cJ : ClassId) (ad : Nat → Nat) (x : MS) (v : Int32) : (wsM cI cJ ad x).set 0 (ad 0, .inr (13, (fsM ad x).set 32 (.int v))) = wsM cI cJ ad (sI x 32 v) := rfl
theorem pA_33 (cI cJ : ClassId) (ad : Nat → Nat) (x : MS) (f : Nat → Int32) : (wsM cI cJ ad x).set 24 (ad 33, .inl (cI, 520, .inl f)) = wsM cI cJ ad (sA x 33 f) := rfl
theorem pA_34 (cI cJ : ClassId) (ad : Nat → Nat) (x : MS) (f : Nat → Int32) : (wsM cI cJ ad x).set 25 (ad 34, .inl (cI, 520, .inl f)) = wsM cI cJ ad (sA x 34 f) := rfl
theorem pA_35 (cI cJ : ClassId) (ad : Nat → Nat) (x : MS) (f : Nat → Int32) : (wsM cI cJ ad x).set 26 (ad 35, .inl (cI, 521, .inl f)) = wsM cI cJ ad (sA x 35 f) := rfl
theorem pA_36 (cI cJ : ClassId) (ad : Nat → Nat) (x : MS) (f : Nat → Int32) : (wsM cI cJ ad x).set 27 (ad 36, .inl (cI, 520, .inl f)) = wsM cI cJ ad (sA x 36 f) := rfl
theorem pI_37 (cI cJ : ClassId) (ad : Nat → Nat) (x : MS) (v : Int32) : (wsM cI cJ ad x).set 0 (ad 0, .inr (13, (fsM ad x).set 37 (.int v))) = wsM cI cJ ad (sI x 37 v) := rfl
theorem pA_38 (cI cJ : ClassId) (ad : Nat → Nat) (x : MS) (f : Nat → Int32) : (wsM cI cJ ad x).set 28 (ad 38, .inl (cI, 24000, .inl f)) = wsM cI cJ ad (sA x 38 f) := rfl
theorem pA_39 (cI cJ : ClassId) (ad : Nat → Nat) (x : MS) (f : Nat → Int32) : (wsM cI cJ ad x).set 29 (ad 39, .inl (cI, 24000, .inl f)) = wsM cI cJ ad (sA x 39 f) := rfl
theorem pI_40 (cI cJ : ClassId) (ad : Nat → Nat) (x : MS) (v : Int64) : (wsM cI cJ ad x).set 0 (ad 0, .inr (13, (fsM ad x).set 40 (.long v))) = wsM cI cJ ad (sL x 40 v) := rfl
theorem pA_41 (cI cJ : ClassId) (ad : Nat → Nat) (x : MS) (f : Nat → Int32) : (wsM cI cJ ad x).set 30 (ad 41, .inl (cI, 12, .inl f)) = wsM cI cJ ad (sA x 41 f) := rfl
theorem pA_42 (cI cJ : ClassId) (ad : Nat → Nat) (x : MS) (f : Nat → Int32) : (wsM cI cJ ad x).set 31 (ad 42, .inl (cI, 169, .inl f)) = wsM cI cJ ad (sA x 42 f) := rfl
theorem pA_43 (cI cJ : ClassId) (ad : Nat → Nat) (x : MS) (f : Nat → Int32) : (wsM cI cJ ad x).set 32 (ad 43, .inl (cI, 12, .inl f)) = wsM cI cJ ad (sA x 43 f) := rfl
theorem pI_44 (cI cJ : ClassId) (ad : Nat → Nat) (x : MS) (v : Int32) : (wsM cI cJ ad x).set 0 (ad 0, .inr (13, (fsM ad x).set 44 (.int v))) = wsM cI cJ ad (sI x 44 v) := rfl
theorem pA_45 (cI cJ : ClassId) (ad : Nat → Nat) (x : MS) (f : Nat → Int32) : (wsM cI cJ ad x).set 33 (ad 45, .inl (cI, 8, .inl f)) = wsM cI cJ ad (sA x 45 f) := rfl
theorem pA_46 (cI cJ : ClassId) (ad : Nat → Nat) (x : MS) (f : Nat → Int32) : (wsM cI cJ ad x).set 34 (ad 46, .inl (cI, 2048, .inl f)) = wsM cI cJ ad (sA x 46 f) := rfl
theorem pA_47 (cI cJ : ClassId) (ad : Nat → Nat) (x : MS) (f : Nat → Int32) : (wsM cI cJ ad x).set 35 (ad 47, .inl (cI, 256, .inl f)) = wsM cI cJ ad (sA x 47 f) := rfl
theorem pA_48 (cI cJ : ClassId) (ad : Nat → Nat) (x : MS) (f : Nat → Int64) : (wsM cI cJ ad x).set 36 (ad 48, .inl (cJ, 256, .inr (.inl f))) = wsM cI cJ ad (sB x 48 f) := rfl
theorem pA_49 (cI cJ : ClassId) (ad : Nat → Nat) (x : MS) (f : Nat → Int32) : (wsM cI cJ ad x).set 37 (ad 49, .inl (cI, 256, .inl f)) = wsM cI cJ ad (sA x 49 f) := rfl
theorem pA_50 (cI cJ : ClassId) (ad : Nat → Nat) (x : MS) (f : Nat → Int32) : (wsM cI cJ ad x).set 38 (ad 50, .inl (cI, 256, .inl f)) = wsM cI cJ ad (sA x 50 f) := rfl
theorem pA_51 (cI cJ : ClassId) (ad : Nat → Nat) (x : MS) (f : Nat → Int32) : (wsM cI cJ ad x).set 39 (ad 51, .inl (cI, 4096, .inl f)) = wsM cI cJ ad (sA x 51 f) := rfl
theorem pA_52 (cI cJ : ClassId) (ad : Nat → Nat) (x : MS) (f : Nat → Int32) : (wsM cI cJ ad x).set 40 (ad 52, .inl (cI, 256, .inl f)) = wsM cI cJ ad (sA x 52 f) := rfl
theorem pA_53 (cI cJ : ClassId) (ad : Nat → Nat) (x : MS) (f : Nat → Int32) : (wsM cI cJ ad x).set 41 (ad 53, .inl (cI, 16, .inl f)) = wsM cI cJ ad (sA x 53 f) := rfl
theorem pI_54 (cI cJ : ClassId) (ad : Nat → Nat) (x : MS) (v : Int32) : (wsM cI cJ ad x).set 0 (ad 0, .inr (13, (fsM ad x).set 54 (.int v))) = wsM cI cJ ad (sI x 54 v) := rfl
theorem pA_55 (cI cJ : ClassId) (ad : Nat → Nat) (x : MS) (f : Nat → Int32) : (wsM cI cJ ad x).set 42 (ad 55, .inl (cI, 16, .inl f)) = wsM cI cJ ad (sA x 55 f) := rfl
theorem pI_56 (cI cJ : ClassId) (ad : Nat → Nat) (x : MS) (v : Int32) : (wsM cI cJ ad x).set 0 (ad 0, .inr (13, (fsM ad x).set 56 (.int v))) = wsM cI cJ ad (sI x 56 v) := rfl
theorem pA_57 (cI cJ : ClassId) (ad : Nat → Nat) (x : MS) (f : Nat → Int32) : (wsM cI cJ ad x).set 43 (ad 57, .inl (cI, 400, .inl f)) = wsM cI cJ ad (sA x 57 f) := rfl
theorem pI_58 (cI cJ : ClassId) (ad : Nat → Nat) (x : MS) (v : Int32) : (wsM cI cJ ad x).set 0 (ad 0, .inr (13, (fsM ad x).set 58 (.int v))) = wsM cI cJ ad (sI x 58 v) := rfl
theorem pI_59 (cI cJ : ClassId) (ad : Nat → Nat) (x : MS) (v : Int32) : (wsM cI cJ ad x).set 0 (ad 0, .inr (13, (fsM ad x).set 59 (.int v))) = wsM cI cJ ad (sI x 59 v) := rfl
theorem pI_60 (cI cJ : ClassId) (ad : Nat → Nat) (x : MS) (v : Int32) : (wsM cI cJ ad x).set 0 (ad 0, .inr (13, (fsM ad x).set 60 (.int v))) = wsM cI cJ ad (sI x 60 v) := rfl
theorem pI_61 (cI cJ : ClassId) (ad : Nat → Nat) (x : MS) (v : Int32) : (wsM cI cJ ad x).set 0 (ad 0, .inr (13, (fsM ad x).set 61 (.int v))) = wsM cI cJ ad (sI x 61 v) := rfl
theorem pI_62 (cI cJ : ClassId) (ad : Nat → Nat) (x : MS) (v : Int64) : (wsM cI cJ ad x).set 0 (ad 0, .inr (13, (fsM ad x).set 62 (.long v))) = wsM cI cJ ad (sL x 62 v) := rfl
theorem pI_63 (cI cJ : ClassId) (ad : Nat → Nat) (x : MS) (v : Int32) : (wsM cI cJ ad x).set 0 (ad 0, .inr (13, (fsM ad x).set 63 (.int v))) = wsM cI cJ ad (sI x 63 v) := rfl
theorem pI_64 (cI cJ : ClassId) (ad : Nat → Nat) (x : MS) (v : Int32) : (wsM cI cJ ad x).set 0 (ad 0, .inr (13, (fsM ad x).set 64 (.int v))) = wsM cI cJ ad (sI x 64 v) := rfl
theorem pI_65 (cI cJ : ClassId) (ad : Nat → Nat) (x : MS) (v : Int32) : (wsM cI cJ ad x).set 0 (ad 0, .inr (13, (fsM ad x).set 65 (.int v))) = wsM cI cJ ad (sI x 65 v) := rfl
theorem pA_66 (cI cJ : ClassId) (ad : Nat → Nat) (x : MS) (f : Nat → Int32) : (wsM cI cJ ad x).set 44 (ad 66, .inl (cI, 100, .inl f)) = wsM cI cJ ad (sA x 66 f) := rfl
theorem pA_67 (cI cJ : ClassId) (ad : Nat → Nat) (x : MS) (f : Nat → Int32) : (wsM cI cJ ad x).set 45 (ad 67, .inl (cI, 100, .inl f)) = wsM cI cJ ad (sA x 67 f) := rfl
theorem pA_68 (cI cJ : ClassId) (ad : Nat → Nat) (x : MS) (f : Nat → Int32) : (wsM cI cJ ad x).set 46 (ad 68, .inl (cI, 100, .inl f)) = wsM cI cJ ad (sA x 68 f) := rfl
/-- a method's start and end, over the reference's world -/
def mPre (D : va_G) (cI cJ : ClassId) (ad : Nat → Nat) (x : MS) (sz : Nat) (U : State) : Prop := U.heap.size = sz ∧ va_P D vwCl (wsM cI cJ ad x) U.heap ∧ va_K D vwCl (tyM cI cJ) U ∧ va_D (fun _ => True) (wsM cI cJ ad x)
def mAft (D : va_G) (cI cJ : ClassId) (ad : Nat → Nat) (A : Nat → Prop) (x : MS) (t : State) : Prop := va_P D vwCl (wsM cI cJ ad x) t.heap ∧ va_K D vwCl (tyM cI cJ) t ∧ va_D A (wsM cI cJ ad x)
/-- contracts: an int, a long, nothing -/
def Mi (l : Launch) (y : MethodName) (ws : List Cond) (rm : Room) (D : va_G) (cI cJ : ClassId) (ad : Nat → Nat) (av : List Value) (x : MS) (post : Int32 → MS → Prop) : Prop :=
  ∀ sz : Nat, Met l y ws rm (va_Pc (.ref (ad 0) :: av) (mPre D cI cJ ad x sz)) (va_Qi post (mAft D cI cJ ad (va_A (wsM cI cJ ad x) sz)) (va_A (wsM cI cJ ad x) sz)) 0 0 (va_A (wsM cI cJ ad x) sz)
def Ml (l : Launch) (y : MethodName) (ws : List Cond) (rm : Room) (D : va_G) (cI cJ : ClassId) (ad : Nat → Nat) (av : List Value) (x : MS) (post : Int64 → MS → Prop) : Prop :=
  ∀ sz : Nat, Met l y ws rm (va_Pc (.ref (ad 0) :: av) (mPre D cI cJ ad x sz)) (va_Ql post (mAft D cI cJ ad (va_A (wsM cI cJ ad x) sz)) (va_A (wsM cI cJ ad x) sz)) 0 0 (va_A (wsM cI cJ ad x) sz)
def Mv (l : Launch) (y : MethodName) (ws : List Cond) (rm : Room) (D : va_G) (cI cJ : ClassId) (ad : Nat → Nat) (av : List Value) (x : MS) (post : MS → Prop) : Prop :=
  ∀ sz : Nat, Met l y ws rm (va_Pc (.ref (ad 0) :: av) (mPre D cI cJ ad x sz)) (va_Qv post (mAft D cI cJ ad (va_A (wsM cI cJ ad x) sz)) (va_A (wsM cI cJ ad x) sz)) 0 0 (va_A (wsM cI cJ ad x) sz)
/-- a static method that touches nothing -/
def Si (l : Launch) (y : MethodName) (ws : List Cond) (rm : Room) (av : List Value) (post : Int32 → Prop) : Prop := Met l y ws rm (va_Pc av (fun _ => True)) (vp_Si post) 0 0 (fun _ => False)
def Sl (l : Launch) (y : MethodName) (ws : List Cond) (rm : Room) (av : List Value) (post : Int64 → Prop) : Prop := Met l y ws rm (va_Pc av (fun _ => True)) (vp_Sl post) 0 0 (fun _ => False)
def bI (b : Bool) : Int32 := if b then 1 else 0
theorem bI_0 (b : Bool) : (bI b = 0) = (b = false) := by cases b <;> simp [bI]
theorem bI_1 (b : Bool) : (bI b = 1) = (b = true) := by cases b <;> simp [bI]
theorem bI_nar (b : Bool) : narrow .boolean (.int (bI b)) = .int (bI b) := by cases b <;> rfl
theorem mBlind (D : va_G) (cI cJ : ClassId) (ad : Nat → Nat) (x : MS) (sz : Nat) (av : List Value) : FrameBlind (va_Pc av (mPre D cI cJ ad x sz)) := fun a U g mk q => by
  obtain ⟨q0, q1, qP, qK, qD⟩ := q
  exact ⟨q0, q1, qP, va_K.moved (u := U) (U := U.calling g mk a) (Vm.Alike.refl U.vm) qK, qD⟩
section MROWS
variable {p : Program} {l : Launch} {e : Env} {R : Room} {s : State} {m : MethodId} {args : Array Value} {below : List Frame} {meth : Method} {c : Code} {H : Heap} {locs : List Loc} {cells slots : Nat} {Q : State → Prop}
variable {cc : ByteArray} {pc : Nat} {ls : Array Slot} {rest : List Value} {D : va_G} {A : Nat → Prop} {cI cJ : ClassId} {ad : Nat → Nat} {x : MS} {Ts : List Cond}
/-- getfield of the reference -/
theorem M_get (hx : p.tables.exec = Jvm.exec) (hb : c.code = cc) (hts : ∀ w ∈ Ts, w.before args s = true) (hin : ∀ w ∈ wsX120, w ∈ Ts) (hown : s.vm.findClass RX12 = some m.cls) (hK : va_K D vwCl (tyM cI cJ) s) (hP : va_P D vwCl (wsM cI cJ ad x) H) (k : Nat) (hk : k < 69) (hr : (TX12 k).1 = RX12) {index : Nat} (hlink : Cond.fieldLink RX12 index RX12 (TX12 k).2.1 (TX12 k).2.2.1 ∈ Ts) {v : Value} (hv : (fsM ad x)[k]? = some v) (hdg : decode cc pc = .ok (.getfield index, 3))
    (kk : W p l e R s m args below meth c H locs cells slots Q (F0 m (pc + 3) ls (v :: rest))) : W p l e R s m args below meth c H locs cells slots Q (F0 m pc ls (.ref (ad 0) :: rest)) :=
  va_get (C := RX12) (T := TX12) (N := 69) (ci := 13) (fs := fsM ad x) (ref := RX12) hx hb hts hin hown hK hP 0 rfl rfl k hk (hts _ hlink) (fun y h => by rw [← hr]; exact h) hv hdg kk
/-- putfield -/
theorem M_put (hx : p.tables.exec = Jvm.exec) (hb : c.code = cc) (hts : ∀ w ∈ Ts, w.before args s = true) (hin : ∀ w ∈ wsX120, w ∈ Ts) (hown : s.vm.findClass RX12 = some m.cls) (hK : va_K D vwCl (tyM cI cJ) s) (hP : va_P D vwCl (wsM cI cJ ad x) H) (hD : va_D A (wsM cI cJ ad x)) (hS : va_S A s.heap H locs) (k : Nat) (hk : k < 69) (hr : (TX12 k).1 = RX12) (hfin : (TX12 k).2.2.2 = false) {index : Nat} (hlink : Cond.fieldLink RX12 index RX12 (TX12 k).2.1 (TX12 k).2.2.1 ∈ Ts) {v : Value} {ty : FieldType} (hd : parseFieldDescriptor (TX12 k).2.2.1 = some ty) (hn : narrow ty v = v) (hfit : fits ty v = true) {x' : MS} (hset : (wsM cI cJ ad x).set 0 (ad 0, .inr (13, (fsM ad x).set k v)) = wsM cI cJ ad x') (hdg : decode cc pc = .ok (.putfield index, 3))
    (kk : ∀ (y : MS) (H : Heap) (locs : List Loc), y = x' → va_P D vwCl (wsM cI cJ ad y) H → va_D A (wsM cI cJ ad y) → va_S A s.heap H locs → W p l e R s m args below meth c H locs cells slots Q (F0 m (pc + 3) ls rest)) : W p l e R s m args below meth c H locs cells slots Q (F0 m pc ls (v :: .ref (ad 0) :: rest)) := by
  refine va_put (C := RX12) (T := TX12) (N := 69) (ci := 13) (fs := fsM ad x) (ref := RX12) (ty := ty) hx hb hts hin tyX12 tyX12_ok nmX12 hown hK hP hD hS 0 rfl rfl k hk (hts _ hlink) (fun y h => by rw [← hr]; exact h) hfin hd hn hfit (Nat.lt_of_lt_of_le hk (Nat.le_of_eq rfl)) hdg (fun H1 locs1 hP1 hD1 hS1 => ?_)
  rw [hset] at hP1 hD1
  exact kk x' H1 locs1 rfl hP1 hD1 hS1
/-- a store into an array of ints, of longs -/
theorem M_iast (hx : p.tables.exec = Jvm.exec) (hb : c.code = cc) (hK : va_K D vwCl (tyM cI cJ) s) (hP : va_P D vwCl (wsM cI cJ ad x) H) (hD : va_D A (wsM cI cJ ad x)) (hS : va_S A s.heap H locs) (q0 : Nat) {a n : Nat} {f : Nat → Int32} (ha : (wsM cI cJ ad x)[q0]? = some (a, .inl (cI, n, .inl f))) {i v : Int32} (hin : vp_in i n) {x' : MS} (hset : (wsM cI cJ ad x).set q0 (a, .inl (cI, n, .inl (upd f i.toNatClampNeg v))) = wsM cI cJ ad x') (hdg : decode cc pc = .ok (.iastore, 1))
    (kk : ∀ (y : MS) (H : Heap) (locs : List Loc), y = x' → va_P D vwCl (wsM cI cJ ad y) H → va_D A (wsM cI cJ ad y) → va_S A s.heap H locs → W p l e R s m args below meth c H locs cells slots Q (F0 m (pc + 1) ls rest)) : W p l e R s m args below meth c H locs cells slots Q (F0 m pc ls (.int v :: .int i :: .ref a :: rest)) := by
  refine va_iast hx hb hK hP hD hS q0 0 ha rfl hin hdg (fun H1 locs1 hP1 hD1 hS1 => ?_)
  rw [hset] at hP1 hD1
  exact kk x' H1 locs1 rfl hP1 hD1 hS1
theorem M_last (hx : p.tables.exec = Jvm.exec) (hb : c.code = cc) (hK : va_K D vwCl (tyM cI cJ) s) (hP : va_P D vwCl (wsM cI cJ ad x) H) (hD : va_D A (wsM cI cJ ad x)) (hS : va_S A s.heap H locs) (q0 : Nat) {a n : Nat} {f : Nat → Int64} (ha : (wsM cI cJ ad x)[q0]? = some (a, .inl (cJ, n, .inr (.inl f)))) {i : Int32} {v : Int64} (hin : vp_in i n) {x' : MS} (hset : (wsM cI cJ ad x).set q0 (a, .inl (cJ, n, .inr (.inl (vp_updL f i.toNatClampNeg v)))) = wsM cI cJ ad x') (hdg : decode cc pc = .ok (.lastore, 1))
    (kk : ∀ (y : MS) (H : Heap) (locs : List Loc), y = x' → va_P D vwCl (wsM cI cJ ad y) H → va_D A (wsM cI cJ ad y) → va_S A s.heap H locs → W p l e R s m args below meth c H locs cells slots Q (F0 m (pc + 1) ls rest)) : W p l e R s m args below meth c H locs cells slots Q (F0 m pc ls (.long v :: .int i :: .ref a :: rest)) := by
  refine va_last hx hb hK hP hD hS q0 1 ha rfl hin hdg (fun H1 locs1 hP1 hD1 hS1 => ?_)
  rw [hset] at hP1 hD1
  exact kk x' H1 locs1 rfl hP1 hD1 hS1
variable {y : MethodName} {bytes : ByteArray} {maxL nL n index : Nat} {ret : Option FieldType} {ws : List Cond} {rm : Room} {av : List Value} {st0 : List Value}
/-- the callee's part of the caller's frame -/
theorem M_free (hD : va_D A (wsM cI cJ ad x)) (hS : va_S A s.heap H locs) (hA : ∀ q, s.heap.size ≤ q → A q) : ∀ q, va_A (wsM cI cJ ad x) H.size q → A q := fun q h => by
  rcases h with ⟨k, e, h⟩ | h
  · exact hD.2 k (q, e) h
  · exact hA q (Nat.le_trans hS.1 h)
/-- calls of the reference's own methods -/
theorem M_calli (S : CallFix p m c cc nL s args Ts RX12) (hA : ∀ q, s.heap.size ≤ q → A q) (hK : va_K D vwCl (tyM cI cJ) s) (hP : va_P D vwCl (wsM cI cJ ad x) H) (hD : va_D A (wsM cI cJ ad x)) (hS : va_S A s.heap H locs) {post : Int32 → MS → Prop} (hM : Mi l y ws rm D cI cJ ad av x post) (cw : CallW R s args RX12 RX12 index y bytes maxL ret ws rm 0 0 n) (hn : av.length = n) (hsize : ls.size = nL) (hst : st0 = av.reverse ++ .ref (ad 0) :: rest) (hW : (rest.map fun v => v.category).sum ≤ 8) (hdg : decode cc pc = .ok (.invokevirtual index, 3)) (hf : cells + 0 ≤ R.cells ∧ slots + 0 ≤ R.slots)
    (kk : ∀ (r : Int32) (y : MS) (H : Heap) (locs : List Loc), post r y → va_P D vwCl (wsM cI cJ ad y) H → va_D A (wsM cI cJ ad y) → va_S A s.heap H locs → W p l e R s m args below meth c H locs cells slots Q (F0 m (pc + 3) ls (.int r :: rest))) : W p l e R s m args below meth c H locs cells slots Q (F0 m pc ls st0) := by
  have hFc := M_free hD hS hA
  refine va_calli (va_runV (As := av) (rest := rest) S (hM H.size) cw ⟨mBlind D cI cJ ad x H.size _, va_recv hK hP (ci := 13) (q0 := 0) rfl rfl, fun U hU hW => ⟨rfl, by rw [hU], by rw [hU]; exact hP, va_K.moved hW.alike hK, hD.weaken (fun _ _ _ _ => trivial)⟩⟩ rfl hn hsize hst (lv_room hW) hdg hf) hS (fun q _ h => hFc q h) hFc (fun r u t H1 locs1 ht hvm hw hB hz1 hk1 hS1 => ?_)
  obtain ⟨hP1, hK1, hD1⟩ := hB
  rw [ht] at hP1
  exact kk r u H1 locs1 hw hP1 (hD1.weaken (fun _ q _ h => hFc q.1 h)) hS1
theorem M_calll (S : CallFix p m c cc nL s args Ts RX12) (hA : ∀ q, s.heap.size ≤ q → A q) (hK : va_K D vwCl (tyM cI cJ) s) (hP : va_P D vwCl (wsM cI cJ ad x) H) (hD : va_D A (wsM cI cJ ad x)) (hS : va_S A s.heap H locs) {post : Int64 → MS → Prop} (hM : Ml l y ws rm D cI cJ ad av x post) (cw : CallW R s args RX12 RX12 index y bytes maxL ret ws rm 0 0 n) (hn : av.length = n) (hsize : ls.size = nL) (hst : st0 = av.reverse ++ .ref (ad 0) :: rest) (hW : (rest.map fun v => v.category).sum ≤ 8) (hdg : decode cc pc = .ok (.invokevirtual index, 3)) (hf : cells + 0 ≤ R.cells ∧ slots + 0 ≤ R.slots)
    (kk : ∀ (r : Int64) (y : MS) (H : Heap) (locs : List Loc), post r y → va_P D vwCl (wsM cI cJ ad y) H → va_D A (wsM cI cJ ad y) → va_S A s.heap H locs → W p l e R s m args below meth c H locs cells slots Q (F0 m (pc + 3) ls (.long r :: rest))) : W p l e R s m args below meth c H locs cells slots Q (F0 m pc ls st0) := by
  have hFc := M_free hD hS hA
  refine va_calll (va_runV (As := av) (rest := rest) S (hM H.size) cw ⟨mBlind D cI cJ ad x H.size _, va_recv hK hP (ci := 13) (q0 := 0) rfl rfl, fun U hU hW => ⟨rfl, by rw [hU], by rw [hU]; exact hP, va_K.moved hW.alike hK, hD.weaken (fun _ _ _ _ => trivial)⟩⟩ rfl hn hsize hst (lv_room hW) hdg hf) hS (fun q _ h => hFc q h) hFc (fun r u t H1 locs1 ht hvm hw hB hz1 hk1 hS1 => ?_)
  obtain ⟨hP1, hK1, hD1⟩ := hB
  rw [ht] at hP1
  exact kk r u H1 locs1 hw hP1 (hD1.weaken (fun _ q _ h => hFc q.1 h)) hS1
theorem M_callv (S : CallFix p m c cc nL s args Ts RX12) (hA : ∀ q, s.heap.size ≤ q → A q) (hK : va_K D vwCl (tyM cI cJ) s) (hP : va_P D vwCl (wsM cI cJ ad x) H) (hD : va_D A (wsM cI cJ ad x)) (hS : va_S A s.heap H locs) {post : MS → Prop} (hM : Mv l y ws rm D cI cJ ad av x post) (cw : CallW R s args RX12 RX12 index y bytes maxL ret ws rm 0 0 n) (hn : av.length = n) (hsize : ls.size = nL) (hst : st0 = av.reverse ++ .ref (ad 0) :: rest) (hW : (rest.map fun v => v.category).sum ≤ 8) (hdg : decode cc pc = .ok (.invokevirtual index, 3)) (hf : cells + 0 ≤ R.cells ∧ slots + 0 ≤ R.slots)
    (kk : ∀ (y : MS) (H : Heap) (locs : List Loc), post y → va_P D vwCl (wsM cI cJ ad y) H → va_D A (wsM cI cJ ad y) → va_S A s.heap H locs → W p l e R s m args below meth c H locs cells slots Q (F0 m (pc + 3) ls rest)) : W p l e R s m args below meth c H locs cells slots Q (F0 m pc ls st0) := by
  have hFc := M_free hD hS hA
  refine va_callv (va_runV (As := av) (rest := rest) S (hM H.size) cw ⟨mBlind D cI cJ ad x H.size _, va_recv hK hP (ci := 13) (q0 := 0) rfl rfl, fun U hU hW => ⟨rfl, by rw [hU], by rw [hU]; exact hP, va_K.moved hW.alike hK, hD.weaken (fun _ _ _ _ => trivial)⟩⟩ rfl hn hsize hst (lv_room hW) hdg hf) hS (fun q _ h => hFc q h) hFc (fun u t H1 locs1 ht hvm hw hB hz1 hk1 hS1 => ?_)
  obtain ⟨hP1, hK1, hD1⟩ := hB
  rw [ht] at hP1
  exact kk u H1 locs1 hw hP1 (hD1.weaken (fun _ q _ h => hFc q.1 h)) hS1
/-- calls of static methods that touch nothing -/
theorem S_calli {own : String} (S : CallFix p m c cc nL s args Ts own) {post : Int32 → Prop} (hM : Si l y ws rm av post) (cw : CallB R s args own index y bytes maxL ret ws rm 0 0 n ∧ (Cond.static y).before args s = true) (hn : av.length = n) (hsize : ls.size = nL) (hst : st0 = av.reverse ++ rest) (hW : (rest.map fun v => v.category).sum ≤ 8) (hdg : decode cc pc = .ok (.invokestatic index, 3)) (hf : cells + 0 ≤ R.cells ∧ slots + 0 ≤ R.slots)
    (kk : ∀ r : Int32, post r → W p l e R s m args below meth c H locs cells slots Q (F0 m (pc + 3) ls (.int r :: rest))) : W p l e R s m args below meth c H locs cells slots Q (F0 m pc ls st0) :=
  vp_callSi (W.runS (As := av) (rest := rest) S hM cw ⟨fun a U g mk q => ⟨q.1, trivial⟩, fun U hU hW => ⟨rfl, trivial⟩⟩ rfl hn hsize hst (lv_room hW) hdg hf) kk
theorem S_calll {own : String} (S : CallFix p m c cc nL s args Ts own) {post : Int64 → Prop} (hM : Sl l y ws rm av post) (cw : CallB R s args own index y bytes maxL ret ws rm 0 0 n ∧ (Cond.static y).before args s = true) (hn : av.length = n) (hsize : ls.size = nL) (hst : st0 = av.reverse ++ rest) (hW : (rest.map fun v => v.category).sum ≤ 8) (hdg : decode cc pc = .ok (.invokestatic index, 3)) (hf : cells + 0 ≤ R.cells ∧ slots + 0 ≤ R.slots)
    (kk : ∀ r : Int64, post r → W p l e R s m args below meth c H locs cells slots Q (F0 m (pc + 3) ls (.long r :: rest))) : W p l e R s m args below meth c H locs cells slots Q (F0 m pc ls st0) :=
  vp_callSl (W.runS (As := av) (rest := rest) S hM cw ⟨fun a U g mk q => ⟨q.1, trivial⟩, fun U hU hW => ⟨rfl, trivial⟩⟩ rfl hn hsize hst (lv_room hW) hdg hf) kk
end MROWS

