/-! ===== BEGIN words of one list among another's, by their places ===== -/
theorem goodIn_r {big : List Cond} (ws : List Cond) (ps : List Nat) (hp : ws = ps.filterMap (fun i => big[i]?)) (h : ws.all goodWord = true) : GoodIn big ws := by
  intro w hw
  have h1 := List.all_eq_true.mp h w hw
  rw [hp] at hw
  obtain ⟨i, -, hi⟩ := List.mem_filterMap.mp hw
  have hm : w ∈ big := by first | exact List.mem_of_getElem? hi | exact List.getElem?_mem hi
  exact ⟨hm, good_of_word h1⟩
theorem goodIn_app {big a b : List Cond} (ha : GoodIn big a) (hb : GoodIn big b) : GoodIn big (a ++ b) := fun w h => (List.mem_append.mp h).elim (ha w) (hb w)
theorem goodIn_ca {big a b : List Cond} {c : Cond} (ha : GoodIn big (c :: a)) (hb : GoodIn big b) : GoodIn big (c :: (a ++ b)) := fun w h => (List.mem_cons.mp h).elim (fun e => ha w (List.mem_cons.mpr (Or.inl e))) (fun h => (List.mem_append.mp h).elim (fun h => ha w (List.mem_cons.mpr (Or.inr h))) (hb w))
theorem goodIn_sub {big ws : List Cond} (hm : ∀ w ∈ ws, w ∈ big) (h : ws.all goodWord = true) : GoodIn big ws := fun w hw => ⟨hm w hw, good_of_word (List.all_eq_true.mp h w hw)⟩
/-! ===== END ===== -/
def RX12 : String := "FoodSharesModel"
def TX12 : u_T := fun k => match k with
  | 0 => ("FoodSharesModel", "thrown", "I", false)
  | 1 => ("FoodSharesModel", "status", "I", false)
  | 2 => ("FoodSharesModel", "today", "I", false)
  | 3 => ("FoodSharesModel", "contents", "[I", true)
  | 4 => ("FoodSharesModel", "lots", "I", false)
  | 5 => ("FoodSharesModel", "lKind", "[I", true)
  | 6 => ("FoodSharesModel", "lGrams", "[I", true)
  | 7 => ("FoodSharesModel", "lLast", "[I", true)
  | 8 => ("FoodSharesModel", "lGiver", "[I", true)
  | 9 => ("FoodSharesModel", "lLeft", "[I", true)
  | 10 => ("FoodSharesModel", "lOut", "[I", true)
  | 11 => ("FoodSharesModel", "lParted", "[I", true)
  | 12 => ("FoodSharesModel", "lSpoilt", "[I", true)
  | 13 => ("FoodSharesModel", "tables", "I", false)
  | 14 => ("FoodSharesModel", "wants", "[I", true)
  | 15 => ("FoodSharesModel", "gotten", "[J", true)
  | 16 => ("FoodSharesModel", "families", "I", false)
  | 17 => ("FoodSharesModel", "fTable", "[I", true)
  | 18 => ("FoodSharesModel", "fHeads", "[I", true)
  | 19 => ("FoodSharesModel", "fBars", "[I", true)
  | 20 => ("FoodSharesModel", "referrals", "I", false)
  | 21 => ("FoodSharesModel", "eFamily", "[I", true)
  | 22 => ("FoodSharesModel", "eFirst", "[I", true)
  | 23 => ("FoodSharesModel", "eLast", "[I", true)
  | 24 => ("FoodSharesModel", "eLeft", "[I", true)
  | 25 => ("FoodSharesModel", "ruleMany", "I", false)
  | 26 => ("FoodSharesModel", "rSort", "[I", true)
  | 27 => ("FoodSharesModel", "rKind", "[I", true)
  | 28 => ("FoodSharesModel", "rA", "[I", true)
  | 29 => ("FoodSharesModel", "rB", "[I", true)
  | 30 => ("FoodSharesModel", "nRule", "[I", true)
  | 31 => ("FoodSharesModel", "nMany", "I", false)
  | 32 => ("FoodSharesModel", "parcels", "I", false)
  | 33 => ("FoodSharesModel", "pFamily", "[I", true)
  | 34 => ("FoodSharesModel", "pDay", "[I", true)
  | 35 => ("FoodSharesModel", "pFrom", "[I", true)
  | 36 => ("FoodSharesModel", "pShort", "[I", true)
  | 37 => ("FoodSharesModel", "lines", "I", false)
  | 38 => ("FoodSharesModel", "lineLot", "[I", true)
  | 39 => ("FoodSharesModel", "lineGrams", "[I", true)
  | 40 => ("FoodSharesModel", "shortAll", "J", false)
  | 41 => ("FoodSharesModel", "shares", "[I", true)
  | 42 => ("FoodSharesModel", "roads", "[I", true)
  | 43 => ("FoodSharesModel", "loads", "[I", true)
  | 44 => ("FoodSharesModel", "loadMany", "I", false)
  | 45 => ("FoodSharesModel", "who", "[I", true)
  | 46 => ("FoodSharesModel", "ahead", "[I", true)
  | 47 => ("FoodSharesModel", "tour", "[I", true)
  | 48 => ("FoodSharesModel", "weight", "[J", true)
  | 49 => ("FoodSharesModel", "least", "[I", true)
  | 50 => ("FoodSharesModel", "fewest", "[I", true)
  | 51 => ("FoodSharesModel", "rows", "[I", true)
  | 52 => ("FoodSharesModel", "rowLen", "[I", true)
  | 53 => ("FoodSharesModel", "trial", "[I", true)
  | 54 => ("FoodSharesModel", "trialLen", "I", false)
  | 55 => ("FoodSharesModel", "stops", "[I", true)
  | 56 => ("FoodSharesModel", "stopMany", "I", false)
  | 57 => ("FoodSharesModel", "tape", "[I", true)
  | 58 => ("FoodSharesModel", "taped", "I", false)
  | 59 => ("FoodSharesModel", "from", "I", false)
  | 60 => ("FoodSharesModel", "to", "I", false)
  | 61 => ("FoodSharesModel", "sort", "I", false)
  | 62 => ("FoodSharesModel", "worth", "J", false)
  | 63 => ("FoodSharesModel", "fault", "I", false)
  | 64 => ("FoodSharesModel", "bad", "Z", false)
  | 65 => ("FoodSharesModel", "weighings", "I", false)
  | 66 => ("FoodSharesModel", "wLot", "[I", true)
  | 67 => ("FoodSharesModel", "wGrams", "[I", true)
  | _ => ("FoodSharesModel", "wKnown", "[I", true)
def tyX12 : Nat → FieldType := fun k => match k with
  | 0 => .int
  | 1 => .int
  | 2 => .int
  | 3 => .array .int
  | 4 => .int
  | 5 => .array .int
  | 6 => .array .int
  | 7 => .array .int
  | 8 => .array .int
  | 9 => .array .int
  | 10 => .array .int
  | 11 => .array .int
  | 12 => .array .int
  | 13 => .int
  | 14 => .array .int
  | 15 => .array .long
  | 16 => .int
  | 17 => .array .int
  | 18 => .array .int
  | 19 => .array .int
  | 20 => .int
  | 21 => .array .int
  | 22 => .array .int
  | 23 => .array .int
  | 24 => .array .int
  | 25 => .int
  | 26 => .array .int
  | 27 => .array .int
  | 28 => .array .int
  | 29 => .array .int
  | 30 => .array .int
  | 31 => .int
  | 32 => .int
  | 33 => .array .int
  | 34 => .array .int
  | 35 => .array .int
  | 36 => .array .int
  | 37 => .int
  | 38 => .array .int
  | 39 => .array .int
  | 40 => .long
  | 41 => .array .int
  | 42 => .array .int
  | 43 => .array .int
  | 44 => .int
  | 45 => .array .int
  | 46 => .array .int
  | 47 => .array .int
  | 48 => .array .long
  | 49 => .array .int
  | 50 => .array .int
  | 51 => .array .int
  | 52 => .array .int
  | 53 => .array .int
  | 54 => .int
  | 55 => .array .int
  | 56 => .int
  | 57 => .array .int
  | 58 => .int
  | 59 => .int
  | 60 => .int
  | 61 => .int
  | 62 => .long
  | 63 => .int
  | 64 => .boolean
  | 65 => .int
  | 66 => .array .int
  | 67 => .array .int
  | _ => .array .int
abbrev wsX120 : List Cond := u_ws RX12 TX12 69
theorem nmX12 : ∀ a, a < 69 → ∀ b, b < 69 → a ≠ b → (TX12 a).2.1 ≠ (TX12 b).2.1 := by decide +kernel
theorem tyX12_ok : ∀ k, k < 69 → parseFieldDescriptor (TX12 k).2.2.1 = some (tyX12 k) := by decide +kernel
abbrev cX12_init : ByteArray := prog_14_method_1_code
def yX12_init : MethodName := ⟨RX12, "<init>", "()V"⟩
abbrev cX12_in : ByteArray := prog_14_method_3_code
def yX12_in : MethodName := ⟨RX12, "in", "(JJJ)Z"⟩
abbrev cX12_told : ByteArray := prog_14_method_4_code
def yX12_told : MethodName := ⟨RX12, "told", "(I)I"⟩
abbrev cX12_isKind : ByteArray := prog_14_method_5_code
def yX12_isKind : MethodName := ⟨RX12, "isKind", "(I)Z"⟩
abbrev cX12_isLot : ByteArray := prog_14_method_6_code
def yX12_isLot : MethodName := ⟨RX12, "isLot", "(I)Z"⟩
abbrev cX12_isTable : ByteArray := prog_14_method_7_code
def yX12_isTable : MethodName := ⟨RX12, "isTable", "(I)Z"⟩
abbrev cX12_isFamily : ByteArray := prog_14_method_8_code
def yX12_isFamily : MethodName := ⟨RX12, "isFamily", "(I)Z"⟩
abbrev cX12_contents : ByteArray := prog_14_method_9_code
def yX12_contents : MethodName := ⟨RX12, "contents", "(II)I"⟩
abbrev cX12_gift : ByteArray := prog_14_method_10_code
def yX12_gift : MethodName := ⟨RX12, "gift", "(IIII)I"⟩
abbrev cX12_lot : ByteArray := prog_14_method_11_code
def yX12_lot : MethodName := ⟨RX12, "lot", "(II)I"⟩
abbrev cX12_table : ByteArray := prog_14_method_12_code
def yX12_table : MethodName := ⟨RX12, "table", "()I"⟩
abbrev cX12_family : ByteArray := prog_14_method_13_code
def yX12_family : MethodName := ⟨RX12, "family", "(III)I"⟩
abbrev cX12_refer : ByteArray := prog_14_method_14_code
def yX12_refer : MethodName := ⟨RX12, "refer", "(IIII)I"⟩
abbrev cX12_lets : ByteArray := prog_14_method_15_code
def yX12_lets : MethodName := ⟨RX12, "lets", "(III)Z"⟩
abbrev cX12_allowed : ByteArray := prog_14_method_16_code
def yX12_allowed : MethodName := ⟨RX12, "allowed", "(II)I"⟩
abbrev cX12_needOf : ByteArray := prog_14_method_17_code
def yX12_needOf : MethodName := ⟨RX12, "needOf", "(II)I"⟩
abbrev cX12_need : ByteArray := prog_14_method_18_code
def yX12_need : MethodName := ⟨RX12, "need", "(II)I"⟩
abbrev cX12_sparedOf : ByteArray := prog_14_method_19_code
def yX12_sparedOf : MethodName := ⟨RX12, "sparedOf", "(I)I"⟩
abbrev cX12_nextOf : ByteArray := prog_14_method_20_code
def yX12_nextOf : MethodName := ⟨RX12, "nextOf", "(I)I"⟩
abbrev cX12_isBarred : ByteArray := prog_14_method_21_code
def yX12_isBarred : MethodName := ⟨RX12, "isBarred", "(II)Z"⟩
abbrev cX12_take : ByteArray := prog_14_method_22_code
def yX12_take : MethodName := ⟨RX12, "take", "(II)I"⟩
abbrev cX12_parcel : ByteArray := prog_14_method_23_code
def yX12_parcel : MethodName := ⟨RX12, "parcel", "(I)I"⟩
abbrev cX12_of : ByteArray := prog_14_method_24_code
def yX12_of : MethodName := ⟨RX12, "of", "(II)I"⟩
abbrev cX12_go : ByteArray := prog_14_method_25_code
def yX12_go : MethodName := ⟨RX12, "go", "(I)I"⟩
abbrev cX12_want : ByteArray := prog_14_method_26_code
def yX12_want : MethodName := ⟨RX12, "want", "(III)I"⟩
abbrev cX12_upTo : ByteArray := prog_14_method_27_code
def yX12_upTo : MethodName := ⟨RX12, "upTo", "(IJ)J"⟩
abbrev cX12_give : ByteArray := prog_14_method_28_code
def yX12_give : MethodName := ⟨RX12, "give", "(III)V"⟩
abbrev cX12_part : ByteArray := prog_14_method_29_code
def yX12_part : MethodName := ⟨RX12, "part", "(I)I"⟩
abbrev cX12_got : ByteArray := prog_14_method_30_code
def yX12_got : MethodName := ⟨RX12, "got", "(II)I"⟩
abbrev cX12_road : ByteArray := prog_14_method_31_code
def yX12_road : MethodName := ⟨RX12, "road", "(III)I"⟩
abbrev cX12_load : ByteArray := prog_14_method_32_code
def yX12_load : MethodName := ⟨RX12, "load", "(II)I"⟩
abbrev cX12_way : ByteArray := prog_14_method_33_code
def yX12_way : MethodName := ⟨RX12, "way", "(II)I"⟩
abbrev cX12_findTours : ByteArray := prog_14_method_34_code
def yX12_findTours : MethodName := ⟨RX12, "findTours", "(I)V"⟩
abbrev cX12_writeTour : ByteArray := prog_14_method_35_code
def yX12_writeTour : MethodName := ⟨RX12, "writeTour", "(II)V"⟩
abbrev cX12_isFirst : ByteArray := prog_14_method_36_code
def yX12_isFirst : MethodName := ⟨RX12, "isFirst", "(I)Z"⟩
abbrev cX12_findRounds : ByteArray := prog_14_method_37_code
def yX12_findRounds : MethodName := ⟨RX12, "findRounds", "(II)V"⟩
abbrev cX12_rounds : ByteArray := prog_14_method_38_code
def yX12_rounds : MethodName := ⟨RX12, "rounds", "(I)I"⟩
abbrev cX12_stop : ByteArray := prog_14_method_39_code
def yX12_stop : MethodName := ⟨RX12, "stop", "(I)I"⟩
abbrev cX12_four : ByteArray := prog_14_method_40_code
def yX12_four : MethodName := ⟨RX12, "four", "(I)V"⟩
abbrev cX12_feed : ByteArray := prog_14_method_41_code
def yX12_feed : MethodName := ⟨RX12, "feed", "(IIIII)I"⟩
abbrev cX12_end : ByteArray := prog_14_method_42_code
def yX12_end : MethodName := ⟨RX12, "end", "(I)I"⟩
abbrev cX12_isSmall : ByteArray := prog_14_method_43_code
def yX12_isSmall : MethodName := ⟨RX12, "isSmall", "(I)Z"⟩
abbrev cX12_isDigit : ByteArray := prog_14_method_44_code
def yX12_isDigit : MethodName := ⟨RX12, "isDigit", "(I)Z"⟩
abbrev cX12_next : ByteArray := prog_14_method_45_code
def yX12_next : MethodName := ⟨RX12, "next", "()V"⟩
abbrev cX12_word : ByteArray := prog_14_method_46_code
def yX12_word : MethodName := ⟨RX12, "word", "(IIIII)J"⟩
abbrev cX12_isWord : ByteArray := prog_14_method_47_code
def yX12_isWord : MethodName := ⟨RX12, "isWord", "(IIIII)Z"⟩
abbrev cX12_must : ByteArray := prog_14_method_48_code
def yX12_must : MethodName := ⟨RX12, "must", "(Z)V"⟩
abbrev cX12_number : ByteArray := prog_14_method_49_code
def yX12_number : MethodName := ⟨RX12, "number", "(J)I"⟩
abbrev cX12_readRule : ByteArray := prog_14_method_50_code
def yX12_readRule : MethodName := ⟨RX12, "readRule", "()V"⟩
abbrev cX12_rules : ByteArray := prog_14_method_51_code
def yX12_rules : MethodName := ⟨RX12, "rules", "()I"⟩
abbrev cX12_fault : ByteArray := prog_14_method_52_code
def yX12_fault : MethodName := ⟨RX12, "fault", "()I"⟩
abbrev cX12_weigh : ByteArray := prog_14_method_53_code
def yX12_weigh : MethodName := ⟨RX12, "weigh", "(III)I"⟩
abbrev cX12_given : ByteArray := prog_14_method_54_code
def yX12_given : MethodName := ⟨RX12, "given", "(II)J"⟩
abbrev cX12_led : ByteArray := prog_14_method_55_code
def yX12_led : MethodName := ⟨RX12, "led", "(II)J"⟩
abbrev cX12_sumOf : ByteArray := prog_14_method_56_code
def yX12_sumOf : MethodName := ⟨RX12, "sumOf", "(II)J"⟩
abbrev cX12_count : ByteArray := prog_14_method_57_code
def yX12_count : MethodName := ⟨RX12, "count", "(I)J"⟩
abbrev cX12_status : ByteArray := prog_14_method_58_code
def yX12_status : MethodName := ⟨RX12, "status", "()I"⟩
def wsX12_init_r1 : List Cond := [Cond.methodLink RX12 1 objectInit, Cond.instanceMethod objectInit, Cond.code objectInit ⟨#[0xb1]⟩ 1 none, Cond.arrayClass .int, Cond.fieldLink RX12 7 "FoodSharesModel" "contents" "[I", Cond.fieldLink RX12 13 "FoodSharesModel" "lKind" "[I", Cond.fieldLink RX12 16 "FoodSharesModel" "lGrams" "[I", Cond.fieldLink RX12 19 "FoodSharesModel" "lLast" "[I", Cond.fieldLink RX12 22 "FoodSharesModel" "lGiver" "[I", Cond.fieldLink RX12 25 "FoodSharesModel" "lLeft" "[I", Cond.fieldLink RX12 28 "FoodSharesModel" "lOut" "[I", Cond.fieldLink RX12 31 "FoodSharesModel" "lParted" "[I", Cond.fieldLink RX12 34 "FoodSharesModel" "lSpoilt" "[I", Cond.fieldLink RX12 37 "FoodSharesModel" "wants" "[I", Cond.arrayClass .long, Cond.fieldLink RX12 40 "FoodSharesModel" "gotten" "[J", Cond.fieldLink RX12 44 "FoodSharesModel" "fTable" "[I", Cond.fieldLink RX12 47 "FoodSharesModel" "fHeads" "[I", Cond.fieldLink RX12 50 "FoodSharesModel" "fBars" "[I", Cond.fieldLink RX12 53 "FoodSharesModel" "eFamily" "[I", Cond.fieldLink RX12 56 "FoodSharesModel" "eFirst" "[I", Cond.fieldLink RX12 59 "FoodSharesModel" "eLast" "[I", Cond.fieldLink RX12 62 "FoodSharesModel" "eLeft" "[I", Cond.fieldLink RX12 65 "FoodSharesModel" "rSort" "[I"]
def wsX12_init_r2 : List Cond := [Cond.fieldLink RX12 68 "FoodSharesModel" "rKind" "[I", Cond.fieldLink RX12 71 "FoodSharesModel" "rA" "[I", Cond.fieldLink RX12 74 "FoodSharesModel" "rB" "[I", Cond.fieldLink RX12 77 "FoodSharesModel" "nRule" "[I", Cond.fieldLink RX12 80 "FoodSharesModel" "pFamily" "[I", Cond.fieldLink RX12 83 "FoodSharesModel" "pDay" "[I", Cond.fieldLink RX12 86 "FoodSharesModel" "pFrom" "[I", Cond.fieldLink RX12 89 "FoodSharesModel" "pShort" "[I", Cond.fieldLink RX12 92 "FoodSharesModel" "lineLot" "[I", Cond.fieldLink RX12 95 "FoodSharesModel" "lineGrams" "[I", Cond.fieldLink RX12 98 "FoodSharesModel" "shares" "[I", Cond.fieldLink RX12 101 "FoodSharesModel" "roads" "[I", Cond.fieldLink RX12 104 "FoodSharesModel" "loads" "[I", Cond.fieldLink RX12 107 "FoodSharesModel" "who" "[I", Cond.fieldLink RX12 110 "FoodSharesModel" "ahead" "[I", Cond.fieldLink RX12 113 "FoodSharesModel" "tour" "[I", Cond.fieldLink RX12 116 "FoodSharesModel" "weight" "[J", Cond.fieldLink RX12 119 "FoodSharesModel" "least" "[I", Cond.fieldLink RX12 122 "FoodSharesModel" "fewest" "[I", Cond.fieldLink RX12 125 "FoodSharesModel" "rows" "[I", Cond.fieldLink RX12 128 "FoodSharesModel" "rowLen" "[I", Cond.fieldLink RX12 131 "FoodSharesModel" "trial" "[I", Cond.fieldLink RX12 134 "FoodSharesModel" "stops" "[I", Cond.fieldLink RX12 137 "FoodSharesModel" "stopMany" "I"]
def wsX12_init_r3 : List Cond := [Cond.fieldLink RX12 141 "FoodSharesModel" "tape" "[I", Cond.fieldLink RX12 144 "FoodSharesModel" "fault" "I", Cond.fieldLink RX12 147 "FoodSharesModel" "wLot" "[I", Cond.fieldLink RX12 150 "FoodSharesModel" "wGrams" "[I", Cond.fieldLink RX12 153 "FoodSharesModel" "wKnown" "[I"]
def wsX12_init : List Cond := .code yX12_init cX12_init 1 none :: ((wsX12_init_r1 ++ (wsX12_init_r2 ++ wsX12_init_r3)) ++ wsX120)
def wsX12_in : List Cond := .code yX12_in cX12_in 6 (some .boolean) :: ([])
def wsX12_told : List Cond := .code yX12_told cX12_told 2 (some .int) :: ([.fieldLink RX12 159 "FoodSharesModel" "status" "I"] ++ wsX120)
def wsX12_isKind : List Cond := .code yX12_isKind cX12_isKind 1 (some .boolean) :: ([.constantLong RX12 162 (9), .methodLink RX12 164 yX12_in, .static yX12_in, .initialized RX12, .code yX12_in cX12_in 6 (some .boolean)])
def wsX12_isLot : List Cond := .code yX12_isLot cX12_isLot 2 (some .boolean) :: ([.fieldLink RX12 168 "FoodSharesModel" "lots" "I", .methodLink RX12 164 yX12_in, .static yX12_in, .initialized RX12, .code yX12_in cX12_in 6 (some .boolean)] ++ wsX120)
def wsX12_isTable : List Cond := .code yX12_isTable cX12_isTable 2 (some .boolean) :: ([.fieldLink RX12 171 "FoodSharesModel" "tables" "I", .methodLink RX12 164 yX12_in, .static yX12_in, .initialized RX12, .code yX12_in cX12_in 6 (some .boolean)] ++ wsX120)
def wsX12_isFamily : List Cond := .code yX12_isFamily cX12_isFamily 2 (some .boolean) :: ([.fieldLink RX12 174 "FoodSharesModel" "families" "I", .methodLink RX12 164 yX12_in, .static yX12_in, .initialized RX12, .code yX12_in cX12_in 6 (some .boolean)] ++ wsX120)
def wsX12_contents : List Cond := .code yX12_contents cX12_contents 3 (some .int) :: ([.fieldLink RX12 156 "FoodSharesModel" "thrown" "I", .constantLong RX12 181 (255), .fieldLink RX12 7 "FoodSharesModel" "contents" "[I", .methodLink RX12 177 yX12_isKind, .static yX12_isKind, .initialized RX12, .code yX12_isKind cX12_isKind 1 (some .boolean), .constantLong RX12 162 (9), .methodLink RX12 164 yX12_in, .static yX12_in, .code yX12_in cX12_in 6 (some .boolean), .methodLink RX12 183 yX12_told, .instanceMethod yX12_told, .selects RX12 yX12_told yX12_told, .code yX12_told cX12_told 2 (some .int), .fieldLink RX12 159 "FoodSharesModel" "status" "I"] ++ wsX120)
def wsX12_gift : List Cond := .code yX12_gift cX12_gift 5 (some .int) :: ([.fieldLink RX12 156 "FoodSharesModel" "thrown" "I", .constantLong RX12 187 (1000000), .fieldLink RX12 189 "FoodSharesModel" "today" "I", .constantLong RX12 192 (1000), .constantLong RX12 194 (19), .fieldLink RX12 168 "FoodSharesModel" "lots" "I", .fieldLink RX12 13 "FoodSharesModel" "lKind" "[I", .fieldLink RX12 16 "FoodSharesModel" "lGrams" "[I", .fieldLink RX12 19 "FoodSharesModel" "lLast" "[I", .fieldLink RX12 22 "FoodSharesModel" "lGiver" "[I", .fieldLink RX12 25 "FoodSharesModel" "lLeft" "[I", .methodLink RX12 177 yX12_isKind, .static yX12_isKind, .initialized RX12, .code yX12_isKind cX12_isKind 1 (some .boolean), .constantLong RX12 162 (9), .methodLink RX12 164 yX12_in, .static yX12_in, .code yX12_in cX12_in 6 (some .boolean), .methodLink RX12 183 yX12_told, .instanceMethod yX12_told, .selects RX12 yX12_told yX12_told, .code yX12_told cX12_told 2 (some .int), .fieldLink RX12 159 "FoodSharesModel" "status" "I"] ++ wsX120)
def wsX12_lot : List Cond := .code yX12_lot cX12_lot 3 (some .int) :: ([.fieldLink RX12 156 "FoodSharesModel" "thrown" "I", .fieldLink RX12 13 "FoodSharesModel" "lKind" "[I", .fieldLink RX12 16 "FoodSharesModel" "lGrams" "[I", .fieldLink RX12 19 "FoodSharesModel" "lLast" "[I", .fieldLink RX12 22 "FoodSharesModel" "lGiver" "[I", .fieldLink RX12 25 "FoodSharesModel" "lLeft" "[I", .fieldLink RX12 28 "FoodSharesModel" "lOut" "[I", .fieldLink RX12 31 "FoodSharesModel" "lParted" "[I", .fieldLink RX12 34 "FoodSharesModel" "lSpoilt" "[I", .methodLink RX12 196 yX12_isLot, .instanceMethod yX12_isLot, .selects RX12 yX12_isLot yX12_isLot, .initialized RX12, .code yX12_isLot cX12_isLot 2 (some .boolean), .fieldLink RX12 168 "FoodSharesModel" "lots" "I", .methodLink RX12 164 yX12_in, .static yX12_in, .code yX12_in cX12_in 6 (some .boolean)] ++ wsX120)
def wsX12_table : List Cond := .code yX12_table cX12_table 1 (some .int) :: ([.fieldLink RX12 156 "FoodSharesModel" "thrown" "I", .fieldLink RX12 171 "FoodSharesModel" "tables" "I", .methodLink RX12 183 yX12_told, .instanceMethod yX12_told, .selects RX12 yX12_told yX12_told, .initialized RX12, .code yX12_told cX12_told 2 (some .int), .fieldLink RX12 159 "FoodSharesModel" "status" "I"] ++ wsX120)
def wsX12_family : List Cond := .code yX12_family cX12_family 4 (some .int) :: ([.fieldLink RX12 156 "FoodSharesModel" "thrown" "I", .constantLong RX12 199 (12), .constantLong RX12 181 (255), .fieldLink RX12 174 "FoodSharesModel" "families" "I", .fieldLink RX12 44 "FoodSharesModel" "fTable" "[I", .fieldLink RX12 47 "FoodSharesModel" "fHeads" "[I", .fieldLink RX12 50 "FoodSharesModel" "fBars" "[I", .methodLink RX12 164 yX12_in, .static yX12_in, .initialized RX12, .code yX12_in cX12_in 6 (some .boolean), .methodLink RX12 183 yX12_told, .instanceMethod yX12_told, .selects RX12 yX12_told yX12_told, .code yX12_told cX12_told 2 (some .int), .fieldLink RX12 159 "FoodSharesModel" "status" "I", .methodLink RX12 201 yX12_isTable, .instanceMethod yX12_isTable, .selects RX12 yX12_isTable yX12_isTable, .code yX12_isTable cX12_isTable 2 (some .boolean), .fieldLink RX12 171 "FoodSharesModel" "tables" "I"] ++ wsX120)
def wsX12_refer : List Cond := .code yX12_refer cX12_refer 5 (some .int) :: ([.fieldLink RX12 156 "FoodSharesModel" "thrown" "I", .constantLong RX12 192 (1000), .constantLong RX12 204 (20), .fieldLink RX12 209 "FoodSharesModel" "referrals" "I", .fieldLink RX12 53 "FoodSharesModel" "eFamily" "[I", .fieldLink RX12 56 "FoodSharesModel" "eFirst" "[I", .fieldLink RX12 59 "FoodSharesModel" "eLast" "[I", .fieldLink RX12 62 "FoodSharesModel" "eLeft" "[I", .methodLink RX12 164 yX12_in, .static yX12_in, .initialized RX12, .code yX12_in cX12_in 6 (some .boolean), .methodLink RX12 183 yX12_told, .instanceMethod yX12_told, .selects RX12 yX12_told yX12_told, .code yX12_told cX12_told 2 (some .int), .fieldLink RX12 159 "FoodSharesModel" "status" "I", .methodLink RX12 206 yX12_isFamily, .instanceMethod yX12_isFamily, .selects RX12 yX12_isFamily yX12_isFamily, .code yX12_isFamily cX12_isFamily 2 (some .boolean), .fieldLink RX12 174 "FoodSharesModel" "families" "I"] ++ wsX120)
def wsX12_lets : List Cond := .code yX12_lets cX12_lets 4 (some .boolean) :: ([.fieldLink RX12 53 "FoodSharesModel" "eFamily" "[I", .fieldLink RX12 56 "FoodSharesModel" "eFirst" "[I", .fieldLink RX12 59 "FoodSharesModel" "eLast" "[I", .fieldLink RX12 62 "FoodSharesModel" "eLeft" "[I", .methodLink RX12 164 yX12_in, .static yX12_in, .initialized RX12, .code yX12_in cX12_in 6 (some .boolean)] ++ wsX120)
def wsX12_allowed : List Cond := .code yX12_allowed cX12_allowed 5 (some .int) :: ([.fieldLink RX12 156 "FoodSharesModel" "thrown" "I", .constantLong RX12 192 (1000), .fieldLink RX12 209 "FoodSharesModel" "referrals" "I", .fieldLink RX12 62 "FoodSharesModel" "eLeft" "[I", .methodLink RX12 206 yX12_isFamily, .instanceMethod yX12_isFamily, .selects RX12 yX12_isFamily yX12_isFamily, .initialized RX12, .code yX12_isFamily cX12_isFamily 2 (some .boolean), .fieldLink RX12 174 "FoodSharesModel" "families" "I", .methodLink RX12 164 yX12_in, .static yX12_in, .code yX12_in cX12_in 6 (some .boolean), .methodLink RX12 212 yX12_lets, .instanceMethod yX12_lets, .selects RX12 yX12_lets yX12_lets, .code yX12_lets cX12_lets 4 (some .boolean), .fieldLink RX12 53 "FoodSharesModel" "eFamily" "[I", .fieldLink RX12 56 "FoodSharesModel" "eFirst" "[I", .fieldLink RX12 59 "FoodSharesModel" "eLast" "[I"] ++ wsX120)
def wsX12_needOf : List Cond := .code yX12_needOf cX12_needOf 5 (some .int) :: ([.fieldLink RX12 216 "FoodSharesModel" "ruleMany" "I", .fieldLink RX12 65 "FoodSharesModel" "rSort" "[I", .fieldLink RX12 68 "FoodSharesModel" "rKind" "[I", .fieldLink RX12 47 "FoodSharesModel" "fHeads" "[I", .fieldLink RX12 74 "FoodSharesModel" "rB" "[I", .fieldLink RX12 71 "FoodSharesModel" "rA" "[I"] ++ wsX120)
def wsX12_need : List Cond := .code yX12_need cX12_need 3 (some .int) :: ([.fieldLink RX12 156 "FoodSharesModel" "thrown" "I", .methodLink RX12 206 yX12_isFamily, .instanceMethod yX12_isFamily, .selects RX12 yX12_isFamily yX12_isFamily, .initialized RX12, .code yX12_isFamily cX12_isFamily 2 (some .boolean), .fieldLink RX12 174 "FoodSharesModel" "families" "I", .methodLink RX12 164 yX12_in, .static yX12_in, .code yX12_in cX12_in 6 (some .boolean), .methodLink RX12 177 yX12_isKind, .static yX12_isKind, .code yX12_isKind cX12_isKind 1 (some .boolean), .constantLong RX12 162 (9), .methodLink RX12 219 yX12_needOf, .instanceMethod yX12_needOf, .selects RX12 yX12_needOf yX12_needOf, .code yX12_needOf cX12_needOf 5 (some .int), .fieldLink RX12 216 "FoodSharesModel" "ruleMany" "I", .fieldLink RX12 65 "FoodSharesModel" "rSort" "[I", .fieldLink RX12 68 "FoodSharesModel" "rKind" "[I", .fieldLink RX12 47 "FoodSharesModel" "fHeads" "[I", .fieldLink RX12 74 "FoodSharesModel" "rB" "[I", .fieldLink RX12 71 "FoodSharesModel" "rA" "[I"] ++ wsX120)
def wsX12_sparedOf : List Cond := .code yX12_sparedOf cX12_sparedOf 4 (some .int) :: ([.fieldLink RX12 216 "FoodSharesModel" "ruleMany" "I", .fieldLink RX12 65 "FoodSharesModel" "rSort" "[I", .fieldLink RX12 68 "FoodSharesModel" "rKind" "[I", .fieldLink RX12 71 "FoodSharesModel" "rA" "[I"] ++ wsX120)
def wsX12_nextOf : List Cond := .code yX12_nextOf cX12_nextOf 5 (some .int) :: ([.fieldLink RX12 189 "FoodSharesModel" "today" "I", .fieldLink RX12 168 "FoodSharesModel" "lots" "I", .fieldLink RX12 13 "FoodSharesModel" "lKind" "[I", .fieldLink RX12 25 "FoodSharesModel" "lLeft" "[I", .fieldLink RX12 19 "FoodSharesModel" "lLast" "[I", .methodLink RX12 223 yX12_sparedOf, .instanceMethod yX12_sparedOf, .selects RX12 yX12_sparedOf yX12_sparedOf, .initialized RX12, .code yX12_sparedOf cX12_sparedOf 4 (some .int), .fieldLink RX12 216 "FoodSharesModel" "ruleMany" "I", .fieldLink RX12 65 "FoodSharesModel" "rSort" "[I", .fieldLink RX12 68 "FoodSharesModel" "rKind" "[I", .fieldLink RX12 71 "FoodSharesModel" "rA" "[I"] ++ wsX120)
def wsX12_isBarred : List Cond := .code yX12_isBarred cX12_isBarred 3 (some .boolean) :: ([.fieldLink RX12 7 "FoodSharesModel" "contents" "[I", .fieldLink RX12 50 "FoodSharesModel" "fBars" "[I"] ++ wsX120)
def wsX12_take : List Cond := .code yX12_take cX12_take 6 (some .int) :: ([.fieldLink RX12 25 "FoodSharesModel" "lLeft" "[I", .fieldLink RX12 28 "FoodSharesModel" "lOut" "[I", .fieldLink RX12 92 "FoodSharesModel" "lineLot" "[I", .fieldLink RX12 229 "FoodSharesModel" "lines" "I", .fieldLink RX12 95 "FoodSharesModel" "lineGrams" "[I", .methodLink RX12 226 yX12_nextOf, .instanceMethod yX12_nextOf, .selects RX12 yX12_nextOf yX12_nextOf, .initialized RX12, .code yX12_nextOf cX12_nextOf 5 (some .int), .fieldLink RX12 189 "FoodSharesModel" "today" "I", .fieldLink RX12 168 "FoodSharesModel" "lots" "I", .fieldLink RX12 13 "FoodSharesModel" "lKind" "[I", .fieldLink RX12 19 "FoodSharesModel" "lLast" "[I", .methodLink RX12 223 yX12_sparedOf, .instanceMethod yX12_sparedOf, .selects RX12 yX12_sparedOf yX12_sparedOf, .code yX12_sparedOf cX12_sparedOf 4 (some .int), .fieldLink RX12 216 "FoodSharesModel" "ruleMany" "I", .fieldLink RX12 65 "FoodSharesModel" "rSort" "[I", .fieldLink RX12 68 "FoodSharesModel" "rKind" "[I", .fieldLink RX12 71 "FoodSharesModel" "rA" "[I"] ++ wsX120)
def wsX12_parcel_r1 : List Cond := [Cond.fieldLink RX12 156 "FoodSharesModel" "thrown" "I", Cond.fieldLink RX12 209 "FoodSharesModel" "referrals" "I", Cond.fieldLink RX12 189 "FoodSharesModel" "today" "I", Cond.fieldLink RX12 59 "FoodSharesModel" "eLast" "[I", Cond.fieldLink RX12 229 "FoodSharesModel" "lines" "I", Cond.fieldLink RX12 216 "FoodSharesModel" "ruleMany" "I", Cond.fieldLink RX12 65 "FoodSharesModel" "rSort" "[I", Cond.fieldLink RX12 68 "FoodSharesModel" "rKind" "[I", Cond.fieldLink RX12 71 "FoodSharesModel" "rA" "[I", Cond.fieldLink RX12 62 "FoodSharesModel" "eLeft" "[I", Cond.fieldLink RX12 80 "FoodSharesModel" "pFamily" "[I", Cond.fieldLink RX12 239 "FoodSharesModel" "parcels" "I", Cond.fieldLink RX12 83 "FoodSharesModel" "pDay" "[I", Cond.fieldLink RX12 86 "FoodSharesModel" "pFrom" "[I", Cond.fieldLink RX12 89 "FoodSharesModel" "pShort" "[I", Cond.fieldLink RX12 242 "FoodSharesModel" "shortAll" "J", Cond.methodLink RX12 206 yX12_isFamily, Cond.instanceMethod yX12_isFamily, Cond.selects RX12 yX12_isFamily yX12_isFamily, Cond.initialized RX12, Cond.code yX12_isFamily cX12_isFamily 2 (some .boolean), Cond.fieldLink RX12 174 "FoodSharesModel" "families" "I", Cond.methodLink RX12 164 yX12_in, Cond.static yX12_in]
def wsX12_parcel_r2 : List Cond := [Cond.code yX12_in cX12_in 6 (some .boolean), Cond.methodLink RX12 183 yX12_told, Cond.instanceMethod yX12_told, Cond.selects RX12 yX12_told yX12_told, Cond.code yX12_told cX12_told 2 (some .int), Cond.fieldLink RX12 159 "FoodSharesModel" "status" "I", Cond.methodLink RX12 212 yX12_lets, Cond.instanceMethod yX12_lets, Cond.selects RX12 yX12_lets yX12_lets, Cond.code yX12_lets cX12_lets 4 (some .boolean), Cond.fieldLink RX12 53 "FoodSharesModel" "eFamily" "[I", Cond.fieldLink RX12 56 "FoodSharesModel" "eFirst" "[I", Cond.methodLink RX12 219 yX12_needOf, Cond.instanceMethod yX12_needOf, Cond.selects RX12 yX12_needOf yX12_needOf, Cond.code yX12_needOf cX12_needOf 5 (some .int), Cond.fieldLink RX12 47 "FoodSharesModel" "fHeads" "[I", Cond.fieldLink RX12 74 "FoodSharesModel" "rB" "[I", Cond.methodLink RX12 232 yX12_isBarred, Cond.instanceMethod yX12_isBarred, Cond.selects RX12 yX12_isBarred yX12_isBarred, Cond.code yX12_isBarred cX12_isBarred 3 (some .boolean), Cond.fieldLink RX12 7 "FoodSharesModel" "contents" "[I", Cond.fieldLink RX12 50 "FoodSharesModel" "fBars" "[I"]
def wsX12_parcel_r3 : List Cond := [Cond.methodLink RX12 236 yX12_take, Cond.instanceMethod yX12_take, Cond.selects RX12 yX12_take yX12_take, Cond.code yX12_take cX12_take 6 (some .int), Cond.fieldLink RX12 25 "FoodSharesModel" "lLeft" "[I", Cond.fieldLink RX12 28 "FoodSharesModel" "lOut" "[I", Cond.fieldLink RX12 92 "FoodSharesModel" "lineLot" "[I", Cond.fieldLink RX12 95 "FoodSharesModel" "lineGrams" "[I", Cond.methodLink RX12 226 yX12_nextOf, Cond.instanceMethod yX12_nextOf, Cond.selects RX12 yX12_nextOf yX12_nextOf, Cond.code yX12_nextOf cX12_nextOf 5 (some .int), Cond.fieldLink RX12 168 "FoodSharesModel" "lots" "I", Cond.fieldLink RX12 13 "FoodSharesModel" "lKind" "[I", Cond.fieldLink RX12 19 "FoodSharesModel" "lLast" "[I", Cond.methodLink RX12 223 yX12_sparedOf, Cond.instanceMethod yX12_sparedOf, Cond.selects RX12 yX12_sparedOf yX12_sparedOf, Cond.code yX12_sparedOf cX12_sparedOf 4 (some .int)]
def wsX12_parcel : List Cond := .code yX12_parcel cX12_parcel 8 (some .int) :: ((wsX12_parcel_r1 ++ (wsX12_parcel_r2 ++ wsX12_parcel_r3)) ++ wsX120)
def wsX12_of : List Cond := .code yX12_of cX12_of 7 (some .int) :: ([.fieldLink RX12 156 "FoodSharesModel" "thrown" "I", .fieldLink RX12 239 "FoodSharesModel" "parcels" "I", .fieldLink RX12 86 "FoodSharesModel" "pFrom" "[I", .fieldLink RX12 80 "FoodSharesModel" "pFamily" "[I", .fieldLink RX12 83 "FoodSharesModel" "pDay" "[I", .fieldLink RX12 95 "FoodSharesModel" "lineGrams" "[I", .fieldLink RX12 89 "FoodSharesModel" "pShort" "[I", .constantLong RX12 246 (10), .constantLong RX12 248 (399), .fieldLink RX12 92 "FoodSharesModel" "lineLot" "[I", .methodLink RX12 164 yX12_in, .static yX12_in, .initialized RX12, .code yX12_in cX12_in 6 (some .boolean)] ++ wsX120)
def wsX12_go : List Cond := .code yX12_go cX12_go 3 (some .int) :: ([.fieldLink RX12 156 "FoodSharesModel" "thrown" "I", .constantLong RX12 250 (60), .fieldLink RX12 189 "FoodSharesModel" "today" "I", .fieldLink RX12 168 "FoodSharesModel" "lots" "I", .fieldLink RX12 19 "FoodSharesModel" "lLast" "[I", .fieldLink RX12 34 "FoodSharesModel" "lSpoilt" "[I", .fieldLink RX12 25 "FoodSharesModel" "lLeft" "[I", .methodLink RX12 164 yX12_in, .static yX12_in, .initialized RX12, .code yX12_in cX12_in 6 (some .boolean), .methodLink RX12 183 yX12_told, .instanceMethod yX12_told, .selects RX12 yX12_told yX12_told, .code yX12_told cX12_told 2 (some .int), .fieldLink RX12 159 "FoodSharesModel" "status" "I"] ++ wsX120)
def wsX12_want : List Cond := .code yX12_want cX12_want 5 (some .int) :: ([.fieldLink RX12 156 "FoodSharesModel" "thrown" "I", .constantLong RX12 187 (1000000), .fieldLink RX12 37 "FoodSharesModel" "wants" "[I", .methodLink RX12 177 yX12_isKind, .static yX12_isKind, .initialized RX12, .code yX12_isKind cX12_isKind 1 (some .boolean), .constantLong RX12 162 (9), .methodLink RX12 164 yX12_in, .static yX12_in, .code yX12_in cX12_in 6 (some .boolean), .methodLink RX12 183 yX12_told, .instanceMethod yX12_told, .selects RX12 yX12_told yX12_told, .code yX12_told cX12_told 2 (some .int), .fieldLink RX12 159 "FoodSharesModel" "status" "I", .methodLink RX12 201 yX12_isTable, .instanceMethod yX12_isTable, .selects RX12 yX12_isTable yX12_isTable, .code yX12_isTable cX12_isTable 2 (some .boolean), .fieldLink RX12 171 "FoodSharesModel" "tables" "I"] ++ wsX120)
def wsX12_upTo : List Cond := .code yX12_upTo cX12_upTo 8 (some .long) :: ([.fieldLink RX12 171 "FoodSharesModel" "tables" "I", .fieldLink RX12 37 "FoodSharesModel" "wants" "[I"] ++ wsX120)
def wsX12_give : List Cond := .code yX12_give cX12_give 7 none :: ([.fieldLink RX12 25 "FoodSharesModel" "lLeft" "[I", .fieldLink RX12 31 "FoodSharesModel" "lParted" "[I", .fieldLink RX12 37 "FoodSharesModel" "wants" "[I", .fieldLink RX12 40 "FoodSharesModel" "gotten" "[J", .methodLink RX12 226 yX12_nextOf, .instanceMethod yX12_nextOf, .selects RX12 yX12_nextOf yX12_nextOf, .initialized RX12, .code yX12_nextOf cX12_nextOf 5 (some .int), .fieldLink RX12 189 "FoodSharesModel" "today" "I", .fieldLink RX12 168 "FoodSharesModel" "lots" "I", .fieldLink RX12 13 "FoodSharesModel" "lKind" "[I", .fieldLink RX12 19 "FoodSharesModel" "lLast" "[I", .methodLink RX12 223 yX12_sparedOf, .instanceMethod yX12_sparedOf, .selects RX12 yX12_sparedOf yX12_sparedOf, .code yX12_sparedOf cX12_sparedOf 4 (some .int), .fieldLink RX12 216 "FoodSharesModel" "ruleMany" "I", .fieldLink RX12 65 "FoodSharesModel" "rSort" "[I", .fieldLink RX12 68 "FoodSharesModel" "rKind" "[I", .fieldLink RX12 71 "FoodSharesModel" "rA" "[I"] ++ wsX120)
def wsX12_part_r1 : List Cond := [Cond.fieldLink RX12 156 "FoodSharesModel" "thrown" "I", Cond.fieldLink RX12 189 "FoodSharesModel" "today" "I", Cond.fieldLink RX12 168 "FoodSharesModel" "lots" "I", Cond.fieldLink RX12 13 "FoodSharesModel" "lKind" "[I", Cond.fieldLink RX12 19 "FoodSharesModel" "lLast" "[I", Cond.fieldLink RX12 25 "FoodSharesModel" "lLeft" "[I", Cond.constantLong RX12 187 (1000000), Cond.constantLong RX12 256 (2), Cond.fieldLink RX12 171 "FoodSharesModel" "tables" "I", Cond.fieldLink RX12 37 "FoodSharesModel" "wants" "[I", Cond.fieldLink RX12 98 "FoodSharesModel" "shares" "[I", Cond.methodLink RX12 177 yX12_isKind, Cond.static yX12_isKind, Cond.initialized RX12, Cond.code yX12_isKind cX12_isKind 1 (some .boolean), Cond.constantLong RX12 162 (9), Cond.methodLink RX12 164 yX12_in, Cond.static yX12_in, Cond.code yX12_in cX12_in 6 (some .boolean), Cond.methodLink RX12 183 yX12_told, Cond.instanceMethod yX12_told, Cond.selects RX12 yX12_told yX12_told, Cond.code yX12_told cX12_told 2 (some .int), Cond.fieldLink RX12 159 "FoodSharesModel" "status" "I"]
def wsX12_part_r2 : List Cond := [Cond.methodLink RX12 223 yX12_sparedOf, Cond.instanceMethod yX12_sparedOf, Cond.selects RX12 yX12_sparedOf yX12_sparedOf, Cond.code yX12_sparedOf cX12_sparedOf 4 (some .int), Cond.fieldLink RX12 216 "FoodSharesModel" "ruleMany" "I", Cond.fieldLink RX12 65 "FoodSharesModel" "rSort" "[I", Cond.fieldLink RX12 68 "FoodSharesModel" "rKind" "[I", Cond.fieldLink RX12 71 "FoodSharesModel" "rA" "[I", Cond.methodLink RX12 252 yX12_upTo, Cond.instanceMethod yX12_upTo, Cond.selects RX12 yX12_upTo yX12_upTo, Cond.code yX12_upTo cX12_upTo 8 (some .long), Cond.methodLink RX12 258 yX12_give, Cond.instanceMethod yX12_give, Cond.selects RX12 yX12_give yX12_give, Cond.code yX12_give cX12_give 7 none, Cond.fieldLink RX12 31 "FoodSharesModel" "lParted" "[I", Cond.fieldLink RX12 40 "FoodSharesModel" "gotten" "[J", Cond.methodLink RX12 226 yX12_nextOf, Cond.instanceMethod yX12_nextOf, Cond.selects RX12 yX12_nextOf yX12_nextOf, Cond.code yX12_nextOf cX12_nextOf 5 (some .int)]
def wsX12_part : List Cond := .code yX12_part cX12_part 16 (some .int) :: ((wsX12_part_r1 ++ wsX12_part_r2) ++ wsX120)
def wsX12_got : List Cond := .code yX12_got cX12_got 3 (some .int) :: ([.fieldLink RX12 156 "FoodSharesModel" "thrown" "I", .fieldLink RX12 40 "FoodSharesModel" "gotten" "[J", .methodLink RX12 201 yX12_isTable, .instanceMethod yX12_isTable, .selects RX12 yX12_isTable yX12_isTable, .initialized RX12, .code yX12_isTable cX12_isTable 2 (some .boolean), .fieldLink RX12 171 "FoodSharesModel" "tables" "I", .methodLink RX12 164 yX12_in, .static yX12_in, .code yX12_in cX12_in 6 (some .boolean), .methodLink RX12 177 yX12_isKind, .static yX12_isKind, .code yX12_isKind cX12_isKind 1 (some .boolean), .constantLong RX12 162 (9)] ++ wsX120)
def wsX12_road : List Cond := .code yX12_road cX12_road 4 (some .int) :: ([.fieldLink RX12 156 "FoodSharesModel" "thrown" "I", .constantLong RX12 199 (12), .constantLong RX12 262 (600), .fieldLink RX12 101 "FoodSharesModel" "roads" "[I", .methodLink RX12 164 yX12_in, .static yX12_in, .initialized RX12, .code yX12_in cX12_in 6 (some .boolean), .methodLink RX12 183 yX12_told, .instanceMethod yX12_told, .selects RX12 yX12_told yX12_told, .code yX12_told cX12_told 2 (some .int), .fieldLink RX12 159 "FoodSharesModel" "status" "I"] ++ wsX120)
def wsX12_load : List Cond := .code yX12_load cX12_load 3 (some .int) :: ([.fieldLink RX12 156 "FoodSharesModel" "thrown" "I", .constantLong RX12 187 (1000000), .fieldLink RX12 104 "FoodSharesModel" "loads" "[I", .fieldLink RX12 264 "FoodSharesModel" "loadMany" "I", .methodLink RX12 164 yX12_in, .static yX12_in, .initialized RX12, .code yX12_in cX12_in 6 (some .boolean), .methodLink RX12 183 yX12_told, .instanceMethod yX12_told, .selects RX12 yX12_told yX12_told, .code yX12_told cX12_told 2 (some .int), .fieldLink RX12 159 "FoodSharesModel" "status" "I", .methodLink RX12 201 yX12_isTable, .instanceMethod yX12_isTable, .selects RX12 yX12_isTable yX12_isTable, .code yX12_isTable cX12_isTable 2 (some .boolean), .fieldLink RX12 171 "FoodSharesModel" "tables" "I"] ++ wsX120)
def wsX12_way : List Cond := .code yX12_way cX12_way 3 (some .int) :: ([.fieldLink RX12 101 "FoodSharesModel" "roads" "[I", .fieldLink RX12 107 "FoodSharesModel" "who" "[I"] ++ wsX120)
def wsX12_findTours : List Cond := .code yX12_findTours cX12_findTours 8 none :: ([.fieldLink RX12 113 "FoodSharesModel" "tour" "[I", .constant RX12 267 (1000000), .fieldLink RX12 116 "FoodSharesModel" "weight" "[J", .fieldLink RX12 104 "FoodSharesModel" "loads" "[I", .fieldLink RX12 107 "FoodSharesModel" "who" "[I", .fieldLink RX12 110 "FoodSharesModel" "ahead" "[I", .methodLink RX12 268 yX12_way, .instanceMethod yX12_way, .selects RX12 yX12_way yX12_way, .initialized RX12, .code yX12_way cX12_way 3 (some .int), .fieldLink RX12 101 "FoodSharesModel" "roads" "[I"] ++ wsX120)
def wsX12_writeTour : List Cond := .code yX12_writeTour cX12_writeTour 7 none :: ([.fieldLink RX12 113 "FoodSharesModel" "tour" "[I", .fieldLink RX12 110 "FoodSharesModel" "ahead" "[I", .fieldLink RX12 131 "FoodSharesModel" "trial" "[I", .fieldLink RX12 271 "FoodSharesModel" "trialLen" "I", .fieldLink RX12 107 "FoodSharesModel" "who" "[I", .methodLink RX12 268 yX12_way, .instanceMethod yX12_way, .selects RX12 yX12_way yX12_way, .initialized RX12, .code yX12_way cX12_way 3 (some .int), .fieldLink RX12 101 "FoodSharesModel" "roads" "[I"] ++ wsX120)
def wsX12_isFirst : List Cond := .code yX12_isFirst cX12_isFirst 3 (some .boolean) :: ([.fieldLink RX12 271 "FoodSharesModel" "trialLen" "I", .fieldLink RX12 128 "FoodSharesModel" "rowLen" "[I", .fieldLink RX12 131 "FoodSharesModel" "trial" "[I", .fieldLink RX12 125 "FoodSharesModel" "rows" "[I"] ++ wsX120)
def wsX12_findRounds_r1 : List Cond := [Cond.fieldLink RX12 119 "FoodSharesModel" "least" "[I", Cond.fieldLink RX12 122 "FoodSharesModel" "fewest" "[I", Cond.fieldLink RX12 128 "FoodSharesModel" "rowLen" "[I", Cond.constant RX12 274 (100000000), Cond.fieldLink RX12 116 "FoodSharesModel" "weight" "[J", Cond.fieldLink RX12 113 "FoodSharesModel" "tour" "[I", Cond.fieldLink RX12 271 "FoodSharesModel" "trialLen" "I", Cond.fieldLink RX12 131 "FoodSharesModel" "trial" "[I", Cond.fieldLink RX12 125 "FoodSharesModel" "rows" "[I", Cond.methodLink RX12 275 yX12_writeTour, Cond.instanceMethod yX12_writeTour, Cond.selects RX12 yX12_writeTour yX12_writeTour, Cond.initialized RX12, Cond.code yX12_writeTour cX12_writeTour 7 none, Cond.fieldLink RX12 110 "FoodSharesModel" "ahead" "[I", Cond.fieldLink RX12 107 "FoodSharesModel" "who" "[I", Cond.methodLink RX12 268 yX12_way, Cond.instanceMethod yX12_way, Cond.selects RX12 yX12_way yX12_way, Cond.code yX12_way cX12_way 3 (some .int), Cond.fieldLink RX12 101 "FoodSharesModel" "roads" "[I", Cond.methodLink RX12 279 yX12_isFirst, Cond.instanceMethod yX12_isFirst, Cond.selects RX12 yX12_isFirst yX12_isFirst]
def wsX12_findRounds_r2 : List Cond := [Cond.code yX12_isFirst cX12_isFirst 3 (some .boolean)]
def wsX12_findRounds : List Cond := .code yX12_findRounds cX12_findRounds 10 none :: ((wsX12_findRounds_r1 ++ wsX12_findRounds_r2) ++ wsX120)
def wsX12_rounds_r1 : List Cond := [Cond.fieldLink RX12 156 "FoodSharesModel" "thrown" "I", Cond.constantLong RX12 282 (10000000), Cond.fieldLink RX12 264 "FoodSharesModel" "loadMany" "I", Cond.fieldLink RX12 104 "FoodSharesModel" "loads" "[I", Cond.fieldLink RX12 107 "FoodSharesModel" "who" "[I", Cond.fieldLink RX12 128 "FoodSharesModel" "rowLen" "[I", Cond.fieldLink RX12 137 "FoodSharesModel" "stopMany" "I", Cond.fieldLink RX12 134 "FoodSharesModel" "stops" "[I", Cond.fieldLink RX12 125 "FoodSharesModel" "rows" "[I", Cond.fieldLink RX12 119 "FoodSharesModel" "least" "[I", Cond.methodLink RX12 164 yX12_in, Cond.static yX12_in, Cond.initialized RX12, Cond.code yX12_in cX12_in 6 (some .boolean), Cond.methodLink RX12 183 yX12_told, Cond.instanceMethod yX12_told, Cond.selects RX12 yX12_told yX12_told, Cond.code yX12_told cX12_told 2 (some .int), Cond.fieldLink RX12 159 "FoodSharesModel" "status" "I", Cond.methodLink RX12 284 yX12_findTours, Cond.instanceMethod yX12_findTours, Cond.selects RX12 yX12_findTours yX12_findTours, Cond.code yX12_findTours cX12_findTours 8 none, Cond.fieldLink RX12 113 "FoodSharesModel" "tour" "[I"]
def wsX12_rounds_r2 : List Cond := [Cond.constant RX12 267 (1000000), Cond.fieldLink RX12 116 "FoodSharesModel" "weight" "[J", Cond.fieldLink RX12 110 "FoodSharesModel" "ahead" "[I", Cond.methodLink RX12 268 yX12_way, Cond.instanceMethod yX12_way, Cond.selects RX12 yX12_way yX12_way, Cond.code yX12_way cX12_way 3 (some .int), Cond.fieldLink RX12 101 "FoodSharesModel" "roads" "[I", Cond.methodLink RX12 288 yX12_findRounds, Cond.instanceMethod yX12_findRounds, Cond.selects RX12 yX12_findRounds yX12_findRounds, Cond.code yX12_findRounds cX12_findRounds 10 none, Cond.fieldLink RX12 122 "FoodSharesModel" "fewest" "[I", Cond.constant RX12 274 (100000000), Cond.fieldLink RX12 271 "FoodSharesModel" "trialLen" "I", Cond.fieldLink RX12 131 "FoodSharesModel" "trial" "[I", Cond.methodLink RX12 275 yX12_writeTour, Cond.instanceMethod yX12_writeTour, Cond.selects RX12 yX12_writeTour yX12_writeTour, Cond.code yX12_writeTour cX12_writeTour 7 none, Cond.methodLink RX12 279 yX12_isFirst, Cond.instanceMethod yX12_isFirst, Cond.selects RX12 yX12_isFirst yX12_isFirst, Cond.code yX12_isFirst cX12_isFirst 3 (some .boolean)]
def wsX12_rounds : List Cond := .code yX12_rounds cX12_rounds 6 (some .int) :: ((wsX12_rounds_r1 ++ wsX12_rounds_r2) ++ wsX120)
def wsX12_stop : List Cond := .code yX12_stop cX12_stop 2 (some .int) :: ([.fieldLink RX12 156 "FoodSharesModel" "thrown" "I", .fieldLink RX12 137 "FoodSharesModel" "stopMany" "I", .fieldLink RX12 134 "FoodSharesModel" "stops" "[I", .methodLink RX12 164 yX12_in, .static yX12_in, .initialized RX12, .code yX12_in cX12_in 6 (some .boolean)] ++ wsX120)
def wsX12_four : List Cond := .code yX12_four cX12_four 3 none :: ([.fieldLink RX12 141 "FoodSharesModel" "tape" "[I", .fieldLink RX12 291 "FoodSharesModel" "taped" "I"] ++ wsX120)
def wsX12_feed : List Cond := .code yX12_feed cX12_feed 6 (some .int) :: ([.fieldLink RX12 156 "FoodSharesModel" "thrown" "I", .fieldLink RX12 291 "FoodSharesModel" "taped" "I", .methodLink RX12 294 yX12_four, .instanceMethod yX12_four, .selects RX12 yX12_four yX12_four, .initialized RX12, .code yX12_four cX12_four 3 none, .fieldLink RX12 141 "FoodSharesModel" "tape" "[I"] ++ wsX120)
def wsX12_end : List Cond := .code yX12_end cX12_end 2 (some .int) :: ([.fieldLink RX12 156 "FoodSharesModel" "thrown" "I", .fieldLink RX12 291 "FoodSharesModel" "taped" "I"] ++ wsX120)
def wsX12_isSmall : List Cond := .code yX12_isSmall cX12_isSmall 1 (some .boolean) :: ([])
def wsX12_isDigit : List Cond := .code yX12_isDigit cX12_isDigit 1 (some .boolean) :: ([])
def wsX12_next : List Cond := .code yX12_next cX12_next 1 none :: ([.fieldLink RX12 297 "FoodSharesModel" "to" "I", .fieldLink RX12 300 "FoodSharesModel" "from" "I", .fieldLink RX12 291 "FoodSharesModel" "taped" "I", .fieldLink RX12 141 "FoodSharesModel" "tape" "[I", .fieldLink RX12 303 "FoodSharesModel" "worth" "J", .fieldLink RX12 312 "FoodSharesModel" "sort" "I", .constantLong RX12 315 (32), .constantLong RX12 317 (96), .constantLong RX12 319 (-1), .constantLong RX12 187 (1000000), .constantLong RX12 246 (10), .constantLong RX12 321 (48), .methodLink RX12 306 yX12_isSmall, .static yX12_isSmall, .initialized RX12, .code yX12_isSmall cX12_isSmall 1 (some .boolean), .methodLink RX12 309 yX12_isDigit, .static yX12_isDigit, .code yX12_isDigit cX12_isDigit 1 (some .boolean)] ++ wsX120)
def wsX12_word : List Cond := .code yX12_word cX12_word 7 (some .long) :: ([.constantLong RX12 317 (96), .constantLong RX12 315 (32)])
def wsX12_isWord : List Cond := .code yX12_isWord cX12_isWord 6 (some .boolean) :: ([.fieldLink RX12 312 "FoodSharesModel" "sort" "I", .fieldLink RX12 303 "FoodSharesModel" "worth" "J", .methodLink RX12 323 yX12_word, .static yX12_word, .initialized RX12, .code yX12_word cX12_word 7 (some .long), .constantLong RX12 317 (96), .constantLong RX12 315 (32)] ++ wsX120)
def wsX12_must_r1 : List Cond := [Cond.fieldLink RX12 327 "FoodSharesModel" "bad" "Z", Cond.fieldLink RX12 300 "FoodSharesModel" "from" "I", Cond.fieldLink RX12 144 "FoodSharesModel" "fault" "I", Cond.methodLink RX12 331 yX12_next, Cond.instanceMethod yX12_next, Cond.selects RX12 yX12_next yX12_next, Cond.initialized RX12, Cond.code yX12_next cX12_next 1 none, Cond.fieldLink RX12 297 "FoodSharesModel" "to" "I", Cond.fieldLink RX12 291 "FoodSharesModel" "taped" "I", Cond.fieldLink RX12 141 "FoodSharesModel" "tape" "[I", Cond.fieldLink RX12 303 "FoodSharesModel" "worth" "J", Cond.fieldLink RX12 312 "FoodSharesModel" "sort" "I", Cond.constantLong RX12 315 (32), Cond.constantLong RX12 317 (96), Cond.constantLong RX12 319 (-1), Cond.constantLong RX12 187 (1000000), Cond.constantLong RX12 246 (10), Cond.constantLong RX12 321 (48), Cond.methodLink RX12 306 yX12_isSmall, Cond.static yX12_isSmall, Cond.code yX12_isSmall cX12_isSmall 1 (some .boolean), Cond.methodLink RX12 309 yX12_isDigit, Cond.static yX12_isDigit]
def wsX12_must_r2 : List Cond := [Cond.code yX12_isDigit cX12_isDigit 1 (some .boolean)]
def wsX12_must : List Cond := .code yX12_must cX12_must 2 none :: ((wsX12_must_r1 ++ wsX12_must_r2) ++ wsX120)
def wsX12_number_r1 : List Cond := [Cond.fieldLink RX12 303 "FoodSharesModel" "worth" "J", Cond.fieldLink RX12 312 "FoodSharesModel" "sort" "I", Cond.methodLink RX12 334 yX12_must, Cond.instanceMethod yX12_must, Cond.selects RX12 yX12_must yX12_must, Cond.initialized RX12, Cond.code yX12_must cX12_must 2 none, Cond.fieldLink RX12 327 "FoodSharesModel" "bad" "Z", Cond.fieldLink RX12 300 "FoodSharesModel" "from" "I", Cond.fieldLink RX12 144 "FoodSharesModel" "fault" "I", Cond.methodLink RX12 331 yX12_next, Cond.instanceMethod yX12_next, Cond.selects RX12 yX12_next yX12_next, Cond.code yX12_next cX12_next 1 none, Cond.fieldLink RX12 297 "FoodSharesModel" "to" "I", Cond.fieldLink RX12 291 "FoodSharesModel" "taped" "I", Cond.fieldLink RX12 141 "FoodSharesModel" "tape" "[I", Cond.constantLong RX12 315 (32), Cond.constantLong RX12 317 (96), Cond.constantLong RX12 319 (-1), Cond.constantLong RX12 187 (1000000), Cond.constantLong RX12 246 (10), Cond.constantLong RX12 321 (48), Cond.methodLink RX12 306 yX12_isSmall]
def wsX12_number_r2 : List Cond := [Cond.static yX12_isSmall, Cond.code yX12_isSmall cX12_isSmall 1 (some .boolean), Cond.methodLink RX12 309 yX12_isDigit, Cond.static yX12_isDigit, Cond.code yX12_isDigit cX12_isDigit 1 (some .boolean)]
def wsX12_number : List Cond := .code yX12_number cX12_number 4 (some .int) :: ((wsX12_number_r1 ++ wsX12_number_r2) ++ wsX120)
def wsX12_readRule_r1 : List Cond := [Cond.fieldLink RX12 342 "FoodSharesModel" "nMany" "I", Cond.constantLong RX12 162 (9), Cond.constantLong RX12 349 (100000), Cond.fieldLink RX12 327 "FoodSharesModel" "bad" "Z", Cond.constantLong RX12 199 (12), Cond.constantLong RX12 192 (1000), Cond.fieldLink RX12 303 "FoodSharesModel" "worth" "J", Cond.fieldLink RX12 312 "FoodSharesModel" "sort" "I", Cond.fieldLink RX12 77 "FoodSharesModel" "nRule" "[I", Cond.methodLink RX12 338 yX12_isWord, Cond.instanceMethod yX12_isWord, Cond.selects RX12 yX12_isWord yX12_isWord, Cond.initialized RX12, Cond.code yX12_isWord cX12_isWord 6 (some .boolean), Cond.methodLink RX12 323 yX12_word, Cond.static yX12_word, Cond.code yX12_word cX12_word 7 (some .long), Cond.constantLong RX12 317 (96), Cond.constantLong RX12 315 (32), Cond.methodLink RX12 334 yX12_must, Cond.instanceMethod yX12_must, Cond.selects RX12 yX12_must yX12_must, Cond.code yX12_must cX12_must 2 none, Cond.fieldLink RX12 300 "FoodSharesModel" "from" "I"]
def wsX12_readRule_r2 : List Cond := [Cond.fieldLink RX12 144 "FoodSharesModel" "fault" "I", Cond.methodLink RX12 331 yX12_next, Cond.instanceMethod yX12_next, Cond.selects RX12 yX12_next yX12_next, Cond.code yX12_next cX12_next 1 none, Cond.fieldLink RX12 297 "FoodSharesModel" "to" "I", Cond.fieldLink RX12 291 "FoodSharesModel" "taped" "I", Cond.fieldLink RX12 141 "FoodSharesModel" "tape" "[I", Cond.constantLong RX12 319 (-1), Cond.constantLong RX12 187 (1000000), Cond.constantLong RX12 246 (10), Cond.constantLong RX12 321 (48), Cond.methodLink RX12 306 yX12_isSmall, Cond.static yX12_isSmall, Cond.code yX12_isSmall cX12_isSmall 1 (some .boolean), Cond.methodLink RX12 309 yX12_isDigit, Cond.static yX12_isDigit, Cond.code yX12_isDigit cX12_isDigit 1 (some .boolean), Cond.methodLink RX12 345 yX12_number, Cond.instanceMethod yX12_number, Cond.selects RX12 yX12_number yX12_number, Cond.code yX12_number cX12_number 4 (some .int)]
def wsX12_readRule : List Cond := .code yX12_readRule cX12_readRule 5 none :: ((wsX12_readRule_r1 ++ wsX12_readRule_r2) ++ wsX120)
def wsX12_rules_r1 : List Cond := [Cond.fieldLink RX12 156 "FoodSharesModel" "thrown" "I", Cond.fieldLink RX12 297 "FoodSharesModel" "to" "I", Cond.fieldLink RX12 327 "FoodSharesModel" "bad" "Z", Cond.fieldLink RX12 144 "FoodSharesModel" "fault" "I", Cond.fieldLink RX12 342 "FoodSharesModel" "nMany" "I", Cond.fieldLink RX12 312 "FoodSharesModel" "sort" "I", Cond.fieldLink RX12 303 "FoodSharesModel" "worth" "J", Cond.constantLong RX12 354 (59), Cond.fieldLink RX12 291 "FoodSharesModel" "taped" "I", Cond.fieldLink RX12 216 "FoodSharesModel" "ruleMany" "I", Cond.fieldLink RX12 65 "FoodSharesModel" "rSort" "[I", Cond.fieldLink RX12 77 "FoodSharesModel" "nRule" "[I", Cond.fieldLink RX12 68 "FoodSharesModel" "rKind" "[I", Cond.fieldLink RX12 71 "FoodSharesModel" "rA" "[I", Cond.fieldLink RX12 74 "FoodSharesModel" "rB" "[I", Cond.methodLink RX12 331 yX12_next, Cond.instanceMethod yX12_next, Cond.selects RX12 yX12_next yX12_next, Cond.initialized RX12, Cond.code yX12_next cX12_next 1 none, Cond.fieldLink RX12 300 "FoodSharesModel" "from" "I", Cond.fieldLink RX12 141 "FoodSharesModel" "tape" "[I", Cond.constantLong RX12 315 (32), Cond.constantLong RX12 317 (96)]
def wsX12_rules_r2 : List Cond := [Cond.constantLong RX12 319 (-1), Cond.constantLong RX12 187 (1000000), Cond.constantLong RX12 246 (10), Cond.constantLong RX12 321 (48), Cond.methodLink RX12 306 yX12_isSmall, Cond.static yX12_isSmall, Cond.code yX12_isSmall cX12_isSmall 1 (some .boolean), Cond.methodLink RX12 309 yX12_isDigit, Cond.static yX12_isDigit, Cond.code yX12_isDigit cX12_isDigit 1 (some .boolean), Cond.methodLink RX12 351 yX12_readRule, Cond.instanceMethod yX12_readRule, Cond.selects RX12 yX12_readRule yX12_readRule, Cond.code yX12_readRule cX12_readRule 5 none, Cond.constantLong RX12 162 (9), Cond.constantLong RX12 349 (100000), Cond.constantLong RX12 199 (12), Cond.constantLong RX12 192 (1000), Cond.methodLink RX12 338 yX12_isWord, Cond.instanceMethod yX12_isWord, Cond.selects RX12 yX12_isWord yX12_isWord, Cond.code yX12_isWord cX12_isWord 6 (some .boolean), Cond.methodLink RX12 323 yX12_word, Cond.static yX12_word]
def wsX12_rules_r3 : List Cond := [Cond.code yX12_word cX12_word 7 (some .long), Cond.methodLink RX12 334 yX12_must, Cond.instanceMethod yX12_must, Cond.selects RX12 yX12_must yX12_must, Cond.code yX12_must cX12_must 2 none, Cond.methodLink RX12 345 yX12_number, Cond.instanceMethod yX12_number, Cond.selects RX12 yX12_number yX12_number, Cond.code yX12_number cX12_number 4 (some .int), Cond.methodLink RX12 183 yX12_told, Cond.instanceMethod yX12_told, Cond.selects RX12 yX12_told yX12_told, Cond.code yX12_told cX12_told 2 (some .int), Cond.fieldLink RX12 159 "FoodSharesModel" "status" "I"]
def wsX12_rules : List Cond := .code yX12_rules cX12_rules 2 (some .int) :: ((wsX12_rules_r1 ++ (wsX12_rules_r2 ++ wsX12_rules_r3)) ++ wsX120)
def wsX12_fault : List Cond := .code yX12_fault cX12_fault 1 (some .int) :: ([.fieldLink RX12 156 "FoodSharesModel" "thrown" "I", .fieldLink RX12 144 "FoodSharesModel" "fault" "I"] ++ wsX120)
def wsX12_weigh : List Cond := .code yX12_weigh cX12_weigh 4 (some .int) :: ([.fieldLink RX12 156 "FoodSharesModel" "thrown" "I", .constantLong RX12 187 (1000000), .constantLong RX12 349 (100000), .fieldLink RX12 356 "FoodSharesModel" "weighings" "I", .fieldLink RX12 147 "FoodSharesModel" "wLot" "[I", .fieldLink RX12 150 "FoodSharesModel" "wGrams" "[I", .fieldLink RX12 153 "FoodSharesModel" "wKnown" "[I", .methodLink RX12 164 yX12_in, .static yX12_in, .initialized RX12, .code yX12_in cX12_in 6 (some .boolean), .methodLink RX12 183 yX12_told, .instanceMethod yX12_told, .selects RX12 yX12_told yX12_told, .code yX12_told cX12_told 2 (some .int), .fieldLink RX12 159 "FoodSharesModel" "status" "I", .methodLink RX12 196 yX12_isLot, .instanceMethod yX12_isLot, .selects RX12 yX12_isLot yX12_isLot, .code yX12_isLot cX12_isLot 2 (some .boolean), .fieldLink RX12 168 "FoodSharesModel" "lots" "I"] ++ wsX120)
def wsX12_given : List Cond := .code yX12_given cX12_given 8 (some .long) :: ([.fieldLink RX12 156 "FoodSharesModel" "thrown" "I", .constantLong RX12 194 (19), .constantLong RX12 349 (100000), .constantLong RX12 319 (-1), .fieldLink RX12 168 "FoodSharesModel" "lots" "I", .fieldLink RX12 16 "FoodSharesModel" "lGrams" "[I", .fieldLink RX12 356 "FoodSharesModel" "weighings" "I", .fieldLink RX12 147 "FoodSharesModel" "wLot" "[I", .fieldLink RX12 153 "FoodSharesModel" "wKnown" "[I", .fieldLink RX12 150 "FoodSharesModel" "wGrams" "[I", .fieldLink RX12 22 "FoodSharesModel" "lGiver" "[I", .methodLink RX12 164 yX12_in, .static yX12_in, .initialized RX12, .code yX12_in cX12_in 6 (some .boolean)] ++ wsX120)
def wsX12_led : List Cond := .code yX12_led cX12_led 7 (some .long) :: ([.fieldLink RX12 156 "FoodSharesModel" "thrown" "I", .constantLong RX12 194 (19), .constantLong RX12 319 (-1), .fieldLink RX12 239 "FoodSharesModel" "parcels" "I", .fieldLink RX12 86 "FoodSharesModel" "pFrom" "[I", .fieldLink RX12 80 "FoodSharesModel" "pFamily" "[I", .fieldLink RX12 22 "FoodSharesModel" "lGiver" "[I", .fieldLink RX12 92 "FoodSharesModel" "lineLot" "[I", .fieldLink RX12 95 "FoodSharesModel" "lineGrams" "[I", .methodLink RX12 164 yX12_in, .static yX12_in, .initialized RX12, .code yX12_in cX12_in 6 (some .boolean), .methodLink RX12 206 yX12_isFamily, .instanceMethod yX12_isFamily, .selects RX12 yX12_isFamily yX12_isFamily, .code yX12_isFamily cX12_isFamily 2 (some .boolean), .fieldLink RX12 174 "FoodSharesModel" "families" "I"] ++ wsX120)
def wsX12_sumOf : List Cond := .code yX12_sumOf cX12_sumOf 7 (some .long) :: ([.fieldLink RX12 168 "FoodSharesModel" "lots" "I", .fieldLink RX12 16 "FoodSharesModel" "lGrams" "[I", .fieldLink RX12 25 "FoodSharesModel" "lLeft" "[I", .fieldLink RX12 28 "FoodSharesModel" "lOut" "[I", .fieldLink RX12 31 "FoodSharesModel" "lParted" "[I", .fieldLink RX12 34 "FoodSharesModel" "lSpoilt" "[I", .fieldLink RX12 13 "FoodSharesModel" "lKind" "[I"] ++ wsX120)
def wsX12_count_r1 : List Cond := [Cond.fieldLink RX12 156 "FoodSharesModel" "thrown" "I", Cond.constantLong RX12 204 (20), Cond.constantLong RX12 359 (29), Cond.fieldLink RX12 189 "FoodSharesModel" "today" "I", Cond.fieldLink RX12 168 "FoodSharesModel" "lots" "I", Cond.fieldLink RX12 171 "FoodSharesModel" "tables" "I", Cond.fieldLink RX12 174 "FoodSharesModel" "families" "I", Cond.fieldLink RX12 209 "FoodSharesModel" "referrals" "I", Cond.fieldLink RX12 239 "FoodSharesModel" "parcels" "I", Cond.fieldLink RX12 216 "FoodSharesModel" "ruleMany" "I", Cond.fieldLink RX12 356 "FoodSharesModel" "weighings" "I", Cond.fieldLink RX12 242 "FoodSharesModel" "shortAll" "J", Cond.fieldLink RX12 291 "FoodSharesModel" "taped" "I", Cond.constantLong RX12 319 (-1), Cond.methodLink RX12 164 yX12_in, Cond.static yX12_in, Cond.initialized RX12, Cond.code yX12_in cX12_in 6 (some .boolean), Cond.methodLink RX12 361 yX12_sumOf, Cond.instanceMethod yX12_sumOf, Cond.selects RX12 yX12_sumOf yX12_sumOf, Cond.code yX12_sumOf cX12_sumOf 7 (some .long), Cond.fieldLink RX12 16 "FoodSharesModel" "lGrams" "[I", Cond.fieldLink RX12 25 "FoodSharesModel" "lLeft" "[I"]
def wsX12_count_r2 : List Cond := [Cond.fieldLink RX12 28 "FoodSharesModel" "lOut" "[I", Cond.fieldLink RX12 31 "FoodSharesModel" "lParted" "[I", Cond.fieldLink RX12 34 "FoodSharesModel" "lSpoilt" "[I", Cond.fieldLink RX12 13 "FoodSharesModel" "lKind" "[I"]
def wsX12_count : List Cond := .code yX12_count cX12_count 2 (some .long) :: ((wsX12_count_r1 ++ wsX12_count_r2) ++ wsX120)
def wsX12_status : List Cond := .code yX12_status cX12_status 1 (some .int) :: ([.fieldLink RX12 156 "FoodSharesModel" "thrown" "I", .fieldLink RX12 159 "FoodSharesModel" "status" "I"] ++ wsX120)
theorem dX12_init_0 : decode cX12_init 0 = .ok (.aload_n 0, 1) := by decide +kernel
theorem dX12_init_1 : decode cX12_init 1 = .ok (.invokespecial 1, 3) := by decide +kernel
theorem dX12_init_4 : decode cX12_init 4 = .ok (.aload_n 0, 1) := by decide +kernel
theorem dX12_init_5 : decode cX12_init 5 = .ok (.bipush 10, 2) := by decide +kernel
theorem dX12_init_7 : decode cX12_init 7 = .ok (.newarray .int, 2) := by decide +kernel
theorem dX12_init_9 : decode cX12_init 9 = .ok (.putfield 7, 3) := by decide +kernel
theorem dX12_init_12 : decode cX12_init 12 = .ok (.aload_n 0, 1) := by decide +kernel
theorem dX12_init_13 : decode cX12_init 13 = .ok (.sipush 200, 3) := by decide +kernel
theorem dX12_init_16 : decode cX12_init 16 = .ok (.newarray .int, 2) := by decide +kernel
theorem dX12_init_18 : decode cX12_init 18 = .ok (.putfield 13, 3) := by decide +kernel
theorem dX12_init_21 : decode cX12_init 21 = .ok (.aload_n 0, 1) := by decide +kernel
theorem dX12_init_22 : decode cX12_init 22 = .ok (.sipush 200, 3) := by decide +kernel
theorem dX12_init_25 : decode cX12_init 25 = .ok (.newarray .int, 2) := by decide +kernel
theorem dX12_init_27 : decode cX12_init 27 = .ok (.putfield 16, 3) := by decide +kernel
theorem dX12_init_30 : decode cX12_init 30 = .ok (.aload_n 0, 1) := by decide +kernel
theorem dX12_init_31 : decode cX12_init 31 = .ok (.sipush 200, 3) := by decide +kernel
theorem dX12_init_34 : decode cX12_init 34 = .ok (.newarray .int, 2) := by decide +kernel
theorem dX12_init_36 : decode cX12_init 36 = .ok (.putfield 19, 3) := by decide +kernel
theorem dX12_init_39 : decode cX12_init 39 = .ok (.aload_n 0, 1) := by decide +kernel
theorem dX12_init_40 : decode cX12_init 40 = .ok (.sipush 200, 3) := by decide +kernel
theorem dX12_init_43 : decode cX12_init 43 = .ok (.newarray .int, 2) := by decide +kernel
theorem dX12_init_45 : decode cX12_init 45 = .ok (.putfield 22, 3) := by decide +kernel
theorem dX12_init_48 : decode cX12_init 48 = .ok (.aload_n 0, 1) := by decide +kernel
theorem dX12_init_49 : decode cX12_init 49 = .ok (.sipush 200, 3) := by decide +kernel
theorem dX12_init_52 : decode cX12_init 52 = .ok (.newarray .int, 2) := by decide +kernel
theorem dX12_init_54 : decode cX12_init 54 = .ok (.putfield 25, 3) := by decide +kernel
theorem dX12_init_57 : decode cX12_init 57 = .ok (.aload_n 0, 1) := by decide +kernel
theorem dX12_init_58 : decode cX12_init 58 = .ok (.sipush 200, 3) := by decide +kernel
theorem dX12_init_61 : decode cX12_init 61 = .ok (.newarray .int, 2) := by decide +kernel
theorem dX12_init_63 : decode cX12_init 63 = .ok (.putfield 28, 3) := by decide +kernel
theorem dX12_init_66 : decode cX12_init 66 = .ok (.aload_n 0, 1) := by decide +kernel
theorem dX12_init_67 : decode cX12_init 67 = .ok (.sipush 200, 3) := by decide +kernel
theorem dX12_init_70 : decode cX12_init 70 = .ok (.newarray .int, 2) := by decide +kernel
theorem dX12_init_72 : decode cX12_init 72 = .ok (.putfield 31, 3) := by decide +kernel
theorem dX12_init_75 : decode cX12_init 75 = .ok (.aload_n 0, 1) := by decide +kernel
theorem dX12_init_76 : decode cX12_init 76 = .ok (.sipush 200, 3) := by decide +kernel
theorem dX12_init_79 : decode cX12_init 79 = .ok (.newarray .int, 2) := by decide +kernel
theorem dX12_init_81 : decode cX12_init 81 = .ok (.putfield 34, 3) := by decide +kernel
theorem dX12_init_84 : decode cX12_init 84 = .ok (.aload_n 0, 1) := by decide +kernel
theorem dX12_init_85 : decode cX12_init 85 = .ok (.bipush 120, 2) := by decide +kernel
theorem dX12_init_87 : decode cX12_init 87 = .ok (.newarray .int, 2) := by decide +kernel
theorem dX12_init_89 : decode cX12_init 89 = .ok (.putfield 37, 3) := by decide +kernel
theorem dX12_init_92 : decode cX12_init 92 = .ok (.aload_n 0, 1) := by decide +kernel
theorem dX12_init_93 : decode cX12_init 93 = .ok (.bipush 120, 2) := by decide +kernel
theorem dX12_init_95 : decode cX12_init 95 = .ok (.newarray .long, 2) := by decide +kernel
theorem dX12_init_97 : decode cX12_init 97 = .ok (.putfield 40, 3) := by decide +kernel
theorem dX12_init_100 : decode cX12_init 100 = .ok (.aload_n 0, 1) := by decide +kernel
theorem dX12_init_101 : decode cX12_init 101 = .ok (.bipush 40, 2) := by decide +kernel
theorem dX12_init_103 : decode cX12_init 103 = .ok (.newarray .int, 2) := by decide +kernel
theorem dX12_init_105 : decode cX12_init 105 = .ok (.putfield 44, 3) := by decide +kernel
theorem dX12_init_108 : decode cX12_init 108 = .ok (.aload_n 0, 1) := by decide +kernel
theorem dX12_init_109 : decode cX12_init 109 = .ok (.bipush 40, 2) := by decide +kernel
theorem dX12_init_111 : decode cX12_init 111 = .ok (.newarray .int, 2) := by decide +kernel
theorem dX12_init_113 : decode cX12_init 113 = .ok (.putfield 47, 3) := by decide +kernel
theorem dX12_init_116 : decode cX12_init 116 = .ok (.aload_n 0, 1) := by decide +kernel
theorem dX12_init_117 : decode cX12_init 117 = .ok (.bipush 40, 2) := by decide +kernel
theorem dX12_init_119 : decode cX12_init 119 = .ok (.newarray .int, 2) := by decide +kernel
theorem dX12_init_121 : decode cX12_init 121 = .ok (.putfield 50, 3) := by decide +kernel
theorem dX12_init_124 : decode cX12_init 124 = .ok (.aload_n 0, 1) := by decide +kernel
theorem dX12_init_125 : decode cX12_init 125 = .ok (.bipush 100, 2) := by decide +kernel
theorem dX12_init_127 : decode cX12_init 127 = .ok (.newarray .int, 2) := by decide +kernel
theorem dX12_init_129 : decode cX12_init 129 = .ok (.putfield 53, 3) := by decide +kernel
theorem dX12_init_132 : decode cX12_init 132 = .ok (.aload_n 0, 1) := by decide +kernel
theorem dX12_init_133 : decode cX12_init 133 = .ok (.bipush 100, 2) := by decide +kernel
theorem dX12_init_135 : decode cX12_init 135 = .ok (.newarray .int, 2) := by decide +kernel
theorem dX12_init_137 : decode cX12_init 137 = .ok (.putfield 56, 3) := by decide +kernel
theorem dX12_init_140 : decode cX12_init 140 = .ok (.aload_n 0, 1) := by decide +kernel
theorem dX12_init_141 : decode cX12_init 141 = .ok (.bipush 100, 2) := by decide +kernel
theorem dX12_init_143 : decode cX12_init 143 = .ok (.newarray .int, 2) := by decide +kernel
theorem dX12_init_145 : decode cX12_init 145 = .ok (.putfield 59, 3) := by decide +kernel
theorem dX12_init_148 : decode cX12_init 148 = .ok (.aload_n 0, 1) := by decide +kernel
theorem dX12_init_149 : decode cX12_init 149 = .ok (.bipush 100, 2) := by decide +kernel
theorem dX12_init_151 : decode cX12_init 151 = .ok (.newarray .int, 2) := by decide +kernel
theorem dX12_init_153 : decode cX12_init 153 = .ok (.putfield 62, 3) := by decide +kernel
theorem dX12_init_156 : decode cX12_init 156 = .ok (.aload_n 0, 1) := by decide +kernel
theorem dX12_init_157 : decode cX12_init 157 = .ok (.bipush 30, 2) := by decide +kernel
theorem dX12_init_159 : decode cX12_init 159 = .ok (.newarray .int, 2) := by decide +kernel
theorem dX12_init_161 : decode cX12_init 161 = .ok (.putfield 65, 3) := by decide +kernel
theorem dX12_init_164 : decode cX12_init 164 = .ok (.aload_n 0, 1) := by decide +kernel
theorem dX12_init_165 : decode cX12_init 165 = .ok (.bipush 30, 2) := by decide +kernel
theorem dX12_init_167 : decode cX12_init 167 = .ok (.newarray .int, 2) := by decide +kernel
theorem dX12_init_169 : decode cX12_init 169 = .ok (.putfield 68, 3) := by decide +kernel
theorem dX12_init_172 : decode cX12_init 172 = .ok (.aload_n 0, 1) := by decide +kernel
theorem dX12_init_173 : decode cX12_init 173 = .ok (.bipush 30, 2) := by decide +kernel
theorem dX12_init_175 : decode cX12_init 175 = .ok (.newarray .int, 2) := by decide +kernel
theorem dX12_init_177 : decode cX12_init 177 = .ok (.putfield 71, 3) := by decide +kernel
theorem dX12_init_180 : decode cX12_init 180 = .ok (.aload_n 0, 1) := by decide +kernel
theorem dX12_init_181 : decode cX12_init 181 = .ok (.bipush 30, 2) := by decide +kernel
theorem dX12_init_183 : decode cX12_init 183 = .ok (.newarray .int, 2) := by decide +kernel
theorem dX12_init_185 : decode cX12_init 185 = .ok (.putfield 74, 3) := by decide +kernel
theorem dX12_init_188 : decode cX12_init 188 = .ok (.aload_n 0, 1) := by decide +kernel
theorem dX12_init_189 : decode cX12_init 189 = .ok (.bipush 120, 2) := by decide +kernel
theorem dX12_init_191 : decode cX12_init 191 = .ok (.newarray .int, 2) := by decide +kernel
theorem dX12_init_193 : decode cX12_init 193 = .ok (.putfield 77, 3) := by decide +kernel
theorem dX12_init_196 : decode cX12_init 196 = .ok (.aload_n 0, 1) := by decide +kernel
theorem dX12_init_197 : decode cX12_init 197 = .ok (.sipush 520, 3) := by decide +kernel
theorem dX12_init_200 : decode cX12_init 200 = .ok (.newarray .int, 2) := by decide +kernel
theorem dX12_init_202 : decode cX12_init 202 = .ok (.putfield 80, 3) := by decide +kernel
theorem dX12_init_205 : decode cX12_init 205 = .ok (.aload_n 0, 1) := by decide +kernel
theorem dX12_init_206 : decode cX12_init 206 = .ok (.sipush 520, 3) := by decide +kernel
theorem dX12_init_209 : decode cX12_init 209 = .ok (.newarray .int, 2) := by decide +kernel
theorem dX12_init_211 : decode cX12_init 211 = .ok (.putfield 83, 3) := by decide +kernel
theorem dX12_init_214 : decode cX12_init 214 = .ok (.aload_n 0, 1) := by decide +kernel
theorem dX12_init_215 : decode cX12_init 215 = .ok (.sipush 521, 3) := by decide +kernel
theorem dX12_init_218 : decode cX12_init 218 = .ok (.newarray .int, 2) := by decide +kernel
theorem dX12_init_220 : decode cX12_init 220 = .ok (.putfield 86, 3) := by decide +kernel
theorem dX12_init_223 : decode cX12_init 223 = .ok (.aload_n 0, 1) := by decide +kernel
theorem dX12_init_224 : decode cX12_init 224 = .ok (.sipush 520, 3) := by decide +kernel
theorem dX12_init_227 : decode cX12_init 227 = .ok (.newarray .int, 2) := by decide +kernel
theorem dX12_init_229 : decode cX12_init 229 = .ok (.putfield 89, 3) := by decide +kernel
theorem dX12_init_232 : decode cX12_init 232 = .ok (.aload_n 0, 1) := by decide +kernel
theorem dX12_init_233 : decode cX12_init 233 = .ok (.sipush 24000, 3) := by decide +kernel
theorem dX12_init_236 : decode cX12_init 236 = .ok (.newarray .int, 2) := by decide +kernel
theorem dX12_init_238 : decode cX12_init 238 = .ok (.putfield 92, 3) := by decide +kernel
theorem dX12_init_241 : decode cX12_init 241 = .ok (.aload_n 0, 1) := by decide +kernel
theorem dX12_init_242 : decode cX12_init 242 = .ok (.sipush 24000, 3) := by decide +kernel
theorem dX12_init_245 : decode cX12_init 245 = .ok (.newarray .int, 2) := by decide +kernel
theorem dX12_init_247 : decode cX12_init 247 = .ok (.putfield 95, 3) := by decide +kernel
theorem dX12_init_250 : decode cX12_init 250 = .ok (.aload_n 0, 1) := by decide +kernel
theorem dX12_init_251 : decode cX12_init 251 = .ok (.bipush 12, 2) := by decide +kernel
theorem dX12_init_253 : decode cX12_init 253 = .ok (.newarray .int, 2) := by decide +kernel
theorem dX12_init_255 : decode cX12_init 255 = .ok (.putfield 98, 3) := by decide +kernel
theorem dX12_init_258 : decode cX12_init 258 = .ok (.aload_n 0, 1) := by decide +kernel
theorem dX12_init_259 : decode cX12_init 259 = .ok (.sipush 169, 3) := by decide +kernel
theorem dX12_init_262 : decode cX12_init 262 = .ok (.newarray .int, 2) := by decide +kernel
theorem dX12_init_264 : decode cX12_init 264 = .ok (.putfield 101, 3) := by decide +kernel
theorem dX12_init_267 : decode cX12_init 267 = .ok (.aload_n 0, 1) := by decide +kernel
theorem dX12_init_268 : decode cX12_init 268 = .ok (.bipush 12, 2) := by decide +kernel
theorem dX12_init_270 : decode cX12_init 270 = .ok (.newarray .int, 2) := by decide +kernel
theorem dX12_init_272 : decode cX12_init 272 = .ok (.putfield 104, 3) := by decide +kernel
theorem dX12_init_275 : decode cX12_init 275 = .ok (.aload_n 0, 1) := by decide +kernel
theorem dX12_init_276 : decode cX12_init 276 = .ok (.bipush 8, 2) := by decide +kernel
theorem dX12_init_278 : decode cX12_init 278 = .ok (.newarray .int, 2) := by decide +kernel
theorem dX12_init_280 : decode cX12_init 280 = .ok (.putfield 107, 3) := by decide +kernel
theorem dX12_init_283 : decode cX12_init 283 = .ok (.aload_n 0, 1) := by decide +kernel
theorem dX12_init_284 : decode cX12_init 284 = .ok (.sipush 2048, 3) := by decide +kernel
theorem dX12_init_287 : decode cX12_init 287 = .ok (.newarray .int, 2) := by decide +kernel
theorem dX12_init_289 : decode cX12_init 289 = .ok (.putfield 110, 3) := by decide +kernel
theorem dX12_init_292 : decode cX12_init 292 = .ok (.aload_n 0, 1) := by decide +kernel
theorem dX12_init_293 : decode cX12_init 293 = .ok (.sipush 256, 3) := by decide +kernel
theorem dX12_init_296 : decode cX12_init 296 = .ok (.newarray .int, 2) := by decide +kernel
theorem dX12_init_298 : decode cX12_init 298 = .ok (.putfield 113, 3) := by decide +kernel
theorem dX12_init_301 : decode cX12_init 301 = .ok (.aload_n 0, 1) := by decide +kernel
theorem dX12_init_302 : decode cX12_init 302 = .ok (.sipush 256, 3) := by decide +kernel
theorem dX12_init_305 : decode cX12_init 305 = .ok (.newarray .long, 2) := by decide +kernel
theorem dX12_init_307 : decode cX12_init 307 = .ok (.putfield 116, 3) := by decide +kernel
theorem dX12_init_310 : decode cX12_init 310 = .ok (.aload_n 0, 1) := by decide +kernel
theorem dX12_init_311 : decode cX12_init 311 = .ok (.sipush 256, 3) := by decide +kernel
theorem dX12_init_314 : decode cX12_init 314 = .ok (.newarray .int, 2) := by decide +kernel
theorem dX12_init_316 : decode cX12_init 316 = .ok (.putfield 119, 3) := by decide +kernel
theorem dX12_init_319 : decode cX12_init 319 = .ok (.aload_n 0, 1) := by decide +kernel
theorem dX12_init_320 : decode cX12_init 320 = .ok (.sipush 256, 3) := by decide +kernel
theorem dX12_init_323 : decode cX12_init 323 = .ok (.newarray .int, 2) := by decide +kernel
theorem dX12_init_325 : decode cX12_init 325 = .ok (.putfield 122, 3) := by decide +kernel
theorem dX12_init_328 : decode cX12_init 328 = .ok (.aload_n 0, 1) := by decide +kernel
theorem dX12_init_329 : decode cX12_init 329 = .ok (.sipush 4096, 3) := by decide +kernel
theorem dX12_init_332 : decode cX12_init 332 = .ok (.newarray .int, 2) := by decide +kernel
theorem dX12_init_334 : decode cX12_init 334 = .ok (.putfield 125, 3) := by decide +kernel
theorem dX12_init_337 : decode cX12_init 337 = .ok (.aload_n 0, 1) := by decide +kernel
theorem dX12_init_338 : decode cX12_init 338 = .ok (.sipush 256, 3) := by decide +kernel
theorem dX12_init_341 : decode cX12_init 341 = .ok (.newarray .int, 2) := by decide +kernel
theorem dX12_init_343 : decode cX12_init 343 = .ok (.putfield 128, 3) := by decide +kernel
theorem dX12_init_346 : decode cX12_init 346 = .ok (.aload_n 0, 1) := by decide +kernel
theorem dX12_init_347 : decode cX12_init 347 = .ok (.bipush 16, 2) := by decide +kernel
theorem dX12_init_349 : decode cX12_init 349 = .ok (.newarray .int, 2) := by decide +kernel
theorem dX12_init_351 : decode cX12_init 351 = .ok (.putfield 131, 3) := by decide +kernel
theorem dX12_init_354 : decode cX12_init 354 = .ok (.aload_n 0, 1) := by decide +kernel
theorem dX12_init_355 : decode cX12_init 355 = .ok (.bipush 16, 2) := by decide +kernel
theorem dX12_init_357 : decode cX12_init 357 = .ok (.newarray .int, 2) := by decide +kernel
theorem dX12_init_359 : decode cX12_init 359 = .ok (.putfield 134, 3) := by decide +kernel
theorem dX12_init_362 : decode cX12_init 362 = .ok (.aload_n 0, 1) := by decide +kernel
theorem dX12_init_363 : decode cX12_init 363 = .ok (.iconst (-1), 1) := by decide +kernel
theorem dX12_init_364 : decode cX12_init 364 = .ok (.putfield 137, 3) := by decide +kernel
theorem dX12_init_367 : decode cX12_init 367 = .ok (.aload_n 0, 1) := by decide +kernel
theorem dX12_init_368 : decode cX12_init 368 = .ok (.sipush 400, 3) := by decide +kernel
theorem dX12_init_371 : decode cX12_init 371 = .ok (.newarray .int, 2) := by decide +kernel
theorem dX12_init_373 : decode cX12_init 373 = .ok (.putfield 141, 3) := by decide +kernel
theorem dX12_init_376 : decode cX12_init 376 = .ok (.aload_n 0, 1) := by decide +kernel
theorem dX12_init_377 : decode cX12_init 377 = .ok (.iconst (-1), 1) := by decide +kernel
theorem dX12_init_378 : decode cX12_init 378 = .ok (.putfield 144, 3) := by decide +kernel
theorem dX12_init_381 : decode cX12_init 381 = .ok (.aload_n 0, 1) := by decide +kernel
theorem dX12_init_382 : decode cX12_init 382 = .ok (.bipush 100, 2) := by decide +kernel
theorem dX12_init_384 : decode cX12_init 384 = .ok (.newarray .int, 2) := by decide +kernel
theorem dX12_init_386 : decode cX12_init 386 = .ok (.putfield 147, 3) := by decide +kernel
theorem dX12_init_389 : decode cX12_init 389 = .ok (.aload_n 0, 1) := by decide +kernel
theorem dX12_init_390 : decode cX12_init 390 = .ok (.bipush 100, 2) := by decide +kernel
theorem dX12_init_392 : decode cX12_init 392 = .ok (.newarray .int, 2) := by decide +kernel
theorem dX12_init_394 : decode cX12_init 394 = .ok (.putfield 150, 3) := by decide +kernel
theorem dX12_init_397 : decode cX12_init 397 = .ok (.aload_n 0, 1) := by decide +kernel
theorem dX12_init_398 : decode cX12_init 398 = .ok (.bipush 100, 2) := by decide +kernel
theorem dX12_init_400 : decode cX12_init 400 = .ok (.newarray .int, 2) := by decide +kernel
theorem dX12_init_402 : decode cX12_init 402 = .ok (.putfield 153, 3) := by decide +kernel
theorem dX12_init_405 : decode cX12_init 405 = .ok (.return_, 1) := by decide +kernel
theorem dX12_in_0 : decode cX12_in 0 = .ok (.lload_n 0, 1) := by decide +kernel
theorem dX12_in_1 : decode cX12_in 1 = .ok (.lload_n 2, 1) := by decide +kernel
theorem dX12_in_2 : decode cX12_in 2 = .ok (.lcmp, 1) := by decide +kernel
theorem dX12_in_3 : decode cX12_in 3 = .ok (.ifCond .lt 14, 3) := by decide +kernel
theorem dX12_in_6 : decode cX12_in 6 = .ok (.lload_n 0, 1) := by decide +kernel
theorem dX12_in_7 : decode cX12_in 7 = .ok (.lload 4, 2) := by decide +kernel
theorem dX12_in_9 : decode cX12_in 9 = .ok (.lcmp, 1) := by decide +kernel
theorem dX12_in_10 : decode cX12_in 10 = .ok (.ifCond .gt 7, 3) := by decide +kernel
theorem dX12_in_13 : decode cX12_in 13 = .ok (.iconst 1, 1) := by decide +kernel
theorem dX12_in_14 : decode cX12_in 14 = .ok (.goto 4, 3) := by decide +kernel
theorem dX12_in_17 : decode cX12_in 17 = .ok (.iconst 0, 1) := by decide +kernel
theorem dX12_in_18 : decode cX12_in 18 = .ok (.ireturn, 1) := by decide +kernel
theorem dX12_told_0 : decode cX12_told 0 = .ok (.aload_n 0, 1) := by decide +kernel
theorem dX12_told_1 : decode cX12_told 1 = .ok (.iload_n 1, 1) := by decide +kernel
theorem dX12_told_2 : decode cX12_told 2 = .ok (.ifCond .ge 7, 3) := by decide +kernel
theorem dX12_told_5 : decode cX12_told 5 = .ok (.iload_n 1, 1) := by decide +kernel
theorem dX12_told_6 : decode cX12_told 6 = .ok (.goto 4, 3) := by decide +kernel
theorem dX12_told_9 : decode cX12_told 9 = .ok (.iconst 0, 1) := by decide +kernel
theorem dX12_told_10 : decode cX12_told 10 = .ok (.putfield 159, 3) := by decide +kernel
theorem dX12_told_13 : decode cX12_told 13 = .ok (.iload_n 1, 1) := by decide +kernel
theorem dX12_told_14 : decode cX12_told 14 = .ok (.ireturn, 1) := by decide +kernel
set_option maxRecDepth 20000 in
theorem ggX12_isKind_X12_in : GoodIn wsX12_isKind wsX12_in := goodIn_r _ [5] (by decide +kernel) (by decide +kernel)
set_option maxRecDepth 20000 in
theorem gX12_isKind_X12_in : GoodIn wsX12_isKind (va_wsS RX12 164 yX12_in wsX12_in) := goodIn_app (goodIn_of _ (by decide +kernel)) ggX12_isKind_X12_in
theorem dX12_isKind_0 : decode cX12_isKind 0 = .ok (.iload_n 0, 1) := by decide +kernel
theorem dX12_isKind_1 : decode cX12_isKind 1 = .ok (.i2l, 1) := by decide +kernel
theorem dX12_isKind_2 : decode cX12_isKind 2 = .ok (.lconst 0, 1) := by decide +kernel
theorem dX12_isKind_3 : decode cX12_isKind 3 = .ok (.ldc2_w 162, 3) := by decide +kernel
theorem dX12_isKind_6 : decode cX12_isKind 6 = .ok (.invokestatic 164, 3) := by decide +kernel
theorem dX12_isKind_9 : decode cX12_isKind 9 = .ok (.ireturn, 1) := by decide +kernel
set_option maxRecDepth 20000 in
theorem ggX12_isLot_X12_in : GoodIn wsX12_isLot wsX12_in := goodIn_r _ [5] (by decide +kernel) (by decide +kernel)
set_option maxRecDepth 20000 in
theorem gX12_isLot_X12_in : GoodIn wsX12_isLot (va_wsS RX12 164 yX12_in wsX12_in) := goodIn_app (goodIn_of _ (by decide +kernel)) ggX12_isLot_X12_in
theorem dX12_isLot_0 : decode cX12_isLot 0 = .ok (.iload_n 1, 1) := by decide +kernel
theorem dX12_isLot_1 : decode cX12_isLot 1 = .ok (.i2l, 1) := by decide +kernel
theorem dX12_isLot_2 : decode cX12_isLot 2 = .ok (.lconst 0, 1) := by decide +kernel
theorem dX12_isLot_3 : decode cX12_isLot 3 = .ok (.aload_n 0, 1) := by decide +kernel
theorem dX12_isLot_4 : decode cX12_isLot 4 = .ok (.getfield 168, 3) := by decide +kernel
theorem dX12_isLot_7 : decode cX12_isLot 7 = .ok (.i2l, 1) := by decide +kernel
theorem dX12_isLot_8 : decode cX12_isLot 8 = .ok (.lconst 1, 1) := by decide +kernel
theorem dX12_isLot_9 : decode cX12_isLot 9 = .ok (.lsub, 1) := by decide +kernel
theorem dX12_isLot_10 : decode cX12_isLot 10 = .ok (.invokestatic 164, 3) := by decide +kernel
theorem dX12_isLot_13 : decode cX12_isLot 13 = .ok (.ireturn, 1) := by decide +kernel
set_option maxRecDepth 20000 in
theorem ggX12_isTable_X12_in : GoodIn wsX12_isTable wsX12_in := goodIn_r _ [5] (by decide +kernel) (by decide +kernel)
set_option maxRecDepth 20000 in
theorem gX12_isTable_X12_in : GoodIn wsX12_isTable (va_wsS RX12 164 yX12_in wsX12_in) := goodIn_app (goodIn_of _ (by decide +kernel)) ggX12_isTable_X12_in
theorem dX12_isTable_0 : decode cX12_isTable 0 = .ok (.iload_n 1, 1) := by decide +kernel
theorem dX12_isTable_1 : decode cX12_isTable 1 = .ok (.i2l, 1) := by decide +kernel
theorem dX12_isTable_2 : decode cX12_isTable 2 = .ok (.lconst 0, 1) := by decide +kernel
theorem dX12_isTable_3 : decode cX12_isTable 3 = .ok (.aload_n 0, 1) := by decide +kernel
theorem dX12_isTable_4 : decode cX12_isTable 4 = .ok (.getfield 171, 3) := by decide +kernel
theorem dX12_isTable_7 : decode cX12_isTable 7 = .ok (.i2l, 1) := by decide +kernel
theorem dX12_isTable_8 : decode cX12_isTable 8 = .ok (.lconst 1, 1) := by decide +kernel
theorem dX12_isTable_9 : decode cX12_isTable 9 = .ok (.lsub, 1) := by decide +kernel
theorem dX12_isTable_10 : decode cX12_isTable 10 = .ok (.invokestatic 164, 3) := by decide +kernel
theorem dX12_isTable_13 : decode cX12_isTable 13 = .ok (.ireturn, 1) := by decide +kernel
set_option maxRecDepth 20000 in
theorem ggX12_isFamily_X12_in : GoodIn wsX12_isFamily wsX12_in := goodIn_r _ [5] (by decide +kernel) (by decide +kernel)
set_option maxRecDepth 20000 in
theorem gX12_isFamily_X12_in : GoodIn wsX12_isFamily (va_wsS RX12 164 yX12_in wsX12_in) := goodIn_app (goodIn_of _ (by decide +kernel)) ggX12_isFamily_X12_in
theorem dX12_isFamily_0 : decode cX12_isFamily 0 = .ok (.iload_n 1, 1) := by decide +kernel
theorem dX12_isFamily_1 : decode cX12_isFamily 1 = .ok (.i2l, 1) := by decide +kernel
theorem dX12_isFamily_2 : decode cX12_isFamily 2 = .ok (.lconst 0, 1) := by decide +kernel
theorem dX12_isFamily_3 : decode cX12_isFamily 3 = .ok (.aload_n 0, 1) := by decide +kernel
theorem dX12_isFamily_4 : decode cX12_isFamily 4 = .ok (.getfield 174, 3) := by decide +kernel
theorem dX12_isFamily_7 : decode cX12_isFamily 7 = .ok (.i2l, 1) := by decide +kernel
theorem dX12_isFamily_8 : decode cX12_isFamily 8 = .ok (.lconst 1, 1) := by decide +kernel
theorem dX12_isFamily_9 : decode cX12_isFamily 9 = .ok (.lsub, 1) := by decide +kernel
theorem dX12_isFamily_10 : decode cX12_isFamily 10 = .ok (.invokestatic 164, 3) := by decide +kernel
theorem dX12_isFamily_13 : decode cX12_isFamily 13 = .ok (.ireturn, 1) := by decide +kernel
set_option maxRecDepth 20000 in
theorem ggX12_contents_X12_isKind : GoodIn wsX12_contents wsX12_isKind := goodIn_r _ [7, 8, 9, 10, 6, 11] (by decide +kernel) (by decide +kernel)
set_option maxRecDepth 20000 in
theorem gX12_contents_X12_isKind : GoodIn wsX12_contents (va_wsS RX12 177 yX12_isKind wsX12_isKind) := goodIn_app (goodIn_of _ (by decide +kernel)) ggX12_contents_X12_isKind
set_option maxRecDepth 20000 in
theorem ggX12_contents_X12_in : GoodIn wsX12_contents wsX12_in := goodIn_r _ [11] (by decide +kernel) (by decide +kernel)
set_option maxRecDepth 20000 in
theorem gX12_contents_X12_in : GoodIn wsX12_contents (va_wsS RX12 164 yX12_in wsX12_in) := goodIn_app (goodIn_of _ (by decide +kernel)) ggX12_contents_X12_in
set_option maxRecDepth 20000 in
theorem ggX12_contents_X12_told : GoodIn wsX12_contents wsX12_told := goodIn_r _ [15, 16, 17, 18, 19, 20, 21, 22, 23, 24, 25, 26, 27, 28, 29, 30, 31, 32, 33, 34, 35, 36, 37, 38, 39, 40, 41, 42, 43, 44, 45, 46, 47, 48, 49, 50, 51, 52, 53, 54, 55, 56, 57, 58, 59, 60, 61, 62, 63, 64, 65, 66, 67, 68, 69, 70, 71, 72, 73, 74, 75, 76, 77, 78, 79, 80, 81, 82, 83, 84, 85] (by decide +kernel) (by decide +kernel)
set_option maxRecDepth 20000 in
theorem gX12_contents_X12_told : GoodIn wsX12_contents (wsV RX12 183 RX12 yX12_told wsX12_told) := goodIn_app (goodIn_of _ (by decide +kernel)) ggX12_contents_X12_told
theorem dX12_contents_0 : decode cX12_contents 0 = .ok (.aload_n 0, 1) := by decide +kernel
theorem dX12_contents_1 : decode cX12_contents 1 = .ok (.iconst 0, 1) := by decide +kernel
theorem dX12_contents_2 : decode cX12_contents 2 = .ok (.putfield 156, 3) := by decide +kernel
theorem dX12_contents_5 : decode cX12_contents 5 = .ok (.iload_n 1, 1) := by decide +kernel
theorem dX12_contents_6 : decode cX12_contents 6 = .ok (.invokestatic 177, 3) := by decide +kernel
theorem dX12_contents_9 : decode cX12_contents 9 = .ok (.ifCond .eq 15, 3) := by decide +kernel
theorem dX12_contents_12 : decode cX12_contents 12 = .ok (.iload_n 2, 1) := by decide +kernel
theorem dX12_contents_13 : decode cX12_contents 13 = .ok (.i2l, 1) := by decide +kernel
theorem dX12_contents_14 : decode cX12_contents 14 = .ok (.lconst 0, 1) := by decide +kernel
theorem dX12_contents_15 : decode cX12_contents 15 = .ok (.ldc2_w 181, 3) := by decide +kernel
theorem dX12_contents_18 : decode cX12_contents 18 = .ok (.invokestatic 164, 3) := by decide +kernel
theorem dX12_contents_21 : decode cX12_contents 21 = .ok (.ifCond .ne 9, 3) := by decide +kernel
theorem dX12_contents_24 : decode cX12_contents 24 = .ok (.aload_n 0, 1) := by decide +kernel
theorem dX12_contents_25 : decode cX12_contents 25 = .ok (.iconst (-1), 1) := by decide +kernel
theorem dX12_contents_26 : decode cX12_contents 26 = .ok (.invokevirtual 183, 3) := by decide +kernel
theorem dX12_contents_29 : decode cX12_contents 29 = .ok (.ireturn, 1) := by decide +kernel
theorem dX12_contents_30 : decode cX12_contents 30 = .ok (.aload_n 0, 1) := by decide +kernel
theorem dX12_contents_31 : decode cX12_contents 31 = .ok (.getfield 7, 3) := by decide +kernel
theorem dX12_contents_34 : decode cX12_contents 34 = .ok (.iload_n 1, 1) := by decide +kernel
theorem dX12_contents_35 : decode cX12_contents 35 = .ok (.iload_n 2, 1) := by decide +kernel
theorem dX12_contents_36 : decode cX12_contents 36 = .ok (.iastore, 1) := by decide +kernel
theorem dX12_contents_37 : decode cX12_contents 37 = .ok (.aload_n 0, 1) := by decide +kernel
theorem dX12_contents_38 : decode cX12_contents 38 = .ok (.iconst 0, 1) := by decide +kernel
theorem dX12_contents_39 : decode cX12_contents 39 = .ok (.invokevirtual 183, 3) := by decide +kernel
theorem dX12_contents_42 : decode cX12_contents 42 = .ok (.ireturn, 1) := by decide +kernel
set_option maxRecDepth 20000 in
theorem ggX12_gift_X12_isKind : GoodIn wsX12_gift wsX12_isKind := goodIn_r _ [15, 16, 17, 18, 14, 19] (by decide +kernel) (by decide +kernel)
set_option maxRecDepth 20000 in
theorem gX12_gift_X12_isKind : GoodIn wsX12_gift (va_wsS RX12 177 yX12_isKind wsX12_isKind) := goodIn_app (goodIn_of _ (by decide +kernel)) ggX12_gift_X12_isKind
set_option maxRecDepth 20000 in
theorem ggX12_gift_X12_in : GoodIn wsX12_gift wsX12_in := goodIn_r _ [19] (by decide +kernel) (by decide +kernel)
set_option maxRecDepth 20000 in
theorem gX12_gift_X12_in : GoodIn wsX12_gift (va_wsS RX12 164 yX12_in wsX12_in) := goodIn_app (goodIn_of _ (by decide +kernel)) ggX12_gift_X12_in
set_option maxRecDepth 20000 in
theorem ggX12_gift_X12_told : GoodIn wsX12_gift wsX12_told := goodIn_r _ [23, 24, 25, 26, 27, 28, 29, 30, 31, 32, 33, 34, 35, 36, 37, 38, 39, 40, 41, 42, 43, 44, 45, 46, 47, 48, 49, 50, 51, 52, 53, 54, 55, 56, 57, 58, 59, 60, 61, 62, 63, 64, 65, 66, 67, 68, 69, 70, 71, 72, 73, 74, 75, 76, 77, 78, 79, 80, 81, 82, 83, 84, 85, 86, 87, 88, 89, 90, 91, 92, 93] (by decide +kernel) (by decide +kernel)
set_option maxRecDepth 20000 in
theorem gX12_gift_X12_told : GoodIn wsX12_gift (wsV RX12 183 RX12 yX12_told wsX12_told) := goodIn_app (goodIn_of _ (by decide +kernel)) ggX12_gift_X12_told
theorem dX12_gift_0 : decode cX12_gift 0 = .ok (.aload_n 0, 1) := by decide +kernel
theorem dX12_gift_1 : decode cX12_gift 1 = .ok (.iconst 0, 1) := by decide +kernel
theorem dX12_gift_2 : decode cX12_gift 2 = .ok (.putfield 156, 3) := by decide +kernel
theorem dX12_gift_5 : decode cX12_gift 5 = .ok (.iload_n 1, 1) := by decide +kernel
theorem dX12_gift_6 : decode cX12_gift 6 = .ok (.invokestatic 177, 3) := by decide +kernel
theorem dX12_gift_9 : decode cX12_gift 9 = .ok (.ifCond .eq 44, 3) := by decide +kernel
theorem dX12_gift_12 : decode cX12_gift 12 = .ok (.iload_n 2, 1) := by decide +kernel
theorem dX12_gift_13 : decode cX12_gift 13 = .ok (.i2l, 1) := by decide +kernel
theorem dX12_gift_14 : decode cX12_gift 14 = .ok (.lconst 1, 1) := by decide +kernel
theorem dX12_gift_15 : decode cX12_gift 15 = .ok (.ldc2_w 187, 3) := by decide +kernel
theorem dX12_gift_18 : decode cX12_gift 18 = .ok (.invokestatic 164, 3) := by decide +kernel
theorem dX12_gift_21 : decode cX12_gift 21 = .ok (.ifCond .eq 32, 3) := by decide +kernel
theorem dX12_gift_24 : decode cX12_gift 24 = .ok (.iload_n 3, 1) := by decide +kernel
theorem dX12_gift_25 : decode cX12_gift 25 = .ok (.i2l, 1) := by decide +kernel
theorem dX12_gift_26 : decode cX12_gift 26 = .ok (.aload_n 0, 1) := by decide +kernel
theorem dX12_gift_27 : decode cX12_gift 27 = .ok (.getfield 189, 3) := by decide +kernel
theorem dX12_gift_30 : decode cX12_gift 30 = .ok (.i2l, 1) := by decide +kernel
theorem dX12_gift_31 : decode cX12_gift 31 = .ok (.ldc2_w 192, 3) := by decide +kernel
theorem dX12_gift_34 : decode cX12_gift 34 = .ok (.invokestatic 164, 3) := by decide +kernel
theorem dX12_gift_37 : decode cX12_gift 37 = .ok (.ifCond .eq 16, 3) := by decide +kernel
theorem dX12_gift_40 : decode cX12_gift 40 = .ok (.iload 4, 2) := by decide +kernel
theorem dX12_gift_42 : decode cX12_gift 42 = .ok (.i2l, 1) := by decide +kernel
theorem dX12_gift_43 : decode cX12_gift 43 = .ok (.lconst 0, 1) := by decide +kernel
theorem dX12_gift_44 : decode cX12_gift 44 = .ok (.ldc2_w 194, 3) := by decide +kernel
theorem dX12_gift_47 : decode cX12_gift 47 = .ok (.invokestatic 164, 3) := by decide +kernel
theorem dX12_gift_50 : decode cX12_gift 50 = .ok (.ifCond .ne 9, 3) := by decide +kernel
theorem dX12_gift_53 : decode cX12_gift 53 = .ok (.aload_n 0, 1) := by decide +kernel
theorem dX12_gift_54 : decode cX12_gift 54 = .ok (.iconst (-1), 1) := by decide +kernel
theorem dX12_gift_55 : decode cX12_gift 55 = .ok (.invokevirtual 183, 3) := by decide +kernel
theorem dX12_gift_58 : decode cX12_gift 58 = .ok (.ireturn, 1) := by decide +kernel
theorem dX12_gift_59 : decode cX12_gift 59 = .ok (.aload_n 0, 1) := by decide +kernel
theorem dX12_gift_60 : decode cX12_gift 60 = .ok (.getfield 168, 3) := by decide +kernel
theorem dX12_gift_63 : decode cX12_gift 63 = .ok (.sipush 200, 3) := by decide +kernel
theorem dX12_gift_66 : decode cX12_gift 66 = .ok (.if_icmp .ne 10, 3) := by decide +kernel
theorem dX12_gift_69 : decode cX12_gift 69 = .ok (.aload_n 0, 1) := by decide +kernel
theorem dX12_gift_70 : decode cX12_gift 70 = .ok (.bipush (-5), 2) := by decide +kernel
theorem dX12_gift_72 : decode cX12_gift 72 = .ok (.invokevirtual 183, 3) := by decide +kernel
theorem dX12_gift_75 : decode cX12_gift 75 = .ok (.ireturn, 1) := by decide +kernel
theorem dX12_gift_76 : decode cX12_gift 76 = .ok (.aload_n 0, 1) := by decide +kernel
theorem dX12_gift_77 : decode cX12_gift 77 = .ok (.getfield 13, 3) := by decide +kernel
theorem dX12_gift_80 : decode cX12_gift 80 = .ok (.aload_n 0, 1) := by decide +kernel
theorem dX12_gift_81 : decode cX12_gift 81 = .ok (.getfield 168, 3) := by decide +kernel
theorem dX12_gift_84 : decode cX12_gift 84 = .ok (.iload_n 1, 1) := by decide +kernel
theorem dX12_gift_85 : decode cX12_gift 85 = .ok (.iastore, 1) := by decide +kernel
theorem dX12_gift_86 : decode cX12_gift 86 = .ok (.aload_n 0, 1) := by decide +kernel
theorem dX12_gift_87 : decode cX12_gift 87 = .ok (.getfield 16, 3) := by decide +kernel
theorem dX12_gift_90 : decode cX12_gift 90 = .ok (.aload_n 0, 1) := by decide +kernel
theorem dX12_gift_91 : decode cX12_gift 91 = .ok (.getfield 168, 3) := by decide +kernel
theorem dX12_gift_94 : decode cX12_gift 94 = .ok (.iload_n 2, 1) := by decide +kernel
theorem dX12_gift_95 : decode cX12_gift 95 = .ok (.iastore, 1) := by decide +kernel
theorem dX12_gift_96 : decode cX12_gift 96 = .ok (.aload_n 0, 1) := by decide +kernel
theorem dX12_gift_97 : decode cX12_gift 97 = .ok (.getfield 19, 3) := by decide +kernel
theorem dX12_gift_100 : decode cX12_gift 100 = .ok (.aload_n 0, 1) := by decide +kernel
theorem dX12_gift_101 : decode cX12_gift 101 = .ok (.getfield 168, 3) := by decide +kernel
theorem dX12_gift_104 : decode cX12_gift 104 = .ok (.iload_n 3, 1) := by decide +kernel
theorem dX12_gift_105 : decode cX12_gift 105 = .ok (.iastore, 1) := by decide +kernel
theorem dX12_gift_106 : decode cX12_gift 106 = .ok (.aload_n 0, 1) := by decide +kernel
theorem dX12_gift_107 : decode cX12_gift 107 = .ok (.getfield 22, 3) := by decide +kernel
theorem dX12_gift_110 : decode cX12_gift 110 = .ok (.aload_n 0, 1) := by decide +kernel
theorem dX12_gift_111 : decode cX12_gift 111 = .ok (.getfield 168, 3) := by decide +kernel
theorem dX12_gift_114 : decode cX12_gift 114 = .ok (.iload 4, 2) := by decide +kernel
theorem dX12_gift_116 : decode cX12_gift 116 = .ok (.iastore, 1) := by decide +kernel
theorem dX12_gift_117 : decode cX12_gift 117 = .ok (.aload_n 0, 1) := by decide +kernel
theorem dX12_gift_118 : decode cX12_gift 118 = .ok (.getfield 25, 3) := by decide +kernel
theorem dX12_gift_121 : decode cX12_gift 121 = .ok (.aload_n 0, 1) := by decide +kernel
theorem dX12_gift_122 : decode cX12_gift 122 = .ok (.getfield 168, 3) := by decide +kernel
theorem dX12_gift_125 : decode cX12_gift 125 = .ok (.iload_n 2, 1) := by decide +kernel
theorem dX12_gift_126 : decode cX12_gift 126 = .ok (.iastore, 1) := by decide +kernel
theorem dX12_gift_127 : decode cX12_gift 127 = .ok (.aload_n 0, 1) := by decide +kernel
theorem dX12_gift_128 : decode cX12_gift 128 = .ok (.dup, 1) := by decide +kernel
theorem dX12_gift_129 : decode cX12_gift 129 = .ok (.getfield 168, 3) := by decide +kernel
theorem dX12_gift_132 : decode cX12_gift 132 = .ok (.iconst 1, 1) := by decide +kernel
theorem dX12_gift_133 : decode cX12_gift 133 = .ok (.iadd, 1) := by decide +kernel
theorem dX12_gift_134 : decode cX12_gift 134 = .ok (.putfield 168, 3) := by decide +kernel
theorem dX12_gift_137 : decode cX12_gift 137 = .ok (.aload_n 0, 1) := by decide +kernel
theorem dX12_gift_138 : decode cX12_gift 138 = .ok (.aload_n 0, 1) := by decide +kernel
theorem dX12_gift_139 : decode cX12_gift 139 = .ok (.getfield 168, 3) := by decide +kernel
theorem dX12_gift_142 : decode cX12_gift 142 = .ok (.iconst 1, 1) := by decide +kernel
theorem dX12_gift_143 : decode cX12_gift 143 = .ok (.isub, 1) := by decide +kernel
theorem dX12_gift_144 : decode cX12_gift 144 = .ok (.invokevirtual 183, 3) := by decide +kernel
theorem dX12_gift_147 : decode cX12_gift 147 = .ok (.ireturn, 1) := by decide +kernel
set_option maxRecDepth 20000 in
theorem ggX12_lot_X12_isLot : GoodIn wsX12_lot wsX12_isLot := goodIn_r _ [14, 15, 16, 17, 13, 18, 19, 20, 21, 22, 23, 24, 25, 26, 27, 28, 29, 30, 31, 32, 33, 34, 35, 36, 37, 38, 39, 40, 41, 42, 43, 44, 45, 46, 47, 48, 49, 50, 51, 52, 53, 54, 55, 56, 57, 58, 59, 60, 61, 62, 63, 64, 65, 66, 67, 68, 69, 70, 71, 72, 73, 74, 75, 76, 77, 78, 79, 80, 81, 82, 83, 84, 85, 86, 87] (by decide +kernel) (by decide +kernel)
set_option maxRecDepth 20000 in
theorem gX12_lot_X12_isLot : GoodIn wsX12_lot (wsV RX12 196 RX12 yX12_isLot wsX12_isLot) := goodIn_app (goodIn_of _ (by decide +kernel)) ggX12_lot_X12_isLot
theorem dX12_lot_0 : decode cX12_lot 0 = .ok (.aload_n 0, 1) := by decide +kernel
theorem dX12_lot_1 : decode cX12_lot 1 = .ok (.iconst 0, 1) := by decide +kernel
theorem dX12_lot_2 : decode cX12_lot 2 = .ok (.putfield 156, 3) := by decide +kernel
theorem dX12_lot_5 : decode cX12_lot 5 = .ok (.aload_n 0, 1) := by decide +kernel
theorem dX12_lot_6 : decode cX12_lot 6 = .ok (.iload_n 1, 1) := by decide +kernel
theorem dX12_lot_7 : decode cX12_lot 7 = .ok (.invokevirtual 196, 3) := by decide +kernel
theorem dX12_lot_10 : decode cX12_lot 10 = .ok (.ifCond .ne 5, 3) := by decide +kernel
theorem dX12_lot_13 : decode cX12_lot 13 = .ok (.iconst (-1), 1) := by decide +kernel
theorem dX12_lot_14 : decode cX12_lot 14 = .ok (.ireturn, 1) := by decide +kernel
theorem dX12_lot_15 : decode cX12_lot 15 = .ok (.iload_n 2, 1) := by decide +kernel
theorem dX12_lot_16 : decode cX12_lot 16 = .ok (.tableswitch 104 0 7 #[48, 55, 62, 69, 76, 83, 90, 97], 48) := by decide +kernel
theorem dX12_lot_64 : decode cX12_lot 64 = .ok (.aload_n 0, 1) := by decide +kernel
theorem dX12_lot_65 : decode cX12_lot 65 = .ok (.getfield 13, 3) := by decide +kernel
theorem dX12_lot_68 : decode cX12_lot 68 = .ok (.iload_n 1, 1) := by decide +kernel
theorem dX12_lot_69 : decode cX12_lot 69 = .ok (.iaload, 1) := by decide +kernel
theorem dX12_lot_70 : decode cX12_lot 70 = .ok (.ireturn, 1) := by decide +kernel
theorem dX12_lot_71 : decode cX12_lot 71 = .ok (.aload_n 0, 1) := by decide +kernel
theorem dX12_lot_72 : decode cX12_lot 72 = .ok (.getfield 16, 3) := by decide +kernel
theorem dX12_lot_75 : decode cX12_lot 75 = .ok (.iload_n 1, 1) := by decide +kernel
theorem dX12_lot_76 : decode cX12_lot 76 = .ok (.iaload, 1) := by decide +kernel
theorem dX12_lot_77 : decode cX12_lot 77 = .ok (.ireturn, 1) := by decide +kernel
theorem dX12_lot_78 : decode cX12_lot 78 = .ok (.aload_n 0, 1) := by decide +kernel
theorem dX12_lot_79 : decode cX12_lot 79 = .ok (.getfield 19, 3) := by decide +kernel
theorem dX12_lot_82 : decode cX12_lot 82 = .ok (.iload_n 1, 1) := by decide +kernel
theorem dX12_lot_83 : decode cX12_lot 83 = .ok (.iaload, 1) := by decide +kernel
theorem dX12_lot_84 : decode cX12_lot 84 = .ok (.ireturn, 1) := by decide +kernel
theorem dX12_lot_85 : decode cX12_lot 85 = .ok (.aload_n 0, 1) := by decide +kernel
theorem dX12_lot_86 : decode cX12_lot 86 = .ok (.getfield 22, 3) := by decide +kernel
theorem dX12_lot_89 : decode cX12_lot 89 = .ok (.iload_n 1, 1) := by decide +kernel
theorem dX12_lot_90 : decode cX12_lot 90 = .ok (.iaload, 1) := by decide +kernel
theorem dX12_lot_91 : decode cX12_lot 91 = .ok (.ireturn, 1) := by decide +kernel
theorem dX12_lot_92 : decode cX12_lot 92 = .ok (.aload_n 0, 1) := by decide +kernel
theorem dX12_lot_93 : decode cX12_lot 93 = .ok (.getfield 25, 3) := by decide +kernel
theorem dX12_lot_96 : decode cX12_lot 96 = .ok (.iload_n 1, 1) := by decide +kernel
theorem dX12_lot_97 : decode cX12_lot 97 = .ok (.iaload, 1) := by decide +kernel
theorem dX12_lot_98 : decode cX12_lot 98 = .ok (.ireturn, 1) := by decide +kernel
theorem dX12_lot_99 : decode cX12_lot 99 = .ok (.aload_n 0, 1) := by decide +kernel
theorem dX12_lot_100 : decode cX12_lot 100 = .ok (.getfield 28, 3) := by decide +kernel
theorem dX12_lot_103 : decode cX12_lot 103 = .ok (.iload_n 1, 1) := by decide +kernel
theorem dX12_lot_104 : decode cX12_lot 104 = .ok (.iaload, 1) := by decide +kernel
theorem dX12_lot_105 : decode cX12_lot 105 = .ok (.ireturn, 1) := by decide +kernel
theorem dX12_lot_106 : decode cX12_lot 106 = .ok (.aload_n 0, 1) := by decide +kernel
theorem dX12_lot_107 : decode cX12_lot 107 = .ok (.getfield 31, 3) := by decide +kernel
theorem dX12_lot_110 : decode cX12_lot 110 = .ok (.iload_n 1, 1) := by decide +kernel
theorem dX12_lot_111 : decode cX12_lot 111 = .ok (.iaload, 1) := by decide +kernel
theorem dX12_lot_112 : decode cX12_lot 112 = .ok (.ireturn, 1) := by decide +kernel
theorem dX12_lot_113 : decode cX12_lot 113 = .ok (.aload_n 0, 1) := by decide +kernel
theorem dX12_lot_114 : decode cX12_lot 114 = .ok (.getfield 34, 3) := by decide +kernel
theorem dX12_lot_117 : decode cX12_lot 117 = .ok (.iload_n 1, 1) := by decide +kernel
theorem dX12_lot_118 : decode cX12_lot 118 = .ok (.iaload, 1) := by decide +kernel
theorem dX12_lot_119 : decode cX12_lot 119 = .ok (.ireturn, 1) := by decide +kernel
theorem dX12_lot_120 : decode cX12_lot 120 = .ok (.iconst (-1), 1) := by decide +kernel
theorem dX12_lot_121 : decode cX12_lot 121 = .ok (.ireturn, 1) := by decide +kernel
set_option maxRecDepth 20000 in
theorem ggX12_table_X12_told : GoodIn wsX12_table wsX12_told := goodIn_r _ [7, 8, 9, 10, 11, 12, 13, 14, 15, 16, 17, 18, 19, 20, 21, 22, 23, 24, 25, 26, 27, 28, 29, 30, 31, 32, 33, 34, 35, 36, 37, 38, 39, 40, 41, 42, 43, 44, 45, 46, 47, 48, 49, 50, 51, 52, 53, 54, 55, 56, 57, 58, 59, 60, 61, 62, 63, 64, 65, 66, 67, 68, 69, 70, 71, 72, 73, 74, 75, 76, 77] (by decide +kernel) (by decide +kernel)
set_option maxRecDepth 20000 in
theorem gX12_table_X12_told : GoodIn wsX12_table (wsV RX12 183 RX12 yX12_told wsX12_told) := goodIn_app (goodIn_of _ (by decide +kernel)) ggX12_table_X12_told
theorem dX12_table_0 : decode cX12_table 0 = .ok (.aload_n 0, 1) := by decide +kernel
theorem dX12_table_1 : decode cX12_table 1 = .ok (.iconst 0, 1) := by decide +kernel
theorem dX12_table_2 : decode cX12_table 2 = .ok (.putfield 156, 3) := by decide +kernel
theorem dX12_table_5 : decode cX12_table 5 = .ok (.aload_n 0, 1) := by decide +kernel
theorem dX12_table_6 : decode cX12_table 6 = .ok (.getfield 171, 3) := by decide +kernel
theorem dX12_table_9 : decode cX12_table 9 = .ok (.bipush 12, 2) := by decide +kernel
theorem dX12_table_11 : decode cX12_table 11 = .ok (.if_icmp .ne 10, 3) := by decide +kernel
theorem dX12_table_14 : decode cX12_table 14 = .ok (.aload_n 0, 1) := by decide +kernel
theorem dX12_table_15 : decode cX12_table 15 = .ok (.bipush (-5), 2) := by decide +kernel
theorem dX12_table_17 : decode cX12_table 17 = .ok (.invokevirtual 183, 3) := by decide +kernel
theorem dX12_table_20 : decode cX12_table 20 = .ok (.ireturn, 1) := by decide +kernel
theorem dX12_table_21 : decode cX12_table 21 = .ok (.aload_n 0, 1) := by decide +kernel
theorem dX12_table_22 : decode cX12_table 22 = .ok (.dup, 1) := by decide +kernel
theorem dX12_table_23 : decode cX12_table 23 = .ok (.getfield 171, 3) := by decide +kernel
theorem dX12_table_26 : decode cX12_table 26 = .ok (.iconst 1, 1) := by decide +kernel
theorem dX12_table_27 : decode cX12_table 27 = .ok (.iadd, 1) := by decide +kernel
theorem dX12_table_28 : decode cX12_table 28 = .ok (.putfield 171, 3) := by decide +kernel
theorem dX12_table_31 : decode cX12_table 31 = .ok (.aload_n 0, 1) := by decide +kernel
theorem dX12_table_32 : decode cX12_table 32 = .ok (.aload_n 0, 1) := by decide +kernel
theorem dX12_table_33 : decode cX12_table 33 = .ok (.getfield 171, 3) := by decide +kernel
theorem dX12_table_36 : decode cX12_table 36 = .ok (.iconst 1, 1) := by decide +kernel
theorem dX12_table_37 : decode cX12_table 37 = .ok (.isub, 1) := by decide +kernel
theorem dX12_table_38 : decode cX12_table 38 = .ok (.invokevirtual 183, 3) := by decide +kernel
theorem dX12_table_41 : decode cX12_table 41 = .ok (.ireturn, 1) := by decide +kernel
set_option maxRecDepth 20000 in
theorem ggX12_family_X12_in : GoodIn wsX12_family wsX12_in := goodIn_r _ [11] (by decide +kernel) (by decide +kernel)
set_option maxRecDepth 20000 in
theorem gX12_family_X12_in : GoodIn wsX12_family (va_wsS RX12 164 yX12_in wsX12_in) := goodIn_app (goodIn_of _ (by decide +kernel)) ggX12_family_X12_in
set_option maxRecDepth 20000 in
theorem ggX12_family_X12_told : GoodIn wsX12_family wsX12_told := goodIn_r _ [15, 16, 22, 23, 24, 25, 26, 27, 28, 29, 30, 31, 32, 33, 34, 35, 36, 37, 38, 39, 40, 41, 42, 43, 44, 45, 46, 47, 48, 49, 50, 51, 52, 53, 54, 55, 56, 57, 58, 59, 60, 61, 62, 63, 64, 65, 66, 67, 68, 69, 70, 71, 72, 73, 74, 75, 76, 77, 78, 79, 80, 81, 82, 83, 84, 85, 86, 87, 88, 89, 90] (by decide +kernel) (by decide +kernel)
set_option maxRecDepth 20000 in
theorem gX12_family_X12_told : GoodIn wsX12_family (wsV RX12 183 RX12 yX12_told wsX12_told) := goodIn_app (goodIn_of _ (by decide +kernel)) ggX12_family_X12_told
set_option maxRecDepth 20000 in
theorem ggX12_family_X12_isTable : GoodIn wsX12_family wsX12_isTable := goodIn_r _ [20, 21, 8, 9, 10, 11, 22, 23, 24, 25, 26, 27, 28, 29, 30, 31, 32, 33, 34, 35, 36, 37, 38, 39, 40, 41, 42, 43, 44, 45, 46, 47, 48, 49, 50, 51, 52, 53, 54, 55, 56, 57, 58, 59, 60, 61, 62, 63, 64, 65, 66, 67, 68, 69, 70, 71, 72, 73, 74, 75, 76, 77, 78, 79, 80, 81, 82, 83, 84, 85, 86, 87, 88, 89, 90] (by decide +kernel) (by decide +kernel)
set_option maxRecDepth 20000 in
theorem gX12_family_X12_isTable : GoodIn wsX12_family (wsV RX12 201 RX12 yX12_isTable wsX12_isTable) := goodIn_app (goodIn_of _ (by decide +kernel)) ggX12_family_X12_isTable
theorem dX12_family_0 : decode cX12_family 0 = .ok (.aload_n 0, 1) := by decide +kernel
theorem dX12_family_1 : decode cX12_family 1 = .ok (.iconst 0, 1) := by decide +kernel
theorem dX12_family_2 : decode cX12_family 2 = .ok (.putfield 156, 3) := by decide +kernel
theorem dX12_family_5 : decode cX12_family 5 = .ok (.iload_n 2, 1) := by decide +kernel
theorem dX12_family_6 : decode cX12_family 6 = .ok (.i2l, 1) := by decide +kernel
theorem dX12_family_7 : decode cX12_family 7 = .ok (.lconst 1, 1) := by decide +kernel
theorem dX12_family_8 : decode cX12_family 8 = .ok (.ldc2_w 199, 3) := by decide +kernel
theorem dX12_family_11 : decode cX12_family 11 = .ok (.invokestatic 164, 3) := by decide +kernel
theorem dX12_family_14 : decode cX12_family 14 = .ok (.ifCond .eq 15, 3) := by decide +kernel
theorem dX12_family_17 : decode cX12_family 17 = .ok (.iload_n 3, 1) := by decide +kernel
theorem dX12_family_18 : decode cX12_family 18 = .ok (.i2l, 1) := by decide +kernel
theorem dX12_family_19 : decode cX12_family 19 = .ok (.lconst 0, 1) := by decide +kernel
theorem dX12_family_20 : decode cX12_family 20 = .ok (.ldc2_w 181, 3) := by decide +kernel
theorem dX12_family_23 : decode cX12_family 23 = .ok (.invokestatic 164, 3) := by decide +kernel
theorem dX12_family_26 : decode cX12_family 26 = .ok (.ifCond .ne 9, 3) := by decide +kernel
theorem dX12_family_29 : decode cX12_family 29 = .ok (.aload_n 0, 1) := by decide +kernel
theorem dX12_family_30 : decode cX12_family 30 = .ok (.iconst (-1), 1) := by decide +kernel
theorem dX12_family_31 : decode cX12_family 31 = .ok (.invokevirtual 183, 3) := by decide +kernel
theorem dX12_family_34 : decode cX12_family 34 = .ok (.ireturn, 1) := by decide +kernel
theorem dX12_family_35 : decode cX12_family 35 = .ok (.aload_n 0, 1) := by decide +kernel
theorem dX12_family_36 : decode cX12_family 36 = .ok (.iload_n 1, 1) := by decide +kernel
theorem dX12_family_37 : decode cX12_family 37 = .ok (.invokevirtual 201, 3) := by decide +kernel
theorem dX12_family_40 : decode cX12_family 40 = .ok (.ifCond .ne 10, 3) := by decide +kernel
theorem dX12_family_43 : decode cX12_family 43 = .ok (.aload_n 0, 1) := by decide +kernel
theorem dX12_family_44 : decode cX12_family 44 = .ok (.bipush (-2), 2) := by decide +kernel
theorem dX12_family_46 : decode cX12_family 46 = .ok (.invokevirtual 183, 3) := by decide +kernel
theorem dX12_family_49 : decode cX12_family 49 = .ok (.ireturn, 1) := by decide +kernel
theorem dX12_family_50 : decode cX12_family 50 = .ok (.aload_n 0, 1) := by decide +kernel
theorem dX12_family_51 : decode cX12_family 51 = .ok (.getfield 174, 3) := by decide +kernel
theorem dX12_family_54 : decode cX12_family 54 = .ok (.bipush 40, 2) := by decide +kernel
theorem dX12_family_56 : decode cX12_family 56 = .ok (.if_icmp .ne 10, 3) := by decide +kernel
theorem dX12_family_59 : decode cX12_family 59 = .ok (.aload_n 0, 1) := by decide +kernel
theorem dX12_family_60 : decode cX12_family 60 = .ok (.bipush (-5), 2) := by decide +kernel
theorem dX12_family_62 : decode cX12_family 62 = .ok (.invokevirtual 183, 3) := by decide +kernel
theorem dX12_family_65 : decode cX12_family 65 = .ok (.ireturn, 1) := by decide +kernel
theorem dX12_family_66 : decode cX12_family 66 = .ok (.aload_n 0, 1) := by decide +kernel
theorem dX12_family_67 : decode cX12_family 67 = .ok (.getfield 44, 3) := by decide +kernel
theorem dX12_family_70 : decode cX12_family 70 = .ok (.aload_n 0, 1) := by decide +kernel
theorem dX12_family_71 : decode cX12_family 71 = .ok (.getfield 174, 3) := by decide +kernel
theorem dX12_family_74 : decode cX12_family 74 = .ok (.iload_n 1, 1) := by decide +kernel
theorem dX12_family_75 : decode cX12_family 75 = .ok (.iastore, 1) := by decide +kernel
theorem dX12_family_76 : decode cX12_family 76 = .ok (.aload_n 0, 1) := by decide +kernel
theorem dX12_family_77 : decode cX12_family 77 = .ok (.getfield 47, 3) := by decide +kernel
theorem dX12_family_80 : decode cX12_family 80 = .ok (.aload_n 0, 1) := by decide +kernel
theorem dX12_family_81 : decode cX12_family 81 = .ok (.getfield 174, 3) := by decide +kernel
theorem dX12_family_84 : decode cX12_family 84 = .ok (.iload_n 2, 1) := by decide +kernel
theorem dX12_family_85 : decode cX12_family 85 = .ok (.iastore, 1) := by decide +kernel
theorem dX12_family_86 : decode cX12_family 86 = .ok (.aload_n 0, 1) := by decide +kernel
theorem dX12_family_87 : decode cX12_family 87 = .ok (.getfield 50, 3) := by decide +kernel
theorem dX12_family_90 : decode cX12_family 90 = .ok (.aload_n 0, 1) := by decide +kernel
theorem dX12_family_91 : decode cX12_family 91 = .ok (.getfield 174, 3) := by decide +kernel
theorem dX12_family_94 : decode cX12_family 94 = .ok (.iload_n 3, 1) := by decide +kernel
theorem dX12_family_95 : decode cX12_family 95 = .ok (.iastore, 1) := by decide +kernel
theorem dX12_family_96 : decode cX12_family 96 = .ok (.aload_n 0, 1) := by decide +kernel
theorem dX12_family_97 : decode cX12_family 97 = .ok (.dup, 1) := by decide +kernel
theorem dX12_family_98 : decode cX12_family 98 = .ok (.getfield 174, 3) := by decide +kernel
theorem dX12_family_101 : decode cX12_family 101 = .ok (.iconst 1, 1) := by decide +kernel
theorem dX12_family_102 : decode cX12_family 102 = .ok (.iadd, 1) := by decide +kernel
theorem dX12_family_103 : decode cX12_family 103 = .ok (.putfield 174, 3) := by decide +kernel
theorem dX12_family_106 : decode cX12_family 106 = .ok (.aload_n 0, 1) := by decide +kernel
theorem dX12_family_107 : decode cX12_family 107 = .ok (.aload_n 0, 1) := by decide +kernel
theorem dX12_family_108 : decode cX12_family 108 = .ok (.getfield 174, 3) := by decide +kernel
theorem dX12_family_111 : decode cX12_family 111 = .ok (.iconst 1, 1) := by decide +kernel
theorem dX12_family_112 : decode cX12_family 112 = .ok (.isub, 1) := by decide +kernel
theorem dX12_family_113 : decode cX12_family 113 = .ok (.invokevirtual 183, 3) := by decide +kernel
theorem dX12_family_116 : decode cX12_family 116 = .ok (.ireturn, 1) := by decide +kernel
set_option maxRecDepth 20000 in
theorem ggX12_refer_X12_in : GoodIn wsX12_refer wsX12_in := goodIn_r _ [12] (by decide +kernel) (by decide +kernel)
set_option maxRecDepth 20000 in
theorem gX12_refer_X12_in : GoodIn wsX12_refer (va_wsS RX12 164 yX12_in wsX12_in) := goodIn_app (goodIn_of _ (by decide +kernel)) ggX12_refer_X12_in
set_option maxRecDepth 20000 in
theorem ggX12_refer_X12_told : GoodIn wsX12_refer wsX12_told := goodIn_r _ [16, 17, 23, 24, 25, 26, 27, 28, 29, 30, 31, 32, 33, 34, 35, 36, 37, 38, 39, 40, 41, 42, 43, 44, 45, 46, 47, 48, 49, 50, 51, 52, 53, 54, 55, 56, 57, 58, 59, 60, 61, 62, 63, 64, 65, 66, 67, 68, 69, 70, 71, 72, 73, 74, 75, 76, 77, 78, 79, 80, 81, 82, 83, 84, 85, 86, 87, 88, 89, 90, 91] (by decide +kernel) (by decide +kernel)
set_option maxRecDepth 20000 in
theorem gX12_refer_X12_told : GoodIn wsX12_refer (wsV RX12 183 RX12 yX12_told wsX12_told) := goodIn_app (goodIn_of _ (by decide +kernel)) ggX12_refer_X12_told
set_option maxRecDepth 20000 in
theorem ggX12_refer_X12_isFamily : GoodIn wsX12_refer wsX12_isFamily := goodIn_r _ [21, 22, 9, 10, 11, 12, 23, 24, 25, 26, 27, 28, 29, 30, 31, 32, 33, 34, 35, 36, 37, 38, 39, 40, 41, 42, 43, 44, 45, 46, 47, 48, 49, 50, 51, 52, 53, 54, 55, 56, 57, 58, 59, 60, 61, 62, 63, 64, 65, 66, 67, 68, 69, 70, 71, 72, 73, 74, 75, 76, 77, 78, 79, 80, 81, 82, 83, 84, 85, 86, 87, 88, 89, 90, 91] (by decide +kernel) (by decide +kernel)
set_option maxRecDepth 20000 in
theorem gX12_refer_X12_isFamily : GoodIn wsX12_refer (wsV RX12 206 RX12 yX12_isFamily wsX12_isFamily) := goodIn_app (goodIn_of _ (by decide +kernel)) ggX12_refer_X12_isFamily
theorem dX12_refer_0 : decode cX12_refer 0 = .ok (.aload_n 0, 1) := by decide +kernel
theorem dX12_refer_1 : decode cX12_refer 1 = .ok (.iconst 0, 1) := by decide +kernel
theorem dX12_refer_2 : decode cX12_refer 2 = .ok (.putfield 156, 3) := by decide +kernel
theorem dX12_refer_5 : decode cX12_refer 5 = .ok (.iload_n 2, 1) := by decide +kernel
theorem dX12_refer_6 : decode cX12_refer 6 = .ok (.i2l, 1) := by decide +kernel
theorem dX12_refer_7 : decode cX12_refer 7 = .ok (.lconst 0, 1) := by decide +kernel
theorem dX12_refer_8 : decode cX12_refer 8 = .ok (.ldc2_w 192, 3) := by decide +kernel
theorem dX12_refer_11 : decode cX12_refer 11 = .ok (.invokestatic 164, 3) := by decide +kernel
theorem dX12_refer_14 : decode cX12_refer 14 = .ok (.ifCond .eq 29, 3) := by decide +kernel
theorem dX12_refer_17 : decode cX12_refer 17 = .ok (.iload_n 3, 1) := by decide +kernel
theorem dX12_refer_18 : decode cX12_refer 18 = .ok (.i2l, 1) := by decide +kernel
theorem dX12_refer_19 : decode cX12_refer 19 = .ok (.iload_n 2, 1) := by decide +kernel
theorem dX12_refer_20 : decode cX12_refer 20 = .ok (.i2l, 1) := by decide +kernel
theorem dX12_refer_21 : decode cX12_refer 21 = .ok (.ldc2_w 192, 3) := by decide +kernel
theorem dX12_refer_24 : decode cX12_refer 24 = .ok (.invokestatic 164, 3) := by decide +kernel
theorem dX12_refer_27 : decode cX12_refer 27 = .ok (.ifCond .eq 16, 3) := by decide +kernel
theorem dX12_refer_30 : decode cX12_refer 30 = .ok (.iload 4, 2) := by decide +kernel
theorem dX12_refer_32 : decode cX12_refer 32 = .ok (.i2l, 1) := by decide +kernel
theorem dX12_refer_33 : decode cX12_refer 33 = .ok (.lconst 1, 1) := by decide +kernel
theorem dX12_refer_34 : decode cX12_refer 34 = .ok (.ldc2_w 204, 3) := by decide +kernel
theorem dX12_refer_37 : decode cX12_refer 37 = .ok (.invokestatic 164, 3) := by decide +kernel
theorem dX12_refer_40 : decode cX12_refer 40 = .ok (.ifCond .ne 9, 3) := by decide +kernel
theorem dX12_refer_43 : decode cX12_refer 43 = .ok (.aload_n 0, 1) := by decide +kernel
theorem dX12_refer_44 : decode cX12_refer 44 = .ok (.iconst (-1), 1) := by decide +kernel
theorem dX12_refer_45 : decode cX12_refer 45 = .ok (.invokevirtual 183, 3) := by decide +kernel
theorem dX12_refer_48 : decode cX12_refer 48 = .ok (.ireturn, 1) := by decide +kernel
theorem dX12_refer_49 : decode cX12_refer 49 = .ok (.aload_n 0, 1) := by decide +kernel
theorem dX12_refer_50 : decode cX12_refer 50 = .ok (.iload_n 1, 1) := by decide +kernel
theorem dX12_refer_51 : decode cX12_refer 51 = .ok (.invokevirtual 206, 3) := by decide +kernel
theorem dX12_refer_54 : decode cX12_refer 54 = .ok (.ifCond .ne 10, 3) := by decide +kernel
theorem dX12_refer_57 : decode cX12_refer 57 = .ok (.aload_n 0, 1) := by decide +kernel
theorem dX12_refer_58 : decode cX12_refer 58 = .ok (.bipush (-2), 2) := by decide +kernel
theorem dX12_refer_60 : decode cX12_refer 60 = .ok (.invokevirtual 183, 3) := by decide +kernel
theorem dX12_refer_63 : decode cX12_refer 63 = .ok (.ireturn, 1) := by decide +kernel
theorem dX12_refer_64 : decode cX12_refer 64 = .ok (.aload_n 0, 1) := by decide +kernel
theorem dX12_refer_65 : decode cX12_refer 65 = .ok (.getfield 209, 3) := by decide +kernel
theorem dX12_refer_68 : decode cX12_refer 68 = .ok (.bipush 100, 2) := by decide +kernel
theorem dX12_refer_70 : decode cX12_refer 70 = .ok (.if_icmp .ne 10, 3) := by decide +kernel
theorem dX12_refer_73 : decode cX12_refer 73 = .ok (.aload_n 0, 1) := by decide +kernel
theorem dX12_refer_74 : decode cX12_refer 74 = .ok (.bipush (-5), 2) := by decide +kernel
theorem dX12_refer_76 : decode cX12_refer 76 = .ok (.invokevirtual 183, 3) := by decide +kernel
theorem dX12_refer_79 : decode cX12_refer 79 = .ok (.ireturn, 1) := by decide +kernel
theorem dX12_refer_80 : decode cX12_refer 80 = .ok (.aload_n 0, 1) := by decide +kernel
theorem dX12_refer_81 : decode cX12_refer 81 = .ok (.getfield 53, 3) := by decide +kernel
theorem dX12_refer_84 : decode cX12_refer 84 = .ok (.aload_n 0, 1) := by decide +kernel
theorem dX12_refer_85 : decode cX12_refer 85 = .ok (.getfield 209, 3) := by decide +kernel
theorem dX12_refer_88 : decode cX12_refer 88 = .ok (.iload_n 1, 1) := by decide +kernel
theorem dX12_refer_89 : decode cX12_refer 89 = .ok (.iastore, 1) := by decide +kernel
theorem dX12_refer_90 : decode cX12_refer 90 = .ok (.aload_n 0, 1) := by decide +kernel
theorem dX12_refer_91 : decode cX12_refer 91 = .ok (.getfield 56, 3) := by decide +kernel
theorem dX12_refer_94 : decode cX12_refer 94 = .ok (.aload_n 0, 1) := by decide +kernel
theorem dX12_refer_95 : decode cX12_refer 95 = .ok (.getfield 209, 3) := by decide +kernel
theorem dX12_refer_98 : decode cX12_refer 98 = .ok (.iload_n 2, 1) := by decide +kernel
theorem dX12_refer_99 : decode cX12_refer 99 = .ok (.iastore, 1) := by decide +kernel
theorem dX12_refer_100 : decode cX12_refer 100 = .ok (.aload_n 0, 1) := by decide +kernel
theorem dX12_refer_101 : decode cX12_refer 101 = .ok (.getfield 59, 3) := by decide +kernel
theorem dX12_refer_104 : decode cX12_refer 104 = .ok (.aload_n 0, 1) := by decide +kernel
theorem dX12_refer_105 : decode cX12_refer 105 = .ok (.getfield 209, 3) := by decide +kernel
theorem dX12_refer_108 : decode cX12_refer 108 = .ok (.iload_n 3, 1) := by decide +kernel
theorem dX12_refer_109 : decode cX12_refer 109 = .ok (.iastore, 1) := by decide +kernel
theorem dX12_refer_110 : decode cX12_refer 110 = .ok (.aload_n 0, 1) := by decide +kernel
theorem dX12_refer_111 : decode cX12_refer 111 = .ok (.getfield 62, 3) := by decide +kernel
theorem dX12_refer_114 : decode cX12_refer 114 = .ok (.aload_n 0, 1) := by decide +kernel
theorem dX12_refer_115 : decode cX12_refer 115 = .ok (.getfield 209, 3) := by decide +kernel
theorem dX12_refer_118 : decode cX12_refer 118 = .ok (.iload 4, 2) := by decide +kernel
theorem dX12_refer_120 : decode cX12_refer 120 = .ok (.iastore, 1) := by decide +kernel
theorem dX12_refer_121 : decode cX12_refer 121 = .ok (.aload_n 0, 1) := by decide +kernel
theorem dX12_refer_122 : decode cX12_refer 122 = .ok (.dup, 1) := by decide +kernel
theorem dX12_refer_123 : decode cX12_refer 123 = .ok (.getfield 209, 3) := by decide +kernel
theorem dX12_refer_126 : decode cX12_refer 126 = .ok (.iconst 1, 1) := by decide +kernel
theorem dX12_refer_127 : decode cX12_refer 127 = .ok (.iadd, 1) := by decide +kernel
theorem dX12_refer_128 : decode cX12_refer 128 = .ok (.putfield 209, 3) := by decide +kernel
theorem dX12_refer_131 : decode cX12_refer 131 = .ok (.aload_n 0, 1) := by decide +kernel
theorem dX12_refer_132 : decode cX12_refer 132 = .ok (.aload_n 0, 1) := by decide +kernel
theorem dX12_refer_133 : decode cX12_refer 133 = .ok (.getfield 209, 3) := by decide +kernel
theorem dX12_refer_136 : decode cX12_refer 136 = .ok (.invokevirtual 183, 3) := by decide +kernel
theorem dX12_refer_139 : decode cX12_refer 139 = .ok (.ireturn, 1) := by decide +kernel
set_option maxRecDepth 20000 in
theorem ggX12_lets_X12_in : GoodIn wsX12_lets wsX12_in := goodIn_r _ [8] (by decide +kernel) (by decide +kernel)
set_option maxRecDepth 20000 in
theorem gX12_lets_X12_in : GoodIn wsX12_lets (va_wsS RX12 164 yX12_in wsX12_in) := goodIn_app (goodIn_of _ (by decide +kernel)) ggX12_lets_X12_in
theorem dX12_lets_0 : decode cX12_lets 0 = .ok (.aload_n 0, 1) := by decide +kernel
theorem dX12_lets_1 : decode cX12_lets 1 = .ok (.getfield 53, 3) := by decide +kernel
theorem dX12_lets_4 : decode cX12_lets 4 = .ok (.iload_n 1, 1) := by decide +kernel
theorem dX12_lets_5 : decode cX12_lets 5 = .ok (.iaload, 1) := by decide +kernel
theorem dX12_lets_6 : decode cX12_lets 6 = .ok (.iload_n 2, 1) := by decide +kernel
theorem dX12_lets_7 : decode cX12_lets 7 = .ok (.if_icmp .ne 38, 3) := by decide +kernel
theorem dX12_lets_10 : decode cX12_lets 10 = .ok (.iload_n 3, 1) := by decide +kernel
theorem dX12_lets_11 : decode cX12_lets 11 = .ok (.i2l, 1) := by decide +kernel
theorem dX12_lets_12 : decode cX12_lets 12 = .ok (.aload_n 0, 1) := by decide +kernel
theorem dX12_lets_13 : decode cX12_lets 13 = .ok (.getfield 56, 3) := by decide +kernel
theorem dX12_lets_16 : decode cX12_lets 16 = .ok (.iload_n 1, 1) := by decide +kernel
theorem dX12_lets_17 : decode cX12_lets 17 = .ok (.iaload, 1) := by decide +kernel
theorem dX12_lets_18 : decode cX12_lets 18 = .ok (.i2l, 1) := by decide +kernel
theorem dX12_lets_19 : decode cX12_lets 19 = .ok (.aload_n 0, 1) := by decide +kernel
theorem dX12_lets_20 : decode cX12_lets 20 = .ok (.getfield 59, 3) := by decide +kernel
theorem dX12_lets_23 : decode cX12_lets 23 = .ok (.iload_n 1, 1) := by decide +kernel
theorem dX12_lets_24 : decode cX12_lets 24 = .ok (.iaload, 1) := by decide +kernel
theorem dX12_lets_25 : decode cX12_lets 25 = .ok (.i2l, 1) := by decide +kernel
theorem dX12_lets_26 : decode cX12_lets 26 = .ok (.invokestatic 164, 3) := by decide +kernel
theorem dX12_lets_29 : decode cX12_lets 29 = .ok (.ifCond .eq 16, 3) := by decide +kernel
theorem dX12_lets_32 : decode cX12_lets 32 = .ok (.aload_n 0, 1) := by decide +kernel
theorem dX12_lets_33 : decode cX12_lets 33 = .ok (.getfield 62, 3) := by decide +kernel
theorem dX12_lets_36 : decode cX12_lets 36 = .ok (.iload_n 1, 1) := by decide +kernel
theorem dX12_lets_37 : decode cX12_lets 37 = .ok (.iaload, 1) := by decide +kernel
theorem dX12_lets_38 : decode cX12_lets 38 = .ok (.ifCond .le 7, 3) := by decide +kernel
theorem dX12_lets_41 : decode cX12_lets 41 = .ok (.iconst 1, 1) := by decide +kernel
theorem dX12_lets_42 : decode cX12_lets 42 = .ok (.goto 4, 3) := by decide +kernel
theorem dX12_lets_45 : decode cX12_lets 45 = .ok (.iconst 0, 1) := by decide +kernel
theorem dX12_lets_46 : decode cX12_lets 46 = .ok (.ireturn, 1) := by decide +kernel
set_option maxRecDepth 20000 in
theorem ggX12_allowed_X12_isFamily : GoodIn wsX12_allowed wsX12_isFamily := goodIn_r _ [9, 10, 11, 12, 8, 13, 21, 22, 23, 24, 25, 26, 27, 28, 29, 30, 31, 32, 33, 34, 35, 36, 37, 38, 39, 40, 41, 42, 43, 44, 45, 46, 47, 48, 49, 50, 51, 52, 53, 54, 55, 56, 57, 58, 59, 60, 61, 62, 63, 64, 65, 66, 67, 68, 69, 70, 71, 72, 73, 74, 75, 76, 77, 78, 79, 80, 81, 82, 83, 84, 85, 86, 87, 88, 89] (by decide +kernel) (by decide +kernel)
set_option maxRecDepth 20000 in
theorem gX12_allowed_X12_isFamily : GoodIn wsX12_allowed (wsV RX12 206 RX12 yX12_isFamily wsX12_isFamily) := goodIn_app (goodIn_of _ (by decide +kernel)) ggX12_allowed_X12_isFamily
set_option maxRecDepth 20000 in
theorem ggX12_allowed_X12_in : GoodIn wsX12_allowed wsX12_in := goodIn_r _ [13] (by decide +kernel) (by decide +kernel)
set_option maxRecDepth 20000 in
theorem gX12_allowed_X12_in : GoodIn wsX12_allowed (va_wsS RX12 164 yX12_in wsX12_in) := goodIn_app (goodIn_of _ (by decide +kernel)) ggX12_allowed_X12_in
set_option maxRecDepth 20000 in
theorem ggX12_allowed_X12_lets : GoodIn wsX12_allowed wsX12_lets := goodIn_r _ [17, 18, 19, 20, 4, 11, 12, 8, 13, 21, 22, 23, 24, 25, 26, 27, 28, 29, 30, 31, 32, 33, 34, 35, 36, 37, 38, 39, 40, 41, 42, 43, 44, 45, 46, 47, 48, 49, 50, 51, 52, 53, 54, 55, 56, 57, 58, 59, 60, 61, 62, 63, 64, 65, 66, 67, 68, 69, 70, 71, 72, 73, 74, 75, 76, 77, 78, 79, 80, 81, 82, 83, 84, 85, 86, 87, 88, 89] (by decide +kernel) (by decide +kernel)
set_option maxRecDepth 20000 in
theorem gX12_allowed_X12_lets : GoodIn wsX12_allowed (wsV RX12 212 RX12 yX12_lets wsX12_lets) := goodIn_app (goodIn_of _ (by decide +kernel)) ggX12_allowed_X12_lets
theorem dX12_allowed_0 : decode cX12_allowed 0 = .ok (.aload_n 0, 1) := by decide +kernel
theorem dX12_allowed_1 : decode cX12_allowed 1 = .ok (.iconst 0, 1) := by decide +kernel
theorem dX12_allowed_2 : decode cX12_allowed 2 = .ok (.putfield 156, 3) := by decide +kernel
theorem dX12_allowed_5 : decode cX12_allowed 5 = .ok (.aload_n 0, 1) := by decide +kernel
theorem dX12_allowed_6 : decode cX12_allowed 6 = .ok (.iload_n 1, 1) := by decide +kernel
theorem dX12_allowed_7 : decode cX12_allowed 7 = .ok (.invokevirtual 206, 3) := by decide +kernel
theorem dX12_allowed_10 : decode cX12_allowed 10 = .ok (.ifCond .eq 15, 3) := by decide +kernel
theorem dX12_allowed_13 : decode cX12_allowed 13 = .ok (.iload_n 2, 1) := by decide +kernel
theorem dX12_allowed_14 : decode cX12_allowed 14 = .ok (.i2l, 1) := by decide +kernel
theorem dX12_allowed_15 : decode cX12_allowed 15 = .ok (.lconst 0, 1) := by decide +kernel
theorem dX12_allowed_16 : decode cX12_allowed 16 = .ok (.ldc2_w 192, 3) := by decide +kernel
theorem dX12_allowed_19 : decode cX12_allowed 19 = .ok (.invokestatic 164, 3) := by decide +kernel
theorem dX12_allowed_22 : decode cX12_allowed 22 = .ok (.ifCond .ne 5, 3) := by decide +kernel
theorem dX12_allowed_25 : decode cX12_allowed 25 = .ok (.iconst (-1), 1) := by decide +kernel
theorem dX12_allowed_26 : decode cX12_allowed 26 = .ok (.ireturn, 1) := by decide +kernel
theorem dX12_allowed_27 : decode cX12_allowed 27 = .ok (.iconst 0, 1) := by decide +kernel
theorem dX12_allowed_28 : decode cX12_allowed 28 = .ok (.istore_n 3, 1) := by decide +kernel
theorem dX12_allowed_29 : decode cX12_allowed 29 = .ok (.iconst 0, 1) := by decide +kernel
theorem dX12_allowed_30 : decode cX12_allowed 30 = .ok (.istore 4, 2) := by decide +kernel
theorem dX12_allowed_32 : decode cX12_allowed 32 = .ok (.iload 4, 2) := by decide +kernel
theorem dX12_allowed_34 : decode cX12_allowed 34 = .ok (.aload_n 0, 1) := by decide +kernel
theorem dX12_allowed_35 : decode cX12_allowed 35 = .ok (.getfield 209, 3) := by decide +kernel
theorem dX12_allowed_38 : decode cX12_allowed 38 = .ok (.if_icmp .ge 34, 3) := by decide +kernel
theorem dX12_allowed_41 : decode cX12_allowed 41 = .ok (.iload_n 3, 1) := by decide +kernel
theorem dX12_allowed_42 : decode cX12_allowed 42 = .ok (.aload_n 0, 1) := by decide +kernel
theorem dX12_allowed_43 : decode cX12_allowed 43 = .ok (.iload 4, 2) := by decide +kernel
theorem dX12_allowed_45 : decode cX12_allowed 45 = .ok (.iload_n 1, 1) := by decide +kernel
theorem dX12_allowed_46 : decode cX12_allowed 46 = .ok (.iload_n 2, 1) := by decide +kernel
theorem dX12_allowed_47 : decode cX12_allowed 47 = .ok (.invokevirtual 212, 3) := by decide +kernel
theorem dX12_allowed_50 : decode cX12_allowed 50 = .ok (.ifCond .eq 13, 3) := by decide +kernel
theorem dX12_allowed_53 : decode cX12_allowed 53 = .ok (.aload_n 0, 1) := by decide +kernel
theorem dX12_allowed_54 : decode cX12_allowed 54 = .ok (.getfield 62, 3) := by decide +kernel
theorem dX12_allowed_57 : decode cX12_allowed 57 = .ok (.iload 4, 2) := by decide +kernel
theorem dX12_allowed_59 : decode cX12_allowed 59 = .ok (.iaload, 1) := by decide +kernel
theorem dX12_allowed_60 : decode cX12_allowed 60 = .ok (.goto 4, 3) := by decide +kernel
theorem dX12_allowed_63 : decode cX12_allowed 63 = .ok (.iconst 0, 1) := by decide +kernel
theorem dX12_allowed_64 : decode cX12_allowed 64 = .ok (.iadd, 1) := by decide +kernel
theorem dX12_allowed_65 : decode cX12_allowed 65 = .ok (.istore_n 3, 1) := by decide +kernel
theorem dX12_allowed_66 : decode cX12_allowed 66 = .ok (.iinc 4 1, 3) := by decide +kernel
theorem dX12_allowed_69 : decode cX12_allowed 69 = .ok (.goto (-37), 3) := by decide +kernel
theorem dX12_allowed_72 : decode cX12_allowed 72 = .ok (.iload_n 3, 1) := by decide +kernel
theorem dX12_allowed_73 : decode cX12_allowed 73 = .ok (.ireturn, 1) := by decide +kernel
theorem dX12_needOf_0 : decode cX12_needOf 0 = .ok (.iconst 0, 1) := by decide +kernel
theorem dX12_needOf_1 : decode cX12_needOf 1 = .ok (.istore_n 3, 1) := by decide +kernel
theorem dX12_needOf_2 : decode cX12_needOf 2 = .ok (.iconst 0, 1) := by decide +kernel
theorem dX12_needOf_3 : decode cX12_needOf 3 = .ok (.istore 4, 2) := by decide +kernel
theorem dX12_needOf_5 : decode cX12_needOf 5 = .ok (.iload 4, 2) := by decide +kernel
theorem dX12_needOf_7 : decode cX12_needOf 7 = .ok (.aload_n 0, 1) := by decide +kernel
theorem dX12_needOf_8 : decode cX12_needOf 8 = .ok (.getfield 216, 3) := by decide +kernel
theorem dX12_needOf_11 : decode cX12_needOf 11 = .ok (.if_icmp .ge 67, 3) := by decide +kernel
theorem dX12_needOf_14 : decode cX12_needOf 14 = .ok (.iload_n 3, 1) := by decide +kernel
theorem dX12_needOf_15 : decode cX12_needOf 15 = .ok (.aload_n 0, 1) := by decide +kernel
theorem dX12_needOf_16 : decode cX12_needOf 16 = .ok (.getfield 65, 3) := by decide +kernel
theorem dX12_needOf_19 : decode cX12_needOf 19 = .ok (.iload 4, 2) := by decide +kernel
theorem dX12_needOf_21 : decode cX12_needOf 21 = .ok (.iaload, 1) := by decide +kernel
theorem dX12_needOf_22 : decode cX12_needOf 22 = .ok (.ifCond .ne 47, 3) := by decide +kernel
theorem dX12_needOf_25 : decode cX12_needOf 25 = .ok (.aload_n 0, 1) := by decide +kernel
theorem dX12_needOf_26 : decode cX12_needOf 26 = .ok (.getfield 68, 3) := by decide +kernel
theorem dX12_needOf_29 : decode cX12_needOf 29 = .ok (.iload 4, 2) := by decide +kernel
theorem dX12_needOf_31 : decode cX12_needOf 31 = .ok (.iaload, 1) := by decide +kernel
theorem dX12_needOf_32 : decode cX12_needOf 32 = .ok (.iload_n 2, 1) := by decide +kernel
theorem dX12_needOf_33 : decode cX12_needOf 33 = .ok (.if_icmp .ne 36, 3) := by decide +kernel
theorem dX12_needOf_36 : decode cX12_needOf 36 = .ok (.aload_n 0, 1) := by decide +kernel
theorem dX12_needOf_37 : decode cX12_needOf 37 = .ok (.getfield 47, 3) := by decide +kernel
theorem dX12_needOf_40 : decode cX12_needOf 40 = .ok (.iload_n 1, 1) := by decide +kernel
theorem dX12_needOf_41 : decode cX12_needOf 41 = .ok (.iaload, 1) := by decide +kernel
theorem dX12_needOf_42 : decode cX12_needOf 42 = .ok (.aload_n 0, 1) := by decide +kernel
theorem dX12_needOf_43 : decode cX12_needOf 43 = .ok (.getfield 74, 3) := by decide +kernel
theorem dX12_needOf_46 : decode cX12_needOf 46 = .ok (.iload 4, 2) := by decide +kernel
theorem dX12_needOf_48 : decode cX12_needOf 48 = .ok (.iaload, 1) := by decide +kernel
theorem dX12_needOf_49 : decode cX12_needOf 49 = .ok (.if_icmp .le 20, 3) := by decide +kernel
theorem dX12_needOf_52 : decode cX12_needOf 52 = .ok (.aload_n 0, 1) := by decide +kernel
theorem dX12_needOf_53 : decode cX12_needOf 53 = .ok (.getfield 71, 3) := by decide +kernel
theorem dX12_needOf_56 : decode cX12_needOf 56 = .ok (.iload 4, 2) := by decide +kernel
theorem dX12_needOf_58 : decode cX12_needOf 58 = .ok (.iaload, 1) := by decide +kernel
theorem dX12_needOf_59 : decode cX12_needOf 59 = .ok (.aload_n 0, 1) := by decide +kernel
theorem dX12_needOf_60 : decode cX12_needOf 60 = .ok (.getfield 47, 3) := by decide +kernel
theorem dX12_needOf_63 : decode cX12_needOf 63 = .ok (.iload_n 1, 1) := by decide +kernel
theorem dX12_needOf_64 : decode cX12_needOf 64 = .ok (.iaload, 1) := by decide +kernel
theorem dX12_needOf_65 : decode cX12_needOf 65 = .ok (.imul, 1) := by decide +kernel
theorem dX12_needOf_66 : decode cX12_needOf 66 = .ok (.goto 4, 3) := by decide +kernel
theorem dX12_needOf_69 : decode cX12_needOf 69 = .ok (.iconst 0, 1) := by decide +kernel
theorem dX12_needOf_70 : decode cX12_needOf 70 = .ok (.iadd, 1) := by decide +kernel
theorem dX12_needOf_71 : decode cX12_needOf 71 = .ok (.istore_n 3, 1) := by decide +kernel
theorem dX12_needOf_72 : decode cX12_needOf 72 = .ok (.iinc 4 1, 3) := by decide +kernel
theorem dX12_needOf_75 : decode cX12_needOf 75 = .ok (.goto (-70), 3) := by decide +kernel
theorem dX12_needOf_78 : decode cX12_needOf 78 = .ok (.iload_n 3, 1) := by decide +kernel
theorem dX12_needOf_79 : decode cX12_needOf 79 = .ok (.ireturn, 1) := by decide +kernel
set_option maxRecDepth 20000 in
theorem ggX12_need_X12_isFamily : GoodIn wsX12_need wsX12_isFamily := goodIn_r _ [6, 7, 8, 9, 5, 10, 25, 26, 27, 28, 29, 30, 31, 32, 33, 34, 35, 36, 37, 38, 39, 40, 41, 42, 43, 44, 45, 46, 47, 48, 49, 50, 51, 52, 53, 54, 55, 56, 57, 58, 59, 60, 61, 62, 63, 64, 65, 66, 67, 68, 69, 70, 71, 72, 73, 74, 75, 76, 77, 78, 79, 80, 81, 82, 83, 84, 85, 86, 87, 88, 89, 90, 91, 92, 93] (by decide +kernel) (by decide +kernel)
set_option maxRecDepth 20000 in
theorem gX12_need_X12_isFamily : GoodIn wsX12_need (wsV RX12 206 RX12 yX12_isFamily wsX12_isFamily) := goodIn_app (goodIn_of _ (by decide +kernel)) ggX12_need_X12_isFamily
set_option maxRecDepth 20000 in
theorem ggX12_need_X12_isKind : GoodIn wsX12_need wsX12_isKind := goodIn_r _ [13, 14, 8, 9, 5, 10] (by decide +kernel) (by decide +kernel)
set_option maxRecDepth 20000 in
theorem gX12_need_X12_isKind : GoodIn wsX12_need (va_wsS RX12 177 yX12_isKind wsX12_isKind) := goodIn_app (goodIn_of _ (by decide +kernel)) ggX12_need_X12_isKind
set_option maxRecDepth 20000 in
theorem ggX12_need_X12_needOf : GoodIn wsX12_need wsX12_needOf := goodIn_r _ [18, 19, 20, 21, 22, 23, 24, 25, 26, 27, 28, 29, 30, 31, 32, 33, 34, 35, 36, 37, 38, 39, 40, 41, 42, 43, 44, 45, 46, 47, 48, 49, 50, 51, 52, 53, 54, 55, 56, 57, 58, 59, 60, 61, 62, 63, 64, 65, 66, 67, 68, 69, 70, 71, 72, 73, 74, 75, 76, 77, 78, 79, 80, 81, 82, 83, 84, 85, 86, 87, 88, 89, 90, 91, 92, 93] (by decide +kernel) (by decide +kernel)
set_option maxRecDepth 20000 in
theorem gX12_need_X12_needOf : GoodIn wsX12_need (wsV RX12 219 RX12 yX12_needOf wsX12_needOf) := goodIn_app (goodIn_of _ (by decide +kernel)) ggX12_need_X12_needOf
theorem dX12_need_0 : decode cX12_need 0 = .ok (.aload_n 0, 1) := by decide +kernel
theorem dX12_need_1 : decode cX12_need 1 = .ok (.iconst 0, 1) := by decide +kernel
theorem dX12_need_2 : decode cX12_need 2 = .ok (.putfield 156, 3) := by decide +kernel
theorem dX12_need_5 : decode cX12_need 5 = .ok (.aload_n 0, 1) := by decide +kernel
theorem dX12_need_6 : decode cX12_need 6 = .ok (.iload_n 1, 1) := by decide +kernel
theorem dX12_need_7 : decode cX12_need 7 = .ok (.invokevirtual 206, 3) := by decide +kernel
theorem dX12_need_10 : decode cX12_need 10 = .ok (.ifCond .eq 19, 3) := by decide +kernel
theorem dX12_need_13 : decode cX12_need 13 = .ok (.iload_n 2, 1) := by decide +kernel
theorem dX12_need_14 : decode cX12_need 14 = .ok (.invokestatic 177, 3) := by decide +kernel
theorem dX12_need_17 : decode cX12_need 17 = .ok (.ifCond .eq 12, 3) := by decide +kernel
theorem dX12_need_20 : decode cX12_need 20 = .ok (.aload_n 0, 1) := by decide +kernel
theorem dX12_need_21 : decode cX12_need 21 = .ok (.iload_n 1, 1) := by decide +kernel
theorem dX12_need_22 : decode cX12_need 22 = .ok (.iload_n 2, 1) := by decide +kernel
theorem dX12_need_23 : decode cX12_need 23 = .ok (.invokevirtual 219, 3) := by decide +kernel
theorem dX12_need_26 : decode cX12_need 26 = .ok (.goto 4, 3) := by decide +kernel
theorem dX12_need_29 : decode cX12_need 29 = .ok (.iconst (-1), 1) := by decide +kernel
theorem dX12_need_30 : decode cX12_need 30 = .ok (.ireturn, 1) := by decide +kernel
theorem dX12_sparedOf_0 : decode cX12_sparedOf 0 = .ok (.iconst 0, 1) := by decide +kernel
theorem dX12_sparedOf_1 : decode cX12_sparedOf 1 = .ok (.istore_n 2, 1) := by decide +kernel
theorem dX12_sparedOf_2 : decode cX12_sparedOf 2 = .ok (.iconst 0, 1) := by decide +kernel
theorem dX12_sparedOf_3 : decode cX12_sparedOf 3 = .ok (.istore_n 3, 1) := by decide +kernel
theorem dX12_sparedOf_4 : decode cX12_sparedOf 4 = .ok (.iload_n 3, 1) := by decide +kernel
theorem dX12_sparedOf_5 : decode cX12_sparedOf 5 = .ok (.aload_n 0, 1) := by decide +kernel
theorem dX12_sparedOf_6 : decode cX12_sparedOf 6 = .ok (.getfield 216, 3) := by decide +kernel
theorem dX12_sparedOf_9 : decode cX12_sparedOf 9 = .ok (.if_icmp .ge 50, 3) := by decide +kernel
theorem dX12_sparedOf_12 : decode cX12_sparedOf 12 = .ok (.aload_n 0, 1) := by decide +kernel
theorem dX12_sparedOf_13 : decode cX12_sparedOf 13 = .ok (.getfield 65, 3) := by decide +kernel
theorem dX12_sparedOf_16 : decode cX12_sparedOf 16 = .ok (.iload_n 3, 1) := by decide +kernel
theorem dX12_sparedOf_17 : decode cX12_sparedOf 17 = .ok (.iaload, 1) := by decide +kernel
theorem dX12_sparedOf_18 : decode cX12_sparedOf 18 = .ok (.iconst 1, 1) := by decide +kernel
theorem dX12_sparedOf_19 : decode cX12_sparedOf 19 = .ok (.if_icmp .ne 32, 3) := by decide +kernel
theorem dX12_sparedOf_22 : decode cX12_sparedOf 22 = .ok (.aload_n 0, 1) := by decide +kernel
theorem dX12_sparedOf_23 : decode cX12_sparedOf 23 = .ok (.getfield 68, 3) := by decide +kernel
theorem dX12_sparedOf_26 : decode cX12_sparedOf 26 = .ok (.iload_n 3, 1) := by decide +kernel
theorem dX12_sparedOf_27 : decode cX12_sparedOf 27 = .ok (.iaload, 1) := by decide +kernel
theorem dX12_sparedOf_28 : decode cX12_sparedOf 28 = .ok (.iload_n 1, 1) := by decide +kernel
theorem dX12_sparedOf_29 : decode cX12_sparedOf 29 = .ok (.if_icmp .ne 22, 3) := by decide +kernel
theorem dX12_sparedOf_32 : decode cX12_sparedOf 32 = .ok (.aload_n 0, 1) := by decide +kernel
theorem dX12_sparedOf_33 : decode cX12_sparedOf 33 = .ok (.getfield 71, 3) := by decide +kernel
theorem dX12_sparedOf_36 : decode cX12_sparedOf 36 = .ok (.iload_n 3, 1) := by decide +kernel
theorem dX12_sparedOf_37 : decode cX12_sparedOf 37 = .ok (.iaload, 1) := by decide +kernel
theorem dX12_sparedOf_38 : decode cX12_sparedOf 38 = .ok (.iload_n 2, 1) := by decide +kernel
theorem dX12_sparedOf_39 : decode cX12_sparedOf 39 = .ok (.if_icmp .le 12, 3) := by decide +kernel
theorem dX12_sparedOf_42 : decode cX12_sparedOf 42 = .ok (.aload_n 0, 1) := by decide +kernel
theorem dX12_sparedOf_43 : decode cX12_sparedOf 43 = .ok (.getfield 71, 3) := by decide +kernel
theorem dX12_sparedOf_46 : decode cX12_sparedOf 46 = .ok (.iload_n 3, 1) := by decide +kernel
theorem dX12_sparedOf_47 : decode cX12_sparedOf 47 = .ok (.iaload, 1) := by decide +kernel
theorem dX12_sparedOf_48 : decode cX12_sparedOf 48 = .ok (.goto 4, 3) := by decide +kernel
theorem dX12_sparedOf_51 : decode cX12_sparedOf 51 = .ok (.iload_n 2, 1) := by decide +kernel
theorem dX12_sparedOf_52 : decode cX12_sparedOf 52 = .ok (.istore_n 2, 1) := by decide +kernel
theorem dX12_sparedOf_53 : decode cX12_sparedOf 53 = .ok (.iinc 3 1, 3) := by decide +kernel
theorem dX12_sparedOf_56 : decode cX12_sparedOf 56 = .ok (.goto (-52), 3) := by decide +kernel
theorem dX12_sparedOf_59 : decode cX12_sparedOf 59 = .ok (.iload_n 2, 1) := by decide +kernel
theorem dX12_sparedOf_60 : decode cX12_sparedOf 60 = .ok (.ireturn, 1) := by decide +kernel
set_option maxRecDepth 20000 in
theorem ggX12_nextOf_X12_sparedOf : GoodIn wsX12_nextOf wsX12_sparedOf := goodIn_r _ [10, 11, 12, 13, 14, 15, 16, 17, 18, 19, 20, 21, 22, 23, 24, 25, 26, 27, 28, 29, 30, 31, 32, 33, 34, 35, 36, 37, 38, 39, 40, 41, 42, 43, 44, 45, 46, 47, 48, 49, 50, 51, 52, 53, 54, 55, 56, 57, 58, 59, 60, 61, 62, 63, 64, 65, 66, 67, 68, 69, 70, 71, 72, 73, 74, 75, 76, 77, 78, 79, 80, 81, 82, 83] (by decide +kernel) (by decide +kernel)
set_option maxRecDepth 20000 in
theorem gX12_nextOf_X12_sparedOf : GoodIn wsX12_nextOf (wsV RX12 223 RX12 yX12_sparedOf wsX12_sparedOf) := goodIn_app (goodIn_of _ (by decide +kernel)) ggX12_nextOf_X12_sparedOf
theorem dX12_nextOf_0 : decode cX12_nextOf 0 = .ok (.aload_n 0, 1) := by decide +kernel
theorem dX12_nextOf_1 : decode cX12_nextOf 1 = .ok (.getfield 189, 3) := by decide +kernel
theorem dX12_nextOf_4 : decode cX12_nextOf 4 = .ok (.aload_n 0, 1) := by decide +kernel
theorem dX12_nextOf_5 : decode cX12_nextOf 5 = .ok (.iload_n 1, 1) := by decide +kernel
theorem dX12_nextOf_6 : decode cX12_nextOf 6 = .ok (.invokevirtual 223, 3) := by decide +kernel
theorem dX12_nextOf_9 : decode cX12_nextOf 9 = .ok (.iadd, 1) := by decide +kernel
theorem dX12_nextOf_10 : decode cX12_nextOf 10 = .ok (.istore_n 2, 1) := by decide +kernel
theorem dX12_nextOf_11 : decode cX12_nextOf 11 = .ok (.iconst (-1), 1) := by decide +kernel
theorem dX12_nextOf_12 : decode cX12_nextOf 12 = .ok (.istore_n 3, 1) := by decide +kernel
theorem dX12_nextOf_13 : decode cX12_nextOf 13 = .ok (.iconst 0, 1) := by decide +kernel
theorem dX12_nextOf_14 : decode cX12_nextOf 14 = .ok (.istore 4, 2) := by decide +kernel
theorem dX12_nextOf_16 : decode cX12_nextOf 16 = .ok (.iload 4, 2) := by decide +kernel
theorem dX12_nextOf_18 : decode cX12_nextOf 18 = .ok (.aload_n 0, 1) := by decide +kernel
theorem dX12_nextOf_19 : decode cX12_nextOf 19 = .ok (.getfield 168, 3) := by decide +kernel
theorem dX12_nextOf_22 : decode cX12_nextOf 22 = .ok (.if_icmp .ge 64, 3) := by decide +kernel
theorem dX12_nextOf_25 : decode cX12_nextOf 25 = .ok (.aload_n 0, 1) := by decide +kernel
theorem dX12_nextOf_26 : decode cX12_nextOf 26 = .ok (.getfield 13, 3) := by decide +kernel
theorem dX12_nextOf_29 : decode cX12_nextOf 29 = .ok (.iload 4, 2) := by decide +kernel
theorem dX12_nextOf_31 : decode cX12_nextOf 31 = .ok (.iaload, 1) := by decide +kernel
theorem dX12_nextOf_32 : decode cX12_nextOf 32 = .ok (.iload_n 1, 1) := by decide +kernel
theorem dX12_nextOf_33 : decode cX12_nextOf 33 = .ok (.if_icmp .ne 47, 3) := by decide +kernel
theorem dX12_nextOf_36 : decode cX12_nextOf 36 = .ok (.aload_n 0, 1) := by decide +kernel
theorem dX12_nextOf_37 : decode cX12_nextOf 37 = .ok (.getfield 25, 3) := by decide +kernel
theorem dX12_nextOf_40 : decode cX12_nextOf 40 = .ok (.iload 4, 2) := by decide +kernel
theorem dX12_nextOf_42 : decode cX12_nextOf 42 = .ok (.iaload, 1) := by decide +kernel
theorem dX12_nextOf_43 : decode cX12_nextOf 43 = .ok (.ifCond .le 37, 3) := by decide +kernel
theorem dX12_nextOf_46 : decode cX12_nextOf 46 = .ok (.aload_n 0, 1) := by decide +kernel
theorem dX12_nextOf_47 : decode cX12_nextOf 47 = .ok (.getfield 19, 3) := by decide +kernel
theorem dX12_nextOf_50 : decode cX12_nextOf 50 = .ok (.iload 4, 2) := by decide +kernel
theorem dX12_nextOf_52 : decode cX12_nextOf 52 = .ok (.iaload, 1) := by decide +kernel
theorem dX12_nextOf_53 : decode cX12_nextOf 53 = .ok (.iload_n 2, 1) := by decide +kernel
theorem dX12_nextOf_54 : decode cX12_nextOf 54 = .ok (.if_icmp .lt 26, 3) := by decide +kernel
theorem dX12_nextOf_57 : decode cX12_nextOf 57 = .ok (.iload_n 3, 1) := by decide +kernel
theorem dX12_nextOf_58 : decode cX12_nextOf 58 = .ok (.ifCond .lt 19, 3) := by decide +kernel
theorem dX12_nextOf_61 : decode cX12_nextOf 61 = .ok (.aload_n 0, 1) := by decide +kernel
theorem dX12_nextOf_62 : decode cX12_nextOf 62 = .ok (.getfield 19, 3) := by decide +kernel
theorem dX12_nextOf_65 : decode cX12_nextOf 65 = .ok (.iload 4, 2) := by decide +kernel
theorem dX12_nextOf_67 : decode cX12_nextOf 67 = .ok (.iaload, 1) := by decide +kernel
theorem dX12_nextOf_68 : decode cX12_nextOf 68 = .ok (.aload_n 0, 1) := by decide +kernel
theorem dX12_nextOf_69 : decode cX12_nextOf 69 = .ok (.getfield 19, 3) := by decide +kernel
theorem dX12_nextOf_72 : decode cX12_nextOf 72 = .ok (.iload_n 3, 1) := by decide +kernel
theorem dX12_nextOf_73 : decode cX12_nextOf 73 = .ok (.iaload, 1) := by decide +kernel
theorem dX12_nextOf_74 : decode cX12_nextOf 74 = .ok (.if_icmp .ge 6, 3) := by decide +kernel
theorem dX12_nextOf_77 : decode cX12_nextOf 77 = .ok (.iload 4, 2) := by decide +kernel
theorem dX12_nextOf_79 : decode cX12_nextOf 79 = .ok (.istore_n 3, 1) := by decide +kernel
theorem dX12_nextOf_80 : decode cX12_nextOf 80 = .ok (.iinc 4 1, 3) := by decide +kernel
theorem dX12_nextOf_83 : decode cX12_nextOf 83 = .ok (.goto (-67), 3) := by decide +kernel
theorem dX12_nextOf_86 : decode cX12_nextOf 86 = .ok (.iload_n 3, 1) := by decide +kernel
theorem dX12_nextOf_87 : decode cX12_nextOf 87 = .ok (.ireturn, 1) := by decide +kernel
theorem dX12_isBarred_0 : decode cX12_isBarred 0 = .ok (.aload_n 0, 1) := by decide +kernel
theorem dX12_isBarred_1 : decode cX12_isBarred 1 = .ok (.getfield 7, 3) := by decide +kernel
theorem dX12_isBarred_4 : decode cX12_isBarred 4 = .ok (.iload_n 2, 1) := by decide +kernel
theorem dX12_isBarred_5 : decode cX12_isBarred 5 = .ok (.iaload, 1) := by decide +kernel
theorem dX12_isBarred_6 : decode cX12_isBarred 6 = .ok (.aload_n 0, 1) := by decide +kernel
theorem dX12_isBarred_7 : decode cX12_isBarred 7 = .ok (.getfield 50, 3) := by decide +kernel
theorem dX12_isBarred_10 : decode cX12_isBarred 10 = .ok (.iload_n 1, 1) := by decide +kernel
theorem dX12_isBarred_11 : decode cX12_isBarred 11 = .ok (.iaload, 1) := by decide +kernel
theorem dX12_isBarred_12 : decode cX12_isBarred 12 = .ok (.iand, 1) := by decide +kernel
theorem dX12_isBarred_13 : decode cX12_isBarred 13 = .ok (.ifCond .eq 7, 3) := by decide +kernel
theorem dX12_isBarred_16 : decode cX12_isBarred 16 = .ok (.iconst 1, 1) := by decide +kernel
theorem dX12_isBarred_17 : decode cX12_isBarred 17 = .ok (.goto 4, 3) := by decide +kernel
theorem dX12_isBarred_20 : decode cX12_isBarred 20 = .ok (.iconst 0, 1) := by decide +kernel
theorem dX12_isBarred_21 : decode cX12_isBarred 21 = .ok (.ireturn, 1) := by decide +kernel
set_option maxRecDepth 20000 in
theorem ggX12_take_X12_nextOf : GoodIn wsX12_take wsX12_nextOf := goodIn_r _ [10, 11, 12, 13, 1, 14, 15, 16, 17, 9, 18, 19, 20, 21, 22, 23, 24, 25, 26, 27, 28, 29, 30, 31, 32, 33, 34, 35, 36, 37, 38, 39, 40, 41, 42, 43, 44, 45, 46, 47, 48, 49, 50, 51, 52, 53, 54, 55, 56, 57, 58, 59, 60, 61, 62, 63, 64, 65, 66, 67, 68, 69, 70, 71, 72, 73, 74, 75, 76, 77, 78, 79, 80, 81, 82, 83, 84, 85, 86, 87, 88, 89, 90, 91] (by decide +kernel) (by decide +kernel)
set_option maxRecDepth 20000 in
theorem gX12_take_X12_nextOf : GoodIn wsX12_take (wsV RX12 226 RX12 yX12_nextOf wsX12_nextOf) := goodIn_app (goodIn_of _ (by decide +kernel)) ggX12_take_X12_nextOf
theorem dX12_take_0 : decode cX12_take 0 = .ok (.iload_n 2, 1) := by decide +kernel
theorem dX12_take_1 : decode cX12_take 1 = .ok (.istore_n 3, 1) := by decide +kernel
theorem dX12_take_2 : decode cX12_take 2 = .ok (.iload_n 3, 1) := by decide +kernel
theorem dX12_take_3 : decode cX12_take 3 = .ok (.ifCond .le 11, 3) := by decide +kernel
theorem dX12_take_6 : decode cX12_take 6 = .ok (.aload_n 0, 1) := by decide +kernel
theorem dX12_take_7 : decode cX12_take 7 = .ok (.iload_n 1, 1) := by decide +kernel
theorem dX12_take_8 : decode cX12_take 8 = .ok (.invokevirtual 226, 3) := by decide +kernel
theorem dX12_take_11 : decode cX12_take 11 = .ok (.goto 4, 3) := by decide +kernel
theorem dX12_take_14 : decode cX12_take 14 = .ok (.iconst (-1), 1) := by decide +kernel
theorem dX12_take_15 : decode cX12_take 15 = .ok (.istore 4, 2) := by decide +kernel
theorem dX12_take_17 : decode cX12_take 17 = .ok (.iload 4, 2) := by decide +kernel
theorem dX12_take_19 : decode cX12_take 19 = .ok (.ifCond .lt 106, 3) := by decide +kernel
theorem dX12_take_22 : decode cX12_take 22 = .ok (.aload_n 0, 1) := by decide +kernel
theorem dX12_take_23 : decode cX12_take 23 = .ok (.getfield 25, 3) := by decide +kernel
theorem dX12_take_26 : decode cX12_take 26 = .ok (.iload 4, 2) := by decide +kernel
theorem dX12_take_28 : decode cX12_take 28 = .ok (.iaload, 1) := by decide +kernel
theorem dX12_take_29 : decode cX12_take 29 = .ok (.iload_n 3, 1) := by decide +kernel
theorem dX12_take_30 : decode cX12_take 30 = .ok (.if_icmp .ge 13, 3) := by decide +kernel
theorem dX12_take_33 : decode cX12_take 33 = .ok (.aload_n 0, 1) := by decide +kernel
theorem dX12_take_34 : decode cX12_take 34 = .ok (.getfield 25, 3) := by decide +kernel
theorem dX12_take_37 : decode cX12_take 37 = .ok (.iload 4, 2) := by decide +kernel
theorem dX12_take_39 : decode cX12_take 39 = .ok (.iaload, 1) := by decide +kernel
theorem dX12_take_40 : decode cX12_take 40 = .ok (.goto 4, 3) := by decide +kernel
theorem dX12_take_43 : decode cX12_take 43 = .ok (.iload_n 3, 1) := by decide +kernel
theorem dX12_take_44 : decode cX12_take 44 = .ok (.istore 5, 2) := by decide +kernel
theorem dX12_take_46 : decode cX12_take 46 = .ok (.aload_n 0, 1) := by decide +kernel
theorem dX12_take_47 : decode cX12_take 47 = .ok (.getfield 25, 3) := by decide +kernel
theorem dX12_take_50 : decode cX12_take 50 = .ok (.iload 4, 2) := by decide +kernel
theorem dX12_take_52 : decode cX12_take 52 = .ok (.dup2, 1) := by decide +kernel
theorem dX12_take_53 : decode cX12_take 53 = .ok (.iaload, 1) := by decide +kernel
theorem dX12_take_54 : decode cX12_take 54 = .ok (.iload 5, 2) := by decide +kernel
theorem dX12_take_56 : decode cX12_take 56 = .ok (.isub, 1) := by decide +kernel
theorem dX12_take_57 : decode cX12_take 57 = .ok (.iastore, 1) := by decide +kernel
theorem dX12_take_58 : decode cX12_take 58 = .ok (.aload_n 0, 1) := by decide +kernel
theorem dX12_take_59 : decode cX12_take 59 = .ok (.getfield 28, 3) := by decide +kernel
theorem dX12_take_62 : decode cX12_take 62 = .ok (.iload 4, 2) := by decide +kernel
theorem dX12_take_64 : decode cX12_take 64 = .ok (.dup2, 1) := by decide +kernel
theorem dX12_take_65 : decode cX12_take 65 = .ok (.iaload, 1) := by decide +kernel
theorem dX12_take_66 : decode cX12_take 66 = .ok (.iload 5, 2) := by decide +kernel
theorem dX12_take_68 : decode cX12_take 68 = .ok (.iadd, 1) := by decide +kernel
theorem dX12_take_69 : decode cX12_take 69 = .ok (.iastore, 1) := by decide +kernel
theorem dX12_take_70 : decode cX12_take 70 = .ok (.iload_n 3, 1) := by decide +kernel
theorem dX12_take_71 : decode cX12_take 71 = .ok (.iload 5, 2) := by decide +kernel
theorem dX12_take_73 : decode cX12_take 73 = .ok (.isub, 1) := by decide +kernel
theorem dX12_take_74 : decode cX12_take 74 = .ok (.istore_n 3, 1) := by decide +kernel
theorem dX12_take_75 : decode cX12_take 75 = .ok (.aload_n 0, 1) := by decide +kernel
theorem dX12_take_76 : decode cX12_take 76 = .ok (.getfield 92, 3) := by decide +kernel
theorem dX12_take_79 : decode cX12_take 79 = .ok (.aload_n 0, 1) := by decide +kernel
theorem dX12_take_80 : decode cX12_take 80 = .ok (.getfield 229, 3) := by decide +kernel
theorem dX12_take_83 : decode cX12_take 83 = .ok (.iload 4, 2) := by decide +kernel
theorem dX12_take_85 : decode cX12_take 85 = .ok (.iastore, 1) := by decide +kernel
theorem dX12_take_86 : decode cX12_take 86 = .ok (.aload_n 0, 1) := by decide +kernel
theorem dX12_take_87 : decode cX12_take 87 = .ok (.getfield 95, 3) := by decide +kernel
theorem dX12_take_90 : decode cX12_take 90 = .ok (.aload_n 0, 1) := by decide +kernel
theorem dX12_take_91 : decode cX12_take 91 = .ok (.getfield 229, 3) := by decide +kernel
theorem dX12_take_94 : decode cX12_take 94 = .ok (.iload 5, 2) := by decide +kernel
theorem dX12_take_96 : decode cX12_take 96 = .ok (.iastore, 1) := by decide +kernel
theorem dX12_take_97 : decode cX12_take 97 = .ok (.aload_n 0, 1) := by decide +kernel
theorem dX12_take_98 : decode cX12_take 98 = .ok (.dup, 1) := by decide +kernel
theorem dX12_take_99 : decode cX12_take 99 = .ok (.getfield 229, 3) := by decide +kernel
theorem dX12_take_102 : decode cX12_take 102 = .ok (.iconst 1, 1) := by decide +kernel
theorem dX12_take_103 : decode cX12_take 103 = .ok (.iadd, 1) := by decide +kernel
theorem dX12_take_104 : decode cX12_take 104 = .ok (.putfield 229, 3) := by decide +kernel
theorem dX12_take_107 : decode cX12_take 107 = .ok (.iload_n 3, 1) := by decide +kernel
theorem dX12_take_108 : decode cX12_take 108 = .ok (.ifCond .le 11, 3) := by decide +kernel
theorem dX12_take_111 : decode cX12_take 111 = .ok (.aload_n 0, 1) := by decide +kernel
theorem dX12_take_112 : decode cX12_take 112 = .ok (.iload_n 1, 1) := by decide +kernel
theorem dX12_take_113 : decode cX12_take 113 = .ok (.invokevirtual 226, 3) := by decide +kernel
theorem dX12_take_116 : decode cX12_take 116 = .ok (.goto 4, 3) := by decide +kernel
theorem dX12_take_119 : decode cX12_take 119 = .ok (.iconst (-1), 1) := by decide +kernel
theorem dX12_take_120 : decode cX12_take 120 = .ok (.istore 4, 2) := by decide +kernel
theorem dX12_take_122 : decode cX12_take 122 = .ok (.goto (-105), 3) := by decide +kernel
theorem dX12_take_125 : decode cX12_take 125 = .ok (.iload_n 3, 1) := by decide +kernel
theorem dX12_take_126 : decode cX12_take 126 = .ok (.ireturn, 1) := by decide +kernel
set_option maxRecDepth 20000 in
theorem ggX12_parcel_X12_isFamily : GoodIn wsX12_parcel wsX12_isFamily := goodIn_r _ [21, 22, 23, 24, 20, 25, 68, 69, 70, 71, 72, 73, 74, 75, 76, 77, 78, 79, 80, 81, 82, 83, 84, 85, 86, 87, 88, 89, 90, 91, 92, 93, 94, 95, 96, 97, 98, 99, 100, 101, 102, 103, 104, 105, 106, 107, 108, 109, 110, 111, 112, 113, 114, 115, 116, 117, 118, 119, 120, 121, 122, 123, 124, 125, 126, 127, 128, 129, 130, 131, 132, 133, 134, 135, 136] (by decide +kernel) (by decide +kernel)
set_option maxRecDepth 20000 in
theorem gX12_parcel_X12_isFamily : GoodIn wsX12_parcel (wsV RX12 206 RX12 yX12_isFamily wsX12_isFamily) := goodIn_app (goodIn_of _ (by decide +kernel)) ggX12_parcel_X12_isFamily
set_option maxRecDepth 20000 in
theorem ggX12_parcel_X12_told : GoodIn wsX12_parcel wsX12_told := goodIn_r _ [29, 30, 68, 69, 70, 71, 72, 73, 74, 75, 76, 77, 78, 79, 80, 81, 82, 83, 84, 85, 86, 87, 88, 89, 90, 91, 92, 93, 94, 95, 96, 97, 98, 99, 100, 101, 102, 103, 104, 105, 106, 107, 108, 109, 110, 111, 112, 113, 114, 115, 116, 117, 118, 119, 120, 121, 122, 123, 124, 125, 126, 127, 128, 129, 130, 131, 132, 133, 134, 135, 136] (by decide +kernel) (by decide +kernel)
set_option maxRecDepth 20000 in
theorem gX12_parcel_X12_told : GoodIn wsX12_parcel (wsV RX12 183 RX12 yX12_told wsX12_told) := goodIn_app (goodIn_of _ (by decide +kernel)) ggX12_parcel_X12_told
set_option maxRecDepth 20000 in
theorem ggX12_parcel_X12_lets : GoodIn wsX12_parcel wsX12_lets := goodIn_r _ [34, 35, 36, 4, 10, 23, 24, 20, 25, 68, 69, 70, 71, 72, 73, 74, 75, 76, 77, 78, 79, 80, 81, 82, 83, 84, 85, 86, 87, 88, 89, 90, 91, 92, 93, 94, 95, 96, 97, 98, 99, 100, 101, 102, 103, 104, 105, 106, 107, 108, 109, 110, 111, 112, 113, 114, 115, 116, 117, 118, 119, 120, 121, 122, 123, 124, 125, 126, 127, 128, 129, 130, 131, 132, 133, 134, 135, 136] (by decide +kernel) (by decide +kernel)
set_option maxRecDepth 20000 in
theorem gX12_parcel_X12_lets : GoodIn wsX12_parcel (wsV RX12 212 RX12 yX12_lets wsX12_lets) := goodIn_app (goodIn_of _ (by decide +kernel)) ggX12_parcel_X12_lets
set_option maxRecDepth 20000 in
theorem ggX12_parcel_X12_needOf : GoodIn wsX12_parcel wsX12_needOf := goodIn_r _ [40, 6, 7, 8, 41, 42, 9, 68, 69, 70, 71, 72, 73, 74, 75, 76, 77, 78, 79, 80, 81, 82, 83, 84, 85, 86, 87, 88, 89, 90, 91, 92, 93, 94, 95, 96, 97, 98, 99, 100, 101, 102, 103, 104, 105, 106, 107, 108, 109, 110, 111, 112, 113, 114, 115, 116, 117, 118, 119, 120, 121, 122, 123, 124, 125, 126, 127, 128, 129, 130, 131, 132, 133, 134, 135, 136] (by decide +kernel) (by decide +kernel)
set_option maxRecDepth 20000 in
theorem gX12_parcel_X12_needOf : GoodIn wsX12_parcel (wsV RX12 219 RX12 yX12_needOf wsX12_needOf) := goodIn_app (goodIn_of _ (by decide +kernel)) ggX12_parcel_X12_needOf
set_option maxRecDepth 20000 in
theorem ggX12_parcel_X12_isBarred : GoodIn wsX12_parcel wsX12_isBarred := goodIn_r _ [46, 47, 48, 68, 69, 70, 71, 72, 73, 74, 75, 76, 77, 78, 79, 80, 81, 82, 83, 84, 85, 86, 87, 88, 89, 90, 91, 92, 93, 94, 95, 96, 97, 98, 99, 100, 101, 102, 103, 104, 105, 106, 107, 108, 109, 110, 111, 112, 113, 114, 115, 116, 117, 118, 119, 120, 121, 122, 123, 124, 125, 126, 127, 128, 129, 130, 131, 132, 133, 134, 135, 136] (by decide +kernel) (by decide +kernel)
set_option maxRecDepth 20000 in
theorem gX12_parcel_X12_isBarred : GoodIn wsX12_parcel (wsV RX12 232 RX12 yX12_isBarred wsX12_isBarred) := goodIn_app (goodIn_of _ (by decide +kernel)) ggX12_parcel_X12_isBarred
set_option maxRecDepth 20000 in
theorem ggX12_parcel_X12_take : GoodIn wsX12_parcel wsX12_take := goodIn_r _ [52, 53, 54, 55, 5, 56, 57, 58, 59, 20, 60, 3, 61, 62, 63, 64, 65, 66, 67, 6, 7, 8, 9, 68, 69, 70, 71, 72, 73, 74, 75, 76, 77, 78, 79, 80, 81, 82, 83, 84, 85, 86, 87, 88, 89, 90, 91, 92, 93, 94, 95, 96, 97, 98, 99, 100, 101, 102, 103, 104, 105, 106, 107, 108, 109, 110, 111, 112, 113, 114, 115, 116, 117, 118, 119, 120, 121, 122, 123, 124, 125, 126, 127, 128, 129, 130, 131, 132, 133, 134, 135, 136] (by decide +kernel) (by decide +kernel)
set_option maxRecDepth 20000 in
theorem gX12_parcel_X12_take : GoodIn wsX12_parcel (wsV RX12 236 RX12 yX12_take wsX12_take) := goodIn_app (goodIn_of _ (by decide +kernel)) ggX12_parcel_X12_take
theorem dX12_parcel_0 : decode cX12_parcel 0 = .ok (.aload_n 0, 1) := by decide +kernel
theorem dX12_parcel_1 : decode cX12_parcel 1 = .ok (.iconst 0, 1) := by decide +kernel
theorem dX12_parcel_2 : decode cX12_parcel 2 = .ok (.putfield 156, 3) := by decide +kernel
theorem dX12_parcel_5 : decode cX12_parcel 5 = .ok (.aload_n 0, 1) := by decide +kernel
theorem dX12_parcel_6 : decode cX12_parcel 6 = .ok (.iload_n 1, 1) := by decide +kernel
theorem dX12_parcel_7 : decode cX12_parcel 7 = .ok (.invokevirtual 206, 3) := by decide +kernel
theorem dX12_parcel_10 : decode cX12_parcel 10 = .ok (.ifCond .ne 10, 3) := by decide +kernel
theorem dX12_parcel_13 : decode cX12_parcel 13 = .ok (.aload_n 0, 1) := by decide +kernel
theorem dX12_parcel_14 : decode cX12_parcel 14 = .ok (.bipush (-2), 2) := by decide +kernel
theorem dX12_parcel_16 : decode cX12_parcel 16 = .ok (.invokevirtual 183, 3) := by decide +kernel
theorem dX12_parcel_19 : decode cX12_parcel 19 = .ok (.ireturn, 1) := by decide +kernel
theorem dX12_parcel_20 : decode cX12_parcel 20 = .ok (.iconst (-1), 1) := by decide +kernel
theorem dX12_parcel_21 : decode cX12_parcel 21 = .ok (.istore_n 2, 1) := by decide +kernel
theorem dX12_parcel_22 : decode cX12_parcel 22 = .ok (.iconst 0, 1) := by decide +kernel
theorem dX12_parcel_23 : decode cX12_parcel 23 = .ok (.istore_n 3, 1) := by decide +kernel
theorem dX12_parcel_24 : decode cX12_parcel 24 = .ok (.iload_n 3, 1) := by decide +kernel
theorem dX12_parcel_25 : decode cX12_parcel 25 = .ok (.aload_n 0, 1) := by decide +kernel
theorem dX12_parcel_26 : decode cX12_parcel 26 = .ok (.getfield 209, 3) := by decide +kernel
theorem dX12_parcel_29 : decode cX12_parcel 29 = .ok (.if_icmp .ge 47, 3) := by decide +kernel
theorem dX12_parcel_32 : decode cX12_parcel 32 = .ok (.aload_n 0, 1) := by decide +kernel
theorem dX12_parcel_33 : decode cX12_parcel 33 = .ok (.iload_n 3, 1) := by decide +kernel
theorem dX12_parcel_34 : decode cX12_parcel 34 = .ok (.iload_n 1, 1) := by decide +kernel
theorem dX12_parcel_35 : decode cX12_parcel 35 = .ok (.aload_n 0, 1) := by decide +kernel
theorem dX12_parcel_36 : decode cX12_parcel 36 = .ok (.getfield 189, 3) := by decide +kernel
theorem dX12_parcel_39 : decode cX12_parcel 39 = .ok (.invokevirtual 212, 3) := by decide +kernel
theorem dX12_parcel_42 : decode cX12_parcel 42 = .ok (.ifCond .eq 26, 3) := by decide +kernel
theorem dX12_parcel_45 : decode cX12_parcel 45 = .ok (.iload_n 2, 1) := by decide +kernel
theorem dX12_parcel_46 : decode cX12_parcel 46 = .ok (.ifCond .lt 18, 3) := by decide +kernel
theorem dX12_parcel_49 : decode cX12_parcel 49 = .ok (.aload_n 0, 1) := by decide +kernel
theorem dX12_parcel_50 : decode cX12_parcel 50 = .ok (.getfield 59, 3) := by decide +kernel
theorem dX12_parcel_53 : decode cX12_parcel 53 = .ok (.iload_n 3, 1) := by decide +kernel
theorem dX12_parcel_54 : decode cX12_parcel 54 = .ok (.iaload, 1) := by decide +kernel
theorem dX12_parcel_55 : decode cX12_parcel 55 = .ok (.aload_n 0, 1) := by decide +kernel
theorem dX12_parcel_56 : decode cX12_parcel 56 = .ok (.getfield 59, 3) := by decide +kernel
theorem dX12_parcel_59 : decode cX12_parcel 59 = .ok (.iload_n 2, 1) := by decide +kernel
theorem dX12_parcel_60 : decode cX12_parcel 60 = .ok (.iaload, 1) := by decide +kernel
theorem dX12_parcel_61 : decode cX12_parcel 61 = .ok (.if_icmp .ge 7, 3) := by decide +kernel
theorem dX12_parcel_64 : decode cX12_parcel 64 = .ok (.iload_n 3, 1) := by decide +kernel
theorem dX12_parcel_65 : decode cX12_parcel 65 = .ok (.goto 4, 3) := by decide +kernel
theorem dX12_parcel_68 : decode cX12_parcel 68 = .ok (.iload_n 2, 1) := by decide +kernel
theorem dX12_parcel_69 : decode cX12_parcel 69 = .ok (.istore_n 2, 1) := by decide +kernel
theorem dX12_parcel_70 : decode cX12_parcel 70 = .ok (.iinc 3 1, 3) := by decide +kernel
theorem dX12_parcel_73 : decode cX12_parcel 73 = .ok (.goto (-49), 3) := by decide +kernel
theorem dX12_parcel_76 : decode cX12_parcel 76 = .ok (.iload_n 2, 1) := by decide +kernel
theorem dX12_parcel_77 : decode cX12_parcel 77 = .ok (.ifCond .ge 10, 3) := by decide +kernel
theorem dX12_parcel_80 : decode cX12_parcel 80 = .ok (.aload_n 0, 1) := by decide +kernel
theorem dX12_parcel_81 : decode cX12_parcel 81 = .ok (.bipush (-3), 2) := by decide +kernel
theorem dX12_parcel_83 : decode cX12_parcel 83 = .ok (.invokevirtual 183, 3) := by decide +kernel
theorem dX12_parcel_86 : decode cX12_parcel 86 = .ok (.ireturn, 1) := by decide +kernel
theorem dX12_parcel_87 : decode cX12_parcel 87 = .ok (.aload_n 0, 1) := by decide +kernel
theorem dX12_parcel_88 : decode cX12_parcel 88 = .ok (.getfield 229, 3) := by decide +kernel
theorem dX12_parcel_91 : decode cX12_parcel 91 = .ok (.istore_n 3, 1) := by decide +kernel
theorem dX12_parcel_92 : decode cX12_parcel 92 = .ok (.iconst 0, 1) := by decide +kernel
theorem dX12_parcel_93 : decode cX12_parcel 93 = .ok (.istore 4, 2) := by decide +kernel
theorem dX12_parcel_95 : decode cX12_parcel 95 = .ok (.iconst 0, 1) := by decide +kernel
theorem dX12_parcel_96 : decode cX12_parcel 96 = .ok (.istore 5, 2) := by decide +kernel
theorem dX12_parcel_98 : decode cX12_parcel 98 = .ok (.iload 5, 2) := by decide +kernel
theorem dX12_parcel_100 : decode cX12_parcel 100 = .ok (.bipush 10, 2) := by decide +kernel
theorem dX12_parcel_102 : decode cX12_parcel 102 = .ok (.if_icmp .ge 126, 3) := by decide +kernel
theorem dX12_parcel_105 : decode cX12_parcel 105 = .ok (.aload_n 0, 1) := by decide +kernel
theorem dX12_parcel_106 : decode cX12_parcel 106 = .ok (.iload_n 1, 1) := by decide +kernel
theorem dX12_parcel_107 : decode cX12_parcel 107 = .ok (.iload 5, 2) := by decide +kernel
theorem dX12_parcel_109 : decode cX12_parcel 109 = .ok (.invokevirtual 219, 3) := by decide +kernel
theorem dX12_parcel_112 : decode cX12_parcel 112 = .ok (.istore 6, 2) := by decide +kernel
theorem dX12_parcel_114 : decode cX12_parcel 114 = .ok (.aload_n 0, 1) := by decide +kernel
theorem dX12_parcel_115 : decode cX12_parcel 115 = .ok (.iload_n 1, 1) := by decide +kernel
theorem dX12_parcel_116 : decode cX12_parcel 116 = .ok (.iload 5, 2) := by decide +kernel
theorem dX12_parcel_118 : decode cX12_parcel 118 = .ok (.invokevirtual 232, 3) := by decide +kernel
theorem dX12_parcel_121 : decode cX12_parcel 121 = .ok (.ifCond .eq 8, 3) := by decide +kernel
theorem dX12_parcel_124 : decode cX12_parcel 124 = .ok (.iload 6, 2) := by decide +kernel
theorem dX12_parcel_126 : decode cX12_parcel 126 = .ok (.goto 11, 3) := by decide +kernel
theorem dX12_parcel_129 : decode cX12_parcel 129 = .ok (.aload_n 0, 1) := by decide +kernel
theorem dX12_parcel_130 : decode cX12_parcel 130 = .ok (.iload 5, 2) := by decide +kernel
theorem dX12_parcel_132 : decode cX12_parcel 132 = .ok (.iload 6, 2) := by decide +kernel
theorem dX12_parcel_134 : decode cX12_parcel 134 = .ok (.invokevirtual 236, 3) := by decide +kernel
theorem dX12_parcel_137 : decode cX12_parcel 137 = .ok (.istore 6, 2) := by decide +kernel
theorem dX12_parcel_139 : decode cX12_parcel 139 = .ok (.iconst 0, 1) := by decide +kernel
theorem dX12_parcel_140 : decode cX12_parcel 140 = .ok (.istore 7, 2) := by decide +kernel
theorem dX12_parcel_142 : decode cX12_parcel 142 = .ok (.iload 7, 2) := by decide +kernel
theorem dX12_parcel_144 : decode cX12_parcel 144 = .ok (.aload_n 0, 1) := by decide +kernel
theorem dX12_parcel_145 : decode cX12_parcel 145 = .ok (.getfield 216, 3) := by decide +kernel
theorem dX12_parcel_148 : decode cX12_parcel 148 = .ok (.if_icmp .ge 67, 3) := by decide +kernel
theorem dX12_parcel_151 : decode cX12_parcel 151 = .ok (.iload 6, 2) := by decide +kernel
theorem dX12_parcel_153 : decode cX12_parcel 153 = .ok (.ifCond .le 62, 3) := by decide +kernel
theorem dX12_parcel_156 : decode cX12_parcel 156 = .ok (.aload_n 0, 1) := by decide +kernel
theorem dX12_parcel_157 : decode cX12_parcel 157 = .ok (.getfield 65, 3) := by decide +kernel
theorem dX12_parcel_160 : decode cX12_parcel 160 = .ok (.iload 7, 2) := by decide +kernel
theorem dX12_parcel_162 : decode cX12_parcel 162 = .ok (.iaload, 1) := by decide +kernel
theorem dX12_parcel_163 : decode cX12_parcel 163 = .ok (.iconst 2, 1) := by decide +kernel
theorem dX12_parcel_164 : decode cX12_parcel 164 = .ok (.if_icmp .ne 45, 3) := by decide +kernel
theorem dX12_parcel_167 : decode cX12_parcel 167 = .ok (.aload_n 0, 1) := by decide +kernel
theorem dX12_parcel_168 : decode cX12_parcel 168 = .ok (.getfield 68, 3) := by decide +kernel
theorem dX12_parcel_171 : decode cX12_parcel 171 = .ok (.iload 7, 2) := by decide +kernel
theorem dX12_parcel_173 : decode cX12_parcel 173 = .ok (.iaload, 1) := by decide +kernel
theorem dX12_parcel_174 : decode cX12_parcel 174 = .ok (.iload 5, 2) := by decide +kernel
theorem dX12_parcel_176 : decode cX12_parcel 176 = .ok (.if_icmp .ne 33, 3) := by decide +kernel
theorem dX12_parcel_179 : decode cX12_parcel 179 = .ok (.aload_n 0, 1) := by decide +kernel
theorem dX12_parcel_180 : decode cX12_parcel 180 = .ok (.iload_n 1, 1) := by decide +kernel
theorem dX12_parcel_181 : decode cX12_parcel 181 = .ok (.aload_n 0, 1) := by decide +kernel
theorem dX12_parcel_182 : decode cX12_parcel 182 = .ok (.getfield 71, 3) := by decide +kernel
theorem dX12_parcel_185 : decode cX12_parcel 185 = .ok (.iload 7, 2) := by decide +kernel
theorem dX12_parcel_187 : decode cX12_parcel 187 = .ok (.iaload, 1) := by decide +kernel
theorem dX12_parcel_188 : decode cX12_parcel 188 = .ok (.invokevirtual 232, 3) := by decide +kernel
theorem dX12_parcel_191 : decode cX12_parcel 191 = .ok (.ifCond .ne 18, 3) := by decide +kernel
theorem dX12_parcel_194 : decode cX12_parcel 194 = .ok (.aload_n 0, 1) := by decide +kernel
theorem dX12_parcel_195 : decode cX12_parcel 195 = .ok (.aload_n 0, 1) := by decide +kernel
theorem dX12_parcel_196 : decode cX12_parcel 196 = .ok (.getfield 71, 3) := by decide +kernel
theorem dX12_parcel_199 : decode cX12_parcel 199 = .ok (.iload 7, 2) := by decide +kernel
theorem dX12_parcel_201 : decode cX12_parcel 201 = .ok (.iaload, 1) := by decide +kernel
theorem dX12_parcel_202 : decode cX12_parcel 202 = .ok (.iload 6, 2) := by decide +kernel
theorem dX12_parcel_204 : decode cX12_parcel 204 = .ok (.invokevirtual 236, 3) := by decide +kernel
theorem dX12_parcel_207 : decode cX12_parcel 207 = .ok (.istore 6, 2) := by decide +kernel
theorem dX12_parcel_209 : decode cX12_parcel 209 = .ok (.iinc 7 1, 3) := by decide +kernel
theorem dX12_parcel_212 : decode cX12_parcel 212 = .ok (.goto (-70), 3) := by decide +kernel
theorem dX12_parcel_215 : decode cX12_parcel 215 = .ok (.iload 4, 2) := by decide +kernel
theorem dX12_parcel_217 : decode cX12_parcel 217 = .ok (.iload 6, 2) := by decide +kernel
theorem dX12_parcel_219 : decode cX12_parcel 219 = .ok (.iadd, 1) := by decide +kernel
theorem dX12_parcel_220 : decode cX12_parcel 220 = .ok (.istore 4, 2) := by decide +kernel
theorem dX12_parcel_222 : decode cX12_parcel 222 = .ok (.iinc 5 1, 3) := by decide +kernel
theorem dX12_parcel_225 : decode cX12_parcel 225 = .ok (.goto (-127), 3) := by decide +kernel
theorem dX12_parcel_228 : decode cX12_parcel 228 = .ok (.aload_n 0, 1) := by decide +kernel
theorem dX12_parcel_229 : decode cX12_parcel 229 = .ok (.getfield 229, 3) := by decide +kernel
theorem dX12_parcel_232 : decode cX12_parcel 232 = .ok (.iload_n 3, 1) := by decide +kernel
theorem dX12_parcel_233 : decode cX12_parcel 233 = .ok (.if_icmp .ne 10, 3) := by decide +kernel
theorem dX12_parcel_236 : decode cX12_parcel 236 = .ok (.aload_n 0, 1) := by decide +kernel
theorem dX12_parcel_237 : decode cX12_parcel 237 = .ok (.bipush (-4), 2) := by decide +kernel
theorem dX12_parcel_239 : decode cX12_parcel 239 = .ok (.invokevirtual 183, 3) := by decide +kernel
theorem dX12_parcel_242 : decode cX12_parcel 242 = .ok (.ireturn, 1) := by decide +kernel
theorem dX12_parcel_243 : decode cX12_parcel 243 = .ok (.aload_n 0, 1) := by decide +kernel
theorem dX12_parcel_244 : decode cX12_parcel 244 = .ok (.getfield 62, 3) := by decide +kernel
theorem dX12_parcel_247 : decode cX12_parcel 247 = .ok (.iload_n 2, 1) := by decide +kernel
theorem dX12_parcel_248 : decode cX12_parcel 248 = .ok (.dup2, 1) := by decide +kernel
theorem dX12_parcel_249 : decode cX12_parcel 249 = .ok (.iaload, 1) := by decide +kernel
theorem dX12_parcel_250 : decode cX12_parcel 250 = .ok (.iconst 1, 1) := by decide +kernel
theorem dX12_parcel_251 : decode cX12_parcel 251 = .ok (.isub, 1) := by decide +kernel
theorem dX12_parcel_252 : decode cX12_parcel 252 = .ok (.iastore, 1) := by decide +kernel
theorem dX12_parcel_253 : decode cX12_parcel 253 = .ok (.aload_n 0, 1) := by decide +kernel
theorem dX12_parcel_254 : decode cX12_parcel 254 = .ok (.getfield 80, 3) := by decide +kernel
theorem dX12_parcel_257 : decode cX12_parcel 257 = .ok (.aload_n 0, 1) := by decide +kernel
theorem dX12_parcel_258 : decode cX12_parcel 258 = .ok (.getfield 239, 3) := by decide +kernel
theorem dX12_parcel_261 : decode cX12_parcel 261 = .ok (.iload_n 1, 1) := by decide +kernel
theorem dX12_parcel_262 : decode cX12_parcel 262 = .ok (.iastore, 1) := by decide +kernel
theorem dX12_parcel_263 : decode cX12_parcel 263 = .ok (.aload_n 0, 1) := by decide +kernel
theorem dX12_parcel_264 : decode cX12_parcel 264 = .ok (.getfield 83, 3) := by decide +kernel
theorem dX12_parcel_267 : decode cX12_parcel 267 = .ok (.aload_n 0, 1) := by decide +kernel
theorem dX12_parcel_268 : decode cX12_parcel 268 = .ok (.getfield 239, 3) := by decide +kernel
theorem dX12_parcel_271 : decode cX12_parcel 271 = .ok (.aload_n 0, 1) := by decide +kernel
theorem dX12_parcel_272 : decode cX12_parcel 272 = .ok (.getfield 189, 3) := by decide +kernel
theorem dX12_parcel_275 : decode cX12_parcel 275 = .ok (.iastore, 1) := by decide +kernel
theorem dX12_parcel_276 : decode cX12_parcel 276 = .ok (.aload_n 0, 1) := by decide +kernel
theorem dX12_parcel_277 : decode cX12_parcel 277 = .ok (.getfield 86, 3) := by decide +kernel
theorem dX12_parcel_280 : decode cX12_parcel 280 = .ok (.aload_n 0, 1) := by decide +kernel
theorem dX12_parcel_281 : decode cX12_parcel 281 = .ok (.getfield 239, 3) := by decide +kernel
theorem dX12_parcel_284 : decode cX12_parcel 284 = .ok (.iload_n 3, 1) := by decide +kernel
theorem dX12_parcel_285 : decode cX12_parcel 285 = .ok (.iastore, 1) := by decide +kernel
theorem dX12_parcel_286 : decode cX12_parcel 286 = .ok (.aload_n 0, 1) := by decide +kernel
theorem dX12_parcel_287 : decode cX12_parcel 287 = .ok (.getfield 89, 3) := by decide +kernel
theorem dX12_parcel_290 : decode cX12_parcel 290 = .ok (.aload_n 0, 1) := by decide +kernel
theorem dX12_parcel_291 : decode cX12_parcel 291 = .ok (.getfield 239, 3) := by decide +kernel
theorem dX12_parcel_294 : decode cX12_parcel 294 = .ok (.iload 4, 2) := by decide +kernel
theorem dX12_parcel_296 : decode cX12_parcel 296 = .ok (.iastore, 1) := by decide +kernel
theorem dX12_parcel_297 : decode cX12_parcel 297 = .ok (.aload_n 0, 1) := by decide +kernel
theorem dX12_parcel_298 : decode cX12_parcel 298 = .ok (.dup, 1) := by decide +kernel
theorem dX12_parcel_299 : decode cX12_parcel 299 = .ok (.getfield 242, 3) := by decide +kernel
theorem dX12_parcel_302 : decode cX12_parcel 302 = .ok (.iload 4, 2) := by decide +kernel
theorem dX12_parcel_304 : decode cX12_parcel 304 = .ok (.i2l, 1) := by decide +kernel
theorem dX12_parcel_305 : decode cX12_parcel 305 = .ok (.ladd, 1) := by decide +kernel
theorem dX12_parcel_306 : decode cX12_parcel 306 = .ok (.putfield 242, 3) := by decide +kernel
theorem dX12_parcel_309 : decode cX12_parcel 309 = .ok (.aload_n 0, 1) := by decide +kernel
theorem dX12_parcel_310 : decode cX12_parcel 310 = .ok (.dup, 1) := by decide +kernel
theorem dX12_parcel_311 : decode cX12_parcel 311 = .ok (.getfield 239, 3) := by decide +kernel
theorem dX12_parcel_314 : decode cX12_parcel 314 = .ok (.iconst 1, 1) := by decide +kernel
theorem dX12_parcel_315 : decode cX12_parcel 315 = .ok (.iadd, 1) := by decide +kernel
theorem dX12_parcel_316 : decode cX12_parcel 316 = .ok (.putfield 239, 3) := by decide +kernel
theorem dX12_parcel_319 : decode cX12_parcel 319 = .ok (.aload_n 0, 1) := by decide +kernel
theorem dX12_parcel_320 : decode cX12_parcel 320 = .ok (.getfield 86, 3) := by decide +kernel
theorem dX12_parcel_323 : decode cX12_parcel 323 = .ok (.aload_n 0, 1) := by decide +kernel
theorem dX12_parcel_324 : decode cX12_parcel 324 = .ok (.getfield 239, 3) := by decide +kernel
theorem dX12_parcel_327 : decode cX12_parcel 327 = .ok (.aload_n 0, 1) := by decide +kernel
theorem dX12_parcel_328 : decode cX12_parcel 328 = .ok (.getfield 229, 3) := by decide +kernel
theorem dX12_parcel_331 : decode cX12_parcel 331 = .ok (.iastore, 1) := by decide +kernel
theorem dX12_parcel_332 : decode cX12_parcel 332 = .ok (.aload_n 0, 1) := by decide +kernel
theorem dX12_parcel_333 : decode cX12_parcel 333 = .ok (.aload_n 0, 1) := by decide +kernel
theorem dX12_parcel_334 : decode cX12_parcel 334 = .ok (.getfield 239, 3) := by decide +kernel
theorem dX12_parcel_337 : decode cX12_parcel 337 = .ok (.iconst 1, 1) := by decide +kernel
theorem dX12_parcel_338 : decode cX12_parcel 338 = .ok (.isub, 1) := by decide +kernel
theorem dX12_parcel_339 : decode cX12_parcel 339 = .ok (.invokevirtual 183, 3) := by decide +kernel
theorem dX12_parcel_342 : decode cX12_parcel 342 = .ok (.ireturn, 1) := by decide +kernel
set_option maxRecDepth 20000 in
theorem ggX12_of_X12_in : GoodIn wsX12_of wsX12_in := goodIn_r _ [14] (by decide +kernel) (by decide +kernel)
set_option maxRecDepth 20000 in
theorem gX12_of_X12_in : GoodIn wsX12_of (va_wsS RX12 164 yX12_in wsX12_in) := goodIn_app (goodIn_of _ (by decide +kernel)) ggX12_of_X12_in
theorem dX12_of_0 : decode cX12_of 0 = .ok (.aload_n 0, 1) := by decide +kernel
theorem dX12_of_1 : decode cX12_of 1 = .ok (.iconst 0, 1) := by decide +kernel
theorem dX12_of_2 : decode cX12_of 2 = .ok (.putfield 156, 3) := by decide +kernel
theorem dX12_of_5 : decode cX12_of 5 = .ok (.iload_n 1, 1) := by decide +kernel
theorem dX12_of_6 : decode cX12_of 6 = .ok (.i2l, 1) := by decide +kernel
theorem dX12_of_7 : decode cX12_of 7 = .ok (.lconst 0, 1) := by decide +kernel
theorem dX12_of_8 : decode cX12_of 8 = .ok (.aload_n 0, 1) := by decide +kernel
theorem dX12_of_9 : decode cX12_of 9 = .ok (.getfield 239, 3) := by decide +kernel
theorem dX12_of_12 : decode cX12_of 12 = .ok (.i2l, 1) := by decide +kernel
theorem dX12_of_13 : decode cX12_of 13 = .ok (.lconst 1, 1) := by decide +kernel
theorem dX12_of_14 : decode cX12_of 14 = .ok (.lsub, 1) := by decide +kernel
theorem dX12_of_15 : decode cX12_of 15 = .ok (.invokestatic 164, 3) := by decide +kernel
theorem dX12_of_18 : decode cX12_of 18 = .ok (.ifCond .ne 5, 3) := by decide +kernel
theorem dX12_of_21 : decode cX12_of 21 = .ok (.iconst (-1), 1) := by decide +kernel
theorem dX12_of_22 : decode cX12_of 22 = .ok (.ireturn, 1) := by decide +kernel
theorem dX12_of_23 : decode cX12_of 23 = .ok (.aload_n 0, 1) := by decide +kernel
theorem dX12_of_24 : decode cX12_of 24 = .ok (.getfield 86, 3) := by decide +kernel
theorem dX12_of_27 : decode cX12_of 27 = .ok (.iload_n 1, 1) := by decide +kernel
theorem dX12_of_28 : decode cX12_of 28 = .ok (.iaload, 1) := by decide +kernel
theorem dX12_of_29 : decode cX12_of 29 = .ok (.istore_n 3, 1) := by decide +kernel
theorem dX12_of_30 : decode cX12_of 30 = .ok (.aload_n 0, 1) := by decide +kernel
theorem dX12_of_31 : decode cX12_of 31 = .ok (.getfield 86, 3) := by decide +kernel
theorem dX12_of_34 : decode cX12_of 34 = .ok (.iload_n 1, 1) := by decide +kernel
theorem dX12_of_35 : decode cX12_of 35 = .ok (.iconst 1, 1) := by decide +kernel
theorem dX12_of_36 : decode cX12_of 36 = .ok (.iadd, 1) := by decide +kernel
theorem dX12_of_37 : decode cX12_of 37 = .ok (.iaload, 1) := by decide +kernel
theorem dX12_of_38 : decode cX12_of 38 = .ok (.iload_n 3, 1) := by decide +kernel
theorem dX12_of_39 : decode cX12_of 39 = .ok (.isub, 1) := by decide +kernel
theorem dX12_of_40 : decode cX12_of 40 = .ok (.istore 4, 2) := by decide +kernel
theorem dX12_of_42 : decode cX12_of 42 = .ok (.iload_n 2, 1) := by decide +kernel
theorem dX12_of_43 : decode cX12_of 43 = .ok (.tableswitch 93 0 4 #[33, 40, 47, 50, 86], 33) := by decide +kernel
theorem dX12_of_76 : decode cX12_of 76 = .ok (.aload_n 0, 1) := by decide +kernel
theorem dX12_of_77 : decode cX12_of 77 = .ok (.getfield 80, 3) := by decide +kernel
theorem dX12_of_80 : decode cX12_of 80 = .ok (.iload_n 1, 1) := by decide +kernel
theorem dX12_of_81 : decode cX12_of 81 = .ok (.iaload, 1) := by decide +kernel
theorem dX12_of_82 : decode cX12_of 82 = .ok (.ireturn, 1) := by decide +kernel
theorem dX12_of_83 : decode cX12_of 83 = .ok (.aload_n 0, 1) := by decide +kernel
theorem dX12_of_84 : decode cX12_of 84 = .ok (.getfield 83, 3) := by decide +kernel
theorem dX12_of_87 : decode cX12_of 87 = .ok (.iload_n 1, 1) := by decide +kernel
theorem dX12_of_88 : decode cX12_of 88 = .ok (.iaload, 1) := by decide +kernel
theorem dX12_of_89 : decode cX12_of 89 = .ok (.ireturn, 1) := by decide +kernel
theorem dX12_of_90 : decode cX12_of 90 = .ok (.iload 4, 2) := by decide +kernel
theorem dX12_of_92 : decode cX12_of 92 = .ok (.ireturn, 1) := by decide +kernel
theorem dX12_of_93 : decode cX12_of 93 = .ok (.iconst 0, 1) := by decide +kernel
theorem dX12_of_94 : decode cX12_of 94 = .ok (.istore 5, 2) := by decide +kernel
theorem dX12_of_96 : decode cX12_of 96 = .ok (.iconst 0, 1) := by decide +kernel
theorem dX12_of_97 : decode cX12_of 97 = .ok (.istore 6, 2) := by decide +kernel
theorem dX12_of_99 : decode cX12_of 99 = .ok (.iload 6, 2) := by decide +kernel
theorem dX12_of_101 : decode cX12_of 101 = .ok (.iload 4, 2) := by decide +kernel
theorem dX12_of_103 : decode cX12_of 103 = .ok (.if_icmp .ge 23, 3) := by decide +kernel
theorem dX12_of_106 : decode cX12_of 106 = .ok (.iload 5, 2) := by decide +kernel
theorem dX12_of_108 : decode cX12_of 108 = .ok (.aload_n 0, 1) := by decide +kernel
theorem dX12_of_109 : decode cX12_of 109 = .ok (.getfield 95, 3) := by decide +kernel
theorem dX12_of_112 : decode cX12_of 112 = .ok (.iload_n 3, 1) := by decide +kernel
theorem dX12_of_113 : decode cX12_of 113 = .ok (.iload 6, 2) := by decide +kernel
theorem dX12_of_115 : decode cX12_of 115 = .ok (.iadd, 1) := by decide +kernel
theorem dX12_of_116 : decode cX12_of 116 = .ok (.iaload, 1) := by decide +kernel
theorem dX12_of_117 : decode cX12_of 117 = .ok (.iadd, 1) := by decide +kernel
theorem dX12_of_118 : decode cX12_of 118 = .ok (.istore 5, 2) := by decide +kernel
theorem dX12_of_120 : decode cX12_of 120 = .ok (.iinc 6 1, 3) := by decide +kernel
theorem dX12_of_123 : decode cX12_of 123 = .ok (.goto (-24), 3) := by decide +kernel
theorem dX12_of_126 : decode cX12_of 126 = .ok (.iload 5, 2) := by decide +kernel
theorem dX12_of_128 : decode cX12_of 128 = .ok (.ireturn, 1) := by decide +kernel
theorem dX12_of_129 : decode cX12_of 129 = .ok (.aload_n 0, 1) := by decide +kernel
theorem dX12_of_130 : decode cX12_of 130 = .ok (.getfield 89, 3) := by decide +kernel
theorem dX12_of_133 : decode cX12_of 133 = .ok (.iload_n 1, 1) := by decide +kernel
theorem dX12_of_134 : decode cX12_of 134 = .ok (.iaload, 1) := by decide +kernel
theorem dX12_of_135 : decode cX12_of 135 = .ok (.ireturn, 1) := by decide +kernel
theorem dX12_of_136 : decode cX12_of 136 = .ok (.iload_n 2, 1) := by decide +kernel
theorem dX12_of_137 : decode cX12_of 137 = .ok (.i2l, 1) := by decide +kernel
theorem dX12_of_138 : decode cX12_of 138 = .ok (.ldc2_w 246, 3) := by decide +kernel
theorem dX12_of_141 : decode cX12_of 141 = .ok (.ldc2_w 248, 3) := by decide +kernel
theorem dX12_of_144 : decode cX12_of 144 = .ok (.invokestatic 164, 3) := by decide +kernel
theorem dX12_of_147 : decode cX12_of 147 = .ok (.ifCond .eq 28, 3) := by decide +kernel
theorem dX12_of_150 : decode cX12_of 150 = .ok (.iload_n 2, 1) := by decide +kernel
theorem dX12_of_151 : decode cX12_of 151 = .ok (.bipush 10, 2) := by decide +kernel
theorem dX12_of_153 : decode cX12_of 153 = .ok (.isub, 1) := by decide +kernel
theorem dX12_of_154 : decode cX12_of 154 = .ok (.iload 4, 2) := by decide +kernel
theorem dX12_of_156 : decode cX12_of 156 = .ok (.if_icmp .ge 17, 3) := by decide +kernel
theorem dX12_of_159 : decode cX12_of 159 = .ok (.aload_n 0, 1) := by decide +kernel
theorem dX12_of_160 : decode cX12_of 160 = .ok (.getfield 92, 3) := by decide +kernel
theorem dX12_of_163 : decode cX12_of 163 = .ok (.iload_n 3, 1) := by decide +kernel
theorem dX12_of_164 : decode cX12_of 164 = .ok (.iload_n 2, 1) := by decide +kernel
theorem dX12_of_165 : decode cX12_of 165 = .ok (.iadd, 1) := by decide +kernel
theorem dX12_of_166 : decode cX12_of 166 = .ok (.bipush 10, 2) := by decide +kernel
theorem dX12_of_168 : decode cX12_of 168 = .ok (.isub, 1) := by decide +kernel
theorem dX12_of_169 : decode cX12_of 169 = .ok (.iaload, 1) := by decide +kernel
theorem dX12_of_170 : decode cX12_of 170 = .ok (.goto 4, 3) := by decide +kernel
theorem dX12_of_173 : decode cX12_of 173 = .ok (.iconst (-1), 1) := by decide +kernel
theorem dX12_of_174 : decode cX12_of 174 = .ok (.ireturn, 1) := by decide +kernel
theorem dX12_of_175 : decode cX12_of 175 = .ok (.iload_n 2, 1) := by decide +kernel
theorem dX12_of_176 : decode cX12_of 176 = .ok (.sipush 400, 3) := by decide +kernel
theorem dX12_of_179 : decode cX12_of 179 = .ok (.if_icmp .lt 28, 3) := by decide +kernel
theorem dX12_of_182 : decode cX12_of 182 = .ok (.iload_n 2, 1) := by decide +kernel
theorem dX12_of_183 : decode cX12_of 183 = .ok (.sipush 400, 3) := by decide +kernel
theorem dX12_of_186 : decode cX12_of 186 = .ok (.isub, 1) := by decide +kernel
theorem dX12_of_187 : decode cX12_of 187 = .ok (.iload 4, 2) := by decide +kernel
theorem dX12_of_189 : decode cX12_of 189 = .ok (.if_icmp .ge 18, 3) := by decide +kernel
theorem dX12_of_192 : decode cX12_of 192 = .ok (.aload_n 0, 1) := by decide +kernel
theorem dX12_of_193 : decode cX12_of 193 = .ok (.getfield 95, 3) := by decide +kernel
theorem dX12_of_196 : decode cX12_of 196 = .ok (.iload_n 3, 1) := by decide +kernel
theorem dX12_of_197 : decode cX12_of 197 = .ok (.iload_n 2, 1) := by decide +kernel
theorem dX12_of_198 : decode cX12_of 198 = .ok (.iadd, 1) := by decide +kernel
theorem dX12_of_199 : decode cX12_of 199 = .ok (.sipush 400, 3) := by decide +kernel
theorem dX12_of_202 : decode cX12_of 202 = .ok (.isub, 1) := by decide +kernel
theorem dX12_of_203 : decode cX12_of 203 = .ok (.iaload, 1) := by decide +kernel
theorem dX12_of_204 : decode cX12_of 204 = .ok (.goto 4, 3) := by decide +kernel
theorem dX12_of_207 : decode cX12_of 207 = .ok (.iconst (-1), 1) := by decide +kernel
theorem dX12_of_208 : decode cX12_of 208 = .ok (.ireturn, 1) := by decide +kernel
set_option maxRecDepth 20000 in
theorem ggX12_go_X12_in : GoodIn wsX12_go wsX12_in := goodIn_r _ [11] (by decide +kernel) (by decide +kernel)
set_option maxRecDepth 20000 in
theorem gX12_go_X12_in : GoodIn wsX12_go (va_wsS RX12 164 yX12_in wsX12_in) := goodIn_app (goodIn_of _ (by decide +kernel)) ggX12_go_X12_in
set_option maxRecDepth 20000 in
theorem ggX12_go_X12_told : GoodIn wsX12_go wsX12_told := goodIn_r _ [15, 16, 17, 18, 19, 20, 21, 22, 23, 24, 25, 26, 27, 28, 29, 30, 31, 32, 33, 34, 35, 36, 37, 38, 39, 40, 41, 42, 43, 44, 45, 46, 47, 48, 49, 50, 51, 52, 53, 54, 55, 56, 57, 58, 59, 60, 61, 62, 63, 64, 65, 66, 67, 68, 69, 70, 71, 72, 73, 74, 75, 76, 77, 78, 79, 80, 81, 82, 83, 84, 85] (by decide +kernel) (by decide +kernel)
set_option maxRecDepth 20000 in
theorem gX12_go_X12_told : GoodIn wsX12_go (wsV RX12 183 RX12 yX12_told wsX12_told) := goodIn_app (goodIn_of _ (by decide +kernel)) ggX12_go_X12_told
theorem dX12_go_0 : decode cX12_go 0 = .ok (.aload_n 0, 1) := by decide +kernel
theorem dX12_go_1 : decode cX12_go 1 = .ok (.iconst 0, 1) := by decide +kernel
theorem dX12_go_2 : decode cX12_go 2 = .ok (.putfield 156, 3) := by decide +kernel
theorem dX12_go_5 : decode cX12_go 5 = .ok (.iload_n 1, 1) := by decide +kernel
theorem dX12_go_6 : decode cX12_go 6 = .ok (.i2l, 1) := by decide +kernel
theorem dX12_go_7 : decode cX12_go 7 = .ok (.lconst 1, 1) := by decide +kernel
theorem dX12_go_8 : decode cX12_go 8 = .ok (.ldc2_w 250, 3) := by decide +kernel
theorem dX12_go_11 : decode cX12_go 11 = .ok (.invokestatic 164, 3) := by decide +kernel
theorem dX12_go_14 : decode cX12_go 14 = .ok (.ifCond .eq 15, 3) := by decide +kernel
theorem dX12_go_17 : decode cX12_go 17 = .ok (.aload_n 0, 1) := by decide +kernel
theorem dX12_go_18 : decode cX12_go 18 = .ok (.getfield 189, 3) := by decide +kernel
theorem dX12_go_21 : decode cX12_go 21 = .ok (.iload_n 1, 1) := by decide +kernel
theorem dX12_go_22 : decode cX12_go 22 = .ok (.iadd, 1) := by decide +kernel
theorem dX12_go_23 : decode cX12_go 23 = .ok (.sipush 500, 3) := by decide +kernel
theorem dX12_go_26 : decode cX12_go 26 = .ok (.if_icmp .le 9, 3) := by decide +kernel
theorem dX12_go_29 : decode cX12_go 29 = .ok (.aload_n 0, 1) := by decide +kernel
theorem dX12_go_30 : decode cX12_go 30 = .ok (.iconst (-1), 1) := by decide +kernel
theorem dX12_go_31 : decode cX12_go 31 = .ok (.invokevirtual 183, 3) := by decide +kernel
theorem dX12_go_34 : decode cX12_go 34 = .ok (.ireturn, 1) := by decide +kernel
theorem dX12_go_35 : decode cX12_go 35 = .ok (.aload_n 0, 1) := by decide +kernel
theorem dX12_go_36 : decode cX12_go 36 = .ok (.dup, 1) := by decide +kernel
theorem dX12_go_37 : decode cX12_go 37 = .ok (.getfield 189, 3) := by decide +kernel
theorem dX12_go_40 : decode cX12_go 40 = .ok (.iload_n 1, 1) := by decide +kernel
theorem dX12_go_41 : decode cX12_go 41 = .ok (.iadd, 1) := by decide +kernel
theorem dX12_go_42 : decode cX12_go 42 = .ok (.putfield 189, 3) := by decide +kernel
theorem dX12_go_45 : decode cX12_go 45 = .ok (.iconst 0, 1) := by decide +kernel
theorem dX12_go_46 : decode cX12_go 46 = .ok (.istore_n 2, 1) := by decide +kernel
theorem dX12_go_47 : decode cX12_go 47 = .ok (.iload_n 2, 1) := by decide +kernel
theorem dX12_go_48 : decode cX12_go 48 = .ok (.aload_n 0, 1) := by decide +kernel
theorem dX12_go_49 : decode cX12_go 49 = .ok (.getfield 168, 3) := by decide +kernel
theorem dX12_go_52 : decode cX12_go 52 = .ok (.if_icmp .ge 44, 3) := by decide +kernel
theorem dX12_go_55 : decode cX12_go 55 = .ok (.aload_n 0, 1) := by decide +kernel
theorem dX12_go_56 : decode cX12_go 56 = .ok (.getfield 19, 3) := by decide +kernel
theorem dX12_go_59 : decode cX12_go 59 = .ok (.iload_n 2, 1) := by decide +kernel
theorem dX12_go_60 : decode cX12_go 60 = .ok (.iaload, 1) := by decide +kernel
theorem dX12_go_61 : decode cX12_go 61 = .ok (.aload_n 0, 1) := by decide +kernel
theorem dX12_go_62 : decode cX12_go 62 = .ok (.getfield 189, 3) := by decide +kernel
theorem dX12_go_65 : decode cX12_go 65 = .ok (.if_icmp .ge 25, 3) := by decide +kernel
theorem dX12_go_68 : decode cX12_go 68 = .ok (.aload_n 0, 1) := by decide +kernel
theorem dX12_go_69 : decode cX12_go 69 = .ok (.getfield 34, 3) := by decide +kernel
theorem dX12_go_72 : decode cX12_go 72 = .ok (.iload_n 2, 1) := by decide +kernel
theorem dX12_go_73 : decode cX12_go 73 = .ok (.dup2, 1) := by decide +kernel
theorem dX12_go_74 : decode cX12_go 74 = .ok (.iaload, 1) := by decide +kernel
theorem dX12_go_75 : decode cX12_go 75 = .ok (.aload_n 0, 1) := by decide +kernel
theorem dX12_go_76 : decode cX12_go 76 = .ok (.getfield 25, 3) := by decide +kernel
theorem dX12_go_79 : decode cX12_go 79 = .ok (.iload_n 2, 1) := by decide +kernel
theorem dX12_go_80 : decode cX12_go 80 = .ok (.iaload, 1) := by decide +kernel
theorem dX12_go_81 : decode cX12_go 81 = .ok (.iadd, 1) := by decide +kernel
theorem dX12_go_82 : decode cX12_go 82 = .ok (.iastore, 1) := by decide +kernel
theorem dX12_go_83 : decode cX12_go 83 = .ok (.aload_n 0, 1) := by decide +kernel
theorem dX12_go_84 : decode cX12_go 84 = .ok (.getfield 25, 3) := by decide +kernel
theorem dX12_go_87 : decode cX12_go 87 = .ok (.iload_n 2, 1) := by decide +kernel
theorem dX12_go_88 : decode cX12_go 88 = .ok (.iconst 0, 1) := by decide +kernel
theorem dX12_go_89 : decode cX12_go 89 = .ok (.iastore, 1) := by decide +kernel
theorem dX12_go_90 : decode cX12_go 90 = .ok (.iinc 2 1, 3) := by decide +kernel
theorem dX12_go_93 : decode cX12_go 93 = .ok (.goto (-46), 3) := by decide +kernel
theorem dX12_go_96 : decode cX12_go 96 = .ok (.aload_n 0, 1) := by decide +kernel
theorem dX12_go_97 : decode cX12_go 97 = .ok (.aload_n 0, 1) := by decide +kernel
theorem dX12_go_98 : decode cX12_go 98 = .ok (.getfield 189, 3) := by decide +kernel
theorem dX12_go_101 : decode cX12_go 101 = .ok (.invokevirtual 183, 3) := by decide +kernel
theorem dX12_go_104 : decode cX12_go 104 = .ok (.ireturn, 1) := by decide +kernel
set_option maxRecDepth 20000 in
theorem ggX12_want_X12_isKind : GoodIn wsX12_want wsX12_isKind := goodIn_r _ [7, 8, 9, 10, 6, 11] (by decide +kernel) (by decide +kernel)
set_option maxRecDepth 20000 in
theorem gX12_want_X12_isKind : GoodIn wsX12_want (va_wsS RX12 177 yX12_isKind wsX12_isKind) := goodIn_app (goodIn_of _ (by decide +kernel)) ggX12_want_X12_isKind
set_option maxRecDepth 20000 in
theorem ggX12_want_X12_in : GoodIn wsX12_want wsX12_in := goodIn_r _ [11] (by decide +kernel) (by decide +kernel)
set_option maxRecDepth 20000 in
theorem gX12_want_X12_in : GoodIn wsX12_want (va_wsS RX12 164 yX12_in wsX12_in) := goodIn_app (goodIn_of _ (by decide +kernel)) ggX12_want_X12_in
set_option maxRecDepth 20000 in
theorem ggX12_want_X12_told : GoodIn wsX12_want wsX12_told := goodIn_r _ [15, 16, 22, 23, 24, 25, 26, 27, 28, 29, 30, 31, 32, 33, 34, 35, 36, 37, 38, 39, 40, 41, 42, 43, 44, 45, 46, 47, 48, 49, 50, 51, 52, 53, 54, 55, 56, 57, 58, 59, 60, 61, 62, 63, 64, 65, 66, 67, 68, 69, 70, 71, 72, 73, 74, 75, 76, 77, 78, 79, 80, 81, 82, 83, 84, 85, 86, 87, 88, 89, 90] (by decide +kernel) (by decide +kernel)
set_option maxRecDepth 20000 in
theorem gX12_want_X12_told : GoodIn wsX12_want (wsV RX12 183 RX12 yX12_told wsX12_told) := goodIn_app (goodIn_of _ (by decide +kernel)) ggX12_want_X12_told
set_option maxRecDepth 20000 in
theorem ggX12_want_X12_isTable : GoodIn wsX12_want wsX12_isTable := goodIn_r _ [20, 21, 9, 10, 6, 11, 22, 23, 24, 25, 26, 27, 28, 29, 30, 31, 32, 33, 34, 35, 36, 37, 38, 39, 40, 41, 42, 43, 44, 45, 46, 47, 48, 49, 50, 51, 52, 53, 54, 55, 56, 57, 58, 59, 60, 61, 62, 63, 64, 65, 66, 67, 68, 69, 70, 71, 72, 73, 74, 75, 76, 77, 78, 79, 80, 81, 82, 83, 84, 85, 86, 87, 88, 89, 90] (by decide +kernel) (by decide +kernel)
set_option maxRecDepth 20000 in
theorem gX12_want_X12_isTable : GoodIn wsX12_want (wsV RX12 201 RX12 yX12_isTable wsX12_isTable) := goodIn_app (goodIn_of _ (by decide +kernel)) ggX12_want_X12_isTable
theorem dX12_want_0 : decode cX12_want 0 = .ok (.aload_n 0, 1) := by decide +kernel
theorem dX12_want_1 : decode cX12_want 1 = .ok (.iconst 0, 1) := by decide +kernel
theorem dX12_want_2 : decode cX12_want 2 = .ok (.putfield 156, 3) := by decide +kernel
theorem dX12_want_5 : decode cX12_want 5 = .ok (.iload_n 2, 1) := by decide +kernel
theorem dX12_want_6 : decode cX12_want 6 = .ok (.invokestatic 177, 3) := by decide +kernel
theorem dX12_want_9 : decode cX12_want 9 = .ok (.ifCond .eq 15, 3) := by decide +kernel
theorem dX12_want_12 : decode cX12_want 12 = .ok (.iload_n 3, 1) := by decide +kernel
theorem dX12_want_13 : decode cX12_want 13 = .ok (.i2l, 1) := by decide +kernel
theorem dX12_want_14 : decode cX12_want 14 = .ok (.lconst 0, 1) := by decide +kernel
theorem dX12_want_15 : decode cX12_want 15 = .ok (.ldc2_w 187, 3) := by decide +kernel
theorem dX12_want_18 : decode cX12_want 18 = .ok (.invokestatic 164, 3) := by decide +kernel
theorem dX12_want_21 : decode cX12_want 21 = .ok (.ifCond .ne 9, 3) := by decide +kernel
theorem dX12_want_24 : decode cX12_want 24 = .ok (.aload_n 0, 1) := by decide +kernel
theorem dX12_want_25 : decode cX12_want 25 = .ok (.iconst (-1), 1) := by decide +kernel
theorem dX12_want_26 : decode cX12_want 26 = .ok (.invokevirtual 183, 3) := by decide +kernel
theorem dX12_want_29 : decode cX12_want 29 = .ok (.ireturn, 1) := by decide +kernel
theorem dX12_want_30 : decode cX12_want 30 = .ok (.aload_n 0, 1) := by decide +kernel
theorem dX12_want_31 : decode cX12_want 31 = .ok (.iload_n 1, 1) := by decide +kernel
theorem dX12_want_32 : decode cX12_want 32 = .ok (.invokevirtual 201, 3) := by decide +kernel
theorem dX12_want_35 : decode cX12_want 35 = .ok (.ifCond .ne 10, 3) := by decide +kernel
theorem dX12_want_38 : decode cX12_want 38 = .ok (.aload_n 0, 1) := by decide +kernel
theorem dX12_want_39 : decode cX12_want 39 = .ok (.bipush (-2), 2) := by decide +kernel
theorem dX12_want_41 : decode cX12_want 41 = .ok (.invokevirtual 183, 3) := by decide +kernel
theorem dX12_want_44 : decode cX12_want 44 = .ok (.ireturn, 1) := by decide +kernel
theorem dX12_want_45 : decode cX12_want 45 = .ok (.aload_n 0, 1) := by decide +kernel
theorem dX12_want_46 : decode cX12_want 46 = .ok (.getfield 37, 3) := by decide +kernel
theorem dX12_want_49 : decode cX12_want 49 = .ok (.bipush 10, 2) := by decide +kernel
theorem dX12_want_51 : decode cX12_want 51 = .ok (.iload_n 1, 1) := by decide +kernel
theorem dX12_want_52 : decode cX12_want 52 = .ok (.imul, 1) := by decide +kernel
theorem dX12_want_53 : decode cX12_want 53 = .ok (.iload_n 2, 1) := by decide +kernel
theorem dX12_want_54 : decode cX12_want 54 = .ok (.iadd, 1) := by decide +kernel
theorem dX12_want_55 : decode cX12_want 55 = .ok (.iaload, 1) := by decide +kernel
theorem dX12_want_56 : decode cX12_want 56 = .ok (.istore 4, 2) := by decide +kernel
theorem dX12_want_58 : decode cX12_want 58 = .ok (.aload_n 0, 1) := by decide +kernel
theorem dX12_want_59 : decode cX12_want 59 = .ok (.getfield 37, 3) := by decide +kernel
theorem dX12_want_62 : decode cX12_want 62 = .ok (.bipush 10, 2) := by decide +kernel
theorem dX12_want_64 : decode cX12_want 64 = .ok (.iload_n 1, 1) := by decide +kernel
theorem dX12_want_65 : decode cX12_want 65 = .ok (.imul, 1) := by decide +kernel
theorem dX12_want_66 : decode cX12_want 66 = .ok (.iload_n 2, 1) := by decide +kernel
theorem dX12_want_67 : decode cX12_want 67 = .ok (.iadd, 1) := by decide +kernel
theorem dX12_want_68 : decode cX12_want 68 = .ok (.iload_n 3, 1) := by decide +kernel
theorem dX12_want_69 : decode cX12_want 69 = .ok (.iastore, 1) := by decide +kernel
theorem dX12_want_70 : decode cX12_want 70 = .ok (.aload_n 0, 1) := by decide +kernel
theorem dX12_want_71 : decode cX12_want 71 = .ok (.iload 4, 2) := by decide +kernel
theorem dX12_want_73 : decode cX12_want 73 = .ok (.invokevirtual 183, 3) := by decide +kernel
theorem dX12_want_76 : decode cX12_want 76 = .ok (.ireturn, 1) := by decide +kernel
theorem dX12_upTo_0 : decode cX12_upTo 0 = .ok (.lconst 0, 1) := by decide +kernel
theorem dX12_upTo_1 : decode cX12_upTo 1 = .ok (.lstore 4, 2) := by decide +kernel
theorem dX12_upTo_3 : decode cX12_upTo 3 = .ok (.iconst 0, 1) := by decide +kernel
theorem dX12_upTo_4 : decode cX12_upTo 4 = .ok (.istore 6, 2) := by decide +kernel
theorem dX12_upTo_6 : decode cX12_upTo 6 = .ok (.iload 6, 2) := by decide +kernel
theorem dX12_upTo_8 : decode cX12_upTo 8 = .ok (.aload_n 0, 1) := by decide +kernel
theorem dX12_upTo_9 : decode cX12_upTo 9 = .ok (.getfield 171, 3) := by decide +kernel
theorem dX12_upTo_12 : decode cX12_upTo 12 = .ok (.if_icmp .ge 43, 3) := by decide +kernel
theorem dX12_upTo_15 : decode cX12_upTo 15 = .ok (.aload_n 0, 1) := by decide +kernel
theorem dX12_upTo_16 : decode cX12_upTo 16 = .ok (.getfield 37, 3) := by decide +kernel
theorem dX12_upTo_19 : decode cX12_upTo 19 = .ok (.bipush 10, 2) := by decide +kernel
theorem dX12_upTo_21 : decode cX12_upTo 21 = .ok (.iload 6, 2) := by decide +kernel
theorem dX12_upTo_23 : decode cX12_upTo 23 = .ok (.imul, 1) := by decide +kernel
theorem dX12_upTo_24 : decode cX12_upTo 24 = .ok (.iload_n 1, 1) := by decide +kernel
theorem dX12_upTo_25 : decode cX12_upTo 25 = .ok (.iadd, 1) := by decide +kernel
theorem dX12_upTo_26 : decode cX12_upTo 26 = .ok (.iaload, 1) := by decide +kernel
theorem dX12_upTo_27 : decode cX12_upTo 27 = .ok (.istore 7, 2) := by decide +kernel
theorem dX12_upTo_29 : decode cX12_upTo 29 = .ok (.lload 4, 2) := by decide +kernel
theorem dX12_upTo_31 : decode cX12_upTo 31 = .ok (.iload 7, 2) := by decide +kernel
theorem dX12_upTo_33 : decode cX12_upTo 33 = .ok (.i2l, 1) := by decide +kernel
theorem dX12_upTo_34 : decode cX12_upTo 34 = .ok (.lload_n 2, 1) := by decide +kernel
theorem dX12_upTo_35 : decode cX12_upTo 35 = .ok (.lcmp, 1) := by decide +kernel
theorem dX12_upTo_36 : decode cX12_upTo 36 = .ok (.ifCond .ge 9, 3) := by decide +kernel
theorem dX12_upTo_39 : decode cX12_upTo 39 = .ok (.iload 7, 2) := by decide +kernel
theorem dX12_upTo_41 : decode cX12_upTo 41 = .ok (.i2l, 1) := by decide +kernel
theorem dX12_upTo_42 : decode cX12_upTo 42 = .ok (.goto 4, 3) := by decide +kernel
theorem dX12_upTo_45 : decode cX12_upTo 45 = .ok (.lload_n 2, 1) := by decide +kernel
theorem dX12_upTo_46 : decode cX12_upTo 46 = .ok (.ladd, 1) := by decide +kernel
theorem dX12_upTo_47 : decode cX12_upTo 47 = .ok (.lstore 4, 2) := by decide +kernel
theorem dX12_upTo_49 : decode cX12_upTo 49 = .ok (.iinc 6 1, 3) := by decide +kernel
theorem dX12_upTo_52 : decode cX12_upTo 52 = .ok (.goto (-46), 3) := by decide +kernel
theorem dX12_upTo_55 : decode cX12_upTo 55 = .ok (.lload 4, 2) := by decide +kernel
theorem dX12_upTo_57 : decode cX12_upTo 57 = .ok (.lreturn, 1) := by decide +kernel
set_option maxRecDepth 20000 in
theorem ggX12_give_X12_nextOf : GoodIn wsX12_give wsX12_nextOf := goodIn_r _ [9, 10, 11, 12, 1, 13, 14, 15, 16, 8, 17, 18, 19, 20, 21, 22, 23, 24, 25, 26, 27, 28, 29, 30, 31, 32, 33, 34, 35, 36, 37, 38, 39, 40, 41, 42, 43, 44, 45, 46, 47, 48, 49, 50, 51, 52, 53, 54, 55, 56, 57, 58, 59, 60, 61, 62, 63, 64, 65, 66, 67, 68, 69, 70, 71, 72, 73, 74, 75, 76, 77, 78, 79, 80, 81, 82, 83, 84, 85, 86, 87, 88, 89, 90] (by decide +kernel) (by decide +kernel)
set_option maxRecDepth 20000 in
theorem gX12_give_X12_nextOf : GoodIn wsX12_give (wsV RX12 226 RX12 yX12_nextOf wsX12_nextOf) := goodIn_app (goodIn_of _ (by decide +kernel)) ggX12_give_X12_nextOf
theorem dX12_give_0 : decode cX12_give 0 = .ok (.iload_n 3, 1) := by decide +kernel
theorem dX12_give_1 : decode cX12_give 1 = .ok (.istore 4, 2) := by decide +kernel
theorem dX12_give_3 : decode cX12_give 3 = .ok (.iload 4, 2) := by decide +kernel
theorem dX12_give_5 : decode cX12_give 5 = .ok (.ifCond .le 70, 3) := by decide +kernel
theorem dX12_give_8 : decode cX12_give 8 = .ok (.aload_n 0, 1) := by decide +kernel
theorem dX12_give_9 : decode cX12_give 9 = .ok (.iload_n 2, 1) := by decide +kernel
theorem dX12_give_10 : decode cX12_give 10 = .ok (.invokevirtual 226, 3) := by decide +kernel
theorem dX12_give_13 : decode cX12_give 13 = .ok (.istore 5, 2) := by decide +kernel
theorem dX12_give_15 : decode cX12_give 15 = .ok (.aload_n 0, 1) := by decide +kernel
theorem dX12_give_16 : decode cX12_give 16 = .ok (.getfield 25, 3) := by decide +kernel
theorem dX12_give_19 : decode cX12_give 19 = .ok (.iload 5, 2) := by decide +kernel
theorem dX12_give_21 : decode cX12_give 21 = .ok (.iaload, 1) := by decide +kernel
theorem dX12_give_22 : decode cX12_give 22 = .ok (.iload 4, 2) := by decide +kernel
theorem dX12_give_24 : decode cX12_give 24 = .ok (.if_icmp .ge 13, 3) := by decide +kernel
theorem dX12_give_27 : decode cX12_give 27 = .ok (.aload_n 0, 1) := by decide +kernel
theorem dX12_give_28 : decode cX12_give 28 = .ok (.getfield 25, 3) := by decide +kernel
theorem dX12_give_31 : decode cX12_give 31 = .ok (.iload 5, 2) := by decide +kernel
theorem dX12_give_33 : decode cX12_give 33 = .ok (.iaload, 1) := by decide +kernel
theorem dX12_give_34 : decode cX12_give 34 = .ok (.goto 5, 3) := by decide +kernel
theorem dX12_give_37 : decode cX12_give 37 = .ok (.iload 4, 2) := by decide +kernel
theorem dX12_give_39 : decode cX12_give 39 = .ok (.istore 6, 2) := by decide +kernel
theorem dX12_give_41 : decode cX12_give 41 = .ok (.aload_n 0, 1) := by decide +kernel
theorem dX12_give_42 : decode cX12_give 42 = .ok (.getfield 25, 3) := by decide +kernel
theorem dX12_give_45 : decode cX12_give 45 = .ok (.iload 5, 2) := by decide +kernel
theorem dX12_give_47 : decode cX12_give 47 = .ok (.dup2, 1) := by decide +kernel
theorem dX12_give_48 : decode cX12_give 48 = .ok (.iaload, 1) := by decide +kernel
theorem dX12_give_49 : decode cX12_give 49 = .ok (.iload 6, 2) := by decide +kernel
theorem dX12_give_51 : decode cX12_give 51 = .ok (.isub, 1) := by decide +kernel
theorem dX12_give_52 : decode cX12_give 52 = .ok (.iastore, 1) := by decide +kernel
theorem dX12_give_53 : decode cX12_give 53 = .ok (.aload_n 0, 1) := by decide +kernel
theorem dX12_give_54 : decode cX12_give 54 = .ok (.getfield 31, 3) := by decide +kernel
theorem dX12_give_57 : decode cX12_give 57 = .ok (.iload 5, 2) := by decide +kernel
theorem dX12_give_59 : decode cX12_give 59 = .ok (.dup2, 1) := by decide +kernel
theorem dX12_give_60 : decode cX12_give 60 = .ok (.iaload, 1) := by decide +kernel
theorem dX12_give_61 : decode cX12_give 61 = .ok (.iload 6, 2) := by decide +kernel
theorem dX12_give_63 : decode cX12_give 63 = .ok (.iadd, 1) := by decide +kernel
theorem dX12_give_64 : decode cX12_give 64 = .ok (.iastore, 1) := by decide +kernel
theorem dX12_give_65 : decode cX12_give 65 = .ok (.iload 4, 2) := by decide +kernel
theorem dX12_give_67 : decode cX12_give 67 = .ok (.iload 6, 2) := by decide +kernel
theorem dX12_give_69 : decode cX12_give 69 = .ok (.isub, 1) := by decide +kernel
theorem dX12_give_70 : decode cX12_give 70 = .ok (.istore 4, 2) := by decide +kernel
theorem dX12_give_72 : decode cX12_give 72 = .ok (.goto (-69), 3) := by decide +kernel
theorem dX12_give_75 : decode cX12_give 75 = .ok (.aload_n 0, 1) := by decide +kernel
theorem dX12_give_76 : decode cX12_give 76 = .ok (.getfield 37, 3) := by decide +kernel
theorem dX12_give_79 : decode cX12_give 79 = .ok (.bipush 10, 2) := by decide +kernel
theorem dX12_give_81 : decode cX12_give 81 = .ok (.iload_n 1, 1) := by decide +kernel
theorem dX12_give_82 : decode cX12_give 82 = .ok (.imul, 1) := by decide +kernel
theorem dX12_give_83 : decode cX12_give 83 = .ok (.iload_n 2, 1) := by decide +kernel
theorem dX12_give_84 : decode cX12_give 84 = .ok (.iadd, 1) := by decide +kernel
theorem dX12_give_85 : decode cX12_give 85 = .ok (.dup2, 1) := by decide +kernel
theorem dX12_give_86 : decode cX12_give 86 = .ok (.iaload, 1) := by decide +kernel
theorem dX12_give_87 : decode cX12_give 87 = .ok (.iload_n 3, 1) := by decide +kernel
theorem dX12_give_88 : decode cX12_give 88 = .ok (.isub, 1) := by decide +kernel
theorem dX12_give_89 : decode cX12_give 89 = .ok (.iastore, 1) := by decide +kernel
theorem dX12_give_90 : decode cX12_give 90 = .ok (.aload_n 0, 1) := by decide +kernel
theorem dX12_give_91 : decode cX12_give 91 = .ok (.getfield 40, 3) := by decide +kernel
theorem dX12_give_94 : decode cX12_give 94 = .ok (.bipush 10, 2) := by decide +kernel
theorem dX12_give_96 : decode cX12_give 96 = .ok (.iload_n 1, 1) := by decide +kernel
theorem dX12_give_97 : decode cX12_give 97 = .ok (.imul, 1) := by decide +kernel
theorem dX12_give_98 : decode cX12_give 98 = .ok (.iload_n 2, 1) := by decide +kernel
theorem dX12_give_99 : decode cX12_give 99 = .ok (.iadd, 1) := by decide +kernel
theorem dX12_give_100 : decode cX12_give 100 = .ok (.dup2, 1) := by decide +kernel
theorem dX12_give_101 : decode cX12_give 101 = .ok (.laload, 1) := by decide +kernel
theorem dX12_give_102 : decode cX12_give 102 = .ok (.iload_n 3, 1) := by decide +kernel
theorem dX12_give_103 : decode cX12_give 103 = .ok (.i2l, 1) := by decide +kernel
theorem dX12_give_104 : decode cX12_give 104 = .ok (.ladd, 1) := by decide +kernel
theorem dX12_give_105 : decode cX12_give 105 = .ok (.lastore, 1) := by decide +kernel
theorem dX12_give_106 : decode cX12_give 106 = .ok (.return_, 1) := by decide +kernel
set_option maxRecDepth 20000 in
theorem ggX12_part_X12_isKind : GoodIn wsX12_part wsX12_isKind := goodIn_r _ [15, 16, 17, 18, 14, 19] (by decide +kernel) (by decide +kernel)
set_option maxRecDepth 20000 in
theorem gX12_part_X12_isKind : GoodIn wsX12_part (va_wsS RX12 177 yX12_isKind wsX12_isKind) := goodIn_app (goodIn_of _ (by decide +kernel)) ggX12_part_X12_isKind
set_option maxRecDepth 20000 in
theorem ggX12_part_X12_told : GoodIn wsX12_part wsX12_told := goodIn_r _ [23, 24, 47, 48, 49, 50, 51, 52, 53, 54, 55, 56, 57, 58, 59, 60, 61, 62, 63, 64, 65, 66, 67, 68, 69, 70, 71, 72, 73, 74, 75, 76, 77, 78, 79, 80, 81, 82, 83, 84, 85, 86, 87, 88, 89, 90, 91, 92, 93, 94, 95, 96, 97, 98, 99, 100, 101, 102, 103, 104, 105, 106, 107, 108, 109, 110, 111, 112, 113, 114, 115] (by decide +kernel) (by decide +kernel)
set_option maxRecDepth 20000 in
theorem gX12_part_X12_told : GoodIn wsX12_part (wsV RX12 183 RX12 yX12_told wsX12_told) := goodIn_app (goodIn_of _ (by decide +kernel)) ggX12_part_X12_told
set_option maxRecDepth 20000 in
theorem ggX12_part_X12_sparedOf : GoodIn wsX12_part wsX12_sparedOf := goodIn_r _ [28, 29, 30, 31, 32, 47, 48, 49, 50, 51, 52, 53, 54, 55, 56, 57, 58, 59, 60, 61, 62, 63, 64, 65, 66, 67, 68, 69, 70, 71, 72, 73, 74, 75, 76, 77, 78, 79, 80, 81, 82, 83, 84, 85, 86, 87, 88, 89, 90, 91, 92, 93, 94, 95, 96, 97, 98, 99, 100, 101, 102, 103, 104, 105, 106, 107, 108, 109, 110, 111, 112, 113, 114, 115] (by decide +kernel) (by decide +kernel)
set_option maxRecDepth 20000 in
theorem gX12_part_X12_sparedOf : GoodIn wsX12_part (wsV RX12 223 RX12 yX12_sparedOf wsX12_sparedOf) := goodIn_app (goodIn_of _ (by decide +kernel)) ggX12_part_X12_sparedOf
set_option maxRecDepth 20000 in
theorem ggX12_part_X12_upTo : GoodIn wsX12_part wsX12_upTo := goodIn_r _ [36, 9, 10, 47, 48, 49, 50, 51, 52, 53, 54, 55, 56, 57, 58, 59, 60, 61, 62, 63, 64, 65, 66, 67, 68, 69, 70, 71, 72, 73, 74, 75, 76, 77, 78, 79, 80, 81, 82, 83, 84, 85, 86, 87, 88, 89, 90, 91, 92, 93, 94, 95, 96, 97, 98, 99, 100, 101, 102, 103, 104, 105, 106, 107, 108, 109, 110, 111, 112, 113, 114, 115] (by decide +kernel) (by decide +kernel)
set_option maxRecDepth 20000 in
theorem gX12_part_X12_upTo : GoodIn wsX12_part (wsV RX12 252 RX12 yX12_upTo wsX12_upTo) := goodIn_app (goodIn_of _ (by decide +kernel)) ggX12_part_X12_upTo
set_option maxRecDepth 20000 in
theorem ggX12_part_X12_give : GoodIn wsX12_part wsX12_give := goodIn_r _ [40, 6, 41, 10, 42, 43, 44, 45, 14, 46, 2, 3, 4, 5, 25, 26, 27, 28, 29, 30, 31, 32, 47, 48, 49, 50, 51, 52, 53, 54, 55, 56, 57, 58, 59, 60, 61, 62, 63, 64, 65, 66, 67, 68, 69, 70, 71, 72, 73, 74, 75, 76, 77, 78, 79, 80, 81, 82, 83, 84, 85, 86, 87, 88, 89, 90, 91, 92, 93, 94, 95, 96, 97, 98, 99, 100, 101, 102, 103, 104, 105, 106, 107, 108, 109, 110, 111, 112, 113, 114, 115] (by decide +kernel) (by decide +kernel)
set_option maxRecDepth 20000 in
theorem gX12_part_X12_give : GoodIn wsX12_part (wsV RX12 258 RX12 yX12_give wsX12_give) := goodIn_app (goodIn_of _ (by decide +kernel)) ggX12_part_X12_give
theorem dX12_part_0 : decode cX12_part 0 = .ok (.aload_n 0, 1) := by decide +kernel
theorem dX12_part_1 : decode cX12_part 1 = .ok (.iconst 0, 1) := by decide +kernel
theorem dX12_part_2 : decode cX12_part 2 = .ok (.putfield 156, 3) := by decide +kernel
theorem dX12_part_5 : decode cX12_part 5 = .ok (.iload_n 1, 1) := by decide +kernel
theorem dX12_part_6 : decode cX12_part 6 = .ok (.invokestatic 177, 3) := by decide +kernel
theorem dX12_part_9 : decode cX12_part 9 = .ok (.ifCond .ne 9, 3) := by decide +kernel
theorem dX12_part_12 : decode cX12_part 12 = .ok (.aload_n 0, 1) := by decide +kernel
theorem dX12_part_13 : decode cX12_part 13 = .ok (.iconst (-1), 1) := by decide +kernel
theorem dX12_part_14 : decode cX12_part 14 = .ok (.invokevirtual 183, 3) := by decide +kernel
theorem dX12_part_17 : decode cX12_part 17 = .ok (.ireturn, 1) := by decide +kernel
theorem dX12_part_18 : decode cX12_part 18 = .ok (.lconst 0, 1) := by decide +kernel
theorem dX12_part_19 : decode cX12_part 19 = .ok (.lstore_n 2, 1) := by decide +kernel
theorem dX12_part_20 : decode cX12_part 20 = .ok (.aload_n 0, 1) := by decide +kernel
theorem dX12_part_21 : decode cX12_part 21 = .ok (.getfield 189, 3) := by decide +kernel
theorem dX12_part_24 : decode cX12_part 24 = .ok (.aload_n 0, 1) := by decide +kernel
theorem dX12_part_25 : decode cX12_part 25 = .ok (.iload_n 1, 1) := by decide +kernel
theorem dX12_part_26 : decode cX12_part 26 = .ok (.invokevirtual 223, 3) := by decide +kernel
theorem dX12_part_29 : decode cX12_part 29 = .ok (.iadd, 1) := by decide +kernel
theorem dX12_part_30 : decode cX12_part 30 = .ok (.istore 4, 2) := by decide +kernel
theorem dX12_part_32 : decode cX12_part 32 = .ok (.iconst 0, 1) := by decide +kernel
theorem dX12_part_33 : decode cX12_part 33 = .ok (.istore 5, 2) := by decide +kernel
theorem dX12_part_35 : decode cX12_part 35 = .ok (.iload 5, 2) := by decide +kernel
theorem dX12_part_37 : decode cX12_part 37 = .ok (.aload_n 0, 1) := by decide +kernel
theorem dX12_part_38 : decode cX12_part 38 = .ok (.getfield 168, 3) := by decide +kernel
theorem dX12_part_41 : decode cX12_part 41 = .ok (.if_icmp .ge 47, 3) := by decide +kernel
theorem dX12_part_44 : decode cX12_part 44 = .ok (.lload_n 2, 1) := by decide +kernel
theorem dX12_part_45 : decode cX12_part 45 = .ok (.aload_n 0, 1) := by decide +kernel
theorem dX12_part_46 : decode cX12_part 46 = .ok (.getfield 13, 3) := by decide +kernel
theorem dX12_part_49 : decode cX12_part 49 = .ok (.iload 5, 2) := by decide +kernel
theorem dX12_part_51 : decode cX12_part 51 = .ok (.iaload, 1) := by decide +kernel
theorem dX12_part_52 : decode cX12_part 52 = .ok (.iload_n 1, 1) := by decide +kernel
theorem dX12_part_53 : decode cX12_part 53 = .ok (.if_icmp .ne 26, 3) := by decide +kernel
theorem dX12_part_56 : decode cX12_part 56 = .ok (.aload_n 0, 1) := by decide +kernel
theorem dX12_part_57 : decode cX12_part 57 = .ok (.getfield 19, 3) := by decide +kernel
theorem dX12_part_60 : decode cX12_part 60 = .ok (.iload 5, 2) := by decide +kernel
theorem dX12_part_62 : decode cX12_part 62 = .ok (.iaload, 1) := by decide +kernel
theorem dX12_part_63 : decode cX12_part 63 = .ok (.iload 4, 2) := by decide +kernel
theorem dX12_part_65 : decode cX12_part 65 = .ok (.if_icmp .lt 14, 3) := by decide +kernel
theorem dX12_part_68 : decode cX12_part 68 = .ok (.aload_n 0, 1) := by decide +kernel
theorem dX12_part_69 : decode cX12_part 69 = .ok (.getfield 25, 3) := by decide +kernel
theorem dX12_part_72 : decode cX12_part 72 = .ok (.iload 5, 2) := by decide +kernel
theorem dX12_part_74 : decode cX12_part 74 = .ok (.iaload, 1) := by decide +kernel
theorem dX12_part_75 : decode cX12_part 75 = .ok (.i2l, 1) := by decide +kernel
theorem dX12_part_76 : decode cX12_part 76 = .ok (.goto 4, 3) := by decide +kernel
theorem dX12_part_79 : decode cX12_part 79 = .ok (.lconst 0, 1) := by decide +kernel
theorem dX12_part_80 : decode cX12_part 80 = .ok (.ladd, 1) := by decide +kernel
theorem dX12_part_81 : decode cX12_part 81 = .ok (.lstore_n 2, 1) := by decide +kernel
theorem dX12_part_82 : decode cX12_part 82 = .ok (.iinc 5 1, 3) := by decide +kernel
theorem dX12_part_85 : decode cX12_part 85 = .ok (.goto (-50), 3) := by decide +kernel
theorem dX12_part_88 : decode cX12_part 88 = .ok (.aload_n 0, 1) := by decide +kernel
theorem dX12_part_89 : decode cX12_part 89 = .ok (.iload_n 1, 1) := by decide +kernel
theorem dX12_part_90 : decode cX12_part 90 = .ok (.ldc2_w 187, 3) := by decide +kernel
theorem dX12_part_93 : decode cX12_part 93 = .ok (.invokevirtual 252, 3) := by decide +kernel
theorem dX12_part_96 : decode cX12_part 96 = .ok (.lstore 5, 2) := by decide +kernel
theorem dX12_part_98 : decode cX12_part 98 = .ok (.lload 5, 2) := by decide +kernel
theorem dX12_part_100 : decode cX12_part 100 = .ok (.lconst 0, 1) := by decide +kernel
theorem dX12_part_101 : decode cX12_part 101 = .ok (.lcmp, 1) := by decide +kernel
theorem dX12_part_102 : decode cX12_part 102 = .ok (.ifCond .eq 9, 3) := by decide +kernel
theorem dX12_part_105 : decode cX12_part 105 = .ok (.lload_n 2, 1) := by decide +kernel
theorem dX12_part_106 : decode cX12_part 106 = .ok (.lconst 0, 1) := by decide +kernel
theorem dX12_part_107 : decode cX12_part 107 = .ok (.lcmp, 1) := by decide +kernel
theorem dX12_part_108 : decode cX12_part 108 = .ok (.ifCond .ne 10, 3) := by decide +kernel
theorem dX12_part_111 : decode cX12_part 111 = .ok (.aload_n 0, 1) := by decide +kernel
theorem dX12_part_112 : decode cX12_part 112 = .ok (.bipush (-4), 2) := by decide +kernel
theorem dX12_part_114 : decode cX12_part 114 = .ok (.invokevirtual 183, 3) := by decide +kernel
theorem dX12_part_117 : decode cX12_part 117 = .ok (.ireturn, 1) := by decide +kernel
theorem dX12_part_118 : decode cX12_part 118 = .ok (.lconst 0, 1) := by decide +kernel
theorem dX12_part_119 : decode cX12_part 119 = .ok (.lstore 7, 2) := by decide +kernel
theorem dX12_part_121 : decode cX12_part 121 = .ok (.ldc2_w 187, 3) := by decide +kernel
theorem dX12_part_124 : decode cX12_part 124 = .ok (.lstore 9, 2) := by decide +kernel
theorem dX12_part_126 : decode cX12_part 126 = .ok (.lload 7, 2) := by decide +kernel
theorem dX12_part_128 : decode cX12_part 128 = .ok (.lload 9, 2) := by decide +kernel
theorem dX12_part_130 : decode cX12_part 130 = .ok (.lcmp, 1) := by decide +kernel
theorem dX12_part_131 : decode cX12_part 131 = .ok (.ifCond .ge 44, 3) := by decide +kernel
theorem dX12_part_134 : decode cX12_part 134 = .ok (.lload 7, 2) := by decide +kernel
theorem dX12_part_136 : decode cX12_part 136 = .ok (.lload 9, 2) := by decide +kernel
theorem dX12_part_138 : decode cX12_part 138 = .ok (.ladd, 1) := by decide +kernel
theorem dX12_part_139 : decode cX12_part 139 = .ok (.lconst 1, 1) := by decide +kernel
theorem dX12_part_140 : decode cX12_part 140 = .ok (.ladd, 1) := by decide +kernel
theorem dX12_part_141 : decode cX12_part 141 = .ok (.ldc2_w 256, 3) := by decide +kernel
theorem dX12_part_144 : decode cX12_part 144 = .ok (.ldiv, 1) := by decide +kernel
theorem dX12_part_145 : decode cX12_part 145 = .ok (.lstore 11, 2) := by decide +kernel
theorem dX12_part_147 : decode cX12_part 147 = .ok (.aload_n 0, 1) := by decide +kernel
theorem dX12_part_148 : decode cX12_part 148 = .ok (.iload_n 1, 1) := by decide +kernel
theorem dX12_part_149 : decode cX12_part 149 = .ok (.lload 11, 2) := by decide +kernel
theorem dX12_part_151 : decode cX12_part 151 = .ok (.invokevirtual 252, 3) := by decide +kernel
theorem dX12_part_154 : decode cX12_part 154 = .ok (.lload_n 2, 1) := by decide +kernel
theorem dX12_part_155 : decode cX12_part 155 = .ok (.lcmp, 1) := by decide +kernel
theorem dX12_part_156 : decode cX12_part 156 = .ok (.ifCond .gt 10, 3) := by decide +kernel
theorem dX12_part_159 : decode cX12_part 159 = .ok (.lload 11, 2) := by decide +kernel
theorem dX12_part_161 : decode cX12_part 161 = .ok (.lstore 7, 2) := by decide +kernel
theorem dX12_part_163 : decode cX12_part 163 = .ok (.goto 9, 3) := by decide +kernel
theorem dX12_part_166 : decode cX12_part 166 = .ok (.lload 11, 2) := by decide +kernel
theorem dX12_part_168 : decode cX12_part 168 = .ok (.lconst 1, 1) := by decide +kernel
theorem dX12_part_169 : decode cX12_part 169 = .ok (.lsub, 1) := by decide +kernel
theorem dX12_part_170 : decode cX12_part 170 = .ok (.lstore 9, 2) := by decide +kernel
theorem dX12_part_172 : decode cX12_part 172 = .ok (.goto (-46), 3) := by decide +kernel
theorem dX12_part_175 : decode cX12_part 175 = .ok (.lload_n 2, 1) := by decide +kernel
theorem dX12_part_176 : decode cX12_part 176 = .ok (.aload_n 0, 1) := by decide +kernel
theorem dX12_part_177 : decode cX12_part 177 = .ok (.iload_n 1, 1) := by decide +kernel
theorem dX12_part_178 : decode cX12_part 178 = .ok (.lload 7, 2) := by decide +kernel
theorem dX12_part_180 : decode cX12_part 180 = .ok (.invokevirtual 252, 3) := by decide +kernel
theorem dX12_part_183 : decode cX12_part 183 = .ok (.lsub, 1) := by decide +kernel
theorem dX12_part_184 : decode cX12_part 184 = .ok (.lstore 11, 2) := by decide +kernel
theorem dX12_part_186 : decode cX12_part 186 = .ok (.iconst 0, 1) := by decide +kernel
theorem dX12_part_187 : decode cX12_part 187 = .ok (.istore 13, 2) := by decide +kernel
theorem dX12_part_189 : decode cX12_part 189 = .ok (.iload 13, 2) := by decide +kernel
theorem dX12_part_191 : decode cX12_part 191 = .ok (.aload_n 0, 1) := by decide +kernel
theorem dX12_part_192 : decode cX12_part 192 = .ok (.getfield 171, 3) := by decide +kernel
theorem dX12_part_195 : decode cX12_part 195 = .ok (.if_icmp .ge 97, 3) := by decide +kernel
theorem dX12_part_198 : decode cX12_part 198 = .ok (.aload_n 0, 1) := by decide +kernel
theorem dX12_part_199 : decode cX12_part 199 = .ok (.getfield 37, 3) := by decide +kernel
theorem dX12_part_202 : decode cX12_part 202 = .ok (.bipush 10, 2) := by decide +kernel
theorem dX12_part_204 : decode cX12_part 204 = .ok (.iload 13, 2) := by decide +kernel
theorem dX12_part_206 : decode cX12_part 206 = .ok (.imul, 1) := by decide +kernel
theorem dX12_part_207 : decode cX12_part 207 = .ok (.iload_n 1, 1) := by decide +kernel
theorem dX12_part_208 : decode cX12_part 208 = .ok (.iadd, 1) := by decide +kernel
theorem dX12_part_209 : decode cX12_part 209 = .ok (.iaload, 1) := by decide +kernel
theorem dX12_part_210 : decode cX12_part 210 = .ok (.istore 14, 2) := by decide +kernel
theorem dX12_part_212 : decode cX12_part 212 = .ok (.iload 14, 2) := by decide +kernel
theorem dX12_part_214 : decode cX12_part 214 = .ok (.i2l, 1) := by decide +kernel
theorem dX12_part_215 : decode cX12_part 215 = .ok (.lload 7, 2) := by decide +kernel
theorem dX12_part_217 : decode cX12_part 217 = .ok (.lcmp, 1) := by decide +kernel
theorem dX12_part_218 : decode cX12_part 218 = .ok (.ifCond .le 14, 3) := by decide +kernel
theorem dX12_part_221 : decode cX12_part 221 = .ok (.lload 11, 2) := by decide +kernel
theorem dX12_part_223 : decode cX12_part 223 = .ok (.lconst 0, 1) := by decide +kernel
theorem dX12_part_224 : decode cX12_part 224 = .ok (.lcmp, 1) := by decide +kernel
theorem dX12_part_225 : decode cX12_part 225 = .ok (.ifCond .le 7, 3) := by decide +kernel
theorem dX12_part_228 : decode cX12_part 228 = .ok (.iconst 1, 1) := by decide +kernel
theorem dX12_part_229 : decode cX12_part 229 = .ok (.goto 4, 3) := by decide +kernel
theorem dX12_part_232 : decode cX12_part 232 = .ok (.iconst 0, 1) := by decide +kernel
theorem dX12_part_233 : decode cX12_part 233 = .ok (.istore 15, 2) := by decide +kernel
theorem dX12_part_235 : decode cX12_part 235 = .ok (.aload_n 0, 1) := by decide +kernel
theorem dX12_part_236 : decode cX12_part 236 = .ok (.getfield 98, 3) := by decide +kernel
theorem dX12_part_239 : decode cX12_part 239 = .ok (.iload 13, 2) := by decide +kernel
theorem dX12_part_241 : decode cX12_part 241 = .ok (.iload 14, 2) := by decide +kernel
theorem dX12_part_243 : decode cX12_part 243 = .ok (.i2l, 1) := by decide +kernel
theorem dX12_part_244 : decode cX12_part 244 = .ok (.lload 7, 2) := by decide +kernel
theorem dX12_part_246 : decode cX12_part 246 = .ok (.lcmp, 1) := by decide +kernel
theorem dX12_part_247 : decode cX12_part 247 = .ok (.ifCond .ge 9, 3) := by decide +kernel
theorem dX12_part_250 : decode cX12_part 250 = .ok (.iload 14, 2) := by decide +kernel
theorem dX12_part_252 : decode cX12_part 252 = .ok (.i2l, 1) := by decide +kernel
theorem dX12_part_253 : decode cX12_part 253 = .ok (.goto 5, 3) := by decide +kernel
theorem dX12_part_256 : decode cX12_part 256 = .ok (.lload 7, 2) := by decide +kernel
theorem dX12_part_258 : decode cX12_part 258 = .ok (.l2i, 1) := by decide +kernel
theorem dX12_part_259 : decode cX12_part 259 = .ok (.iload 15, 2) := by decide +kernel
theorem dX12_part_261 : decode cX12_part 261 = .ok (.ifCond .eq 7, 3) := by decide +kernel
theorem dX12_part_264 : decode cX12_part 264 = .ok (.iconst 1, 1) := by decide +kernel
theorem dX12_part_265 : decode cX12_part 265 = .ok (.goto 4, 3) := by decide +kernel
theorem dX12_part_268 : decode cX12_part 268 = .ok (.iconst 0, 1) := by decide +kernel
theorem dX12_part_269 : decode cX12_part 269 = .ok (.iadd, 1) := by decide +kernel
theorem dX12_part_270 : decode cX12_part 270 = .ok (.iastore, 1) := by decide +kernel
theorem dX12_part_271 : decode cX12_part 271 = .ok (.lload 11, 2) := by decide +kernel
theorem dX12_part_273 : decode cX12_part 273 = .ok (.iload 15, 2) := by decide +kernel
theorem dX12_part_275 : decode cX12_part 275 = .ok (.ifCond .eq 7, 3) := by decide +kernel
theorem dX12_part_278 : decode cX12_part 278 = .ok (.lconst 1, 1) := by decide +kernel
theorem dX12_part_279 : decode cX12_part 279 = .ok (.goto 4, 3) := by decide +kernel
theorem dX12_part_282 : decode cX12_part 282 = .ok (.lconst 0, 1) := by decide +kernel
theorem dX12_part_283 : decode cX12_part 283 = .ok (.lsub, 1) := by decide +kernel
theorem dX12_part_284 : decode cX12_part 284 = .ok (.lstore 11, 2) := by decide +kernel
theorem dX12_part_286 : decode cX12_part 286 = .ok (.iinc 13 1, 3) := by decide +kernel
theorem dX12_part_289 : decode cX12_part 289 = .ok (.goto (-100), 3) := by decide +kernel
theorem dX12_part_292 : decode cX12_part 292 = .ok (.iconst 0, 1) := by decide +kernel
theorem dX12_part_293 : decode cX12_part 293 = .ok (.istore 13, 2) := by decide +kernel
theorem dX12_part_295 : decode cX12_part 295 = .ok (.iconst 0, 1) := by decide +kernel
theorem dX12_part_296 : decode cX12_part 296 = .ok (.istore 14, 2) := by decide +kernel
theorem dX12_part_298 : decode cX12_part 298 = .ok (.iload 14, 2) := by decide +kernel
theorem dX12_part_300 : decode cX12_part 300 = .ok (.aload_n 0, 1) := by decide +kernel
theorem dX12_part_301 : decode cX12_part 301 = .ok (.getfield 171, 3) := by decide +kernel
theorem dX12_part_304 : decode cX12_part 304 = .ok (.if_icmp .ge 35, 3) := by decide +kernel
theorem dX12_part_307 : decode cX12_part 307 = .ok (.iload 13, 2) := by decide +kernel
theorem dX12_part_309 : decode cX12_part 309 = .ok (.aload_n 0, 1) := by decide +kernel
theorem dX12_part_310 : decode cX12_part 310 = .ok (.getfield 98, 3) := by decide +kernel
theorem dX12_part_313 : decode cX12_part 313 = .ok (.iload 14, 2) := by decide +kernel
theorem dX12_part_315 : decode cX12_part 315 = .ok (.iaload, 1) := by decide +kernel
theorem dX12_part_316 : decode cX12_part 316 = .ok (.iadd, 1) := by decide +kernel
theorem dX12_part_317 : decode cX12_part 317 = .ok (.istore 13, 2) := by decide +kernel
theorem dX12_part_319 : decode cX12_part 319 = .ok (.aload_n 0, 1) := by decide +kernel
theorem dX12_part_320 : decode cX12_part 320 = .ok (.iload 14, 2) := by decide +kernel
theorem dX12_part_322 : decode cX12_part 322 = .ok (.iload_n 1, 1) := by decide +kernel
theorem dX12_part_323 : decode cX12_part 323 = .ok (.aload_n 0, 1) := by decide +kernel
theorem dX12_part_324 : decode cX12_part 324 = .ok (.getfield 98, 3) := by decide +kernel
theorem dX12_part_327 : decode cX12_part 327 = .ok (.iload 14, 2) := by decide +kernel
theorem dX12_part_329 : decode cX12_part 329 = .ok (.iaload, 1) := by decide +kernel
theorem dX12_part_330 : decode cX12_part 330 = .ok (.invokevirtual 258, 3) := by decide +kernel
theorem dX12_part_333 : decode cX12_part 333 = .ok (.iinc 14 1, 3) := by decide +kernel
theorem dX12_part_336 : decode cX12_part 336 = .ok (.goto (-38), 3) := by decide +kernel
theorem dX12_part_339 : decode cX12_part 339 = .ok (.aload_n 0, 1) := by decide +kernel
theorem dX12_part_340 : decode cX12_part 340 = .ok (.iload 13, 2) := by decide +kernel
theorem dX12_part_342 : decode cX12_part 342 = .ok (.invokevirtual 183, 3) := by decide +kernel
theorem dX12_part_345 : decode cX12_part 345 = .ok (.ireturn, 1) := by decide +kernel
set_option maxRecDepth 20000 in
theorem ggX12_got_X12_isTable : GoodIn wsX12_got wsX12_isTable := goodIn_r _ [7, 8, 9, 10, 6, 11, 16, 17, 18, 19, 20, 21, 22, 23, 24, 25, 26, 27, 28, 29, 30, 31, 32, 33, 34, 35, 36, 37, 38, 39, 40, 41, 42, 43, 44, 45, 46, 47, 48, 49, 50, 51, 52, 53, 54, 55, 56, 57, 58, 59, 60, 61, 62, 63, 64, 65, 66, 67, 68, 69, 70, 71, 72, 73, 74, 75, 76, 77, 78, 79, 80, 81, 82, 83, 84] (by decide +kernel) (by decide +kernel)
set_option maxRecDepth 20000 in
theorem gX12_got_X12_isTable : GoodIn wsX12_got (wsV RX12 201 RX12 yX12_isTable wsX12_isTable) := goodIn_app (goodIn_of _ (by decide +kernel)) ggX12_got_X12_isTable
set_option maxRecDepth 20000 in
theorem ggX12_got_X12_isKind : GoodIn wsX12_got wsX12_isKind := goodIn_r _ [14, 15, 9, 10, 6, 11] (by decide +kernel) (by decide +kernel)
set_option maxRecDepth 20000 in
theorem gX12_got_X12_isKind : GoodIn wsX12_got (va_wsS RX12 177 yX12_isKind wsX12_isKind) := goodIn_app (goodIn_of _ (by decide +kernel)) ggX12_got_X12_isKind
theorem dX12_got_0 : decode cX12_got 0 = .ok (.aload_n 0, 1) := by decide +kernel
theorem dX12_got_1 : decode cX12_got 1 = .ok (.iconst 0, 1) := by decide +kernel
theorem dX12_got_2 : decode cX12_got 2 = .ok (.putfield 156, 3) := by decide +kernel
theorem dX12_got_5 : decode cX12_got 5 = .ok (.aload_n 0, 1) := by decide +kernel
theorem dX12_got_6 : decode cX12_got 6 = .ok (.iload_n 1, 1) := by decide +kernel
theorem dX12_got_7 : decode cX12_got 7 = .ok (.invokevirtual 201, 3) := by decide +kernel
theorem dX12_got_10 : decode cX12_got 10 = .ok (.ifCond .eq 25, 3) := by decide +kernel
theorem dX12_got_13 : decode cX12_got 13 = .ok (.iload_n 2, 1) := by decide +kernel
theorem dX12_got_14 : decode cX12_got 14 = .ok (.invokestatic 177, 3) := by decide +kernel
theorem dX12_got_17 : decode cX12_got 17 = .ok (.ifCond .eq 18, 3) := by decide +kernel
theorem dX12_got_20 : decode cX12_got 20 = .ok (.aload_n 0, 1) := by decide +kernel
theorem dX12_got_21 : decode cX12_got 21 = .ok (.getfield 40, 3) := by decide +kernel
theorem dX12_got_24 : decode cX12_got 24 = .ok (.bipush 10, 2) := by decide +kernel
theorem dX12_got_26 : decode cX12_got 26 = .ok (.iload_n 1, 1) := by decide +kernel
theorem dX12_got_27 : decode cX12_got 27 = .ok (.imul, 1) := by decide +kernel
theorem dX12_got_28 : decode cX12_got 28 = .ok (.iload_n 2, 1) := by decide +kernel
theorem dX12_got_29 : decode cX12_got 29 = .ok (.iadd, 1) := by decide +kernel
theorem dX12_got_30 : decode cX12_got 30 = .ok (.laload, 1) := by decide +kernel
theorem dX12_got_31 : decode cX12_got 31 = .ok (.l2i, 1) := by decide +kernel
theorem dX12_got_32 : decode cX12_got 32 = .ok (.goto 4, 3) := by decide +kernel
theorem dX12_got_35 : decode cX12_got 35 = .ok (.iconst (-1), 1) := by decide +kernel
theorem dX12_got_36 : decode cX12_got 36 = .ok (.ireturn, 1) := by decide +kernel
set_option maxRecDepth 20000 in
theorem ggX12_road_X12_in : GoodIn wsX12_road wsX12_in := goodIn_r _ [8] (by decide +kernel) (by decide +kernel)
set_option maxRecDepth 20000 in
theorem gX12_road_X12_in : GoodIn wsX12_road (va_wsS RX12 164 yX12_in wsX12_in) := goodIn_app (goodIn_of _ (by decide +kernel)) ggX12_road_X12_in
set_option maxRecDepth 20000 in
theorem ggX12_road_X12_told : GoodIn wsX12_road wsX12_told := goodIn_r _ [12, 13, 14, 15, 16, 17, 18, 19, 20, 21, 22, 23, 24, 25, 26, 27, 28, 29, 30, 31, 32, 33, 34, 35, 36, 37, 38, 39, 40, 41, 42, 43, 44, 45, 46, 47, 48, 49, 50, 51, 52, 53, 54, 55, 56, 57, 58, 59, 60, 61, 62, 63, 64, 65, 66, 67, 68, 69, 70, 71, 72, 73, 74, 75, 76, 77, 78, 79, 80, 81, 82] (by decide +kernel) (by decide +kernel)
set_option maxRecDepth 20000 in
theorem gX12_road_X12_told : GoodIn wsX12_road (wsV RX12 183 RX12 yX12_told wsX12_told) := goodIn_app (goodIn_of _ (by decide +kernel)) ggX12_road_X12_told
theorem dX12_road_0 : decode cX12_road 0 = .ok (.aload_n 0, 1) := by decide +kernel
theorem dX12_road_1 : decode cX12_road 1 = .ok (.iconst 0, 1) := by decide +kernel
theorem dX12_road_2 : decode cX12_road 2 = .ok (.putfield 156, 3) := by decide +kernel
theorem dX12_road_5 : decode cX12_road 5 = .ok (.iload_n 1, 1) := by decide +kernel
theorem dX12_road_6 : decode cX12_road 6 = .ok (.i2l, 1) := by decide +kernel
theorem dX12_road_7 : decode cX12_road 7 = .ok (.lconst 0, 1) := by decide +kernel
theorem dX12_road_8 : decode cX12_road 8 = .ok (.ldc2_w 199, 3) := by decide +kernel
theorem dX12_road_11 : decode cX12_road 11 = .ok (.invokestatic 164, 3) := by decide +kernel
theorem dX12_road_14 : decode cX12_road 14 = .ok (.ifCond .eq 32, 3) := by decide +kernel
theorem dX12_road_17 : decode cX12_road 17 = .ok (.iload_n 2, 1) := by decide +kernel
theorem dX12_road_18 : decode cX12_road 18 = .ok (.i2l, 1) := by decide +kernel
theorem dX12_road_19 : decode cX12_road 19 = .ok (.lconst 0, 1) := by decide +kernel
theorem dX12_road_20 : decode cX12_road 20 = .ok (.ldc2_w 199, 3) := by decide +kernel
theorem dX12_road_23 : decode cX12_road 23 = .ok (.invokestatic 164, 3) := by decide +kernel
theorem dX12_road_26 : decode cX12_road 26 = .ok (.ifCond .eq 20, 3) := by decide +kernel
theorem dX12_road_29 : decode cX12_road 29 = .ok (.iload_n 1, 1) := by decide +kernel
theorem dX12_road_30 : decode cX12_road 30 = .ok (.iload_n 2, 1) := by decide +kernel
theorem dX12_road_31 : decode cX12_road 31 = .ok (.if_icmp .eq 15, 3) := by decide +kernel
theorem dX12_road_34 : decode cX12_road 34 = .ok (.iload_n 3, 1) := by decide +kernel
theorem dX12_road_35 : decode cX12_road 35 = .ok (.i2l, 1) := by decide +kernel
theorem dX12_road_36 : decode cX12_road 36 = .ok (.lconst 0, 1) := by decide +kernel
theorem dX12_road_37 : decode cX12_road 37 = .ok (.ldc2_w 262, 3) := by decide +kernel
theorem dX12_road_40 : decode cX12_road 40 = .ok (.invokestatic 164, 3) := by decide +kernel
theorem dX12_road_43 : decode cX12_road 43 = .ok (.ifCond .ne 9, 3) := by decide +kernel
theorem dX12_road_46 : decode cX12_road 46 = .ok (.aload_n 0, 1) := by decide +kernel
theorem dX12_road_47 : decode cX12_road 47 = .ok (.iconst (-1), 1) := by decide +kernel
theorem dX12_road_48 : decode cX12_road 48 = .ok (.invokevirtual 183, 3) := by decide +kernel
theorem dX12_road_51 : decode cX12_road 51 = .ok (.ireturn, 1) := by decide +kernel
theorem dX12_road_52 : decode cX12_road 52 = .ok (.aload_n 0, 1) := by decide +kernel
theorem dX12_road_53 : decode cX12_road 53 = .ok (.getfield 101, 3) := by decide +kernel
theorem dX12_road_56 : decode cX12_road 56 = .ok (.bipush 13, 2) := by decide +kernel
theorem dX12_road_58 : decode cX12_road 58 = .ok (.iload_n 1, 1) := by decide +kernel
theorem dX12_road_59 : decode cX12_road 59 = .ok (.imul, 1) := by decide +kernel
theorem dX12_road_60 : decode cX12_road 60 = .ok (.iload_n 2, 1) := by decide +kernel
theorem dX12_road_61 : decode cX12_road 61 = .ok (.iadd, 1) := by decide +kernel
theorem dX12_road_62 : decode cX12_road 62 = .ok (.iload_n 3, 1) := by decide +kernel
theorem dX12_road_63 : decode cX12_road 63 = .ok (.iastore, 1) := by decide +kernel
theorem dX12_road_64 : decode cX12_road 64 = .ok (.aload_n 0, 1) := by decide +kernel
theorem dX12_road_65 : decode cX12_road 65 = .ok (.getfield 101, 3) := by decide +kernel
theorem dX12_road_68 : decode cX12_road 68 = .ok (.bipush 13, 2) := by decide +kernel
theorem dX12_road_70 : decode cX12_road 70 = .ok (.iload_n 2, 1) := by decide +kernel
theorem dX12_road_71 : decode cX12_road 71 = .ok (.imul, 1) := by decide +kernel
theorem dX12_road_72 : decode cX12_road 72 = .ok (.iload_n 1, 1) := by decide +kernel
theorem dX12_road_73 : decode cX12_road 73 = .ok (.iadd, 1) := by decide +kernel
theorem dX12_road_74 : decode cX12_road 74 = .ok (.iload_n 3, 1) := by decide +kernel
theorem dX12_road_75 : decode cX12_road 75 = .ok (.iastore, 1) := by decide +kernel
theorem dX12_road_76 : decode cX12_road 76 = .ok (.aload_n 0, 1) := by decide +kernel
theorem dX12_road_77 : decode cX12_road 77 = .ok (.iconst 0, 1) := by decide +kernel
theorem dX12_road_78 : decode cX12_road 78 = .ok (.invokevirtual 183, 3) := by decide +kernel
theorem dX12_road_81 : decode cX12_road 81 = .ok (.ireturn, 1) := by decide +kernel
set_option maxRecDepth 20000 in
theorem ggX12_load_X12_in : GoodIn wsX12_load wsX12_in := goodIn_r _ [8] (by decide +kernel) (by decide +kernel)
set_option maxRecDepth 20000 in
theorem gX12_load_X12_in : GoodIn wsX12_load (va_wsS RX12 164 yX12_in wsX12_in) := goodIn_app (goodIn_of _ (by decide +kernel)) ggX12_load_X12_in
set_option maxRecDepth 20000 in
theorem ggX12_load_X12_told : GoodIn wsX12_load wsX12_told := goodIn_r _ [12, 13, 19, 20, 21, 22, 23, 24, 25, 26, 27, 28, 29, 30, 31, 32, 33, 34, 35, 36, 37, 38, 39, 40, 41, 42, 43, 44, 45, 46, 47, 48, 49, 50, 51, 52, 53, 54, 55, 56, 57, 58, 59, 60, 61, 62, 63, 64, 65, 66, 67, 68, 69, 70, 71, 72, 73, 74, 75, 76, 77, 78, 79, 80, 81, 82, 83, 84, 85, 86, 87] (by decide +kernel) (by decide +kernel)
set_option maxRecDepth 20000 in
theorem gX12_load_X12_told : GoodIn wsX12_load (wsV RX12 183 RX12 yX12_told wsX12_told) := goodIn_app (goodIn_of _ (by decide +kernel)) ggX12_load_X12_told
set_option maxRecDepth 20000 in
theorem ggX12_load_X12_isTable : GoodIn wsX12_load wsX12_isTable := goodIn_r _ [17, 18, 5, 6, 7, 8, 19, 20, 21, 22, 23, 24, 25, 26, 27, 28, 29, 30, 31, 32, 33, 34, 35, 36, 37, 38, 39, 40, 41, 42, 43, 44, 45, 46, 47, 48, 49, 50, 51, 52, 53, 54, 55, 56, 57, 58, 59, 60, 61, 62, 63, 64, 65, 66, 67, 68, 69, 70, 71, 72, 73, 74, 75, 76, 77, 78, 79, 80, 81, 82, 83, 84, 85, 86, 87] (by decide +kernel) (by decide +kernel)
set_option maxRecDepth 20000 in
theorem gX12_load_X12_isTable : GoodIn wsX12_load (wsV RX12 201 RX12 yX12_isTable wsX12_isTable) := goodIn_app (goodIn_of _ (by decide +kernel)) ggX12_load_X12_isTable
theorem dX12_load_0 : decode cX12_load 0 = .ok (.aload_n 0, 1) := by decide +kernel
theorem dX12_load_1 : decode cX12_load 1 = .ok (.iconst 0, 1) := by decide +kernel
theorem dX12_load_2 : decode cX12_load 2 = .ok (.putfield 156, 3) := by decide +kernel
theorem dX12_load_5 : decode cX12_load 5 = .ok (.iload_n 2, 1) := by decide +kernel
theorem dX12_load_6 : decode cX12_load 6 = .ok (.i2l, 1) := by decide +kernel
theorem dX12_load_7 : decode cX12_load 7 = .ok (.lconst 0, 1) := by decide +kernel
theorem dX12_load_8 : decode cX12_load 8 = .ok (.ldc2_w 187, 3) := by decide +kernel
theorem dX12_load_11 : decode cX12_load 11 = .ok (.invokestatic 164, 3) := by decide +kernel
theorem dX12_load_14 : decode cX12_load 14 = .ok (.ifCond .ne 9, 3) := by decide +kernel
theorem dX12_load_17 : decode cX12_load 17 = .ok (.aload_n 0, 1) := by decide +kernel
theorem dX12_load_18 : decode cX12_load 18 = .ok (.iconst (-1), 1) := by decide +kernel
theorem dX12_load_19 : decode cX12_load 19 = .ok (.invokevirtual 183, 3) := by decide +kernel
theorem dX12_load_22 : decode cX12_load 22 = .ok (.ireturn, 1) := by decide +kernel
theorem dX12_load_23 : decode cX12_load 23 = .ok (.aload_n 0, 1) := by decide +kernel
theorem dX12_load_24 : decode cX12_load 24 = .ok (.iload_n 1, 1) := by decide +kernel
theorem dX12_load_25 : decode cX12_load 25 = .ok (.invokevirtual 201, 3) := by decide +kernel
theorem dX12_load_28 : decode cX12_load 28 = .ok (.ifCond .ne 10, 3) := by decide +kernel
theorem dX12_load_31 : decode cX12_load 31 = .ok (.aload_n 0, 1) := by decide +kernel
theorem dX12_load_32 : decode cX12_load 32 = .ok (.bipush (-2), 2) := by decide +kernel
theorem dX12_load_34 : decode cX12_load 34 = .ok (.invokevirtual 183, 3) := by decide +kernel
theorem dX12_load_37 : decode cX12_load 37 = .ok (.ireturn, 1) := by decide +kernel
theorem dX12_load_38 : decode cX12_load 38 = .ok (.iload_n 2, 1) := by decide +kernel
theorem dX12_load_39 : decode cX12_load 39 = .ok (.ifCond .le 28, 3) := by decide +kernel
theorem dX12_load_42 : decode cX12_load 42 = .ok (.aload_n 0, 1) := by decide +kernel
theorem dX12_load_43 : decode cX12_load 43 = .ok (.getfield 104, 3) := by decide +kernel
theorem dX12_load_46 : decode cX12_load 46 = .ok (.iload_n 1, 1) := by decide +kernel
theorem dX12_load_47 : decode cX12_load 47 = .ok (.iaload, 1) := by decide +kernel
theorem dX12_load_48 : decode cX12_load 48 = .ok (.ifCond .ne 19, 3) := by decide +kernel
theorem dX12_load_51 : decode cX12_load 51 = .ok (.aload_n 0, 1) := by decide +kernel
theorem dX12_load_52 : decode cX12_load 52 = .ok (.getfield 264, 3) := by decide +kernel
theorem dX12_load_55 : decode cX12_load 55 = .ok (.bipush 8, 2) := by decide +kernel
theorem dX12_load_57 : decode cX12_load 57 = .ok (.if_icmp .ne 10, 3) := by decide +kernel
theorem dX12_load_60 : decode cX12_load 60 = .ok (.aload_n 0, 1) := by decide +kernel
theorem dX12_load_61 : decode cX12_load 61 = .ok (.bipush (-5), 2) := by decide +kernel
theorem dX12_load_63 : decode cX12_load 63 = .ok (.invokevirtual 183, 3) := by decide +kernel
theorem dX12_load_66 : decode cX12_load 66 = .ok (.ireturn, 1) := by decide +kernel
theorem dX12_load_67 : decode cX12_load 67 = .ok (.aload_n 0, 1) := by decide +kernel
theorem dX12_load_68 : decode cX12_load 68 = .ok (.dup, 1) := by decide +kernel
theorem dX12_load_69 : decode cX12_load 69 = .ok (.getfield 264, 3) := by decide +kernel
theorem dX12_load_72 : decode cX12_load 72 = .ok (.iload_n 2, 1) := by decide +kernel
theorem dX12_load_73 : decode cX12_load 73 = .ok (.ifCond .le 7, 3) := by decide +kernel
theorem dX12_load_76 : decode cX12_load 76 = .ok (.iconst 1, 1) := by decide +kernel
theorem dX12_load_77 : decode cX12_load 77 = .ok (.goto 4, 3) := by decide +kernel
theorem dX12_load_80 : decode cX12_load 80 = .ok (.iconst 0, 1) := by decide +kernel
theorem dX12_load_81 : decode cX12_load 81 = .ok (.aload_n 0, 1) := by decide +kernel
theorem dX12_load_82 : decode cX12_load 82 = .ok (.getfield 104, 3) := by decide +kernel
theorem dX12_load_85 : decode cX12_load 85 = .ok (.iload_n 1, 1) := by decide +kernel
theorem dX12_load_86 : decode cX12_load 86 = .ok (.iaload, 1) := by decide +kernel
theorem dX12_load_87 : decode cX12_load 87 = .ok (.ifCond .le 7, 3) := by decide +kernel
theorem dX12_load_90 : decode cX12_load 90 = .ok (.iconst 1, 1) := by decide +kernel
theorem dX12_load_91 : decode cX12_load 91 = .ok (.goto 4, 3) := by decide +kernel
theorem dX12_load_94 : decode cX12_load 94 = .ok (.iconst 0, 1) := by decide +kernel
theorem dX12_load_95 : decode cX12_load 95 = .ok (.isub, 1) := by decide +kernel
theorem dX12_load_96 : decode cX12_load 96 = .ok (.iadd, 1) := by decide +kernel
theorem dX12_load_97 : decode cX12_load 97 = .ok (.putfield 264, 3) := by decide +kernel
theorem dX12_load_100 : decode cX12_load 100 = .ok (.aload_n 0, 1) := by decide +kernel
theorem dX12_load_101 : decode cX12_load 101 = .ok (.getfield 104, 3) := by decide +kernel
theorem dX12_load_104 : decode cX12_load 104 = .ok (.iload_n 1, 1) := by decide +kernel
theorem dX12_load_105 : decode cX12_load 105 = .ok (.iload_n 2, 1) := by decide +kernel
theorem dX12_load_106 : decode cX12_load 106 = .ok (.iastore, 1) := by decide +kernel
theorem dX12_load_107 : decode cX12_load 107 = .ok (.aload_n 0, 1) := by decide +kernel
theorem dX12_load_108 : decode cX12_load 108 = .ok (.aload_n 0, 1) := by decide +kernel
theorem dX12_load_109 : decode cX12_load 109 = .ok (.getfield 264, 3) := by decide +kernel
theorem dX12_load_112 : decode cX12_load 112 = .ok (.invokevirtual 183, 3) := by decide +kernel
theorem dX12_load_115 : decode cX12_load 115 = .ok (.ireturn, 1) := by decide +kernel
theorem dX12_way_0 : decode cX12_way 0 = .ok (.aload_n 0, 1) := by decide +kernel
theorem dX12_way_1 : decode cX12_way 1 = .ok (.getfield 101, 3) := by decide +kernel
theorem dX12_way_4 : decode cX12_way 4 = .ok (.bipush 13, 2) := by decide +kernel
theorem dX12_way_6 : decode cX12_way 6 = .ok (.iload_n 1, 1) := by decide +kernel
theorem dX12_way_7 : decode cX12_way 7 = .ok (.ifCond .ge 8, 3) := by decide +kernel
theorem dX12_way_10 : decode cX12_way 10 = .ok (.bipush 12, 2) := by decide +kernel
theorem dX12_way_12 : decode cX12_way 12 = .ok (.goto 9, 3) := by decide +kernel
theorem dX12_way_15 : decode cX12_way 15 = .ok (.aload_n 0, 1) := by decide +kernel
theorem dX12_way_16 : decode cX12_way 16 = .ok (.getfield 107, 3) := by decide +kernel
theorem dX12_way_19 : decode cX12_way 19 = .ok (.iload_n 1, 1) := by decide +kernel
theorem dX12_way_20 : decode cX12_way 20 = .ok (.iaload, 1) := by decide +kernel
theorem dX12_way_21 : decode cX12_way 21 = .ok (.imul, 1) := by decide +kernel
theorem dX12_way_22 : decode cX12_way 22 = .ok (.iload_n 2, 1) := by decide +kernel
theorem dX12_way_23 : decode cX12_way 23 = .ok (.ifCond .ge 8, 3) := by decide +kernel
theorem dX12_way_26 : decode cX12_way 26 = .ok (.bipush 12, 2) := by decide +kernel
theorem dX12_way_28 : decode cX12_way 28 = .ok (.goto 9, 3) := by decide +kernel
theorem dX12_way_31 : decode cX12_way 31 = .ok (.aload_n 0, 1) := by decide +kernel
theorem dX12_way_32 : decode cX12_way 32 = .ok (.getfield 107, 3) := by decide +kernel
theorem dX12_way_35 : decode cX12_way 35 = .ok (.iload_n 2, 1) := by decide +kernel
theorem dX12_way_36 : decode cX12_way 36 = .ok (.iaload, 1) := by decide +kernel
theorem dX12_way_37 : decode cX12_way 37 = .ok (.iadd, 1) := by decide +kernel
theorem dX12_way_38 : decode cX12_way 38 = .ok (.iaload, 1) := by decide +kernel
theorem dX12_way_39 : decode cX12_way 39 = .ok (.ireturn, 1) := by decide +kernel
set_option maxRecDepth 20000 in
theorem ggX12_findTours_X12_way : GoodIn wsX12_findTours wsX12_way := goodIn_r _ [11, 12, 5, 13, 14, 15, 16, 17, 18, 19, 20, 21, 22, 23, 24, 25, 26, 27, 28, 29, 30, 31, 32, 33, 34, 35, 36, 37, 38, 39, 40, 41, 42, 43, 44, 45, 46, 47, 48, 49, 50, 51, 52, 53, 54, 55, 56, 57, 58, 59, 60, 61, 62, 63, 64, 65, 66, 67, 68, 69, 70, 71, 72, 73, 74, 75, 76, 77, 78, 79, 80, 81] (by decide +kernel) (by decide +kernel)
set_option maxRecDepth 20000 in
theorem gX12_findTours_X12_way : GoodIn wsX12_findTours (wsV RX12 268 RX12 yX12_way wsX12_way) := goodIn_app (goodIn_of _ (by decide +kernel)) ggX12_findTours_X12_way
theorem dX12_findTours_0 : decode cX12_findTours 0 = .ok (.iconst 1, 1) := by decide +kernel
theorem dX12_findTours_1 : decode cX12_findTours 1 = .ok (.istore_n 2, 1) := by decide +kernel
theorem dX12_findTours_2 : decode cX12_findTours 2 = .ok (.iload_n 2, 1) := by decide +kernel
theorem dX12_findTours_3 : decode cX12_findTours 3 = .ok (.iconst 1, 1) := by decide +kernel
theorem dX12_findTours_4 : decode cX12_findTours 4 = .ok (.iload_n 1, 1) := by decide +kernel
theorem dX12_findTours_5 : decode cX12_findTours 5 = .ok (.ishl, 1) := by decide +kernel
theorem dX12_findTours_6 : decode cX12_findTours 6 = .ok (.if_icmp .ge 213, 3) := by decide +kernel
theorem dX12_findTours_9 : decode cX12_findTours 9 = .ok (.aload_n 0, 1) := by decide +kernel
theorem dX12_findTours_10 : decode cX12_findTours 10 = .ok (.getfield 113, 3) := by decide +kernel
theorem dX12_findTours_13 : decode cX12_findTours 13 = .ok (.iload_n 2, 1) := by decide +kernel
theorem dX12_findTours_14 : decode cX12_findTours 14 = .ok (.ldc_w 267, 3) := by decide +kernel
theorem dX12_findTours_17 : decode cX12_findTours 17 = .ok (.iastore, 1) := by decide +kernel
theorem dX12_findTours_18 : decode cX12_findTours 18 = .ok (.aload_n 0, 1) := by decide +kernel
theorem dX12_findTours_19 : decode cX12_findTours 19 = .ok (.getfield 116, 3) := by decide +kernel
theorem dX12_findTours_22 : decode cX12_findTours 22 = .ok (.iload_n 2, 1) := by decide +kernel
theorem dX12_findTours_23 : decode cX12_findTours 23 = .ok (.lconst 0, 1) := by decide +kernel
theorem dX12_findTours_24 : decode cX12_findTours 24 = .ok (.lastore, 1) := by decide +kernel
theorem dX12_findTours_25 : decode cX12_findTours 25 = .ok (.iconst 0, 1) := by decide +kernel
theorem dX12_findTours_26 : decode cX12_findTours 26 = .ok (.istore_n 3, 1) := by decide +kernel
theorem dX12_findTours_27 : decode cX12_findTours 27 = .ok (.iload_n 3, 1) := by decide +kernel
theorem dX12_findTours_28 : decode cX12_findTours 28 = .ok (.iload_n 1, 1) := by decide +kernel
theorem dX12_findTours_29 : decode cX12_findTours 29 = .ok (.if_icmp .ge 184, 3) := by decide +kernel
theorem dX12_findTours_32 : decode cX12_findTours 32 = .ok (.iload_n 2, 1) := by decide +kernel
theorem dX12_findTours_33 : decode cX12_findTours 33 = .ok (.iload_n 3, 1) := by decide +kernel
theorem dX12_findTours_34 : decode cX12_findTours 34 = .ok (.ishr, 1) := by decide +kernel
theorem dX12_findTours_35 : decode cX12_findTours 35 = .ok (.iconst 1, 1) := by decide +kernel
theorem dX12_findTours_36 : decode cX12_findTours 36 = .ok (.iand, 1) := by decide +kernel
theorem dX12_findTours_37 : decode cX12_findTours 37 = .ok (.ifCond .ne 6, 3) := by decide +kernel
theorem dX12_findTours_40 : decode cX12_findTours 40 = .ok (.goto 167, 3) := by decide +kernel
theorem dX12_findTours_43 : decode cX12_findTours 43 = .ok (.aload_n 0, 1) := by decide +kernel
theorem dX12_findTours_44 : decode cX12_findTours 44 = .ok (.getfield 116, 3) := by decide +kernel
theorem dX12_findTours_47 : decode cX12_findTours 47 = .ok (.iload_n 2, 1) := by decide +kernel
theorem dX12_findTours_48 : decode cX12_findTours 48 = .ok (.dup2, 1) := by decide +kernel
theorem dX12_findTours_49 : decode cX12_findTours 49 = .ok (.laload, 1) := by decide +kernel
theorem dX12_findTours_50 : decode cX12_findTours 50 = .ok (.aload_n 0, 1) := by decide +kernel
theorem dX12_findTours_51 : decode cX12_findTours 51 = .ok (.getfield 104, 3) := by decide +kernel
theorem dX12_findTours_54 : decode cX12_findTours 54 = .ok (.aload_n 0, 1) := by decide +kernel
theorem dX12_findTours_55 : decode cX12_findTours 55 = .ok (.getfield 107, 3) := by decide +kernel
theorem dX12_findTours_58 : decode cX12_findTours 58 = .ok (.iload_n 3, 1) := by decide +kernel
theorem dX12_findTours_59 : decode cX12_findTours 59 = .ok (.iaload, 1) := by decide +kernel
theorem dX12_findTours_60 : decode cX12_findTours 60 = .ok (.iaload, 1) := by decide +kernel
theorem dX12_findTours_61 : decode cX12_findTours 61 = .ok (.i2l, 1) := by decide +kernel
theorem dX12_findTours_62 : decode cX12_findTours 62 = .ok (.ladd, 1) := by decide +kernel
theorem dX12_findTours_63 : decode cX12_findTours 63 = .ok (.lastore, 1) := by decide +kernel
theorem dX12_findTours_64 : decode cX12_findTours 64 = .ok (.iload_n 2, 1) := by decide +kernel
theorem dX12_findTours_65 : decode cX12_findTours 65 = .ok (.iconst 1, 1) := by decide +kernel
theorem dX12_findTours_66 : decode cX12_findTours 66 = .ok (.iload_n 3, 1) := by decide +kernel
theorem dX12_findTours_67 : decode cX12_findTours 67 = .ok (.ishl, 1) := by decide +kernel
theorem dX12_findTours_68 : decode cX12_findTours 68 = .ok (.ixor, 1) := by decide +kernel
theorem dX12_findTours_69 : decode cX12_findTours 69 = .ok (.istore 4, 2) := by decide +kernel
theorem dX12_findTours_71 : decode cX12_findTours 71 = .ok (.iload 4, 2) := by decide +kernel
theorem dX12_findTours_73 : decode cX12_findTours 73 = .ok (.ifCond .ne 12, 3) := by decide +kernel
theorem dX12_findTours_76 : decode cX12_findTours 76 = .ok (.aload_n 0, 1) := by decide +kernel
theorem dX12_findTours_77 : decode cX12_findTours 77 = .ok (.iload_n 3, 1) := by decide +kernel
theorem dX12_findTours_78 : decode cX12_findTours 78 = .ok (.iconst (-1), 1) := by decide +kernel
theorem dX12_findTours_79 : decode cX12_findTours 79 = .ok (.invokevirtual 268, 3) := by decide +kernel
theorem dX12_findTours_82 : decode cX12_findTours 82 = .ok (.goto 6, 3) := by decide +kernel
theorem dX12_findTours_85 : decode cX12_findTours 85 = .ok (.ldc_w 267, 3) := by decide +kernel
theorem dX12_findTours_88 : decode cX12_findTours 88 = .ok (.istore 5, 2) := by decide +kernel
theorem dX12_findTours_90 : decode cX12_findTours 90 = .ok (.iconst 0, 1) := by decide +kernel
theorem dX12_findTours_91 : decode cX12_findTours 91 = .ok (.istore 6, 2) := by decide +kernel
theorem dX12_findTours_93 : decode cX12_findTours 93 = .ok (.iload 6, 2) := by decide +kernel
theorem dX12_findTours_95 : decode cX12_findTours 95 = .ok (.iload_n 1, 1) := by decide +kernel
theorem dX12_findTours_96 : decode cX12_findTours 96 = .ok (.if_icmp .ge 59, 3) := by decide +kernel
theorem dX12_findTours_99 : decode cX12_findTours 99 = .ok (.iload 4, 2) := by decide +kernel
theorem dX12_findTours_101 : decode cX12_findTours 101 = .ok (.iload 6, 2) := by decide +kernel
theorem dX12_findTours_103 : decode cX12_findTours 103 = .ok (.ishr, 1) := by decide +kernel
theorem dX12_findTours_104 : decode cX12_findTours 104 = .ok (.iconst 1, 1) := by decide +kernel
theorem dX12_findTours_105 : decode cX12_findTours 105 = .ok (.iand, 1) := by decide +kernel
theorem dX12_findTours_106 : decode cX12_findTours 106 = .ok (.iconst 1, 1) := by decide +kernel
theorem dX12_findTours_107 : decode cX12_findTours 107 = .ok (.if_icmp .ne 42, 3) := by decide +kernel
theorem dX12_findTours_110 : decode cX12_findTours 110 = .ok (.aload_n 0, 1) := by decide +kernel
theorem dX12_findTours_111 : decode cX12_findTours 111 = .ok (.iload_n 3, 1) := by decide +kernel
theorem dX12_findTours_112 : decode cX12_findTours 112 = .ok (.iload 6, 2) := by decide +kernel
theorem dX12_findTours_114 : decode cX12_findTours 114 = .ok (.invokevirtual 268, 3) := by decide +kernel
theorem dX12_findTours_117 : decode cX12_findTours 117 = .ok (.aload_n 0, 1) := by decide +kernel
theorem dX12_findTours_118 : decode cX12_findTours 118 = .ok (.getfield 110, 3) := by decide +kernel
theorem dX12_findTours_121 : decode cX12_findTours 121 = .ok (.bipush 8, 2) := by decide +kernel
theorem dX12_findTours_123 : decode cX12_findTours 123 = .ok (.iload 4, 2) := by decide +kernel
theorem dX12_findTours_125 : decode cX12_findTours 125 = .ok (.imul, 1) := by decide +kernel
theorem dX12_findTours_126 : decode cX12_findTours 126 = .ok (.iload 6, 2) := by decide +kernel
theorem dX12_findTours_128 : decode cX12_findTours 128 = .ok (.iadd, 1) := by decide +kernel
theorem dX12_findTours_129 : decode cX12_findTours 129 = .ok (.iaload, 1) := by decide +kernel
theorem dX12_findTours_130 : decode cX12_findTours 130 = .ok (.iadd, 1) := by decide +kernel
theorem dX12_findTours_131 : decode cX12_findTours 131 = .ok (.istore 7, 2) := by decide +kernel
theorem dX12_findTours_133 : decode cX12_findTours 133 = .ok (.iload 7, 2) := by decide +kernel
theorem dX12_findTours_135 : decode cX12_findTours 135 = .ok (.iload 5, 2) := by decide +kernel
theorem dX12_findTours_137 : decode cX12_findTours 137 = .ok (.if_icmp .ge 8, 3) := by decide +kernel
theorem dX12_findTours_140 : decode cX12_findTours 140 = .ok (.iload 7, 2) := by decide +kernel
theorem dX12_findTours_142 : decode cX12_findTours 142 = .ok (.goto 5, 3) := by decide +kernel
theorem dX12_findTours_145 : decode cX12_findTours 145 = .ok (.iload 5, 2) := by decide +kernel
theorem dX12_findTours_147 : decode cX12_findTours 147 = .ok (.istore 5, 2) := by decide +kernel
theorem dX12_findTours_149 : decode cX12_findTours 149 = .ok (.iinc 6 1, 3) := by decide +kernel
theorem dX12_findTours_152 : decode cX12_findTours 152 = .ok (.goto (-59), 3) := by decide +kernel
theorem dX12_findTours_155 : decode cX12_findTours 155 = .ok (.aload_n 0, 1) := by decide +kernel
theorem dX12_findTours_156 : decode cX12_findTours 156 = .ok (.getfield 110, 3) := by decide +kernel
theorem dX12_findTours_159 : decode cX12_findTours 159 = .ok (.bipush 8, 2) := by decide +kernel
theorem dX12_findTours_161 : decode cX12_findTours 161 = .ok (.iload_n 2, 1) := by decide +kernel
theorem dX12_findTours_162 : decode cX12_findTours 162 = .ok (.imul, 1) := by decide +kernel
theorem dX12_findTours_163 : decode cX12_findTours 163 = .ok (.iload_n 3, 1) := by decide +kernel
theorem dX12_findTours_164 : decode cX12_findTours 164 = .ok (.iadd, 1) := by decide +kernel
theorem dX12_findTours_165 : decode cX12_findTours 165 = .ok (.iload 5, 2) := by decide +kernel
theorem dX12_findTours_167 : decode cX12_findTours 167 = .ok (.iastore, 1) := by decide +kernel
theorem dX12_findTours_168 : decode cX12_findTours 168 = .ok (.aload_n 0, 1) := by decide +kernel
theorem dX12_findTours_169 : decode cX12_findTours 169 = .ok (.iconst (-1), 1) := by decide +kernel
theorem dX12_findTours_170 : decode cX12_findTours 170 = .ok (.iload_n 3, 1) := by decide +kernel
theorem dX12_findTours_171 : decode cX12_findTours 171 = .ok (.invokevirtual 268, 3) := by decide +kernel
theorem dX12_findTours_174 : decode cX12_findTours 174 = .ok (.iload 5, 2) := by decide +kernel
theorem dX12_findTours_176 : decode cX12_findTours 176 = .ok (.iadd, 1) := by decide +kernel
theorem dX12_findTours_177 : decode cX12_findTours 177 = .ok (.istore 6, 2) := by decide +kernel
theorem dX12_findTours_179 : decode cX12_findTours 179 = .ok (.aload_n 0, 1) := by decide +kernel
theorem dX12_findTours_180 : decode cX12_findTours 180 = .ok (.getfield 113, 3) := by decide +kernel
theorem dX12_findTours_183 : decode cX12_findTours 183 = .ok (.iload_n 2, 1) := by decide +kernel
theorem dX12_findTours_184 : decode cX12_findTours 184 = .ok (.iload 6, 2) := by decide +kernel
theorem dX12_findTours_186 : decode cX12_findTours 186 = .ok (.aload_n 0, 1) := by decide +kernel
theorem dX12_findTours_187 : decode cX12_findTours 187 = .ok (.getfield 113, 3) := by decide +kernel
theorem dX12_findTours_190 : decode cX12_findTours 190 = .ok (.iload_n 2, 1) := by decide +kernel
theorem dX12_findTours_191 : decode cX12_findTours 191 = .ok (.iaload, 1) := by decide +kernel
theorem dX12_findTours_192 : decode cX12_findTours 192 = .ok (.if_icmp .ge 8, 3) := by decide +kernel
theorem dX12_findTours_195 : decode cX12_findTours 195 = .ok (.iload 6, 2) := by decide +kernel
theorem dX12_findTours_197 : decode cX12_findTours 197 = .ok (.goto 9, 3) := by decide +kernel
theorem dX12_findTours_200 : decode cX12_findTours 200 = .ok (.aload_n 0, 1) := by decide +kernel
theorem dX12_findTours_201 : decode cX12_findTours 201 = .ok (.getfield 113, 3) := by decide +kernel
theorem dX12_findTours_204 : decode cX12_findTours 204 = .ok (.iload_n 2, 1) := by decide +kernel
theorem dX12_findTours_205 : decode cX12_findTours 205 = .ok (.iaload, 1) := by decide +kernel
theorem dX12_findTours_206 : decode cX12_findTours 206 = .ok (.iastore, 1) := by decide +kernel
theorem dX12_findTours_207 : decode cX12_findTours 207 = .ok (.iinc 3 1, 3) := by decide +kernel
theorem dX12_findTours_210 : decode cX12_findTours 210 = .ok (.goto (-183), 3) := by decide +kernel
theorem dX12_findTours_213 : decode cX12_findTours 213 = .ok (.iinc 2 1, 3) := by decide +kernel
theorem dX12_findTours_216 : decode cX12_findTours 216 = .ok (.goto (-214), 3) := by decide +kernel
theorem dX12_findTours_219 : decode cX12_findTours 219 = .ok (.return_, 1) := by decide +kernel
set_option maxRecDepth 20000 in
theorem ggX12_writeTour_X12_way : GoodIn wsX12_writeTour wsX12_way := goodIn_r _ [10, 11, 5, 12, 13, 14, 15, 16, 17, 18, 19, 20, 21, 22, 23, 24, 25, 26, 27, 28, 29, 30, 31, 32, 33, 34, 35, 36, 37, 38, 39, 40, 41, 42, 43, 44, 45, 46, 47, 48, 49, 50, 51, 52, 53, 54, 55, 56, 57, 58, 59, 60, 61, 62, 63, 64, 65, 66, 67, 68, 69, 70, 71, 72, 73, 74, 75, 76, 77, 78, 79, 80] (by decide +kernel) (by decide +kernel)
set_option maxRecDepth 20000 in
theorem gX12_writeTour_X12_way : GoodIn wsX12_writeTour (wsV RX12 268 RX12 yX12_way wsX12_way) := goodIn_app (goodIn_of _ (by decide +kernel)) ggX12_writeTour_X12_way
theorem dX12_writeTour_0 : decode cX12_writeTour 0 = .ok (.iload_n 1, 1) := by decide +kernel
theorem dX12_writeTour_1 : decode cX12_writeTour 1 = .ok (.istore_n 3, 1) := by decide +kernel
theorem dX12_writeTour_2 : decode cX12_writeTour 2 = .ok (.iconst (-1), 1) := by decide +kernel
theorem dX12_writeTour_3 : decode cX12_writeTour 3 = .ok (.istore 4, 2) := by decide +kernel
theorem dX12_writeTour_5 : decode cX12_writeTour 5 = .ok (.aload_n 0, 1) := by decide +kernel
theorem dX12_writeTour_6 : decode cX12_writeTour 6 = .ok (.getfield 113, 3) := by decide +kernel
theorem dX12_writeTour_9 : decode cX12_writeTour 9 = .ok (.iload_n 1, 1) := by decide +kernel
theorem dX12_writeTour_10 : decode cX12_writeTour 10 = .ok (.iaload, 1) := by decide +kernel
theorem dX12_writeTour_11 : decode cX12_writeTour 11 = .ok (.istore 5, 2) := by decide +kernel
theorem dX12_writeTour_13 : decode cX12_writeTour 13 = .ok (.iload_n 3, 1) := by decide +kernel
theorem dX12_writeTour_14 : decode cX12_writeTour 14 = .ok (.ifCond .eq 100, 3) := by decide +kernel
theorem dX12_writeTour_17 : decode cX12_writeTour 17 = .ok (.iconst 0, 1) := by decide +kernel
theorem dX12_writeTour_18 : decode cX12_writeTour 18 = .ok (.istore 6, 2) := by decide +kernel
theorem dX12_writeTour_20 : decode cX12_writeTour 20 = .ok (.iload_n 3, 1) := by decide +kernel
theorem dX12_writeTour_21 : decode cX12_writeTour 21 = .ok (.iload 6, 2) := by decide +kernel
theorem dX12_writeTour_23 : decode cX12_writeTour 23 = .ok (.ishr, 1) := by decide +kernel
theorem dX12_writeTour_24 : decode cX12_writeTour 24 = .ok (.iconst 1, 1) := by decide +kernel
theorem dX12_writeTour_25 : decode cX12_writeTour 25 = .ok (.iand, 1) := by decide +kernel
theorem dX12_writeTour_26 : decode cX12_writeTour 26 = .ok (.ifCond .eq 29, 3) := by decide +kernel
theorem dX12_writeTour_29 : decode cX12_writeTour 29 = .ok (.aload_n 0, 1) := by decide +kernel
theorem dX12_writeTour_30 : decode cX12_writeTour 30 = .ok (.iload 4, 2) := by decide +kernel
theorem dX12_writeTour_32 : decode cX12_writeTour 32 = .ok (.iload 6, 2) := by decide +kernel
theorem dX12_writeTour_34 : decode cX12_writeTour 34 = .ok (.invokevirtual 268, 3) := by decide +kernel
theorem dX12_writeTour_37 : decode cX12_writeTour 37 = .ok (.aload_n 0, 1) := by decide +kernel
theorem dX12_writeTour_38 : decode cX12_writeTour 38 = .ok (.getfield 110, 3) := by decide +kernel
theorem dX12_writeTour_41 : decode cX12_writeTour 41 = .ok (.bipush 8, 2) := by decide +kernel
theorem dX12_writeTour_43 : decode cX12_writeTour 43 = .ok (.iload_n 3, 1) := by decide +kernel
theorem dX12_writeTour_44 : decode cX12_writeTour 44 = .ok (.imul, 1) := by decide +kernel
theorem dX12_writeTour_45 : decode cX12_writeTour 45 = .ok (.iload 6, 2) := by decide +kernel
theorem dX12_writeTour_47 : decode cX12_writeTour 47 = .ok (.iadd, 1) := by decide +kernel
theorem dX12_writeTour_48 : decode cX12_writeTour 48 = .ok (.iaload, 1) := by decide +kernel
theorem dX12_writeTour_49 : decode cX12_writeTour 49 = .ok (.iadd, 1) := by decide +kernel
theorem dX12_writeTour_50 : decode cX12_writeTour 50 = .ok (.iload 5, 2) := by decide +kernel
theorem dX12_writeTour_52 : decode cX12_writeTour 52 = .ok (.if_icmp .eq 9, 3) := by decide +kernel
theorem dX12_writeTour_55 : decode cX12_writeTour 55 = .ok (.iinc 6 1, 3) := by decide +kernel
theorem dX12_writeTour_58 : decode cX12_writeTour 58 = .ok (.goto (-38), 3) := by decide +kernel
theorem dX12_writeTour_61 : decode cX12_writeTour 61 = .ok (.iload 5, 2) := by decide +kernel
theorem dX12_writeTour_63 : decode cX12_writeTour 63 = .ok (.aload_n 0, 1) := by decide +kernel
theorem dX12_writeTour_64 : decode cX12_writeTour 64 = .ok (.iload 4, 2) := by decide +kernel
theorem dX12_writeTour_66 : decode cX12_writeTour 66 = .ok (.iload 6, 2) := by decide +kernel
theorem dX12_writeTour_68 : decode cX12_writeTour 68 = .ok (.invokevirtual 268, 3) := by decide +kernel
theorem dX12_writeTour_71 : decode cX12_writeTour 71 = .ok (.isub, 1) := by decide +kernel
theorem dX12_writeTour_72 : decode cX12_writeTour 72 = .ok (.istore 5, 2) := by decide +kernel
theorem dX12_writeTour_74 : decode cX12_writeTour 74 = .ok (.aload_n 0, 1) := by decide +kernel
theorem dX12_writeTour_75 : decode cX12_writeTour 75 = .ok (.getfield 131, 3) := by decide +kernel
theorem dX12_writeTour_78 : decode cX12_writeTour 78 = .ok (.aload_n 0, 1) := by decide +kernel
theorem dX12_writeTour_79 : decode cX12_writeTour 79 = .ok (.getfield 271, 3) := by decide +kernel
theorem dX12_writeTour_82 : decode cX12_writeTour 82 = .ok (.aload_n 0, 1) := by decide +kernel
theorem dX12_writeTour_83 : decode cX12_writeTour 83 = .ok (.getfield 107, 3) := by decide +kernel
theorem dX12_writeTour_86 : decode cX12_writeTour 86 = .ok (.iload 6, 2) := by decide +kernel
theorem dX12_writeTour_88 : decode cX12_writeTour 88 = .ok (.iaload, 1) := by decide +kernel
theorem dX12_writeTour_89 : decode cX12_writeTour 89 = .ok (.iastore, 1) := by decide +kernel
theorem dX12_writeTour_90 : decode cX12_writeTour 90 = .ok (.aload_n 0, 1) := by decide +kernel
theorem dX12_writeTour_91 : decode cX12_writeTour 91 = .ok (.dup, 1) := by decide +kernel
theorem dX12_writeTour_92 : decode cX12_writeTour 92 = .ok (.getfield 271, 3) := by decide +kernel
theorem dX12_writeTour_95 : decode cX12_writeTour 95 = .ok (.iconst 1, 1) := by decide +kernel
theorem dX12_writeTour_96 : decode cX12_writeTour 96 = .ok (.iadd, 1) := by decide +kernel
theorem dX12_writeTour_97 : decode cX12_writeTour 97 = .ok (.putfield 271, 3) := by decide +kernel
theorem dX12_writeTour_100 : decode cX12_writeTour 100 = .ok (.iload_n 3, 1) := by decide +kernel
theorem dX12_writeTour_101 : decode cX12_writeTour 101 = .ok (.iconst 1, 1) := by decide +kernel
theorem dX12_writeTour_102 : decode cX12_writeTour 102 = .ok (.iload 6, 2) := by decide +kernel
theorem dX12_writeTour_104 : decode cX12_writeTour 104 = .ok (.ishl, 1) := by decide +kernel
theorem dX12_writeTour_105 : decode cX12_writeTour 105 = .ok (.ixor, 1) := by decide +kernel
theorem dX12_writeTour_106 : decode cX12_writeTour 106 = .ok (.istore_n 3, 1) := by decide +kernel
theorem dX12_writeTour_107 : decode cX12_writeTour 107 = .ok (.iload 6, 2) := by decide +kernel
theorem dX12_writeTour_109 : decode cX12_writeTour 109 = .ok (.istore 4, 2) := by decide +kernel
theorem dX12_writeTour_111 : decode cX12_writeTour 111 = .ok (.goto (-98), 3) := by decide +kernel
theorem dX12_writeTour_114 : decode cX12_writeTour 114 = .ok (.return_, 1) := by decide +kernel
theorem dX12_isFirst_0 : decode cX12_isFirst 0 = .ok (.iconst 0, 1) := by decide +kernel
theorem dX12_isFirst_1 : decode cX12_isFirst 1 = .ok (.istore_n 2, 1) := by decide +kernel
theorem dX12_isFirst_2 : decode cX12_isFirst 2 = .ok (.iload_n 2, 1) := by decide +kernel
theorem dX12_isFirst_3 : decode cX12_isFirst 3 = .ok (.aload_n 0, 1) := by decide +kernel
theorem dX12_isFirst_4 : decode cX12_isFirst 4 = .ok (.getfield 271, 3) := by decide +kernel
theorem dX12_isFirst_7 : decode cX12_isFirst 7 = .ok (.if_icmp .ge 65, 3) := by decide +kernel
theorem dX12_isFirst_10 : decode cX12_isFirst 10 = .ok (.iload_n 2, 1) := by decide +kernel
theorem dX12_isFirst_11 : decode cX12_isFirst 11 = .ok (.aload_n 0, 1) := by decide +kernel
theorem dX12_isFirst_12 : decode cX12_isFirst 12 = .ok (.getfield 128, 3) := by decide +kernel
theorem dX12_isFirst_15 : decode cX12_isFirst 15 = .ok (.iload_n 1, 1) := by decide +kernel
theorem dX12_isFirst_16 : decode cX12_isFirst 16 = .ok (.iaload, 1) := by decide +kernel
theorem dX12_isFirst_17 : decode cX12_isFirst 17 = .ok (.if_icmp .ge 55, 3) := by decide +kernel
theorem dX12_isFirst_20 : decode cX12_isFirst 20 = .ok (.aload_n 0, 1) := by decide +kernel
theorem dX12_isFirst_21 : decode cX12_isFirst 21 = .ok (.getfield 131, 3) := by decide +kernel
theorem dX12_isFirst_24 : decode cX12_isFirst 24 = .ok (.iload_n 2, 1) := by decide +kernel
theorem dX12_isFirst_25 : decode cX12_isFirst 25 = .ok (.iaload, 1) := by decide +kernel
theorem dX12_isFirst_26 : decode cX12_isFirst 26 = .ok (.aload_n 0, 1) := by decide +kernel
theorem dX12_isFirst_27 : decode cX12_isFirst 27 = .ok (.getfield 125, 3) := by decide +kernel
theorem dX12_isFirst_30 : decode cX12_isFirst 30 = .ok (.bipush 16, 2) := by decide +kernel
theorem dX12_isFirst_32 : decode cX12_isFirst 32 = .ok (.iload_n 1, 1) := by decide +kernel
theorem dX12_isFirst_33 : decode cX12_isFirst 33 = .ok (.imul, 1) := by decide +kernel
theorem dX12_isFirst_34 : decode cX12_isFirst 34 = .ok (.iload_n 2, 1) := by decide +kernel
theorem dX12_isFirst_35 : decode cX12_isFirst 35 = .ok (.iadd, 1) := by decide +kernel
theorem dX12_isFirst_36 : decode cX12_isFirst 36 = .ok (.iaload, 1) := by decide +kernel
theorem dX12_isFirst_37 : decode cX12_isFirst 37 = .ok (.if_icmp .eq 29, 3) := by decide +kernel
theorem dX12_isFirst_40 : decode cX12_isFirst 40 = .ok (.aload_n 0, 1) := by decide +kernel
theorem dX12_isFirst_41 : decode cX12_isFirst 41 = .ok (.getfield 131, 3) := by decide +kernel
theorem dX12_isFirst_44 : decode cX12_isFirst 44 = .ok (.iload_n 2, 1) := by decide +kernel
theorem dX12_isFirst_45 : decode cX12_isFirst 45 = .ok (.iaload, 1) := by decide +kernel
theorem dX12_isFirst_46 : decode cX12_isFirst 46 = .ok (.aload_n 0, 1) := by decide +kernel
theorem dX12_isFirst_47 : decode cX12_isFirst 47 = .ok (.getfield 125, 3) := by decide +kernel
theorem dX12_isFirst_50 : decode cX12_isFirst 50 = .ok (.bipush 16, 2) := by decide +kernel
theorem dX12_isFirst_52 : decode cX12_isFirst 52 = .ok (.iload_n 1, 1) := by decide +kernel
theorem dX12_isFirst_53 : decode cX12_isFirst 53 = .ok (.imul, 1) := by decide +kernel
theorem dX12_isFirst_54 : decode cX12_isFirst 54 = .ok (.iload_n 2, 1) := by decide +kernel
theorem dX12_isFirst_55 : decode cX12_isFirst 55 = .ok (.iadd, 1) := by decide +kernel
theorem dX12_isFirst_56 : decode cX12_isFirst 56 = .ok (.iaload, 1) := by decide +kernel
theorem dX12_isFirst_57 : decode cX12_isFirst 57 = .ok (.if_icmp .ge 7, 3) := by decide +kernel
theorem dX12_isFirst_60 : decode cX12_isFirst 60 = .ok (.iconst 1, 1) := by decide +kernel
theorem dX12_isFirst_61 : decode cX12_isFirst 61 = .ok (.goto 4, 3) := by decide +kernel
theorem dX12_isFirst_64 : decode cX12_isFirst 64 = .ok (.iconst 0, 1) := by decide +kernel
theorem dX12_isFirst_65 : decode cX12_isFirst 65 = .ok (.ireturn, 1) := by decide +kernel
theorem dX12_isFirst_66 : decode cX12_isFirst 66 = .ok (.iinc 2 1, 3) := by decide +kernel
theorem dX12_isFirst_69 : decode cX12_isFirst 69 = .ok (.goto (-67), 3) := by decide +kernel
theorem dX12_isFirst_72 : decode cX12_isFirst 72 = .ok (.iconst 0, 1) := by decide +kernel
theorem dX12_isFirst_73 : decode cX12_isFirst 73 = .ok (.ireturn, 1) := by decide +kernel
set_option maxRecDepth 20000 in
theorem ggX12_findRounds_X12_writeTour : GoodIn wsX12_findRounds wsX12_writeTour := goodIn_r _ [14, 6, 15, 8, 7, 16, 17, 18, 19, 13, 20, 21, 26, 27, 28, 29, 30, 31, 32, 33, 34, 35, 36, 37, 38, 39, 40, 41, 42, 43, 44, 45, 46, 47, 48, 49, 50, 51, 52, 53, 54, 55, 56, 57, 58, 59, 60, 61, 62, 63, 64, 65, 66, 67, 68, 69, 70, 71, 72, 73, 74, 75, 76, 77, 78, 79, 80, 81, 82, 83, 84, 85, 86, 87, 88, 89, 90, 91, 92, 93, 94] (by decide +kernel) (by decide +kernel)
set_option maxRecDepth 20000 in
theorem gX12_findRounds_X12_writeTour : GoodIn wsX12_findRounds (wsV RX12 275 RX12 yX12_writeTour wsX12_writeTour) := goodIn_app (goodIn_of _ (by decide +kernel)) ggX12_findRounds_X12_writeTour
set_option maxRecDepth 20000 in
theorem ggX12_findRounds_X12_isFirst : GoodIn wsX12_findRounds wsX12_isFirst := goodIn_r _ [25, 7, 3, 8, 9, 26, 27, 28, 29, 30, 31, 32, 33, 34, 35, 36, 37, 38, 39, 40, 41, 42, 43, 44, 45, 46, 47, 48, 49, 50, 51, 52, 53, 54, 55, 56, 57, 58, 59, 60, 61, 62, 63, 64, 65, 66, 67, 68, 69, 70, 71, 72, 73, 74, 75, 76, 77, 78, 79, 80, 81, 82, 83, 84, 85, 86, 87, 88, 89, 90, 91, 92, 93, 94] (by decide +kernel) (by decide +kernel)
set_option maxRecDepth 20000 in
theorem gX12_findRounds_X12_isFirst : GoodIn wsX12_findRounds (wsV RX12 279 RX12 yX12_isFirst wsX12_isFirst) := goodIn_app (goodIn_of _ (by decide +kernel)) ggX12_findRounds_X12_isFirst
theorem dX12_findRounds_0 : decode cX12_findRounds 0 = .ok (.aload_n 0, 1) := by decide +kernel
theorem dX12_findRounds_1 : decode cX12_findRounds 1 = .ok (.getfield 119, 3) := by decide +kernel
theorem dX12_findRounds_4 : decode cX12_findRounds 4 = .ok (.iconst 0, 1) := by decide +kernel
theorem dX12_findRounds_5 : decode cX12_findRounds 5 = .ok (.iconst 0, 1) := by decide +kernel
theorem dX12_findRounds_6 : decode cX12_findRounds 6 = .ok (.iastore, 1) := by decide +kernel
theorem dX12_findRounds_7 : decode cX12_findRounds 7 = .ok (.aload_n 0, 1) := by decide +kernel
theorem dX12_findRounds_8 : decode cX12_findRounds 8 = .ok (.getfield 122, 3) := by decide +kernel
theorem dX12_findRounds_11 : decode cX12_findRounds 11 = .ok (.iconst 0, 1) := by decide +kernel
theorem dX12_findRounds_12 : decode cX12_findRounds 12 = .ok (.iconst 0, 1) := by decide +kernel
theorem dX12_findRounds_13 : decode cX12_findRounds 13 = .ok (.iastore, 1) := by decide +kernel
theorem dX12_findRounds_14 : decode cX12_findRounds 14 = .ok (.aload_n 0, 1) := by decide +kernel
theorem dX12_findRounds_15 : decode cX12_findRounds 15 = .ok (.getfield 128, 3) := by decide +kernel
theorem dX12_findRounds_18 : decode cX12_findRounds 18 = .ok (.iconst 0, 1) := by decide +kernel
theorem dX12_findRounds_19 : decode cX12_findRounds 19 = .ok (.iconst 0, 1) := by decide +kernel
theorem dX12_findRounds_20 : decode cX12_findRounds 20 = .ok (.iastore, 1) := by decide +kernel
theorem dX12_findRounds_21 : decode cX12_findRounds 21 = .ok (.iconst 1, 1) := by decide +kernel
theorem dX12_findRounds_22 : decode cX12_findRounds 22 = .ok (.istore_n 3, 1) := by decide +kernel
theorem dX12_findRounds_23 : decode cX12_findRounds 23 = .ok (.iload_n 3, 1) := by decide +kernel
theorem dX12_findRounds_24 : decode cX12_findRounds 24 = .ok (.iconst 1, 1) := by decide +kernel
theorem dX12_findRounds_25 : decode cX12_findRounds 25 = .ok (.iload_n 1, 1) := by decide +kernel
theorem dX12_findRounds_26 : decode cX12_findRounds 26 = .ok (.ishl, 1) := by decide +kernel
theorem dX12_findRounds_27 : decode cX12_findRounds 27 = .ok (.if_icmp .ge 332, 3) := by decide +kernel
theorem dX12_findRounds_30 : decode cX12_findRounds 30 = .ok (.iload_n 3, 1) := by decide +kernel
theorem dX12_findRounds_31 : decode cX12_findRounds 31 = .ok (.iload_n 3, 1) := by decide +kernel
theorem dX12_findRounds_32 : decode cX12_findRounds 32 = .ok (.ineg, 1) := by decide +kernel
theorem dX12_findRounds_33 : decode cX12_findRounds 33 = .ok (.iand, 1) := by decide +kernel
theorem dX12_findRounds_34 : decode cX12_findRounds 34 = .ok (.istore 4, 2) := by decide +kernel
theorem dX12_findRounds_36 : decode cX12_findRounds 36 = .ok (.aload_n 0, 1) := by decide +kernel
theorem dX12_findRounds_37 : decode cX12_findRounds 37 = .ok (.getfield 119, 3) := by decide +kernel
theorem dX12_findRounds_40 : decode cX12_findRounds 40 = .ok (.iload_n 3, 1) := by decide +kernel
theorem dX12_findRounds_41 : decode cX12_findRounds 41 = .ok (.ldc_w 274, 3) := by decide +kernel
theorem dX12_findRounds_44 : decode cX12_findRounds 44 = .ok (.iastore, 1) := by decide +kernel
theorem dX12_findRounds_45 : decode cX12_findRounds 45 = .ok (.aload_n 0, 1) := by decide +kernel
theorem dX12_findRounds_46 : decode cX12_findRounds 46 = .ok (.getfield 122, 3) := by decide +kernel
theorem dX12_findRounds_49 : decode cX12_findRounds 49 = .ok (.iload_n 3, 1) := by decide +kernel
theorem dX12_findRounds_50 : decode cX12_findRounds 50 = .ok (.bipush 100, 2) := by decide +kernel
theorem dX12_findRounds_52 : decode cX12_findRounds 52 = .ok (.iastore, 1) := by decide +kernel
theorem dX12_findRounds_53 : decode cX12_findRounds 53 = .ok (.iload_n 3, 1) := by decide +kernel
theorem dX12_findRounds_54 : decode cX12_findRounds 54 = .ok (.istore 5, 2) := by decide +kernel
theorem dX12_findRounds_56 : decode cX12_findRounds 56 = .ok (.iload 5, 2) := by decide +kernel
theorem dX12_findRounds_58 : decode cX12_findRounds 58 = .ok (.ifCond .le 295, 3) := by decide +kernel
theorem dX12_findRounds_61 : decode cX12_findRounds 61 = .ok (.iload 5, 2) := by decide +kernel
theorem dX12_findRounds_63 : decode cX12_findRounds 63 = .ok (.iload 4, 2) := by decide +kernel
theorem dX12_findRounds_65 : decode cX12_findRounds 65 = .ok (.iand, 1) := by decide +kernel
theorem dX12_findRounds_66 : decode cX12_findRounds 66 = .ok (.ifCond .eq 276, 3) := by decide +kernel
theorem dX12_findRounds_69 : decode cX12_findRounds 69 = .ok (.aload_n 0, 1) := by decide +kernel
theorem dX12_findRounds_70 : decode cX12_findRounds 70 = .ok (.getfield 116, 3) := by decide +kernel
theorem dX12_findRounds_73 : decode cX12_findRounds 73 = .ok (.iload 5, 2) := by decide +kernel
theorem dX12_findRounds_75 : decode cX12_findRounds 75 = .ok (.laload, 1) := by decide +kernel
theorem dX12_findRounds_76 : decode cX12_findRounds 76 = .ok (.iload_n 2, 1) := by decide +kernel
theorem dX12_findRounds_77 : decode cX12_findRounds 77 = .ok (.i2l, 1) := by decide +kernel
theorem dX12_findRounds_78 : decode cX12_findRounds 78 = .ok (.lcmp, 1) := by decide +kernel
theorem dX12_findRounds_79 : decode cX12_findRounds 79 = .ok (.ifCond .le 6, 3) := by decide +kernel
theorem dX12_findRounds_82 : decode cX12_findRounds 82 = .ok (.goto 260, 3) := by decide +kernel
theorem dX12_findRounds_85 : decode cX12_findRounds 85 = .ok (.iload_n 3, 1) := by decide +kernel
theorem dX12_findRounds_86 : decode cX12_findRounds 86 = .ok (.iload 5, 2) := by decide +kernel
theorem dX12_findRounds_88 : decode cX12_findRounds 88 = .ok (.ixor, 1) := by decide +kernel
theorem dX12_findRounds_89 : decode cX12_findRounds 89 = .ok (.istore 6, 2) := by decide +kernel
theorem dX12_findRounds_91 : decode cX12_findRounds 91 = .ok (.aload_n 0, 1) := by decide +kernel
theorem dX12_findRounds_92 : decode cX12_findRounds 92 = .ok (.getfield 113, 3) := by decide +kernel
theorem dX12_findRounds_95 : decode cX12_findRounds 95 = .ok (.iload 5, 2) := by decide +kernel
theorem dX12_findRounds_97 : decode cX12_findRounds 97 = .ok (.iaload, 1) := by decide +kernel
theorem dX12_findRounds_98 : decode cX12_findRounds 98 = .ok (.aload_n 0, 1) := by decide +kernel
theorem dX12_findRounds_99 : decode cX12_findRounds 99 = .ok (.getfield 119, 3) := by decide +kernel
theorem dX12_findRounds_102 : decode cX12_findRounds 102 = .ok (.iload 6, 2) := by decide +kernel
theorem dX12_findRounds_104 : decode cX12_findRounds 104 = .ok (.iaload, 1) := by decide +kernel
theorem dX12_findRounds_105 : decode cX12_findRounds 105 = .ok (.iadd, 1) := by decide +kernel
theorem dX12_findRounds_106 : decode cX12_findRounds 106 = .ok (.istore 7, 2) := by decide +kernel
theorem dX12_findRounds_108 : decode cX12_findRounds 108 = .ok (.iconst 1, 1) := by decide +kernel
theorem dX12_findRounds_109 : decode cX12_findRounds 109 = .ok (.aload_n 0, 1) := by decide +kernel
theorem dX12_findRounds_110 : decode cX12_findRounds 110 = .ok (.getfield 122, 3) := by decide +kernel
theorem dX12_findRounds_113 : decode cX12_findRounds 113 = .ok (.iload 6, 2) := by decide +kernel
theorem dX12_findRounds_115 : decode cX12_findRounds 115 = .ok (.iaload, 1) := by decide +kernel
theorem dX12_findRounds_116 : decode cX12_findRounds 116 = .ok (.iadd, 1) := by decide +kernel
theorem dX12_findRounds_117 : decode cX12_findRounds 117 = .ok (.istore 8, 2) := by decide +kernel
theorem dX12_findRounds_119 : decode cX12_findRounds 119 = .ok (.iload 7, 2) := by decide +kernel
theorem dX12_findRounds_121 : decode cX12_findRounds 121 = .ok (.aload_n 0, 1) := by decide +kernel
theorem dX12_findRounds_122 : decode cX12_findRounds 122 = .ok (.getfield 119, 3) := by decide +kernel
theorem dX12_findRounds_125 : decode cX12_findRounds 125 = .ok (.iload_n 3, 1) := by decide +kernel
theorem dX12_findRounds_126 : decode cX12_findRounds 126 = .ok (.iaload, 1) := by decide +kernel
theorem dX12_findRounds_127 : decode cX12_findRounds 127 = .ok (.if_icmp .gt 215, 3) := by decide +kernel
theorem dX12_findRounds_130 : decode cX12_findRounds 130 = .ok (.iload 7, 2) := by decide +kernel
theorem dX12_findRounds_132 : decode cX12_findRounds 132 = .ok (.aload_n 0, 1) := by decide +kernel
theorem dX12_findRounds_133 : decode cX12_findRounds 133 = .ok (.getfield 119, 3) := by decide +kernel
theorem dX12_findRounds_136 : decode cX12_findRounds 136 = .ok (.iload_n 3, 1) := by decide +kernel
theorem dX12_findRounds_137 : decode cX12_findRounds 137 = .ok (.iaload, 1) := by decide +kernel
theorem dX12_findRounds_138 : decode cX12_findRounds 138 = .ok (.if_icmp .ne 17, 3) := by decide +kernel
theorem dX12_findRounds_141 : decode cX12_findRounds 141 = .ok (.iload 8, 2) := by decide +kernel
theorem dX12_findRounds_143 : decode cX12_findRounds 143 = .ok (.aload_n 0, 1) := by decide +kernel
theorem dX12_findRounds_144 : decode cX12_findRounds 144 = .ok (.getfield 122, 3) := by decide +kernel
theorem dX12_findRounds_147 : decode cX12_findRounds 147 = .ok (.iload_n 3, 1) := by decide +kernel
theorem dX12_findRounds_148 : decode cX12_findRounds 148 = .ok (.iaload, 1) := by decide +kernel
theorem dX12_findRounds_149 : decode cX12_findRounds 149 = .ok (.if_icmp .le 6, 3) := by decide +kernel
theorem dX12_findRounds_152 : decode cX12_findRounds 152 = .ok (.goto 190, 3) := by decide +kernel
theorem dX12_findRounds_155 : decode cX12_findRounds 155 = .ok (.aload_n 0, 1) := by decide +kernel
theorem dX12_findRounds_156 : decode cX12_findRounds 156 = .ok (.iconst 0, 1) := by decide +kernel
theorem dX12_findRounds_157 : decode cX12_findRounds 157 = .ok (.putfield 271, 3) := by decide +kernel
theorem dX12_findRounds_160 : decode cX12_findRounds 160 = .ok (.aload_n 0, 1) := by decide +kernel
theorem dX12_findRounds_161 : decode cX12_findRounds 161 = .ok (.iload 5, 2) := by decide +kernel
theorem dX12_findRounds_163 : decode cX12_findRounds 163 = .ok (.iload_n 1, 1) := by decide +kernel
theorem dX12_findRounds_164 : decode cX12_findRounds 164 = .ok (.invokevirtual 275, 3) := by decide +kernel
theorem dX12_findRounds_167 : decode cX12_findRounds 167 = .ok (.iconst 0, 1) := by decide +kernel
theorem dX12_findRounds_168 : decode cX12_findRounds 168 = .ok (.istore 9, 2) := by decide +kernel
theorem dX12_findRounds_170 : decode cX12_findRounds 170 = .ok (.iload 9, 2) := by decide +kernel
theorem dX12_findRounds_172 : decode cX12_findRounds 172 = .ok (.aload_n 0, 1) := by decide +kernel
theorem dX12_findRounds_173 : decode cX12_findRounds 173 = .ok (.getfield 128, 3) := by decide +kernel
theorem dX12_findRounds_176 : decode cX12_findRounds 176 = .ok (.iload 6, 2) := by decide +kernel
theorem dX12_findRounds_178 : decode cX12_findRounds 178 = .ok (.iaload, 1) := by decide +kernel
theorem dX12_findRounds_179 : decode cX12_findRounds 179 = .ok (.if_icmp .ge 36, 3) := by decide +kernel
theorem dX12_findRounds_182 : decode cX12_findRounds 182 = .ok (.aload_n 0, 1) := by decide +kernel
theorem dX12_findRounds_183 : decode cX12_findRounds 183 = .ok (.getfield 131, 3) := by decide +kernel
theorem dX12_findRounds_186 : decode cX12_findRounds 186 = .ok (.aload_n 0, 1) := by decide +kernel
theorem dX12_findRounds_187 : decode cX12_findRounds 187 = .ok (.getfield 271, 3) := by decide +kernel
theorem dX12_findRounds_190 : decode cX12_findRounds 190 = .ok (.iconst 1, 1) := by decide +kernel
theorem dX12_findRounds_191 : decode cX12_findRounds 191 = .ok (.iadd, 1) := by decide +kernel
theorem dX12_findRounds_192 : decode cX12_findRounds 192 = .ok (.iload 9, 2) := by decide +kernel
theorem dX12_findRounds_194 : decode cX12_findRounds 194 = .ok (.iadd, 1) := by decide +kernel
theorem dX12_findRounds_195 : decode cX12_findRounds 195 = .ok (.aload_n 0, 1) := by decide +kernel
theorem dX12_findRounds_196 : decode cX12_findRounds 196 = .ok (.getfield 125, 3) := by decide +kernel
theorem dX12_findRounds_199 : decode cX12_findRounds 199 = .ok (.bipush 16, 2) := by decide +kernel
theorem dX12_findRounds_201 : decode cX12_findRounds 201 = .ok (.iload 6, 2) := by decide +kernel
theorem dX12_findRounds_203 : decode cX12_findRounds 203 = .ok (.imul, 1) := by decide +kernel
theorem dX12_findRounds_204 : decode cX12_findRounds 204 = .ok (.iload 9, 2) := by decide +kernel
theorem dX12_findRounds_206 : decode cX12_findRounds 206 = .ok (.iadd, 1) := by decide +kernel
theorem dX12_findRounds_207 : decode cX12_findRounds 207 = .ok (.iaload, 1) := by decide +kernel
theorem dX12_findRounds_208 : decode cX12_findRounds 208 = .ok (.iastore, 1) := by decide +kernel
theorem dX12_findRounds_209 : decode cX12_findRounds 209 = .ok (.iinc 9 1, 3) := by decide +kernel
theorem dX12_findRounds_212 : decode cX12_findRounds 212 = .ok (.goto (-42), 3) := by decide +kernel
theorem dX12_findRounds_215 : decode cX12_findRounds 215 = .ok (.iload 6, 2) := by decide +kernel
theorem dX12_findRounds_217 : decode cX12_findRounds 217 = .ok (.ifCond .eq 32, 3) := by decide +kernel
theorem dX12_findRounds_220 : decode cX12_findRounds 220 = .ok (.aload_n 0, 1) := by decide +kernel
theorem dX12_findRounds_221 : decode cX12_findRounds 221 = .ok (.getfield 131, 3) := by decide +kernel
theorem dX12_findRounds_224 : decode cX12_findRounds 224 = .ok (.aload_n 0, 1) := by decide +kernel
theorem dX12_findRounds_225 : decode cX12_findRounds 225 = .ok (.getfield 271, 3) := by decide +kernel
theorem dX12_findRounds_228 : decode cX12_findRounds 228 = .ok (.bipush 12, 2) := by decide +kernel
theorem dX12_findRounds_230 : decode cX12_findRounds 230 = .ok (.iastore, 1) := by decide +kernel
theorem dX12_findRounds_231 : decode cX12_findRounds 231 = .ok (.aload_n 0, 1) := by decide +kernel
theorem dX12_findRounds_232 : decode cX12_findRounds 232 = .ok (.dup, 1) := by decide +kernel
theorem dX12_findRounds_233 : decode cX12_findRounds 233 = .ok (.getfield 271, 3) := by decide +kernel
theorem dX12_findRounds_236 : decode cX12_findRounds 236 = .ok (.iconst 1, 1) := by decide +kernel
theorem dX12_findRounds_237 : decode cX12_findRounds 237 = .ok (.aload_n 0, 1) := by decide +kernel
theorem dX12_findRounds_238 : decode cX12_findRounds 238 = .ok (.getfield 128, 3) := by decide +kernel
theorem dX12_findRounds_241 : decode cX12_findRounds 241 = .ok (.iload 6, 2) := by decide +kernel
theorem dX12_findRounds_243 : decode cX12_findRounds 243 = .ok (.iaload, 1) := by decide +kernel
theorem dX12_findRounds_244 : decode cX12_findRounds 244 = .ok (.iadd, 1) := by decide +kernel
theorem dX12_findRounds_245 : decode cX12_findRounds 245 = .ok (.iadd, 1) := by decide +kernel
theorem dX12_findRounds_246 : decode cX12_findRounds 246 = .ok (.putfield 271, 3) := by decide +kernel
theorem dX12_findRounds_249 : decode cX12_findRounds 249 = .ok (.iload 7, 2) := by decide +kernel
theorem dX12_findRounds_251 : decode cX12_findRounds 251 = .ok (.aload_n 0, 1) := by decide +kernel
theorem dX12_findRounds_252 : decode cX12_findRounds 252 = .ok (.getfield 119, 3) := by decide +kernel
theorem dX12_findRounds_255 : decode cX12_findRounds 255 = .ok (.iload_n 3, 1) := by decide +kernel
theorem dX12_findRounds_256 : decode cX12_findRounds 256 = .ok (.iaload, 1) := by decide +kernel
theorem dX12_findRounds_257 : decode cX12_findRounds 257 = .ok (.if_icmp .lt 22, 3) := by decide +kernel
theorem dX12_findRounds_260 : decode cX12_findRounds 260 = .ok (.iload 8, 2) := by decide +kernel
theorem dX12_findRounds_262 : decode cX12_findRounds 262 = .ok (.aload_n 0, 1) := by decide +kernel
theorem dX12_findRounds_263 : decode cX12_findRounds 263 = .ok (.getfield 122, 3) := by decide +kernel
theorem dX12_findRounds_266 : decode cX12_findRounds 266 = .ok (.iload_n 3, 1) := by decide +kernel
theorem dX12_findRounds_267 : decode cX12_findRounds 267 = .ok (.iaload, 1) := by decide +kernel
theorem dX12_findRounds_268 : decode cX12_findRounds 268 = .ok (.if_icmp .lt 11, 3) := by decide +kernel
theorem dX12_findRounds_271 : decode cX12_findRounds 271 = .ok (.aload_n 0, 1) := by decide +kernel
theorem dX12_findRounds_272 : decode cX12_findRounds 272 = .ok (.iload_n 3, 1) := by decide +kernel
theorem dX12_findRounds_273 : decode cX12_findRounds 273 = .ok (.invokevirtual 279, 3) := by decide +kernel
theorem dX12_findRounds_276 : decode cX12_findRounds 276 = .ok (.ifCond .eq 66, 3) := by decide +kernel
theorem dX12_findRounds_279 : decode cX12_findRounds 279 = .ok (.aload_n 0, 1) := by decide +kernel
theorem dX12_findRounds_280 : decode cX12_findRounds 280 = .ok (.getfield 119, 3) := by decide +kernel
theorem dX12_findRounds_283 : decode cX12_findRounds 283 = .ok (.iload_n 3, 1) := by decide +kernel
theorem dX12_findRounds_284 : decode cX12_findRounds 284 = .ok (.iload 7, 2) := by decide +kernel
theorem dX12_findRounds_286 : decode cX12_findRounds 286 = .ok (.iastore, 1) := by decide +kernel
theorem dX12_findRounds_287 : decode cX12_findRounds 287 = .ok (.aload_n 0, 1) := by decide +kernel
theorem dX12_findRounds_288 : decode cX12_findRounds 288 = .ok (.getfield 122, 3) := by decide +kernel
theorem dX12_findRounds_291 : decode cX12_findRounds 291 = .ok (.iload_n 3, 1) := by decide +kernel
theorem dX12_findRounds_292 : decode cX12_findRounds 292 = .ok (.iload 8, 2) := by decide +kernel
theorem dX12_findRounds_294 : decode cX12_findRounds 294 = .ok (.iastore, 1) := by decide +kernel
theorem dX12_findRounds_295 : decode cX12_findRounds 295 = .ok (.aload_n 0, 1) := by decide +kernel
theorem dX12_findRounds_296 : decode cX12_findRounds 296 = .ok (.getfield 128, 3) := by decide +kernel
theorem dX12_findRounds_299 : decode cX12_findRounds 299 = .ok (.iload_n 3, 1) := by decide +kernel
theorem dX12_findRounds_300 : decode cX12_findRounds 300 = .ok (.aload_n 0, 1) := by decide +kernel
theorem dX12_findRounds_301 : decode cX12_findRounds 301 = .ok (.getfield 271, 3) := by decide +kernel
theorem dX12_findRounds_304 : decode cX12_findRounds 304 = .ok (.iastore, 1) := by decide +kernel
theorem dX12_findRounds_305 : decode cX12_findRounds 305 = .ok (.iconst 0, 1) := by decide +kernel
theorem dX12_findRounds_306 : decode cX12_findRounds 306 = .ok (.istore 9, 2) := by decide +kernel
theorem dX12_findRounds_308 : decode cX12_findRounds 308 = .ok (.iload 9, 2) := by decide +kernel
theorem dX12_findRounds_310 : decode cX12_findRounds 310 = .ok (.aload_n 0, 1) := by decide +kernel
theorem dX12_findRounds_311 : decode cX12_findRounds 311 = .ok (.getfield 271, 3) := by decide +kernel
theorem dX12_findRounds_314 : decode cX12_findRounds 314 = .ok (.if_icmp .ge 28, 3) := by decide +kernel
theorem dX12_findRounds_317 : decode cX12_findRounds 317 = .ok (.aload_n 0, 1) := by decide +kernel
theorem dX12_findRounds_318 : decode cX12_findRounds 318 = .ok (.getfield 125, 3) := by decide +kernel
theorem dX12_findRounds_321 : decode cX12_findRounds 321 = .ok (.bipush 16, 2) := by decide +kernel
theorem dX12_findRounds_323 : decode cX12_findRounds 323 = .ok (.iload_n 3, 1) := by decide +kernel
theorem dX12_findRounds_324 : decode cX12_findRounds 324 = .ok (.imul, 1) := by decide +kernel
theorem dX12_findRounds_325 : decode cX12_findRounds 325 = .ok (.iload 9, 2) := by decide +kernel
theorem dX12_findRounds_327 : decode cX12_findRounds 327 = .ok (.iadd, 1) := by decide +kernel
theorem dX12_findRounds_328 : decode cX12_findRounds 328 = .ok (.aload_n 0, 1) := by decide +kernel
theorem dX12_findRounds_329 : decode cX12_findRounds 329 = .ok (.getfield 131, 3) := by decide +kernel
theorem dX12_findRounds_332 : decode cX12_findRounds 332 = .ok (.iload 9, 2) := by decide +kernel
theorem dX12_findRounds_334 : decode cX12_findRounds 334 = .ok (.iaload, 1) := by decide +kernel
theorem dX12_findRounds_335 : decode cX12_findRounds 335 = .ok (.iastore, 1) := by decide +kernel
theorem dX12_findRounds_336 : decode cX12_findRounds 336 = .ok (.iinc 9 1, 3) := by decide +kernel
theorem dX12_findRounds_339 : decode cX12_findRounds 339 = .ok (.goto (-31), 3) := by decide +kernel
theorem dX12_findRounds_342 : decode cX12_findRounds 342 = .ok (.iload 5, 2) := by decide +kernel
theorem dX12_findRounds_344 : decode cX12_findRounds 344 = .ok (.iconst 1, 1) := by decide +kernel
theorem dX12_findRounds_345 : decode cX12_findRounds 345 = .ok (.isub, 1) := by decide +kernel
theorem dX12_findRounds_346 : decode cX12_findRounds 346 = .ok (.iload_n 3, 1) := by decide +kernel
theorem dX12_findRounds_347 : decode cX12_findRounds 347 = .ok (.iand, 1) := by decide +kernel
theorem dX12_findRounds_348 : decode cX12_findRounds 348 = .ok (.istore 5, 2) := by decide +kernel
theorem dX12_findRounds_350 : decode cX12_findRounds 350 = .ok (.goto (-294), 3) := by decide +kernel
theorem dX12_findRounds_353 : decode cX12_findRounds 353 = .ok (.iinc 3 1, 3) := by decide +kernel
theorem dX12_findRounds_356 : decode cX12_findRounds 356 = .ok (.goto (-333), 3) := by decide +kernel
theorem dX12_findRounds_359 : decode cX12_findRounds 359 = .ok (.return_, 1) := by decide +kernel
set_option maxRecDepth 20000 in
theorem ggX12_rounds_X12_in : GoodIn wsX12_rounds wsX12_in := goodIn_r _ [14] (by decide +kernel) (by decide +kernel)
set_option maxRecDepth 20000 in
theorem gX12_rounds_X12_in : GoodIn wsX12_rounds (va_wsS RX12 164 yX12_in wsX12_in) := goodIn_app (goodIn_of _ (by decide +kernel)) ggX12_rounds_X12_in
set_option maxRecDepth 20000 in
theorem ggX12_rounds_X12_told : GoodIn wsX12_rounds wsX12_told := goodIn_r _ [18, 19, 49, 50, 51, 52, 53, 54, 55, 56, 57, 58, 59, 60, 61, 62, 63, 64, 65, 66, 67, 68, 69, 70, 71, 72, 73, 74, 75, 76, 77, 78, 79, 80, 81, 82, 83, 84, 85, 86, 87, 88, 89, 90, 91, 92, 93, 94, 95, 96, 97, 98, 99, 100, 101, 102, 103, 104, 105, 106, 107, 108, 109, 110, 111, 112, 113, 114, 115, 116, 117] (by decide +kernel) (by decide +kernel)
set_option maxRecDepth 20000 in
theorem gX12_rounds_X12_told : GoodIn wsX12_rounds (wsV RX12 183 RX12 yX12_told wsX12_told) := goodIn_app (goodIn_of _ (by decide +kernel)) ggX12_rounds_X12_told
set_option maxRecDepth 20000 in
theorem ggX12_rounds_X12_findTours : GoodIn wsX12_rounds wsX12_findTours := goodIn_r _ [23, 24, 25, 26, 4, 5, 27, 28, 29, 30, 13, 31, 32, 49, 50, 51, 52, 53, 54, 55, 56, 57, 58, 59, 60, 61, 62, 63, 64, 65, 66, 67, 68, 69, 70, 71, 72, 73, 74, 75, 76, 77, 78, 79, 80, 81, 82, 83, 84, 85, 86, 87, 88, 89, 90, 91, 92, 93, 94, 95, 96, 97, 98, 99, 100, 101, 102, 103, 104, 105, 106, 107, 108, 109, 110, 111, 112, 113, 114, 115, 116, 117] (by decide +kernel) (by decide +kernel)
set_option maxRecDepth 20000 in
theorem gX12_rounds_X12_findTours : GoodIn wsX12_rounds (wsV RX12 284 RX12 yX12_findTours wsX12_findTours) := goodIn_app (goodIn_of _ (by decide +kernel)) ggX12_rounds_X12_findTours
set_option maxRecDepth 20000 in
theorem ggX12_rounds_X12_findRounds : GoodIn wsX12_rounds wsX12_findRounds := goodIn_r _ [36, 10, 37, 6, 38, 26, 24, 39, 40, 9, 41, 42, 43, 13, 44, 27, 5, 28, 29, 30, 31, 32, 45, 46, 47, 48, 49, 50, 51, 52, 53, 54, 55, 56, 57, 58, 59, 60, 61, 62, 63, 64, 65, 66, 67, 68, 69, 70, 71, 72, 73, 74, 75, 76, 77, 78, 79, 80, 81, 82, 83, 84, 85, 86, 87, 88, 89, 90, 91, 92, 93, 94, 95, 96, 97, 98, 99, 100, 101, 102, 103, 104, 105, 106, 107, 108, 109, 110, 111, 112, 113, 114, 115, 116, 117] (by decide +kernel) (by decide +kernel)
set_option maxRecDepth 20000 in
theorem gX12_rounds_X12_findRounds : GoodIn wsX12_rounds (wsV RX12 288 RX12 yX12_findRounds wsX12_findRounds) := goodIn_app (goodIn_of _ (by decide +kernel)) ggX12_rounds_X12_findRounds
theorem dX12_rounds_0 : decode cX12_rounds 0 = .ok (.aload_n 0, 1) := by decide +kernel
theorem dX12_rounds_1 : decode cX12_rounds 1 = .ok (.iconst 0, 1) := by decide +kernel
theorem dX12_rounds_2 : decode cX12_rounds 2 = .ok (.putfield 156, 3) := by decide +kernel
theorem dX12_rounds_5 : decode cX12_rounds 5 = .ok (.iload_n 1, 1) := by decide +kernel
theorem dX12_rounds_6 : decode cX12_rounds 6 = .ok (.i2l, 1) := by decide +kernel
theorem dX12_rounds_7 : decode cX12_rounds 7 = .ok (.lconst 1, 1) := by decide +kernel
theorem dX12_rounds_8 : decode cX12_rounds 8 = .ok (.ldc2_w 282, 3) := by decide +kernel
theorem dX12_rounds_11 : decode cX12_rounds 11 = .ok (.invokestatic 164, 3) := by decide +kernel
theorem dX12_rounds_14 : decode cX12_rounds 14 = .ok (.ifCond .ne 9, 3) := by decide +kernel
theorem dX12_rounds_17 : decode cX12_rounds 17 = .ok (.aload_n 0, 1) := by decide +kernel
theorem dX12_rounds_18 : decode cX12_rounds 18 = .ok (.iconst (-1), 1) := by decide +kernel
theorem dX12_rounds_19 : decode cX12_rounds 19 = .ok (.invokevirtual 183, 3) := by decide +kernel
theorem dX12_rounds_22 : decode cX12_rounds 22 = .ok (.ireturn, 1) := by decide +kernel
theorem dX12_rounds_23 : decode cX12_rounds 23 = .ok (.aload_n 0, 1) := by decide +kernel
theorem dX12_rounds_24 : decode cX12_rounds 24 = .ok (.getfield 264, 3) := by decide +kernel
theorem dX12_rounds_27 : decode cX12_rounds 27 = .ok (.ifCond .ne 10, 3) := by decide +kernel
theorem dX12_rounds_30 : decode cX12_rounds 30 = .ok (.aload_n 0, 1) := by decide +kernel
theorem dX12_rounds_31 : decode cX12_rounds 31 = .ok (.bipush (-4), 2) := by decide +kernel
theorem dX12_rounds_33 : decode cX12_rounds 33 = .ok (.invokevirtual 183, 3) := by decide +kernel
theorem dX12_rounds_36 : decode cX12_rounds 36 = .ok (.ireturn, 1) := by decide +kernel
theorem dX12_rounds_37 : decode cX12_rounds 37 = .ok (.iconst 0, 1) := by decide +kernel
theorem dX12_rounds_38 : decode cX12_rounds 38 = .ok (.istore_n 2, 1) := by decide +kernel
theorem dX12_rounds_39 : decode cX12_rounds 39 = .ok (.iconst 0, 1) := by decide +kernel
theorem dX12_rounds_40 : decode cX12_rounds 40 = .ok (.istore_n 3, 1) := by decide +kernel
theorem dX12_rounds_41 : decode cX12_rounds 41 = .ok (.iconst 0, 1) := by decide +kernel
theorem dX12_rounds_42 : decode cX12_rounds 42 = .ok (.istore 4, 2) := by decide +kernel
theorem dX12_rounds_44 : decode cX12_rounds 44 = .ok (.iload 4, 2) := by decide +kernel
theorem dX12_rounds_46 : decode cX12_rounds 46 = .ok (.bipush 12, 2) := by decide +kernel
theorem dX12_rounds_48 : decode cX12_rounds 48 = .ok (.if_icmp .ge 51, 3) := by decide +kernel
theorem dX12_rounds_51 : decode cX12_rounds 51 = .ok (.aload_n 0, 1) := by decide +kernel
theorem dX12_rounds_52 : decode cX12_rounds 52 = .ok (.getfield 104, 3) := by decide +kernel
theorem dX12_rounds_55 : decode cX12_rounds 55 = .ok (.iload 4, 2) := by decide +kernel
theorem dX12_rounds_57 : decode cX12_rounds 57 = .ok (.iaload, 1) := by decide +kernel
theorem dX12_rounds_58 : decode cX12_rounds 58 = .ok (.ifCond .le 35, 3) := by decide +kernel
theorem dX12_rounds_61 : decode cX12_rounds 61 = .ok (.iload_n 3, 1) := by decide +kernel
theorem dX12_rounds_62 : decode cX12_rounds 62 = .ok (.ifCond .ne 14, 3) := by decide +kernel
theorem dX12_rounds_65 : decode cX12_rounds 65 = .ok (.aload_n 0, 1) := by decide +kernel
theorem dX12_rounds_66 : decode cX12_rounds 66 = .ok (.getfield 104, 3) := by decide +kernel
theorem dX12_rounds_69 : decode cX12_rounds 69 = .ok (.iload 4, 2) := by decide +kernel
theorem dX12_rounds_71 : decode cX12_rounds 71 = .ok (.iaload, 1) := by decide +kernel
theorem dX12_rounds_72 : decode cX12_rounds 72 = .ok (.iload_n 1, 1) := by decide +kernel
theorem dX12_rounds_73 : decode cX12_rounds 73 = .ok (.if_icmp .le 7, 3) := by decide +kernel
theorem dX12_rounds_76 : decode cX12_rounds 76 = .ok (.iconst 1, 1) := by decide +kernel
theorem dX12_rounds_77 : decode cX12_rounds 77 = .ok (.goto 4, 3) := by decide +kernel
theorem dX12_rounds_80 : decode cX12_rounds 80 = .ok (.iconst 0, 1) := by decide +kernel
theorem dX12_rounds_81 : decode cX12_rounds 81 = .ok (.istore_n 3, 1) := by decide +kernel
theorem dX12_rounds_82 : decode cX12_rounds 82 = .ok (.aload_n 0, 1) := by decide +kernel
theorem dX12_rounds_83 : decode cX12_rounds 83 = .ok (.getfield 107, 3) := by decide +kernel
theorem dX12_rounds_86 : decode cX12_rounds 86 = .ok (.iload_n 2, 1) := by decide +kernel
theorem dX12_rounds_87 : decode cX12_rounds 87 = .ok (.iload 4, 2) := by decide +kernel
theorem dX12_rounds_89 : decode cX12_rounds 89 = .ok (.iastore, 1) := by decide +kernel
theorem dX12_rounds_90 : decode cX12_rounds 90 = .ok (.iinc 2 1, 3) := by decide +kernel
theorem dX12_rounds_93 : decode cX12_rounds 93 = .ok (.iinc 4 1, 3) := by decide +kernel
theorem dX12_rounds_96 : decode cX12_rounds 96 = .ok (.goto (-52), 3) := by decide +kernel
theorem dX12_rounds_99 : decode cX12_rounds 99 = .ok (.iload_n 3, 1) := by decide +kernel
theorem dX12_rounds_100 : decode cX12_rounds 100 = .ok (.ifCond .eq 10, 3) := by decide +kernel
theorem dX12_rounds_103 : decode cX12_rounds 103 = .ok (.aload_n 0, 1) := by decide +kernel
theorem dX12_rounds_104 : decode cX12_rounds 104 = .ok (.bipush (-5), 2) := by decide +kernel
theorem dX12_rounds_106 : decode cX12_rounds 106 = .ok (.invokevirtual 183, 3) := by decide +kernel
theorem dX12_rounds_109 : decode cX12_rounds 109 = .ok (.ireturn, 1) := by decide +kernel
theorem dX12_rounds_110 : decode cX12_rounds 110 = .ok (.aload_n 0, 1) := by decide +kernel
theorem dX12_rounds_111 : decode cX12_rounds 111 = .ok (.iload_n 2, 1) := by decide +kernel
theorem dX12_rounds_112 : decode cX12_rounds 112 = .ok (.invokevirtual 284, 3) := by decide +kernel
theorem dX12_rounds_115 : decode cX12_rounds 115 = .ok (.aload_n 0, 1) := by decide +kernel
theorem dX12_rounds_116 : decode cX12_rounds 116 = .ok (.iload_n 2, 1) := by decide +kernel
theorem dX12_rounds_117 : decode cX12_rounds 117 = .ok (.iload_n 1, 1) := by decide +kernel
theorem dX12_rounds_118 : decode cX12_rounds 118 = .ok (.invokevirtual 288, 3) := by decide +kernel
theorem dX12_rounds_121 : decode cX12_rounds 121 = .ok (.iconst 1, 1) := by decide +kernel
theorem dX12_rounds_122 : decode cX12_rounds 122 = .ok (.iload_n 2, 1) := by decide +kernel
theorem dX12_rounds_123 : decode cX12_rounds 123 = .ok (.ishl, 1) := by decide +kernel
theorem dX12_rounds_124 : decode cX12_rounds 124 = .ok (.iconst 1, 1) := by decide +kernel
theorem dX12_rounds_125 : decode cX12_rounds 125 = .ok (.isub, 1) := by decide +kernel
theorem dX12_rounds_126 : decode cX12_rounds 126 = .ok (.istore 4, 2) := by decide +kernel
theorem dX12_rounds_128 : decode cX12_rounds 128 = .ok (.aload_n 0, 1) := by decide +kernel
theorem dX12_rounds_129 : decode cX12_rounds 129 = .ok (.aload_n 0, 1) := by decide +kernel
theorem dX12_rounds_130 : decode cX12_rounds 130 = .ok (.getfield 128, 3) := by decide +kernel
theorem dX12_rounds_133 : decode cX12_rounds 133 = .ok (.iload 4, 2) := by decide +kernel
theorem dX12_rounds_135 : decode cX12_rounds 135 = .ok (.iaload, 1) := by decide +kernel
theorem dX12_rounds_136 : decode cX12_rounds 136 = .ok (.putfield 137, 3) := by decide +kernel
theorem dX12_rounds_139 : decode cX12_rounds 139 = .ok (.iconst 0, 1) := by decide +kernel
theorem dX12_rounds_140 : decode cX12_rounds 140 = .ok (.istore 5, 2) := by decide +kernel
theorem dX12_rounds_142 : decode cX12_rounds 142 = .ok (.iload 5, 2) := by decide +kernel
theorem dX12_rounds_144 : decode cX12_rounds 144 = .ok (.aload_n 0, 1) := by decide +kernel
theorem dX12_rounds_145 : decode cX12_rounds 145 = .ok (.getfield 137, 3) := by decide +kernel
theorem dX12_rounds_148 : decode cX12_rounds 148 = .ok (.if_icmp .ge 29, 3) := by decide +kernel
theorem dX12_rounds_151 : decode cX12_rounds 151 = .ok (.aload_n 0, 1) := by decide +kernel
theorem dX12_rounds_152 : decode cX12_rounds 152 = .ok (.getfield 134, 3) := by decide +kernel
theorem dX12_rounds_155 : decode cX12_rounds 155 = .ok (.iload 5, 2) := by decide +kernel
theorem dX12_rounds_157 : decode cX12_rounds 157 = .ok (.aload_n 0, 1) := by decide +kernel
theorem dX12_rounds_158 : decode cX12_rounds 158 = .ok (.getfield 125, 3) := by decide +kernel
theorem dX12_rounds_161 : decode cX12_rounds 161 = .ok (.bipush 16, 2) := by decide +kernel
theorem dX12_rounds_163 : decode cX12_rounds 163 = .ok (.iload 4, 2) := by decide +kernel
theorem dX12_rounds_165 : decode cX12_rounds 165 = .ok (.imul, 1) := by decide +kernel
theorem dX12_rounds_166 : decode cX12_rounds 166 = .ok (.iload 5, 2) := by decide +kernel
theorem dX12_rounds_168 : decode cX12_rounds 168 = .ok (.iadd, 1) := by decide +kernel
theorem dX12_rounds_169 : decode cX12_rounds 169 = .ok (.iaload, 1) := by decide +kernel
theorem dX12_rounds_170 : decode cX12_rounds 170 = .ok (.iastore, 1) := by decide +kernel
theorem dX12_rounds_171 : decode cX12_rounds 171 = .ok (.iinc 5 1, 3) := by decide +kernel
theorem dX12_rounds_174 : decode cX12_rounds 174 = .ok (.goto (-32), 3) := by decide +kernel
theorem dX12_rounds_177 : decode cX12_rounds 177 = .ok (.aload_n 0, 1) := by decide +kernel
theorem dX12_rounds_178 : decode cX12_rounds 178 = .ok (.aload_n 0, 1) := by decide +kernel
theorem dX12_rounds_179 : decode cX12_rounds 179 = .ok (.getfield 119, 3) := by decide +kernel
theorem dX12_rounds_182 : decode cX12_rounds 182 = .ok (.iload 4, 2) := by decide +kernel
theorem dX12_rounds_184 : decode cX12_rounds 184 = .ok (.iaload, 1) := by decide +kernel
theorem dX12_rounds_185 : decode cX12_rounds 185 = .ok (.invokevirtual 183, 3) := by decide +kernel
theorem dX12_rounds_188 : decode cX12_rounds 188 = .ok (.ireturn, 1) := by decide +kernel
set_option maxRecDepth 20000 in
theorem ggX12_stop_X12_in : GoodIn wsX12_stop wsX12_in := goodIn_r _ [7] (by decide +kernel) (by decide +kernel)
set_option maxRecDepth 20000 in
theorem gX12_stop_X12_in : GoodIn wsX12_stop (va_wsS RX12 164 yX12_in wsX12_in) := goodIn_app (goodIn_of _ (by decide +kernel)) ggX12_stop_X12_in
theorem dX12_stop_0 : decode cX12_stop 0 = .ok (.aload_n 0, 1) := by decide +kernel
theorem dX12_stop_1 : decode cX12_stop 1 = .ok (.iconst 0, 1) := by decide +kernel
theorem dX12_stop_2 : decode cX12_stop 2 = .ok (.putfield 156, 3) := by decide +kernel
theorem dX12_stop_5 : decode cX12_stop 5 = .ok (.aload_n 0, 1) := by decide +kernel
theorem dX12_stop_6 : decode cX12_stop 6 = .ok (.getfield 137, 3) := by decide +kernel
theorem dX12_stop_9 : decode cX12_stop 9 = .ok (.ifCond .ge 5, 3) := by decide +kernel
theorem dX12_stop_12 : decode cX12_stop 12 = .ok (.iconst (-1), 1) := by decide +kernel
theorem dX12_stop_13 : decode cX12_stop 13 = .ok (.ireturn, 1) := by decide +kernel
theorem dX12_stop_14 : decode cX12_stop 14 = .ok (.iload_n 1, 1) := by decide +kernel
theorem dX12_stop_15 : decode cX12_stop 15 = .ok (.iconst (-1), 1) := by decide +kernel
theorem dX12_stop_16 : decode cX12_stop 16 = .ok (.if_icmp .ne 10, 3) := by decide +kernel
theorem dX12_stop_19 : decode cX12_stop 19 = .ok (.aload_n 0, 1) := by decide +kernel
theorem dX12_stop_20 : decode cX12_stop 20 = .ok (.getfield 137, 3) := by decide +kernel
theorem dX12_stop_23 : decode cX12_stop 23 = .ok (.goto 29, 3) := by decide +kernel
theorem dX12_stop_26 : decode cX12_stop 26 = .ok (.iload_n 1, 1) := by decide +kernel
theorem dX12_stop_27 : decode cX12_stop 27 = .ok (.i2l, 1) := by decide +kernel
theorem dX12_stop_28 : decode cX12_stop 28 = .ok (.lconst 0, 1) := by decide +kernel
theorem dX12_stop_29 : decode cX12_stop 29 = .ok (.aload_n 0, 1) := by decide +kernel
theorem dX12_stop_30 : decode cX12_stop 30 = .ok (.getfield 137, 3) := by decide +kernel
theorem dX12_stop_33 : decode cX12_stop 33 = .ok (.i2l, 1) := by decide +kernel
theorem dX12_stop_34 : decode cX12_stop 34 = .ok (.lconst 1, 1) := by decide +kernel
theorem dX12_stop_35 : decode cX12_stop 35 = .ok (.lsub, 1) := by decide +kernel
theorem dX12_stop_36 : decode cX12_stop 36 = .ok (.invokestatic 164, 3) := by decide +kernel
theorem dX12_stop_39 : decode cX12_stop 39 = .ok (.ifCond .eq 12, 3) := by decide +kernel
theorem dX12_stop_42 : decode cX12_stop 42 = .ok (.aload_n 0, 1) := by decide +kernel
theorem dX12_stop_43 : decode cX12_stop 43 = .ok (.getfield 134, 3) := by decide +kernel
theorem dX12_stop_46 : decode cX12_stop 46 = .ok (.iload_n 1, 1) := by decide +kernel
theorem dX12_stop_47 : decode cX12_stop 47 = .ok (.iaload, 1) := by decide +kernel
theorem dX12_stop_48 : decode cX12_stop 48 = .ok (.goto 4, 3) := by decide +kernel
theorem dX12_stop_51 : decode cX12_stop 51 = .ok (.iconst (-1), 1) := by decide +kernel
theorem dX12_stop_52 : decode cX12_stop 52 = .ok (.ireturn, 1) := by decide +kernel
theorem dX12_four_0 : decode cX12_four 0 = .ok (.bipush 24, 2) := by decide +kernel
theorem dX12_four_2 : decode cX12_four 2 = .ok (.istore_n 2, 1) := by decide +kernel
theorem dX12_four_3 : decode cX12_four 3 = .ok (.iload_n 2, 1) := by decide +kernel
theorem dX12_four_4 : decode cX12_four 4 = .ok (.ifCond .lt 35, 3) := by decide +kernel
theorem dX12_four_7 : decode cX12_four 7 = .ok (.aload_n 0, 1) := by decide +kernel
theorem dX12_four_8 : decode cX12_four 8 = .ok (.getfield 141, 3) := by decide +kernel
theorem dX12_four_11 : decode cX12_four 11 = .ok (.aload_n 0, 1) := by decide +kernel
theorem dX12_four_12 : decode cX12_four 12 = .ok (.getfield 291, 3) := by decide +kernel
theorem dX12_four_15 : decode cX12_four 15 = .ok (.iload_n 1, 1) := by decide +kernel
theorem dX12_four_16 : decode cX12_four 16 = .ok (.iload_n 2, 1) := by decide +kernel
theorem dX12_four_17 : decode cX12_four 17 = .ok (.ishr, 1) := by decide +kernel
theorem dX12_four_18 : decode cX12_four 18 = .ok (.sipush 255, 3) := by decide +kernel
theorem dX12_four_21 : decode cX12_four 21 = .ok (.iand, 1) := by decide +kernel
theorem dX12_four_22 : decode cX12_four 22 = .ok (.iastore, 1) := by decide +kernel
theorem dX12_four_23 : decode cX12_four 23 = .ok (.aload_n 0, 1) := by decide +kernel
theorem dX12_four_24 : decode cX12_four 24 = .ok (.dup, 1) := by decide +kernel
theorem dX12_four_25 : decode cX12_four 25 = .ok (.getfield 291, 3) := by decide +kernel
theorem dX12_four_28 : decode cX12_four 28 = .ok (.iconst 1, 1) := by decide +kernel
theorem dX12_four_29 : decode cX12_four 29 = .ok (.iadd, 1) := by decide +kernel
theorem dX12_four_30 : decode cX12_four 30 = .ok (.putfield 291, 3) := by decide +kernel
theorem dX12_four_33 : decode cX12_four 33 = .ok (.iinc 2 (-8), 3) := by decide +kernel
theorem dX12_four_36 : decode cX12_four 36 = .ok (.goto (-33), 3) := by decide +kernel
theorem dX12_four_39 : decode cX12_four 39 = .ok (.return_, 1) := by decide +kernel
set_option maxRecDepth 20000 in
theorem ggX12_feed_X12_four : GoodIn wsX12_feed wsX12_four := goodIn_r _ [7, 8, 2, 9, 10, 11, 12, 13, 14, 15, 16, 17, 18, 19, 20, 21, 22, 23, 24, 25, 26, 27, 28, 29, 30, 31, 32, 33, 34, 35, 36, 37, 38, 39, 40, 41, 42, 43, 44, 45, 46, 47, 48, 49, 50, 51, 52, 53, 54, 55, 56, 57, 58, 59, 60, 61, 62, 63, 64, 65, 66, 67, 68, 69, 70, 71, 72, 73, 74, 75, 76, 77] (by decide +kernel) (by decide +kernel)
set_option maxRecDepth 20000 in
theorem gX12_feed_X12_four : GoodIn wsX12_feed (wsV RX12 294 RX12 yX12_four wsX12_four) := goodIn_app (goodIn_of _ (by decide +kernel)) ggX12_feed_X12_four
theorem dX12_feed_0 : decode cX12_feed 0 = .ok (.aload_n 0, 1) := by decide +kernel
theorem dX12_feed_1 : decode cX12_feed 1 = .ok (.iconst 0, 1) := by decide +kernel
theorem dX12_feed_2 : decode cX12_feed 2 = .ok (.putfield 156, 3) := by decide +kernel
theorem dX12_feed_5 : decode cX12_feed 5 = .ok (.aload_n 0, 1) := by decide +kernel
theorem dX12_feed_6 : decode cX12_feed 6 = .ok (.getfield 291, 3) := by decide +kernel
theorem dX12_feed_9 : decode cX12_feed 9 = .ok (.bipush 20, 2) := by decide +kernel
theorem dX12_feed_11 : decode cX12_feed 11 = .ok (.iadd, 1) := by decide +kernel
theorem dX12_feed_12 : decode cX12_feed 12 = .ok (.sipush 400, 3) := by decide +kernel
theorem dX12_feed_15 : decode cX12_feed 15 = .ok (.if_icmp .le 5, 3) := by decide +kernel
theorem dX12_feed_18 : decode cX12_feed 18 = .ok (.iconst (-1), 1) := by decide +kernel
theorem dX12_feed_19 : decode cX12_feed 19 = .ok (.ireturn, 1) := by decide +kernel
theorem dX12_feed_20 : decode cX12_feed 20 = .ok (.aload_n 0, 1) := by decide +kernel
theorem dX12_feed_21 : decode cX12_feed 21 = .ok (.iload_n 1, 1) := by decide +kernel
theorem dX12_feed_22 : decode cX12_feed 22 = .ok (.invokevirtual 294, 3) := by decide +kernel
theorem dX12_feed_25 : decode cX12_feed 25 = .ok (.aload_n 0, 1) := by decide +kernel
theorem dX12_feed_26 : decode cX12_feed 26 = .ok (.iload_n 2, 1) := by decide +kernel
theorem dX12_feed_27 : decode cX12_feed 27 = .ok (.invokevirtual 294, 3) := by decide +kernel
theorem dX12_feed_30 : decode cX12_feed 30 = .ok (.aload_n 0, 1) := by decide +kernel
theorem dX12_feed_31 : decode cX12_feed 31 = .ok (.iload_n 3, 1) := by decide +kernel
theorem dX12_feed_32 : decode cX12_feed 32 = .ok (.invokevirtual 294, 3) := by decide +kernel
theorem dX12_feed_35 : decode cX12_feed 35 = .ok (.aload_n 0, 1) := by decide +kernel
theorem dX12_feed_36 : decode cX12_feed 36 = .ok (.iload 4, 2) := by decide +kernel
theorem dX12_feed_38 : decode cX12_feed 38 = .ok (.invokevirtual 294, 3) := by decide +kernel
theorem dX12_feed_41 : decode cX12_feed 41 = .ok (.aload_n 0, 1) := by decide +kernel
theorem dX12_feed_42 : decode cX12_feed 42 = .ok (.iload 5, 2) := by decide +kernel
theorem dX12_feed_44 : decode cX12_feed 44 = .ok (.invokevirtual 294, 3) := by decide +kernel
theorem dX12_feed_47 : decode cX12_feed 47 = .ok (.aload_n 0, 1) := by decide +kernel
theorem dX12_feed_48 : decode cX12_feed 48 = .ok (.getfield 291, 3) := by decide +kernel
theorem dX12_feed_51 : decode cX12_feed 51 = .ok (.ireturn, 1) := by decide +kernel
theorem dX12_end_0 : decode cX12_end 0 = .ok (.aload_n 0, 1) := by decide +kernel
theorem dX12_end_1 : decode cX12_end 1 = .ok (.iconst 0, 1) := by decide +kernel
theorem dX12_end_2 : decode cX12_end 2 = .ok (.putfield 156, 3) := by decide +kernel
theorem dX12_end_5 : decode cX12_end 5 = .ok (.iload_n 1, 1) := by decide +kernel
theorem dX12_end_6 : decode cX12_end 6 = .ok (.ifCond .lt 11, 3) := by decide +kernel
theorem dX12_end_9 : decode cX12_end 9 = .ok (.iload_n 1, 1) := by decide +kernel
theorem dX12_end_10 : decode cX12_end 10 = .ok (.aload_n 0, 1) := by decide +kernel
theorem dX12_end_11 : decode cX12_end 11 = .ok (.getfield 291, 3) := by decide +kernel
theorem dX12_end_14 : decode cX12_end 14 = .ok (.if_icmp .le 5, 3) := by decide +kernel
theorem dX12_end_17 : decode cX12_end 17 = .ok (.iconst (-1), 1) := by decide +kernel
theorem dX12_end_18 : decode cX12_end 18 = .ok (.ireturn, 1) := by decide +kernel
theorem dX12_end_19 : decode cX12_end 19 = .ok (.aload_n 0, 1) := by decide +kernel
theorem dX12_end_20 : decode cX12_end 20 = .ok (.iload_n 1, 1) := by decide +kernel
theorem dX12_end_21 : decode cX12_end 21 = .ok (.putfield 291, 3) := by decide +kernel
theorem dX12_end_24 : decode cX12_end 24 = .ok (.iload_n 1, 1) := by decide +kernel
theorem dX12_end_25 : decode cX12_end 25 = .ok (.ireturn, 1) := by decide +kernel
theorem dX12_isSmall_0 : decode cX12_isSmall 0 = .ok (.iload_n 0, 1) := by decide +kernel
theorem dX12_isSmall_1 : decode cX12_isSmall 1 = .ok (.bipush 97, 2) := by decide +kernel
theorem dX12_isSmall_3 : decode cX12_isSmall 3 = .ok (.if_icmp .lt 13, 3) := by decide +kernel
theorem dX12_isSmall_6 : decode cX12_isSmall 6 = .ok (.iload_n 0, 1) := by decide +kernel
theorem dX12_isSmall_7 : decode cX12_isSmall 7 = .ok (.bipush 122, 2) := by decide +kernel
theorem dX12_isSmall_9 : decode cX12_isSmall 9 = .ok (.if_icmp .gt 7, 3) := by decide +kernel
theorem dX12_isSmall_12 : decode cX12_isSmall 12 = .ok (.iconst 1, 1) := by decide +kernel
theorem dX12_isSmall_13 : decode cX12_isSmall 13 = .ok (.goto 4, 3) := by decide +kernel
theorem dX12_isSmall_16 : decode cX12_isSmall 16 = .ok (.iconst 0, 1) := by decide +kernel
theorem dX12_isSmall_17 : decode cX12_isSmall 17 = .ok (.ireturn, 1) := by decide +kernel
theorem dX12_isDigit_0 : decode cX12_isDigit 0 = .ok (.iload_n 0, 1) := by decide +kernel
theorem dX12_isDigit_1 : decode cX12_isDigit 1 = .ok (.bipush 48, 2) := by decide +kernel
theorem dX12_isDigit_3 : decode cX12_isDigit 3 = .ok (.if_icmp .lt 13, 3) := by decide +kernel
theorem dX12_isDigit_6 : decode cX12_isDigit 6 = .ok (.iload_n 0, 1) := by decide +kernel
theorem dX12_isDigit_7 : decode cX12_isDigit 7 = .ok (.bipush 57, 2) := by decide +kernel
theorem dX12_isDigit_9 : decode cX12_isDigit 9 = .ok (.if_icmp .gt 7, 3) := by decide +kernel
theorem dX12_isDigit_12 : decode cX12_isDigit 12 = .ok (.iconst 1, 1) := by decide +kernel
theorem dX12_isDigit_13 : decode cX12_isDigit 13 = .ok (.goto 4, 3) := by decide +kernel
theorem dX12_isDigit_16 : decode cX12_isDigit 16 = .ok (.iconst 0, 1) := by decide +kernel
theorem dX12_isDigit_17 : decode cX12_isDigit 17 = .ok (.ireturn, 1) := by decide +kernel
set_option maxRecDepth 20000 in
theorem ggX12_next_X12_isSmall : GoodIn wsX12_next wsX12_isSmall := goodIn_r _ [16] (by decide +kernel) (by decide +kernel)
set_option maxRecDepth 20000 in
theorem gX12_next_X12_isSmall : GoodIn wsX12_next (va_wsS RX12 306 yX12_isSmall wsX12_isSmall) := goodIn_app (goodIn_of _ (by decide +kernel)) ggX12_next_X12_isSmall
set_option maxRecDepth 20000 in
theorem ggX12_next_X12_isDigit : GoodIn wsX12_next wsX12_isDigit := goodIn_r _ [19] (by decide +kernel) (by decide +kernel)
set_option maxRecDepth 20000 in
theorem gX12_next_X12_isDigit : GoodIn wsX12_next (va_wsS RX12 309 yX12_isDigit wsX12_isDigit) := goodIn_app (goodIn_of _ (by decide +kernel)) ggX12_next_X12_isDigit
theorem dX12_next_0 : decode cX12_next 0 = .ok (.aload_n 0, 1) := by decide +kernel
theorem dX12_next_1 : decode cX12_next 1 = .ok (.aload_n 0, 1) := by decide +kernel
theorem dX12_next_2 : decode cX12_next 2 = .ok (.getfield 297, 3) := by decide +kernel
theorem dX12_next_5 : decode cX12_next 5 = .ok (.putfield 300, 3) := by decide +kernel
theorem dX12_next_8 : decode cX12_next 8 = .ok (.aload_n 0, 1) := by decide +kernel
theorem dX12_next_9 : decode cX12_next 9 = .ok (.getfield 300, 3) := by decide +kernel
theorem dX12_next_12 : decode cX12_next 12 = .ok (.aload_n 0, 1) := by decide +kernel
theorem dX12_next_13 : decode cX12_next 13 = .ok (.getfield 291, 3) := by decide +kernel
theorem dX12_next_16 : decode cX12_next 16 = .ok (.if_icmp .ge 30, 3) := by decide +kernel
theorem dX12_next_19 : decode cX12_next 19 = .ok (.aload_n 0, 1) := by decide +kernel
theorem dX12_next_20 : decode cX12_next 20 = .ok (.getfield 141, 3) := by decide +kernel
theorem dX12_next_23 : decode cX12_next 23 = .ok (.aload_n 0, 1) := by decide +kernel
theorem dX12_next_24 : decode cX12_next 24 = .ok (.getfield 300, 3) := by decide +kernel
theorem dX12_next_27 : decode cX12_next 27 = .ok (.iaload, 1) := by decide +kernel
theorem dX12_next_28 : decode cX12_next 28 = .ok (.bipush 32, 2) := by decide +kernel
theorem dX12_next_30 : decode cX12_next 30 = .ok (.if_icmp .ne 16, 3) := by decide +kernel
theorem dX12_next_33 : decode cX12_next 33 = .ok (.aload_n 0, 1) := by decide +kernel
theorem dX12_next_34 : decode cX12_next 34 = .ok (.dup, 1) := by decide +kernel
theorem dX12_next_35 : decode cX12_next 35 = .ok (.getfield 300, 3) := by decide +kernel
theorem dX12_next_38 : decode cX12_next 38 = .ok (.iconst 1, 1) := by decide +kernel
theorem dX12_next_39 : decode cX12_next 39 = .ok (.iadd, 1) := by decide +kernel
theorem dX12_next_40 : decode cX12_next 40 = .ok (.putfield 300, 3) := by decide +kernel
theorem dX12_next_43 : decode cX12_next 43 = .ok (.goto (-35), 3) := by decide +kernel
theorem dX12_next_46 : decode cX12_next 46 = .ok (.aload_n 0, 1) := by decide +kernel
theorem dX12_next_47 : decode cX12_next 47 = .ok (.aload_n 0, 1) := by decide +kernel
theorem dX12_next_48 : decode cX12_next 48 = .ok (.getfield 300, 3) := by decide +kernel
theorem dX12_next_51 : decode cX12_next 51 = .ok (.putfield 297, 3) := by decide +kernel
theorem dX12_next_54 : decode cX12_next 54 = .ok (.aload_n 0, 1) := by decide +kernel
theorem dX12_next_55 : decode cX12_next 55 = .ok (.lconst 0, 1) := by decide +kernel
theorem dX12_next_56 : decode cX12_next 56 = .ok (.putfield 303, 3) := by decide +kernel
theorem dX12_next_59 : decode cX12_next 59 = .ok (.aload_n 0, 1) := by decide +kernel
theorem dX12_next_60 : decode cX12_next 60 = .ok (.aload_n 0, 1) := by decide +kernel
theorem dX12_next_61 : decode cX12_next 61 = .ok (.getfield 300, 3) := by decide +kernel
theorem dX12_next_64 : decode cX12_next 64 = .ok (.aload_n 0, 1) := by decide +kernel
theorem dX12_next_65 : decode cX12_next 65 = .ok (.getfield 291, 3) := by decide +kernel
theorem dX12_next_68 : decode cX12_next 68 = .ok (.if_icmp .ne 7, 3) := by decide +kernel
theorem dX12_next_71 : decode cX12_next 71 = .ok (.iconst 0, 1) := by decide +kernel
theorem dX12_next_72 : decode cX12_next 72 = .ok (.goto 42, 3) := by decide +kernel
theorem dX12_next_75 : decode cX12_next 75 = .ok (.aload_n 0, 1) := by decide +kernel
theorem dX12_next_76 : decode cX12_next 76 = .ok (.getfield 141, 3) := by decide +kernel
theorem dX12_next_79 : decode cX12_next 79 = .ok (.aload_n 0, 1) := by decide +kernel
theorem dX12_next_80 : decode cX12_next 80 = .ok (.getfield 300, 3) := by decide +kernel
theorem dX12_next_83 : decode cX12_next 83 = .ok (.iaload, 1) := by decide +kernel
theorem dX12_next_84 : decode cX12_next 84 = .ok (.invokestatic 306, 3) := by decide +kernel
theorem dX12_next_87 : decode cX12_next 87 = .ok (.ifCond .eq 7, 3) := by decide +kernel
theorem dX12_next_90 : decode cX12_next 90 = .ok (.iconst 1, 1) := by decide +kernel
theorem dX12_next_91 : decode cX12_next 91 = .ok (.goto 23, 3) := by decide +kernel
theorem dX12_next_94 : decode cX12_next 94 = .ok (.aload_n 0, 1) := by decide +kernel
theorem dX12_next_95 : decode cX12_next 95 = .ok (.getfield 141, 3) := by decide +kernel
theorem dX12_next_98 : decode cX12_next 98 = .ok (.aload_n 0, 1) := by decide +kernel
theorem dX12_next_99 : decode cX12_next 99 = .ok (.getfield 300, 3) := by decide +kernel
theorem dX12_next_102 : decode cX12_next 102 = .ok (.iaload, 1) := by decide +kernel
theorem dX12_next_103 : decode cX12_next 103 = .ok (.invokestatic 309, 3) := by decide +kernel
theorem dX12_next_106 : decode cX12_next 106 = .ok (.ifCond .eq 7, 3) := by decide +kernel
theorem dX12_next_109 : decode cX12_next 109 = .ok (.iconst 2, 1) := by decide +kernel
theorem dX12_next_110 : decode cX12_next 110 = .ok (.goto 4, 3) := by decide +kernel
theorem dX12_next_113 : decode cX12_next 113 = .ok (.iconst 3, 1) := by decide +kernel
theorem dX12_next_114 : decode cX12_next 114 = .ok (.putfield 312, 3) := by decide +kernel
theorem dX12_next_117 : decode cX12_next 117 = .ok (.aload_n 0, 1) := by decide +kernel
theorem dX12_next_118 : decode cX12_next 118 = .ok (.getfield 312, 3) := by decide +kernel
theorem dX12_next_121 : decode cX12_next 121 = .ok (.iconst 3, 1) := by decide +kernel
theorem dX12_next_122 : decode cX12_next 122 = .ok (.if_icmp .ne 27, 3) := by decide +kernel
theorem dX12_next_125 : decode cX12_next 125 = .ok (.aload_n 0, 1) := by decide +kernel
theorem dX12_next_126 : decode cX12_next 126 = .ok (.aload_n 0, 1) := by decide +kernel
theorem dX12_next_127 : decode cX12_next 127 = .ok (.getfield 141, 3) := by decide +kernel
theorem dX12_next_130 : decode cX12_next 130 = .ok (.aload_n 0, 1) := by decide +kernel
theorem dX12_next_131 : decode cX12_next 131 = .ok (.getfield 300, 3) := by decide +kernel
theorem dX12_next_134 : decode cX12_next 134 = .ok (.iaload, 1) := by decide +kernel
theorem dX12_next_135 : decode cX12_next 135 = .ok (.i2l, 1) := by decide +kernel
theorem dX12_next_136 : decode cX12_next 136 = .ok (.putfield 303, 3) := by decide +kernel
theorem dX12_next_139 : decode cX12_next 139 = .ok (.aload_n 0, 1) := by decide +kernel
theorem dX12_next_140 : decode cX12_next 140 = .ok (.dup, 1) := by decide +kernel
theorem dX12_next_141 : decode cX12_next 141 = .ok (.getfield 297, 3) := by decide +kernel
theorem dX12_next_144 : decode cX12_next 144 = .ok (.iconst 1, 1) := by decide +kernel
theorem dX12_next_145 : decode cX12_next 145 = .ok (.iadd, 1) := by decide +kernel
theorem dX12_next_146 : decode cX12_next 146 = .ok (.putfield 297, 3) := by decide +kernel
theorem dX12_next_149 : decode cX12_next 149 = .ok (.aload_n 0, 1) := by decide +kernel
theorem dX12_next_150 : decode cX12_next 150 = .ok (.getfield 312, 3) := by decide +kernel
theorem dX12_next_153 : decode cX12_next 153 = .ok (.iconst 1, 1) := by decide +kernel
theorem dX12_next_154 : decode cX12_next 154 = .ok (.if_icmp .ne 89, 3) := by decide +kernel
theorem dX12_next_157 : decode cX12_next 157 = .ok (.aload_n 0, 1) := by decide +kernel
theorem dX12_next_158 : decode cX12_next 158 = .ok (.getfield 297, 3) := by decide +kernel
theorem dX12_next_161 : decode cX12_next 161 = .ok (.aload_n 0, 1) := by decide +kernel
theorem dX12_next_162 : decode cX12_next 162 = .ok (.getfield 291, 3) := by decide +kernel
theorem dX12_next_165 : decode cX12_next 165 = .ok (.if_icmp .ge 78, 3) := by decide +kernel
theorem dX12_next_168 : decode cX12_next 168 = .ok (.aload_n 0, 1) := by decide +kernel
theorem dX12_next_169 : decode cX12_next 169 = .ok (.getfield 141, 3) := by decide +kernel
theorem dX12_next_172 : decode cX12_next 172 = .ok (.aload_n 0, 1) := by decide +kernel
theorem dX12_next_173 : decode cX12_next 173 = .ok (.getfield 297, 3) := by decide +kernel
theorem dX12_next_176 : decode cX12_next 176 = .ok (.iaload, 1) := by decide +kernel
theorem dX12_next_177 : decode cX12_next 177 = .ok (.invokestatic 306, 3) := by decide +kernel
theorem dX12_next_180 : decode cX12_next 180 = .ok (.ifCond .eq 63, 3) := by decide +kernel
theorem dX12_next_183 : decode cX12_next 183 = .ok (.aload_n 0, 1) := by decide +kernel
theorem dX12_next_184 : decode cX12_next 184 = .ok (.aload_n 0, 1) := by decide +kernel
theorem dX12_next_185 : decode cX12_next 185 = .ok (.getfield 297, 3) := by decide +kernel
theorem dX12_next_188 : decode cX12_next 188 = .ok (.aload_n 0, 1) := by decide +kernel
theorem dX12_next_189 : decode cX12_next 189 = .ok (.getfield 300, 3) := by decide +kernel
theorem dX12_next_192 : decode cX12_next 192 = .ok (.isub, 1) := by decide +kernel
theorem dX12_next_193 : decode cX12_next 193 = .ok (.bipush 6, 2) := by decide +kernel
theorem dX12_next_195 : decode cX12_next 195 = .ok (.if_icmp .ge 29, 3) := by decide +kernel
theorem dX12_next_198 : decode cX12_next 198 = .ok (.aload_n 0, 1) := by decide +kernel
theorem dX12_next_199 : decode cX12_next 199 = .ok (.getfield 303, 3) := by decide +kernel
theorem dX12_next_202 : decode cX12_next 202 = .ok (.ldc2_w 315, 3) := by decide +kernel
theorem dX12_next_205 : decode cX12_next 205 = .ok (.lmul, 1) := by decide +kernel
theorem dX12_next_206 : decode cX12_next 206 = .ok (.aload_n 0, 1) := by decide +kernel
theorem dX12_next_207 : decode cX12_next 207 = .ok (.getfield 141, 3) := by decide +kernel
theorem dX12_next_210 : decode cX12_next 210 = .ok (.aload_n 0, 1) := by decide +kernel
theorem dX12_next_211 : decode cX12_next 211 = .ok (.getfield 297, 3) := by decide +kernel
theorem dX12_next_214 : decode cX12_next 214 = .ok (.iaload, 1) := by decide +kernel
theorem dX12_next_215 : decode cX12_next 215 = .ok (.i2l, 1) := by decide +kernel
theorem dX12_next_216 : decode cX12_next 216 = .ok (.ladd, 1) := by decide +kernel
theorem dX12_next_217 : decode cX12_next 217 = .ok (.ldc2_w 317, 3) := by decide +kernel
theorem dX12_next_220 : decode cX12_next 220 = .ok (.lsub, 1) := by decide +kernel
theorem dX12_next_221 : decode cX12_next 221 = .ok (.goto 6, 3) := by decide +kernel
theorem dX12_next_224 : decode cX12_next 224 = .ok (.ldc2_w 319, 3) := by decide +kernel
theorem dX12_next_227 : decode cX12_next 227 = .ok (.putfield 303, 3) := by decide +kernel
theorem dX12_next_230 : decode cX12_next 230 = .ok (.aload_n 0, 1) := by decide +kernel
theorem dX12_next_231 : decode cX12_next 231 = .ok (.dup, 1) := by decide +kernel
theorem dX12_next_232 : decode cX12_next 232 = .ok (.getfield 297, 3) := by decide +kernel
theorem dX12_next_235 : decode cX12_next 235 = .ok (.iconst 1, 1) := by decide +kernel
theorem dX12_next_236 : decode cX12_next 236 = .ok (.iadd, 1) := by decide +kernel
theorem dX12_next_237 : decode cX12_next 237 = .ok (.putfield 297, 3) := by decide +kernel
theorem dX12_next_240 : decode cX12_next 240 = .ok (.goto (-91), 3) := by decide +kernel
theorem dX12_next_243 : decode cX12_next 243 = .ok (.aload_n 0, 1) := by decide +kernel
theorem dX12_next_244 : decode cX12_next 244 = .ok (.getfield 312, 3) := by decide +kernel
theorem dX12_next_247 : decode cX12_next 247 = .ok (.iconst 2, 1) := by decide +kernel
theorem dX12_next_248 : decode cX12_next 248 = .ok (.if_icmp .ne 87, 3) := by decide +kernel
theorem dX12_next_251 : decode cX12_next 251 = .ok (.aload_n 0, 1) := by decide +kernel
theorem dX12_next_252 : decode cX12_next 252 = .ok (.getfield 297, 3) := by decide +kernel
theorem dX12_next_255 : decode cX12_next 255 = .ok (.aload_n 0, 1) := by decide +kernel
theorem dX12_next_256 : decode cX12_next 256 = .ok (.getfield 291, 3) := by decide +kernel
theorem dX12_next_259 : decode cX12_next 259 = .ok (.if_icmp .ge 76, 3) := by decide +kernel
theorem dX12_next_262 : decode cX12_next 262 = .ok (.aload_n 0, 1) := by decide +kernel
theorem dX12_next_263 : decode cX12_next 263 = .ok (.getfield 141, 3) := by decide +kernel
theorem dX12_next_266 : decode cX12_next 266 = .ok (.aload_n 0, 1) := by decide +kernel
theorem dX12_next_267 : decode cX12_next 267 = .ok (.getfield 297, 3) := by decide +kernel
theorem dX12_next_270 : decode cX12_next 270 = .ok (.iaload, 1) := by decide +kernel
theorem dX12_next_271 : decode cX12_next 271 = .ok (.invokestatic 309, 3) := by decide +kernel
theorem dX12_next_274 : decode cX12_next 274 = .ok (.ifCond .eq 61, 3) := by decide +kernel
theorem dX12_next_277 : decode cX12_next 277 = .ok (.aload_n 0, 1) := by decide +kernel
theorem dX12_next_278 : decode cX12_next 278 = .ok (.aload_n 0, 1) := by decide +kernel
theorem dX12_next_279 : decode cX12_next 279 = .ok (.getfield 303, 3) := by decide +kernel
theorem dX12_next_282 : decode cX12_next 282 = .ok (.ldc2_w 187, 3) := by decide +kernel
theorem dX12_next_285 : decode cX12_next 285 = .ok (.lcmp, 1) := by decide +kernel
theorem dX12_next_286 : decode cX12_next 286 = .ok (.ifCond .le 10, 3) := by decide +kernel
theorem dX12_next_289 : decode cX12_next 289 = .ok (.aload_n 0, 1) := by decide +kernel
theorem dX12_next_290 : decode cX12_next 290 = .ok (.getfield 303, 3) := by decide +kernel
theorem dX12_next_293 : decode cX12_next 293 = .ok (.goto 26, 3) := by decide +kernel
theorem dX12_next_296 : decode cX12_next 296 = .ok (.aload_n 0, 1) := by decide +kernel
theorem dX12_next_297 : decode cX12_next 297 = .ok (.getfield 303, 3) := by decide +kernel
theorem dX12_next_300 : decode cX12_next 300 = .ok (.ldc2_w 246, 3) := by decide +kernel
theorem dX12_next_303 : decode cX12_next 303 = .ok (.lmul, 1) := by decide +kernel
theorem dX12_next_304 : decode cX12_next 304 = .ok (.aload_n 0, 1) := by decide +kernel
theorem dX12_next_305 : decode cX12_next 305 = .ok (.getfield 141, 3) := by decide +kernel
theorem dX12_next_308 : decode cX12_next 308 = .ok (.aload_n 0, 1) := by decide +kernel
theorem dX12_next_309 : decode cX12_next 309 = .ok (.getfield 297, 3) := by decide +kernel
theorem dX12_next_312 : decode cX12_next 312 = .ok (.iaload, 1) := by decide +kernel
theorem dX12_next_313 : decode cX12_next 313 = .ok (.i2l, 1) := by decide +kernel
theorem dX12_next_314 : decode cX12_next 314 = .ok (.ladd, 1) := by decide +kernel
theorem dX12_next_315 : decode cX12_next 315 = .ok (.ldc2_w 321, 3) := by decide +kernel
theorem dX12_next_318 : decode cX12_next 318 = .ok (.lsub, 1) := by decide +kernel
theorem dX12_next_319 : decode cX12_next 319 = .ok (.putfield 303, 3) := by decide +kernel
theorem dX12_next_322 : decode cX12_next 322 = .ok (.aload_n 0, 1) := by decide +kernel
theorem dX12_next_323 : decode cX12_next 323 = .ok (.dup, 1) := by decide +kernel
theorem dX12_next_324 : decode cX12_next 324 = .ok (.getfield 297, 3) := by decide +kernel
theorem dX12_next_327 : decode cX12_next 327 = .ok (.iconst 1, 1) := by decide +kernel
theorem dX12_next_328 : decode cX12_next 328 = .ok (.iadd, 1) := by decide +kernel
theorem dX12_next_329 : decode cX12_next 329 = .ok (.putfield 297, 3) := by decide +kernel
theorem dX12_next_332 : decode cX12_next 332 = .ok (.goto (-89), 3) := by decide +kernel
theorem dX12_next_335 : decode cX12_next 335 = .ok (.return_, 1) := by decide +kernel
theorem dX12_word_0 : decode cX12_word 0 = .ok (.iload_n 0, 1) := by decide +kernel
theorem dX12_word_1 : decode cX12_word 1 = .ok (.i2l, 1) := by decide +kernel
theorem dX12_word_2 : decode cX12_word 2 = .ok (.ldc2_w 317, 3) := by decide +kernel
theorem dX12_word_5 : decode cX12_word 5 = .ok (.lsub, 1) := by decide +kernel
theorem dX12_word_6 : decode cX12_word 6 = .ok (.ldc2_w 315, 3) := by decide +kernel
theorem dX12_word_9 : decode cX12_word 9 = .ok (.lmul, 1) := by decide +kernel
theorem dX12_word_10 : decode cX12_word 10 = .ok (.iload_n 1, 1) := by decide +kernel
theorem dX12_word_11 : decode cX12_word 11 = .ok (.i2l, 1) := by decide +kernel
theorem dX12_word_12 : decode cX12_word 12 = .ok (.ladd, 1) := by decide +kernel
theorem dX12_word_13 : decode cX12_word 13 = .ok (.ldc2_w 317, 3) := by decide +kernel
theorem dX12_word_16 : decode cX12_word 16 = .ok (.lsub, 1) := by decide +kernel
theorem dX12_word_17 : decode cX12_word 17 = .ok (.ldc2_w 315, 3) := by decide +kernel
theorem dX12_word_20 : decode cX12_word 20 = .ok (.lmul, 1) := by decide +kernel
theorem dX12_word_21 : decode cX12_word 21 = .ok (.iload_n 2, 1) := by decide +kernel
theorem dX12_word_22 : decode cX12_word 22 = .ok (.i2l, 1) := by decide +kernel
theorem dX12_word_23 : decode cX12_word 23 = .ok (.ladd, 1) := by decide +kernel
theorem dX12_word_24 : decode cX12_word 24 = .ok (.ldc2_w 317, 3) := by decide +kernel
theorem dX12_word_27 : decode cX12_word 27 = .ok (.lsub, 1) := by decide +kernel
theorem dX12_word_28 : decode cX12_word 28 = .ok (.lstore 5, 2) := by decide +kernel
theorem dX12_word_30 : decode cX12_word 30 = .ok (.iload_n 3, 1) := by decide +kernel
theorem dX12_word_31 : decode cX12_word 31 = .ok (.ifCond .ne 8, 3) := by decide +kernel
theorem dX12_word_34 : decode cX12_word 34 = .ok (.lload 5, 2) := by decide +kernel
theorem dX12_word_36 : decode cX12_word 36 = .ok (.goto 16, 3) := by decide +kernel
theorem dX12_word_39 : decode cX12_word 39 = .ok (.lload 5, 2) := by decide +kernel
theorem dX12_word_41 : decode cX12_word 41 = .ok (.ldc2_w 315, 3) := by decide +kernel
theorem dX12_word_44 : decode cX12_word 44 = .ok (.lmul, 1) := by decide +kernel
theorem dX12_word_45 : decode cX12_word 45 = .ok (.iload_n 3, 1) := by decide +kernel
theorem dX12_word_46 : decode cX12_word 46 = .ok (.i2l, 1) := by decide +kernel
theorem dX12_word_47 : decode cX12_word 47 = .ok (.ladd, 1) := by decide +kernel
theorem dX12_word_48 : decode cX12_word 48 = .ok (.ldc2_w 317, 3) := by decide +kernel
theorem dX12_word_51 : decode cX12_word 51 = .ok (.lsub, 1) := by decide +kernel
theorem dX12_word_52 : decode cX12_word 52 = .ok (.lstore 5, 2) := by decide +kernel
theorem dX12_word_54 : decode cX12_word 54 = .ok (.iload 4, 2) := by decide +kernel
theorem dX12_word_56 : decode cX12_word 56 = .ok (.ifCond .ne 8, 3) := by decide +kernel
theorem dX12_word_59 : decode cX12_word 59 = .ok (.lload 5, 2) := by decide +kernel
theorem dX12_word_61 : decode cX12_word 61 = .ok (.goto 17, 3) := by decide +kernel
theorem dX12_word_64 : decode cX12_word 64 = .ok (.lload 5, 2) := by decide +kernel
theorem dX12_word_66 : decode cX12_word 66 = .ok (.ldc2_w 315, 3) := by decide +kernel
theorem dX12_word_69 : decode cX12_word 69 = .ok (.lmul, 1) := by decide +kernel
theorem dX12_word_70 : decode cX12_word 70 = .ok (.iload 4, 2) := by decide +kernel
theorem dX12_word_72 : decode cX12_word 72 = .ok (.i2l, 1) := by decide +kernel
theorem dX12_word_73 : decode cX12_word 73 = .ok (.ladd, 1) := by decide +kernel
theorem dX12_word_74 : decode cX12_word 74 = .ok (.ldc2_w 317, 3) := by decide +kernel
theorem dX12_word_77 : decode cX12_word 77 = .ok (.lsub, 1) := by decide +kernel
theorem dX12_word_78 : decode cX12_word 78 = .ok (.lreturn, 1) := by decide +kernel
set_option maxRecDepth 20000 in
theorem ggX12_isWord_X12_word : GoodIn wsX12_isWord wsX12_word := goodIn_r _ [6, 7, 8] (by decide +kernel) (by decide +kernel)
set_option maxRecDepth 20000 in
theorem gX12_isWord_X12_word : GoodIn wsX12_isWord (va_wsS RX12 323 yX12_word wsX12_word) := goodIn_app (goodIn_of _ (by decide +kernel)) ggX12_isWord_X12_word
theorem dX12_isWord_0 : decode cX12_isWord 0 = .ok (.aload_n 0, 1) := by decide +kernel
theorem dX12_isWord_1 : decode cX12_isWord 1 = .ok (.getfield 312, 3) := by decide +kernel
theorem dX12_isWord_4 : decode cX12_isWord 4 = .ok (.iconst 1, 1) := by decide +kernel
theorem dX12_isWord_5 : decode cX12_isWord 5 = .ok (.if_icmp .ne 25, 3) := by decide +kernel
theorem dX12_isWord_8 : decode cX12_isWord 8 = .ok (.aload_n 0, 1) := by decide +kernel
theorem dX12_isWord_9 : decode cX12_isWord 9 = .ok (.getfield 303, 3) := by decide +kernel
theorem dX12_isWord_12 : decode cX12_isWord 12 = .ok (.iload_n 1, 1) := by decide +kernel
theorem dX12_isWord_13 : decode cX12_isWord 13 = .ok (.iload_n 2, 1) := by decide +kernel
theorem dX12_isWord_14 : decode cX12_isWord 14 = .ok (.iload_n 3, 1) := by decide +kernel
theorem dX12_isWord_15 : decode cX12_isWord 15 = .ok (.iload 4, 2) := by decide +kernel
theorem dX12_isWord_17 : decode cX12_isWord 17 = .ok (.iload 5, 2) := by decide +kernel
theorem dX12_isWord_19 : decode cX12_isWord 19 = .ok (.invokestatic 323, 3) := by decide +kernel
theorem dX12_isWord_22 : decode cX12_isWord 22 = .ok (.lcmp, 1) := by decide +kernel
theorem dX12_isWord_23 : decode cX12_isWord 23 = .ok (.ifCond .ne 7, 3) := by decide +kernel
theorem dX12_isWord_26 : decode cX12_isWord 26 = .ok (.iconst 1, 1) := by decide +kernel
theorem dX12_isWord_27 : decode cX12_isWord 27 = .ok (.goto 4, 3) := by decide +kernel
theorem dX12_isWord_30 : decode cX12_isWord 30 = .ok (.iconst 0, 1) := by decide +kernel
theorem dX12_isWord_31 : decode cX12_isWord 31 = .ok (.ireturn, 1) := by decide +kernel
set_option maxRecDepth 20000 in
theorem ggX12_must_X12_next : GoodIn wsX12_must wsX12_next := goodIn_r _ [8, 9, 2, 10, 11, 12, 13, 14, 15, 16, 17, 18, 19, 20, 21, 7, 22, 23, 24, 25, 26, 27, 28, 29, 30, 31, 32, 33, 34, 35, 36, 37, 38, 39, 40, 41, 42, 43, 44, 45, 46, 47, 48, 49, 50, 51, 52, 53, 54, 55, 56, 57, 58, 59, 60, 61, 62, 63, 64, 65, 66, 67, 68, 69, 70, 71, 72, 73, 74, 75, 76, 77, 78, 79, 80, 81, 82, 83, 84, 85, 86, 87, 88, 89, 90, 91, 92, 93, 94] (by decide +kernel) (by decide +kernel)
set_option maxRecDepth 20000 in
theorem gX12_must_X12_next : GoodIn wsX12_must (wsV RX12 331 RX12 yX12_next wsX12_next) := goodIn_app (goodIn_of _ (by decide +kernel)) ggX12_must_X12_next
theorem dX12_must_0 : decode cX12_must 0 = .ok (.aload_n 0, 1) := by decide +kernel
theorem dX12_must_1 : decode cX12_must 1 = .ok (.getfield 327, 3) := by decide +kernel
theorem dX12_must_4 : decode cX12_must 4 = .ok (.ifCond .ne 20, 3) := by decide +kernel
theorem dX12_must_7 : decode cX12_must 7 = .ok (.iload_n 1, 1) := by decide +kernel
theorem dX12_must_8 : decode cX12_must 8 = .ok (.ifCond .ne 16, 3) := by decide +kernel
theorem dX12_must_11 : decode cX12_must 11 = .ok (.aload_n 0, 1) := by decide +kernel
theorem dX12_must_12 : decode cX12_must 12 = .ok (.iconst 1, 1) := by decide +kernel
theorem dX12_must_13 : decode cX12_must 13 = .ok (.putfield 327, 3) := by decide +kernel
theorem dX12_must_16 : decode cX12_must 16 = .ok (.aload_n 0, 1) := by decide +kernel
theorem dX12_must_17 : decode cX12_must 17 = .ok (.aload_n 0, 1) := by decide +kernel
theorem dX12_must_18 : decode cX12_must 18 = .ok (.getfield 300, 3) := by decide +kernel
theorem dX12_must_21 : decode cX12_must 21 = .ok (.putfield 144, 3) := by decide +kernel
theorem dX12_must_24 : decode cX12_must 24 = .ok (.aload_n 0, 1) := by decide +kernel
theorem dX12_must_25 : decode cX12_must 25 = .ok (.getfield 327, 3) := by decide +kernel
theorem dX12_must_28 : decode cX12_must 28 = .ok (.ifCond .ne 7, 3) := by decide +kernel
theorem dX12_must_31 : decode cX12_must 31 = .ok (.aload_n 0, 1) := by decide +kernel
theorem dX12_must_32 : decode cX12_must 32 = .ok (.invokevirtual 331, 3) := by decide +kernel
theorem dX12_must_35 : decode cX12_must 35 = .ok (.return_, 1) := by decide +kernel
set_option maxRecDepth 20000 in
theorem ggX12_number_X12_must : GoodIn wsX12_number wsX12_must := goodIn_r _ [7, 8, 9, 10, 11, 12, 13, 6, 14, 15, 16, 17, 1, 2, 18, 19, 20, 21, 22, 23, 24, 25, 26, 27, 28, 29, 30, 31, 32, 33, 34, 35, 36, 37, 38, 39, 40, 41, 42, 43, 44, 45, 46, 47, 48, 49, 50, 51, 52, 53, 54, 55, 56, 57, 58, 59, 60, 61, 62, 63, 64, 65, 66, 67, 68, 69, 70, 71, 72, 73, 74, 75, 76, 77, 78, 79, 80, 81, 82, 83, 84, 85, 86, 87, 88, 89, 90, 91, 92, 93, 94, 95, 96, 97, 98] (by decide +kernel) (by decide +kernel)
set_option maxRecDepth 20000 in
theorem gX12_number_X12_must : GoodIn wsX12_number (wsV RX12 334 RX12 yX12_must wsX12_must) := goodIn_app (goodIn_of _ (by decide +kernel)) ggX12_number_X12_must
theorem dX12_number_0 : decode cX12_number 0 = .ok (.aload_n 0, 1) := by decide +kernel
theorem dX12_number_1 : decode cX12_number 1 = .ok (.getfield 303, 3) := by decide +kernel
theorem dX12_number_4 : decode cX12_number 4 = .ok (.l2i, 1) := by decide +kernel
theorem dX12_number_5 : decode cX12_number 5 = .ok (.istore_n 3, 1) := by decide +kernel
theorem dX12_number_6 : decode cX12_number 6 = .ok (.aload_n 0, 1) := by decide +kernel
theorem dX12_number_7 : decode cX12_number 7 = .ok (.aload_n 0, 1) := by decide +kernel
theorem dX12_number_8 : decode cX12_number 8 = .ok (.getfield 312, 3) := by decide +kernel
theorem dX12_number_11 : decode cX12_number 11 = .ok (.iconst 2, 1) := by decide +kernel
theorem dX12_number_12 : decode cX12_number 12 = .ok (.if_icmp .ne 16, 3) := by decide +kernel
theorem dX12_number_15 : decode cX12_number 15 = .ok (.aload_n 0, 1) := by decide +kernel
theorem dX12_number_16 : decode cX12_number 16 = .ok (.getfield 303, 3) := by decide +kernel
theorem dX12_number_19 : decode cX12_number 19 = .ok (.lload_n 1, 1) := by decide +kernel
theorem dX12_number_20 : decode cX12_number 20 = .ok (.lcmp, 1) := by decide +kernel
theorem dX12_number_21 : decode cX12_number 21 = .ok (.ifCond .gt 7, 3) := by decide +kernel
theorem dX12_number_24 : decode cX12_number 24 = .ok (.iconst 1, 1) := by decide +kernel
theorem dX12_number_25 : decode cX12_number 25 = .ok (.goto 4, 3) := by decide +kernel
theorem dX12_number_28 : decode cX12_number 28 = .ok (.iconst 0, 1) := by decide +kernel
theorem dX12_number_29 : decode cX12_number 29 = .ok (.invokevirtual 334, 3) := by decide +kernel
theorem dX12_number_32 : decode cX12_number 32 = .ok (.iload_n 3, 1) := by decide +kernel
theorem dX12_number_33 : decode cX12_number 33 = .ok (.ireturn, 1) := by decide +kernel
set_option maxRecDepth 20000 in
theorem ggX12_readRule_X12_isWord : GoodIn wsX12_readRule wsX12_isWord := goodIn_r _ [14, 8, 7, 15, 16, 13, 17, 18, 19, 47, 48, 49, 50, 51, 52, 53, 54, 55, 56, 57, 58, 59, 60, 61, 62, 63, 64, 65, 66, 67, 68, 69, 70, 71, 72, 73, 74, 75, 76, 77, 78, 79, 80, 81, 82, 83, 84, 85, 86, 87, 88, 89, 90, 91, 92, 93, 94, 95, 96, 97, 98, 99, 100, 101, 102, 103, 104, 105, 106, 107, 108, 109, 110, 111, 112, 113, 114, 115] (by decide +kernel) (by decide +kernel)
set_option maxRecDepth 20000 in
theorem gX12_readRule_X12_isWord : GoodIn wsX12_readRule (wsV RX12 338 RX12 yX12_isWord wsX12_isWord) := goodIn_app (goodIn_of _ (by decide +kernel)) ggX12_readRule_X12_isWord
set_option maxRecDepth 20000 in
theorem ggX12_readRule_X12_must : GoodIn wsX12_readRule wsX12_must := goodIn_r _ [23, 4, 24, 25, 26, 27, 28, 13, 29, 30, 31, 32, 7, 8, 19, 18, 33, 34, 35, 36, 37, 38, 39, 40, 41, 42, 47, 48, 49, 50, 51, 52, 53, 54, 55, 56, 57, 58, 59, 60, 61, 62, 63, 64, 65, 66, 67, 68, 69, 70, 71, 72, 73, 74, 75, 76, 77, 78, 79, 80, 81, 82, 83, 84, 85, 86, 87, 88, 89, 90, 91, 92, 93, 94, 95, 96, 97, 98, 99, 100, 101, 102, 103, 104, 105, 106, 107, 108, 109, 110, 111, 112, 113, 114, 115] (by decide +kernel) (by decide +kernel)
set_option maxRecDepth 20000 in
theorem gX12_readRule_X12_must : GoodIn wsX12_readRule (wsV RX12 334 RX12 yX12_must wsX12_must) := goodIn_app (goodIn_of _ (by decide +kernel)) ggX12_readRule_X12_must
set_option maxRecDepth 20000 in
theorem ggX12_readRule_X12_number : GoodIn wsX12_readRule wsX12_number := goodIn_r _ [46, 7, 8, 20, 21, 22, 13, 23, 4, 24, 25, 26, 27, 28, 29, 30, 31, 32, 19, 18, 33, 34, 35, 36, 37, 38, 39, 40, 41, 42, 47, 48, 49, 50, 51, 52, 53, 54, 55, 56, 57, 58, 59, 60, 61, 62, 63, 64, 65, 66, 67, 68, 69, 70, 71, 72, 73, 74, 75, 76, 77, 78, 79, 80, 81, 82, 83, 84, 85, 86, 87, 88, 89, 90, 91, 92, 93, 94, 95, 96, 97, 98, 99, 100, 101, 102, 103, 104, 105, 106, 107, 108, 109, 110, 111, 112, 113, 114, 115] (by decide +kernel) (by decide +kernel)
set_option maxRecDepth 20000 in
theorem gX12_readRule_X12_number : GoodIn wsX12_readRule (wsV RX12 345 RX12 yX12_number wsX12_number) := goodIn_app (goodIn_of _ (by decide +kernel)) ggX12_readRule_X12_number
set_option maxRecDepth 20000 in
theorem ggX12_readRule_X12_next : GoodIn wsX12_readRule wsX12_next := goodIn_r _ [29, 30, 24, 31, 32, 7, 8, 19, 18, 33, 34, 35, 36, 37, 38, 13, 39, 40, 41, 42, 47, 48, 49, 50, 51, 52, 53, 54, 55, 56, 57, 58, 59, 60, 61, 62, 63, 64, 65, 66, 67, 68, 69, 70, 71, 72, 73, 74, 75, 76, 77, 78, 79, 80, 81, 82, 83, 84, 85, 86, 87, 88, 89, 90, 91, 92, 93, 94, 95, 96, 97, 98, 99, 100, 101, 102, 103, 104, 105, 106, 107, 108, 109, 110, 111, 112, 113, 114, 115] (by decide +kernel) (by decide +kernel)
set_option maxRecDepth 20000 in
theorem gX12_readRule_X12_next : GoodIn wsX12_readRule (wsV RX12 331 RX12 yX12_next wsX12_next) := goodIn_app (goodIn_of _ (by decide +kernel)) ggX12_readRule_X12_next
theorem dX12_readRule_0 : decode cX12_readRule 0 = .ok (.aload_n 0, 1) := by decide +kernel
theorem dX12_readRule_1 : decode cX12_readRule 1 = .ok (.bipush 110, 2) := by decide +kernel
theorem dX12_readRule_3 : decode cX12_readRule 3 = .ok (.bipush 101, 2) := by decide +kernel
theorem dX12_readRule_5 : decode cX12_readRule 5 = .ok (.bipush 101, 2) := by decide +kernel
theorem dX12_readRule_7 : decode cX12_readRule 7 = .ok (.bipush 100, 2) := by decide +kernel
theorem dX12_readRule_9 : decode cX12_readRule 9 = .ok (.iconst 0, 1) := by decide +kernel
theorem dX12_readRule_10 : decode cX12_readRule 10 = .ok (.invokevirtual 338, 3) := by decide +kernel
theorem dX12_readRule_13 : decode cX12_readRule 13 = .ok (.ifCond .eq 7, 3) := by decide +kernel
theorem dX12_readRule_16 : decode cX12_readRule 16 = .ok (.iconst 0, 1) := by decide +kernel
theorem dX12_readRule_17 : decode cX12_readRule 17 = .ok (.goto 45, 3) := by decide +kernel
theorem dX12_readRule_20 : decode cX12_readRule 20 = .ok (.aload_n 0, 1) := by decide +kernel
theorem dX12_readRule_21 : decode cX12_readRule 21 = .ok (.bipush 115, 2) := by decide +kernel
theorem dX12_readRule_23 : decode cX12_readRule 23 = .ok (.bipush 112, 2) := by decide +kernel
theorem dX12_readRule_25 : decode cX12_readRule 25 = .ok (.bipush 97, 2) := by decide +kernel
theorem dX12_readRule_27 : decode cX12_readRule 27 = .ok (.bipush 114, 2) := by decide +kernel
theorem dX12_readRule_29 : decode cX12_readRule 29 = .ok (.bipush 101, 2) := by decide +kernel
theorem dX12_readRule_31 : decode cX12_readRule 31 = .ok (.invokevirtual 338, 3) := by decide +kernel
theorem dX12_readRule_34 : decode cX12_readRule 34 = .ok (.ifCond .eq 7, 3) := by decide +kernel
theorem dX12_readRule_37 : decode cX12_readRule 37 = .ok (.iconst 1, 1) := by decide +kernel
theorem dX12_readRule_38 : decode cX12_readRule 38 = .ok (.goto 24, 3) := by decide +kernel
theorem dX12_readRule_41 : decode cX12_readRule 41 = .ok (.aload_n 0, 1) := by decide +kernel
theorem dX12_readRule_42 : decode cX12_readRule 42 = .ok (.bipush 115, 2) := by decide +kernel
theorem dX12_readRule_44 : decode cX12_readRule 44 = .ok (.bipush 119, 2) := by decide +kernel
theorem dX12_readRule_46 : decode cX12_readRule 46 = .ok (.bipush 97, 2) := by decide +kernel
theorem dX12_readRule_48 : decode cX12_readRule 48 = .ok (.bipush 112, 2) := by decide +kernel
theorem dX12_readRule_50 : decode cX12_readRule 50 = .ok (.iconst 0, 1) := by decide +kernel
theorem dX12_readRule_51 : decode cX12_readRule 51 = .ok (.invokevirtual 338, 3) := by decide +kernel
theorem dX12_readRule_54 : decode cX12_readRule 54 = .ok (.ifCond .eq 7, 3) := by decide +kernel
theorem dX12_readRule_57 : decode cX12_readRule 57 = .ok (.iconst 2, 1) := by decide +kernel
theorem dX12_readRule_58 : decode cX12_readRule 58 = .ok (.goto 4, 3) := by decide +kernel
theorem dX12_readRule_61 : decode cX12_readRule 61 = .ok (.iconst (-1), 1) := by decide +kernel
theorem dX12_readRule_62 : decode cX12_readRule 62 = .ok (.istore_n 1, 1) := by decide +kernel
theorem dX12_readRule_63 : decode cX12_readRule 63 = .ok (.aload_n 0, 1) := by decide +kernel
theorem dX12_readRule_64 : decode cX12_readRule 64 = .ok (.iload_n 1, 1) := by decide +kernel
theorem dX12_readRule_65 : decode cX12_readRule 65 = .ok (.ifCond .lt 16, 3) := by decide +kernel
theorem dX12_readRule_68 : decode cX12_readRule 68 = .ok (.aload_n 0, 1) := by decide +kernel
theorem dX12_readRule_69 : decode cX12_readRule 69 = .ok (.getfield 342, 3) := by decide +kernel
theorem dX12_readRule_72 : decode cX12_readRule 72 = .ok (.bipush 30, 2) := by decide +kernel
theorem dX12_readRule_74 : decode cX12_readRule 74 = .ok (.if_icmp .ge 7, 3) := by decide +kernel
theorem dX12_readRule_77 : decode cX12_readRule 77 = .ok (.iconst 1, 1) := by decide +kernel
theorem dX12_readRule_78 : decode cX12_readRule 78 = .ok (.goto 4, 3) := by decide +kernel
theorem dX12_readRule_81 : decode cX12_readRule 81 = .ok (.iconst 0, 1) := by decide +kernel
theorem dX12_readRule_82 : decode cX12_readRule 82 = .ok (.invokevirtual 334, 3) := by decide +kernel
theorem dX12_readRule_85 : decode cX12_readRule 85 = .ok (.aload_n 0, 1) := by decide +kernel
theorem dX12_readRule_86 : decode cX12_readRule 86 = .ok (.ldc2_w 162, 3) := by decide +kernel
theorem dX12_readRule_89 : decode cX12_readRule 89 = .ok (.invokevirtual 345, 3) := by decide +kernel
theorem dX12_readRule_92 : decode cX12_readRule 92 = .ok (.istore_n 2, 1) := by decide +kernel
theorem dX12_readRule_93 : decode cX12_readRule 93 = .ok (.iconst 0, 1) := by decide +kernel
theorem dX12_readRule_94 : decode cX12_readRule 94 = .ok (.istore_n 3, 1) := by decide +kernel
theorem dX12_readRule_95 : decode cX12_readRule 95 = .ok (.iconst 0, 1) := by decide +kernel
theorem dX12_readRule_96 : decode cX12_readRule 96 = .ok (.istore 4, 2) := by decide +kernel
theorem dX12_readRule_98 : decode cX12_readRule 98 = .ok (.iload_n 1, 1) := by decide +kernel
theorem dX12_readRule_99 : decode cX12_readRule 99 = .ok (.ifCond .ne 51, 3) := by decide +kernel
theorem dX12_readRule_102 : decode cX12_readRule 102 = .ok (.aload_n 0, 1) := by decide +kernel
theorem dX12_readRule_103 : decode cX12_readRule 103 = .ok (.ldc2_w 349, 3) := by decide +kernel
theorem dX12_readRule_106 : decode cX12_readRule 106 = .ok (.invokevirtual 345, 3) := by decide +kernel
theorem dX12_readRule_109 : decode cX12_readRule 109 = .ok (.istore_n 3, 1) := by decide +kernel
theorem dX12_readRule_110 : decode cX12_readRule 110 = .ok (.aload_n 0, 1) := by decide +kernel
theorem dX12_readRule_111 : decode cX12_readRule 111 = .ok (.getfield 327, 3) := by decide +kernel
theorem dX12_readRule_114 : decode cX12_readRule 114 = .ok (.ifCond .ne 112, 3) := by decide +kernel
theorem dX12_readRule_117 : decode cX12_readRule 117 = .ok (.aload_n 0, 1) := by decide +kernel
theorem dX12_readRule_118 : decode cX12_readRule 118 = .ok (.bipush 97, 2) := by decide +kernel
theorem dX12_readRule_120 : decode cX12_readRule 120 = .ok (.bipush 98, 2) := by decide +kernel
theorem dX12_readRule_122 : decode cX12_readRule 122 = .ok (.bipush 111, 2) := by decide +kernel
theorem dX12_readRule_124 : decode cX12_readRule 124 = .ok (.bipush 118, 2) := by decide +kernel
theorem dX12_readRule_126 : decode cX12_readRule 126 = .ok (.bipush 101, 2) := by decide +kernel
theorem dX12_readRule_128 : decode cX12_readRule 128 = .ok (.invokevirtual 338, 3) := by decide +kernel
theorem dX12_readRule_131 : decode cX12_readRule 131 = .ok (.ifCond .eq 95, 3) := by decide +kernel
theorem dX12_readRule_134 : decode cX12_readRule 134 = .ok (.aload_n 0, 1) := by decide +kernel
theorem dX12_readRule_135 : decode cX12_readRule 135 = .ok (.invokevirtual 331, 3) := by decide +kernel
theorem dX12_readRule_138 : decode cX12_readRule 138 = .ok (.aload_n 0, 1) := by decide +kernel
theorem dX12_readRule_139 : decode cX12_readRule 139 = .ok (.ldc2_w 199, 3) := by decide +kernel
theorem dX12_readRule_142 : decode cX12_readRule 142 = .ok (.invokevirtual 345, 3) := by decide +kernel
theorem dX12_readRule_145 : decode cX12_readRule 145 = .ok (.istore 4, 2) := by decide +kernel
theorem dX12_readRule_147 : decode cX12_readRule 147 = .ok (.goto 79, 3) := by decide +kernel
theorem dX12_readRule_150 : decode cX12_readRule 150 = .ok (.iload_n 1, 1) := by decide +kernel
theorem dX12_readRule_151 : decode cX12_readRule 151 = .ok (.iconst 1, 1) := by decide +kernel
theorem dX12_readRule_152 : decode cX12_readRule 152 = .ok (.if_icmp .ne 14, 3) := by decide +kernel
theorem dX12_readRule_155 : decode cX12_readRule 155 = .ok (.aload_n 0, 1) := by decide +kernel
theorem dX12_readRule_156 : decode cX12_readRule 156 = .ok (.ldc2_w 192, 3) := by decide +kernel
theorem dX12_readRule_159 : decode cX12_readRule 159 = .ok (.invokevirtual 345, 3) := by decide +kernel
theorem dX12_readRule_162 : decode cX12_readRule 162 = .ok (.istore_n 3, 1) := by decide +kernel
theorem dX12_readRule_163 : decode cX12_readRule 163 = .ok (.goto 63, 3) := by decide +kernel
theorem dX12_readRule_166 : decode cX12_readRule 166 = .ok (.aload_n 0, 1) := by decide +kernel
theorem dX12_readRule_167 : decode cX12_readRule 167 = .ok (.aload_n 0, 1) := by decide +kernel
theorem dX12_readRule_168 : decode cX12_readRule 168 = .ok (.bipush 102, 2) := by decide +kernel
theorem dX12_readRule_170 : decode cX12_readRule 170 = .ok (.bipush 111, 2) := by decide +kernel
theorem dX12_readRule_172 : decode cX12_readRule 172 = .ok (.bipush 114, 2) := by decide +kernel
theorem dX12_readRule_174 : decode cX12_readRule 174 = .ok (.iconst 0, 1) := by decide +kernel
theorem dX12_readRule_175 : decode cX12_readRule 175 = .ok (.iconst 0, 1) := by decide +kernel
theorem dX12_readRule_176 : decode cX12_readRule 176 = .ok (.invokevirtual 338, 3) := by decide +kernel
theorem dX12_readRule_179 : decode cX12_readRule 179 = .ok (.invokevirtual 334, 3) := by decide +kernel
theorem dX12_readRule_182 : decode cX12_readRule 182 = .ok (.aload_n 0, 1) := by decide +kernel
theorem dX12_readRule_183 : decode cX12_readRule 183 = .ok (.getfield 303, 3) := by decide +kernel
theorem dX12_readRule_186 : decode cX12_readRule 186 = .ok (.l2i, 1) := by decide +kernel
theorem dX12_readRule_187 : decode cX12_readRule 187 = .ok (.istore_n 3, 1) := by decide +kernel
theorem dX12_readRule_188 : decode cX12_readRule 188 = .ok (.aload_n 0, 1) := by decide +kernel
theorem dX12_readRule_189 : decode cX12_readRule 189 = .ok (.aload_n 0, 1) := by decide +kernel
theorem dX12_readRule_190 : decode cX12_readRule 190 = .ok (.getfield 312, 3) := by decide +kernel
theorem dX12_readRule_193 : decode cX12_readRule 193 = .ok (.iconst 2, 1) := by decide +kernel
theorem dX12_readRule_194 : decode cX12_readRule 194 = .ok (.if_icmp .ne 28, 3) := by decide +kernel
theorem dX12_readRule_197 : decode cX12_readRule 197 = .ok (.aload_n 0, 1) := by decide +kernel
theorem dX12_readRule_198 : decode cX12_readRule 198 = .ok (.getfield 303, 3) := by decide +kernel
theorem dX12_readRule_201 : decode cX12_readRule 201 = .ok (.ldc2_w 162, 3) := by decide +kernel
theorem dX12_readRule_204 : decode cX12_readRule 204 = .ok (.lcmp, 1) := by decide +kernel
theorem dX12_readRule_205 : decode cX12_readRule 205 = .ok (.ifCond .gt 17, 3) := by decide +kernel
theorem dX12_readRule_208 : decode cX12_readRule 208 = .ok (.aload_n 0, 1) := by decide +kernel
theorem dX12_readRule_209 : decode cX12_readRule 209 = .ok (.getfield 303, 3) := by decide +kernel
theorem dX12_readRule_212 : decode cX12_readRule 212 = .ok (.iload_n 2, 1) := by decide +kernel
theorem dX12_readRule_213 : decode cX12_readRule 213 = .ok (.i2l, 1) := by decide +kernel
theorem dX12_readRule_214 : decode cX12_readRule 214 = .ok (.lcmp, 1) := by decide +kernel
theorem dX12_readRule_215 : decode cX12_readRule 215 = .ok (.ifCond .eq 7, 3) := by decide +kernel
theorem dX12_readRule_218 : decode cX12_readRule 218 = .ok (.iconst 1, 1) := by decide +kernel
theorem dX12_readRule_219 : decode cX12_readRule 219 = .ok (.goto 4, 3) := by decide +kernel
theorem dX12_readRule_222 : decode cX12_readRule 222 = .ok (.iconst 0, 1) := by decide +kernel
theorem dX12_readRule_223 : decode cX12_readRule 223 = .ok (.invokevirtual 334, 3) := by decide +kernel
theorem dX12_readRule_226 : decode cX12_readRule 226 = .ok (.aload_n 0, 1) := by decide +kernel
theorem dX12_readRule_227 : decode cX12_readRule 227 = .ok (.getfield 327, 3) := by decide +kernel
theorem dX12_readRule_230 : decode cX12_readRule 230 = .ok (.ifCond .eq 4, 3) := by decide +kernel
theorem dX12_readRule_233 : decode cX12_readRule 233 = .ok (.return_, 1) := by decide +kernel
theorem dX12_readRule_234 : decode cX12_readRule 234 = .ok (.aload_n 0, 1) := by decide +kernel
theorem dX12_readRule_235 : decode cX12_readRule 235 = .ok (.getfield 77, 3) := by decide +kernel
theorem dX12_readRule_238 : decode cX12_readRule 238 = .ok (.iconst 4, 1) := by decide +kernel
theorem dX12_readRule_239 : decode cX12_readRule 239 = .ok (.aload_n 0, 1) := by decide +kernel
theorem dX12_readRule_240 : decode cX12_readRule 240 = .ok (.getfield 342, 3) := by decide +kernel
theorem dX12_readRule_243 : decode cX12_readRule 243 = .ok (.imul, 1) := by decide +kernel
theorem dX12_readRule_244 : decode cX12_readRule 244 = .ok (.iload_n 1, 1) := by decide +kernel
theorem dX12_readRule_245 : decode cX12_readRule 245 = .ok (.iastore, 1) := by decide +kernel
theorem dX12_readRule_246 : decode cX12_readRule 246 = .ok (.aload_n 0, 1) := by decide +kernel
theorem dX12_readRule_247 : decode cX12_readRule 247 = .ok (.getfield 77, 3) := by decide +kernel
theorem dX12_readRule_250 : decode cX12_readRule 250 = .ok (.iconst 4, 1) := by decide +kernel
theorem dX12_readRule_251 : decode cX12_readRule 251 = .ok (.aload_n 0, 1) := by decide +kernel
theorem dX12_readRule_252 : decode cX12_readRule 252 = .ok (.getfield 342, 3) := by decide +kernel
theorem dX12_readRule_255 : decode cX12_readRule 255 = .ok (.imul, 1) := by decide +kernel
theorem dX12_readRule_256 : decode cX12_readRule 256 = .ok (.iconst 1, 1) := by decide +kernel
theorem dX12_readRule_257 : decode cX12_readRule 257 = .ok (.iadd, 1) := by decide +kernel
theorem dX12_readRule_258 : decode cX12_readRule 258 = .ok (.iload_n 1, 1) := by decide +kernel
theorem dX12_readRule_259 : decode cX12_readRule 259 = .ok (.iconst 2, 1) := by decide +kernel
theorem dX12_readRule_260 : decode cX12_readRule 260 = .ok (.if_icmp .ne 7, 3) := by decide +kernel
theorem dX12_readRule_263 : decode cX12_readRule 263 = .ok (.iload_n 3, 1) := by decide +kernel
theorem dX12_readRule_264 : decode cX12_readRule 264 = .ok (.goto 4, 3) := by decide +kernel
theorem dX12_readRule_267 : decode cX12_readRule 267 = .ok (.iload_n 2, 1) := by decide +kernel
theorem dX12_readRule_268 : decode cX12_readRule 268 = .ok (.iastore, 1) := by decide +kernel
theorem dX12_readRule_269 : decode cX12_readRule 269 = .ok (.aload_n 0, 1) := by decide +kernel
theorem dX12_readRule_270 : decode cX12_readRule 270 = .ok (.getfield 77, 3) := by decide +kernel
theorem dX12_readRule_273 : decode cX12_readRule 273 = .ok (.iconst 4, 1) := by decide +kernel
theorem dX12_readRule_274 : decode cX12_readRule 274 = .ok (.aload_n 0, 1) := by decide +kernel
theorem dX12_readRule_275 : decode cX12_readRule 275 = .ok (.getfield 342, 3) := by decide +kernel
theorem dX12_readRule_278 : decode cX12_readRule 278 = .ok (.imul, 1) := by decide +kernel
theorem dX12_readRule_279 : decode cX12_readRule 279 = .ok (.iconst 2, 1) := by decide +kernel
theorem dX12_readRule_280 : decode cX12_readRule 280 = .ok (.iadd, 1) := by decide +kernel
theorem dX12_readRule_281 : decode cX12_readRule 281 = .ok (.iload_n 1, 1) := by decide +kernel
theorem dX12_readRule_282 : decode cX12_readRule 282 = .ok (.iconst 2, 1) := by decide +kernel
theorem dX12_readRule_283 : decode cX12_readRule 283 = .ok (.if_icmp .ne 7, 3) := by decide +kernel
theorem dX12_readRule_286 : decode cX12_readRule 286 = .ok (.iload_n 2, 1) := by decide +kernel
theorem dX12_readRule_287 : decode cX12_readRule 287 = .ok (.goto 4, 3) := by decide +kernel
theorem dX12_readRule_290 : decode cX12_readRule 290 = .ok (.iload_n 3, 1) := by decide +kernel
theorem dX12_readRule_291 : decode cX12_readRule 291 = .ok (.iastore, 1) := by decide +kernel
theorem dX12_readRule_292 : decode cX12_readRule 292 = .ok (.aload_n 0, 1) := by decide +kernel
theorem dX12_readRule_293 : decode cX12_readRule 293 = .ok (.getfield 77, 3) := by decide +kernel
theorem dX12_readRule_296 : decode cX12_readRule 296 = .ok (.iconst 4, 1) := by decide +kernel
theorem dX12_readRule_297 : decode cX12_readRule 297 = .ok (.aload_n 0, 1) := by decide +kernel
theorem dX12_readRule_298 : decode cX12_readRule 298 = .ok (.getfield 342, 3) := by decide +kernel
theorem dX12_readRule_301 : decode cX12_readRule 301 = .ok (.imul, 1) := by decide +kernel
theorem dX12_readRule_302 : decode cX12_readRule 302 = .ok (.iconst 3, 1) := by decide +kernel
theorem dX12_readRule_303 : decode cX12_readRule 303 = .ok (.iadd, 1) := by decide +kernel
theorem dX12_readRule_304 : decode cX12_readRule 304 = .ok (.iload 4, 2) := by decide +kernel
theorem dX12_readRule_306 : decode cX12_readRule 306 = .ok (.iastore, 1) := by decide +kernel
theorem dX12_readRule_307 : decode cX12_readRule 307 = .ok (.aload_n 0, 1) := by decide +kernel
theorem dX12_readRule_308 : decode cX12_readRule 308 = .ok (.dup, 1) := by decide +kernel
theorem dX12_readRule_309 : decode cX12_readRule 309 = .ok (.getfield 342, 3) := by decide +kernel
theorem dX12_readRule_312 : decode cX12_readRule 312 = .ok (.iconst 1, 1) := by decide +kernel
theorem dX12_readRule_313 : decode cX12_readRule 313 = .ok (.iadd, 1) := by decide +kernel
theorem dX12_readRule_314 : decode cX12_readRule 314 = .ok (.putfield 342, 3) := by decide +kernel
theorem dX12_readRule_317 : decode cX12_readRule 317 = .ok (.return_, 1) := by decide +kernel
set_option maxRecDepth 20000 in
theorem ggX12_rules_X12_next : GoodIn wsX12_rules wsX12_next := goodIn_r _ [20, 2, 21, 9, 22, 7, 6, 23, 24, 25, 26, 27, 28, 29, 30, 19, 31, 32, 33, 34, 63, 64, 65, 66, 67, 68, 69, 70, 71, 72, 73, 74, 75, 76, 77, 78, 79, 80, 81, 82, 83, 84, 85, 86, 87, 88, 89, 90, 91, 92, 93, 94, 95, 96, 97, 98, 99, 100, 101, 102, 103, 104, 105, 106, 107, 108, 109, 110, 111, 112, 113, 114, 115, 116, 117, 118, 119, 120, 121, 122, 123, 124, 125, 126, 127, 128, 129, 130, 131] (by decide +kernel) (by decide +kernel)
set_option maxRecDepth 20000 in
theorem gX12_rules_X12_next : GoodIn wsX12_rules (wsV RX12 331 RX12 yX12_next wsX12_next) := goodIn_app (goodIn_of _ (by decide +kernel)) ggX12_rules_X12_next
set_option maxRecDepth 20000 in
theorem ggX12_rules_X12_readRule : GoodIn wsX12_rules wsX12_readRule := goodIn_r _ [38, 5, 39, 40, 3, 41, 42, 7, 6, 12, 43, 44, 45, 19, 46, 47, 48, 49, 24, 23, 50, 51, 52, 53, 21, 4, 16, 17, 18, 20, 2, 9, 22, 25, 26, 27, 28, 29, 30, 31, 32, 33, 34, 54, 55, 56, 57, 63, 64, 65, 66, 67, 68, 69, 70, 71, 72, 73, 74, 75, 76, 77, 78, 79, 80, 81, 82, 83, 84, 85, 86, 87, 88, 89, 90, 91, 92, 93, 94, 95, 96, 97, 98, 99, 100, 101, 102, 103, 104, 105, 106, 107, 108, 109, 110, 111, 112, 113, 114, 115, 116, 117, 118, 119, 120, 121, 122, 123, 124, 125, 126, 127, 128, 129, 130, 131] (by decide +kernel) (by decide +kernel)
set_option maxRecDepth 20000 in
theorem gX12_rules_X12_readRule : GoodIn wsX12_rules (wsV RX12 351 RX12 yX12_readRule wsX12_readRule) := goodIn_app (goodIn_of _ (by decide +kernel)) ggX12_rules_X12_readRule
set_option maxRecDepth 20000 in
theorem ggX12_rules_X12_must : GoodIn wsX12_rules wsX12_must := goodIn_r _ [53, 3, 21, 4, 16, 17, 18, 19, 20, 2, 9, 22, 7, 6, 23, 24, 25, 26, 27, 28, 29, 30, 31, 32, 33, 34, 63, 64, 65, 66, 67, 68, 69, 70, 71, 72, 73, 74, 75, 76, 77, 78, 79, 80, 81, 82, 83, 84, 85, 86, 87, 88, 89, 90, 91, 92, 93, 94, 95, 96, 97, 98, 99, 100, 101, 102, 103, 104, 105, 106, 107, 108, 109, 110, 111, 112, 113, 114, 115, 116, 117, 118, 119, 120, 121, 122, 123, 124, 125, 126, 127, 128, 129, 130, 131] (by decide +kernel) (by decide +kernel)
set_option maxRecDepth 20000 in
theorem gX12_rules_X12_must : GoodIn wsX12_rules (wsV RX12 334 RX12 yX12_must wsX12_must) := goodIn_app (goodIn_of _ (by decide +kernel)) ggX12_rules_X12_must
set_option maxRecDepth 20000 in
theorem ggX12_rules_X12_told : GoodIn wsX12_rules wsX12_told := goodIn_r _ [61, 62, 63, 64, 65, 66, 67, 68, 69, 70, 71, 72, 73, 74, 75, 76, 77, 78, 79, 80, 81, 82, 83, 84, 85, 86, 87, 88, 89, 90, 91, 92, 93, 94, 95, 96, 97, 98, 99, 100, 101, 102, 103, 104, 105, 106, 107, 108, 109, 110, 111, 112, 113, 114, 115, 116, 117, 118, 119, 120, 121, 122, 123, 124, 125, 126, 127, 128, 129, 130, 131] (by decide +kernel) (by decide +kernel)
set_option maxRecDepth 20000 in
theorem gX12_rules_X12_told : GoodIn wsX12_rules (wsV RX12 183 RX12 yX12_told wsX12_told) := goodIn_app (goodIn_of _ (by decide +kernel)) ggX12_rules_X12_told
theorem dX12_rules_0 : decode cX12_rules 0 = .ok (.aload_n 0, 1) := by decide +kernel
theorem dX12_rules_1 : decode cX12_rules 1 = .ok (.iconst 0, 1) := by decide +kernel
theorem dX12_rules_2 : decode cX12_rules 2 = .ok (.putfield 156, 3) := by decide +kernel
theorem dX12_rules_5 : decode cX12_rules 5 = .ok (.aload_n 0, 1) := by decide +kernel
theorem dX12_rules_6 : decode cX12_rules 6 = .ok (.iconst 0, 1) := by decide +kernel
theorem dX12_rules_7 : decode cX12_rules 7 = .ok (.putfield 297, 3) := by decide +kernel
theorem dX12_rules_10 : decode cX12_rules 10 = .ok (.aload_n 0, 1) := by decide +kernel
theorem dX12_rules_11 : decode cX12_rules 11 = .ok (.iconst 0, 1) := by decide +kernel
theorem dX12_rules_12 : decode cX12_rules 12 = .ok (.putfield 327, 3) := by decide +kernel
theorem dX12_rules_15 : decode cX12_rules 15 = .ok (.aload_n 0, 1) := by decide +kernel
theorem dX12_rules_16 : decode cX12_rules 16 = .ok (.iconst (-1), 1) := by decide +kernel
theorem dX12_rules_17 : decode cX12_rules 17 = .ok (.putfield 144, 3) := by decide +kernel
theorem dX12_rules_20 : decode cX12_rules 20 = .ok (.aload_n 0, 1) := by decide +kernel
theorem dX12_rules_21 : decode cX12_rules 21 = .ok (.iconst 0, 1) := by decide +kernel
theorem dX12_rules_22 : decode cX12_rules 22 = .ok (.putfield 342, 3) := by decide +kernel
theorem dX12_rules_25 : decode cX12_rules 25 = .ok (.aload_n 0, 1) := by decide +kernel
theorem dX12_rules_26 : decode cX12_rules 26 = .ok (.invokevirtual 331, 3) := by decide +kernel
theorem dX12_rules_29 : decode cX12_rules 29 = .ok (.aload_n 0, 1) := by decide +kernel
theorem dX12_rules_30 : decode cX12_rules 30 = .ok (.getfield 312, 3) := by decide +kernel
theorem dX12_rules_33 : decode cX12_rules 33 = .ok (.ifCond .eq 63, 3) := by decide +kernel
theorem dX12_rules_36 : decode cX12_rules 36 = .ok (.aload_n 0, 1) := by decide +kernel
theorem dX12_rules_37 : decode cX12_rules 37 = .ok (.invokevirtual 351, 3) := by decide +kernel
theorem dX12_rules_40 : decode cX12_rules 40 = .ok (.aload_n 0, 1) := by decide +kernel
theorem dX12_rules_41 : decode cX12_rules 41 = .ok (.getfield 327, 3) := by decide +kernel
theorem dX12_rules_44 : decode cX12_rules 44 = .ok (.ifCond .ne 33, 3) := by decide +kernel
theorem dX12_rules_47 : decode cX12_rules 47 = .ok (.aload_n 0, 1) := by decide +kernel
theorem dX12_rules_48 : decode cX12_rules 48 = .ok (.getfield 312, 3) := by decide +kernel
theorem dX12_rules_51 : decode cX12_rules 51 = .ok (.iconst 3, 1) := by decide +kernel
theorem dX12_rules_52 : decode cX12_rules 52 = .ok (.if_icmp .ne 25, 3) := by decide +kernel
theorem dX12_rules_55 : decode cX12_rules 55 = .ok (.aload_n 0, 1) := by decide +kernel
theorem dX12_rules_56 : decode cX12_rules 56 = .ok (.getfield 303, 3) := by decide +kernel
theorem dX12_rules_59 : decode cX12_rules 59 = .ok (.ldc2_w 354, 3) := by decide +kernel
theorem dX12_rules_62 : decode cX12_rules 62 = .ok (.lcmp, 1) := by decide +kernel
theorem dX12_rules_63 : decode cX12_rules 63 = .ok (.ifCond .ne 14, 3) := by decide +kernel
theorem dX12_rules_66 : decode cX12_rules 66 = .ok (.aload_n 0, 1) := by decide +kernel
theorem dX12_rules_67 : decode cX12_rules 67 = .ok (.invokevirtual 331, 3) := by decide +kernel
theorem dX12_rules_70 : decode cX12_rules 70 = .ok (.aload_n 0, 1) := by decide +kernel
theorem dX12_rules_71 : decode cX12_rules 71 = .ok (.invokevirtual 351, 3) := by decide +kernel
theorem dX12_rules_74 : decode cX12_rules 74 = .ok (.goto (-34), 3) := by decide +kernel
theorem dX12_rules_77 : decode cX12_rules 77 = .ok (.aload_n 0, 1) := by decide +kernel
theorem dX12_rules_78 : decode cX12_rules 78 = .ok (.getfield 327, 3) := by decide +kernel
theorem dX12_rules_81 : decode cX12_rules 81 = .ok (.ifCond .ne 15, 3) := by decide +kernel
theorem dX12_rules_84 : decode cX12_rules 84 = .ok (.aload_n 0, 1) := by decide +kernel
theorem dX12_rules_85 : decode cX12_rules 85 = .ok (.getfield 312, 3) := by decide +kernel
theorem dX12_rules_88 : decode cX12_rules 88 = .ok (.ifCond .eq 8, 3) := by decide +kernel
theorem dX12_rules_91 : decode cX12_rules 91 = .ok (.aload_n 0, 1) := by decide +kernel
theorem dX12_rules_92 : decode cX12_rules 92 = .ok (.iconst 0, 1) := by decide +kernel
theorem dX12_rules_93 : decode cX12_rules 93 = .ok (.invokevirtual 334, 3) := by decide +kernel
theorem dX12_rules_96 : decode cX12_rules 96 = .ok (.aload_n 0, 1) := by decide +kernel
theorem dX12_rules_97 : decode cX12_rules 97 = .ok (.iconst 0, 1) := by decide +kernel
theorem dX12_rules_98 : decode cX12_rules 98 = .ok (.putfield 291, 3) := by decide +kernel
theorem dX12_rules_101 : decode cX12_rules 101 = .ok (.aload_n 0, 1) := by decide +kernel
theorem dX12_rules_102 : decode cX12_rules 102 = .ok (.getfield 327, 3) := by decide +kernel
theorem dX12_rules_105 : decode cX12_rules 105 = .ok (.ifCond .eq 10, 3) := by decide +kernel
theorem dX12_rules_108 : decode cX12_rules 108 = .ok (.aload_n 0, 1) := by decide +kernel
theorem dX12_rules_109 : decode cX12_rules 109 = .ok (.bipush (-6), 2) := by decide +kernel
theorem dX12_rules_111 : decode cX12_rules 111 = .ok (.invokevirtual 183, 3) := by decide +kernel
theorem dX12_rules_114 : decode cX12_rules 114 = .ok (.ireturn, 1) := by decide +kernel
theorem dX12_rules_115 : decode cX12_rules 115 = .ok (.aload_n 0, 1) := by decide +kernel
theorem dX12_rules_116 : decode cX12_rules 116 = .ok (.aload_n 0, 1) := by decide +kernel
theorem dX12_rules_117 : decode cX12_rules 117 = .ok (.getfield 342, 3) := by decide +kernel
theorem dX12_rules_120 : decode cX12_rules 120 = .ok (.putfield 216, 3) := by decide +kernel
theorem dX12_rules_123 : decode cX12_rules 123 = .ok (.iconst 0, 1) := by decide +kernel
theorem dX12_rules_124 : decode cX12_rules 124 = .ok (.istore_n 1, 1) := by decide +kernel
theorem dX12_rules_125 : decode cX12_rules 125 = .ok (.iload_n 1, 1) := by decide +kernel
theorem dX12_rules_126 : decode cX12_rules 126 = .ok (.aload_n 0, 1) := by decide +kernel
theorem dX12_rules_127 : decode cX12_rules 127 = .ok (.getfield 216, 3) := by decide +kernel
theorem dX12_rules_130 : decode cX12_rules 130 = .ok (.if_icmp .ge 71, 3) := by decide +kernel
theorem dX12_rules_133 : decode cX12_rules 133 = .ok (.aload_n 0, 1) := by decide +kernel
theorem dX12_rules_134 : decode cX12_rules 134 = .ok (.getfield 65, 3) := by decide +kernel
theorem dX12_rules_137 : decode cX12_rules 137 = .ok (.iload_n 1, 1) := by decide +kernel
theorem dX12_rules_138 : decode cX12_rules 138 = .ok (.aload_n 0, 1) := by decide +kernel
theorem dX12_rules_139 : decode cX12_rules 139 = .ok (.getfield 77, 3) := by decide +kernel
theorem dX12_rules_142 : decode cX12_rules 142 = .ok (.iconst 4, 1) := by decide +kernel
theorem dX12_rules_143 : decode cX12_rules 143 = .ok (.iload_n 1, 1) := by decide +kernel
theorem dX12_rules_144 : decode cX12_rules 144 = .ok (.imul, 1) := by decide +kernel
theorem dX12_rules_145 : decode cX12_rules 145 = .ok (.iaload, 1) := by decide +kernel
theorem dX12_rules_146 : decode cX12_rules 146 = .ok (.iastore, 1) := by decide +kernel
theorem dX12_rules_147 : decode cX12_rules 147 = .ok (.aload_n 0, 1) := by decide +kernel
theorem dX12_rules_148 : decode cX12_rules 148 = .ok (.getfield 68, 3) := by decide +kernel
theorem dX12_rules_151 : decode cX12_rules 151 = .ok (.iload_n 1, 1) := by decide +kernel
theorem dX12_rules_152 : decode cX12_rules 152 = .ok (.aload_n 0, 1) := by decide +kernel
theorem dX12_rules_153 : decode cX12_rules 153 = .ok (.getfield 77, 3) := by decide +kernel
theorem dX12_rules_156 : decode cX12_rules 156 = .ok (.iconst 4, 1) := by decide +kernel
theorem dX12_rules_157 : decode cX12_rules 157 = .ok (.iload_n 1, 1) := by decide +kernel
theorem dX12_rules_158 : decode cX12_rules 158 = .ok (.imul, 1) := by decide +kernel
theorem dX12_rules_159 : decode cX12_rules 159 = .ok (.iconst 1, 1) := by decide +kernel
theorem dX12_rules_160 : decode cX12_rules 160 = .ok (.iadd, 1) := by decide +kernel
theorem dX12_rules_161 : decode cX12_rules 161 = .ok (.iaload, 1) := by decide +kernel
theorem dX12_rules_162 : decode cX12_rules 162 = .ok (.iastore, 1) := by decide +kernel
theorem dX12_rules_163 : decode cX12_rules 163 = .ok (.aload_n 0, 1) := by decide +kernel
theorem dX12_rules_164 : decode cX12_rules 164 = .ok (.getfield 71, 3) := by decide +kernel
theorem dX12_rules_167 : decode cX12_rules 167 = .ok (.iload_n 1, 1) := by decide +kernel
theorem dX12_rules_168 : decode cX12_rules 168 = .ok (.aload_n 0, 1) := by decide +kernel
theorem dX12_rules_169 : decode cX12_rules 169 = .ok (.getfield 77, 3) := by decide +kernel
theorem dX12_rules_172 : decode cX12_rules 172 = .ok (.iconst 4, 1) := by decide +kernel
theorem dX12_rules_173 : decode cX12_rules 173 = .ok (.iload_n 1, 1) := by decide +kernel
theorem dX12_rules_174 : decode cX12_rules 174 = .ok (.imul, 1) := by decide +kernel
theorem dX12_rules_175 : decode cX12_rules 175 = .ok (.iconst 2, 1) := by decide +kernel
theorem dX12_rules_176 : decode cX12_rules 176 = .ok (.iadd, 1) := by decide +kernel
theorem dX12_rules_177 : decode cX12_rules 177 = .ok (.iaload, 1) := by decide +kernel
theorem dX12_rules_178 : decode cX12_rules 178 = .ok (.iastore, 1) := by decide +kernel
theorem dX12_rules_179 : decode cX12_rules 179 = .ok (.aload_n 0, 1) := by decide +kernel
theorem dX12_rules_180 : decode cX12_rules 180 = .ok (.getfield 74, 3) := by decide +kernel
theorem dX12_rules_183 : decode cX12_rules 183 = .ok (.iload_n 1, 1) := by decide +kernel
theorem dX12_rules_184 : decode cX12_rules 184 = .ok (.aload_n 0, 1) := by decide +kernel
theorem dX12_rules_185 : decode cX12_rules 185 = .ok (.getfield 77, 3) := by decide +kernel
theorem dX12_rules_188 : decode cX12_rules 188 = .ok (.iconst 4, 1) := by decide +kernel
theorem dX12_rules_189 : decode cX12_rules 189 = .ok (.iload_n 1, 1) := by decide +kernel
theorem dX12_rules_190 : decode cX12_rules 190 = .ok (.imul, 1) := by decide +kernel
theorem dX12_rules_191 : decode cX12_rules 191 = .ok (.iconst 3, 1) := by decide +kernel
theorem dX12_rules_192 : decode cX12_rules 192 = .ok (.iadd, 1) := by decide +kernel
theorem dX12_rules_193 : decode cX12_rules 193 = .ok (.iaload, 1) := by decide +kernel
theorem dX12_rules_194 : decode cX12_rules 194 = .ok (.iastore, 1) := by decide +kernel
theorem dX12_rules_195 : decode cX12_rules 195 = .ok (.iinc 1 1, 3) := by decide +kernel
theorem dX12_rules_198 : decode cX12_rules 198 = .ok (.goto (-73), 3) := by decide +kernel
theorem dX12_rules_201 : decode cX12_rules 201 = .ok (.aload_n 0, 1) := by decide +kernel
theorem dX12_rules_202 : decode cX12_rules 202 = .ok (.aload_n 0, 1) := by decide +kernel
theorem dX12_rules_203 : decode cX12_rules 203 = .ok (.getfield 216, 3) := by decide +kernel
theorem dX12_rules_206 : decode cX12_rules 206 = .ok (.invokevirtual 183, 3) := by decide +kernel
theorem dX12_rules_209 : decode cX12_rules 209 = .ok (.ireturn, 1) := by decide +kernel
theorem dX12_fault_0 : decode cX12_fault 0 = .ok (.aload_n 0, 1) := by decide +kernel
theorem dX12_fault_1 : decode cX12_fault 1 = .ok (.iconst 0, 1) := by decide +kernel
theorem dX12_fault_2 : decode cX12_fault 2 = .ok (.putfield 156, 3) := by decide +kernel
theorem dX12_fault_5 : decode cX12_fault 5 = .ok (.aload_n 0, 1) := by decide +kernel
theorem dX12_fault_6 : decode cX12_fault 6 = .ok (.getfield 144, 3) := by decide +kernel
theorem dX12_fault_9 : decode cX12_fault 9 = .ok (.ireturn, 1) := by decide +kernel
set_option maxRecDepth 20000 in
theorem ggX12_weigh_X12_in : GoodIn wsX12_weigh wsX12_in := goodIn_r _ [11] (by decide +kernel) (by decide +kernel)
set_option maxRecDepth 20000 in
theorem gX12_weigh_X12_in : GoodIn wsX12_weigh (va_wsS RX12 164 yX12_in wsX12_in) := goodIn_app (goodIn_of _ (by decide +kernel)) ggX12_weigh_X12_in
set_option maxRecDepth 20000 in
theorem ggX12_weigh_X12_told : GoodIn wsX12_weigh wsX12_told := goodIn_r _ [15, 16, 22, 23, 24, 25, 26, 27, 28, 29, 30, 31, 32, 33, 34, 35, 36, 37, 38, 39, 40, 41, 42, 43, 44, 45, 46, 47, 48, 49, 50, 51, 52, 53, 54, 55, 56, 57, 58, 59, 60, 61, 62, 63, 64, 65, 66, 67, 68, 69, 70, 71, 72, 73, 74, 75, 76, 77, 78, 79, 80, 81, 82, 83, 84, 85, 86, 87, 88, 89, 90] (by decide +kernel) (by decide +kernel)
set_option maxRecDepth 20000 in
theorem gX12_weigh_X12_told : GoodIn wsX12_weigh (wsV RX12 183 RX12 yX12_told wsX12_told) := goodIn_app (goodIn_of _ (by decide +kernel)) ggX12_weigh_X12_told
set_option maxRecDepth 20000 in
theorem ggX12_weigh_X12_isLot : GoodIn wsX12_weigh wsX12_isLot := goodIn_r _ [20, 21, 8, 9, 10, 11, 22, 23, 24, 25, 26, 27, 28, 29, 30, 31, 32, 33, 34, 35, 36, 37, 38, 39, 40, 41, 42, 43, 44, 45, 46, 47, 48, 49, 50, 51, 52, 53, 54, 55, 56, 57, 58, 59, 60, 61, 62, 63, 64, 65, 66, 67, 68, 69, 70, 71, 72, 73, 74, 75, 76, 77, 78, 79, 80, 81, 82, 83, 84, 85, 86, 87, 88, 89, 90] (by decide +kernel) (by decide +kernel)
set_option maxRecDepth 20000 in
theorem gX12_weigh_X12_isLot : GoodIn wsX12_weigh (wsV RX12 196 RX12 yX12_isLot wsX12_isLot) := goodIn_app (goodIn_of _ (by decide +kernel)) ggX12_weigh_X12_isLot
theorem dX12_weigh_0 : decode cX12_weigh 0 = .ok (.aload_n 0, 1) := by decide +kernel
theorem dX12_weigh_1 : decode cX12_weigh 1 = .ok (.iconst 0, 1) := by decide +kernel
theorem dX12_weigh_2 : decode cX12_weigh 2 = .ok (.putfield 156, 3) := by decide +kernel
theorem dX12_weigh_5 : decode cX12_weigh 5 = .ok (.iload_n 2, 1) := by decide +kernel
theorem dX12_weigh_6 : decode cX12_weigh 6 = .ok (.i2l, 1) := by decide +kernel
theorem dX12_weigh_7 : decode cX12_weigh 7 = .ok (.lconst 0, 1) := by decide +kernel
theorem dX12_weigh_8 : decode cX12_weigh 8 = .ok (.ldc2_w 187, 3) := by decide +kernel
theorem dX12_weigh_11 : decode cX12_weigh 11 = .ok (.invokestatic 164, 3) := by decide +kernel
theorem dX12_weigh_14 : decode cX12_weigh 14 = .ok (.ifCond .eq 15, 3) := by decide +kernel
theorem dX12_weigh_17 : decode cX12_weigh 17 = .ok (.iload_n 3, 1) := by decide +kernel
theorem dX12_weigh_18 : decode cX12_weigh 18 = .ok (.i2l, 1) := by decide +kernel
theorem dX12_weigh_19 : decode cX12_weigh 19 = .ok (.lconst 0, 1) := by decide +kernel
theorem dX12_weigh_20 : decode cX12_weigh 20 = .ok (.ldc2_w 349, 3) := by decide +kernel
theorem dX12_weigh_23 : decode cX12_weigh 23 = .ok (.invokestatic 164, 3) := by decide +kernel
theorem dX12_weigh_26 : decode cX12_weigh 26 = .ok (.ifCond .ne 9, 3) := by decide +kernel
theorem dX12_weigh_29 : decode cX12_weigh 29 = .ok (.aload_n 0, 1) := by decide +kernel
theorem dX12_weigh_30 : decode cX12_weigh 30 = .ok (.iconst (-1), 1) := by decide +kernel
theorem dX12_weigh_31 : decode cX12_weigh 31 = .ok (.invokevirtual 183, 3) := by decide +kernel
theorem dX12_weigh_34 : decode cX12_weigh 34 = .ok (.ireturn, 1) := by decide +kernel
theorem dX12_weigh_35 : decode cX12_weigh 35 = .ok (.aload_n 0, 1) := by decide +kernel
theorem dX12_weigh_36 : decode cX12_weigh 36 = .ok (.iload_n 1, 1) := by decide +kernel
theorem dX12_weigh_37 : decode cX12_weigh 37 = .ok (.invokevirtual 196, 3) := by decide +kernel
theorem dX12_weigh_40 : decode cX12_weigh 40 = .ok (.ifCond .ne 10, 3) := by decide +kernel
theorem dX12_weigh_43 : decode cX12_weigh 43 = .ok (.aload_n 0, 1) := by decide +kernel
theorem dX12_weigh_44 : decode cX12_weigh 44 = .ok (.bipush (-2), 2) := by decide +kernel
theorem dX12_weigh_46 : decode cX12_weigh 46 = .ok (.invokevirtual 183, 3) := by decide +kernel
theorem dX12_weigh_49 : decode cX12_weigh 49 = .ok (.ireturn, 1) := by decide +kernel
theorem dX12_weigh_50 : decode cX12_weigh 50 = .ok (.aload_n 0, 1) := by decide +kernel
theorem dX12_weigh_51 : decode cX12_weigh 51 = .ok (.getfield 356, 3) := by decide +kernel
theorem dX12_weigh_54 : decode cX12_weigh 54 = .ok (.bipush 100, 2) := by decide +kernel
theorem dX12_weigh_56 : decode cX12_weigh 56 = .ok (.if_icmp .ne 10, 3) := by decide +kernel
theorem dX12_weigh_59 : decode cX12_weigh 59 = .ok (.aload_n 0, 1) := by decide +kernel
theorem dX12_weigh_60 : decode cX12_weigh 60 = .ok (.bipush (-5), 2) := by decide +kernel
theorem dX12_weigh_62 : decode cX12_weigh 62 = .ok (.invokevirtual 183, 3) := by decide +kernel
theorem dX12_weigh_65 : decode cX12_weigh 65 = .ok (.ireturn, 1) := by decide +kernel
theorem dX12_weigh_66 : decode cX12_weigh 66 = .ok (.aload_n 0, 1) := by decide +kernel
theorem dX12_weigh_67 : decode cX12_weigh 67 = .ok (.getfield 147, 3) := by decide +kernel
theorem dX12_weigh_70 : decode cX12_weigh 70 = .ok (.aload_n 0, 1) := by decide +kernel
theorem dX12_weigh_71 : decode cX12_weigh 71 = .ok (.getfield 356, 3) := by decide +kernel
theorem dX12_weigh_74 : decode cX12_weigh 74 = .ok (.iload_n 1, 1) := by decide +kernel
theorem dX12_weigh_75 : decode cX12_weigh 75 = .ok (.iastore, 1) := by decide +kernel
theorem dX12_weigh_76 : decode cX12_weigh 76 = .ok (.aload_n 0, 1) := by decide +kernel
theorem dX12_weigh_77 : decode cX12_weigh 77 = .ok (.getfield 150, 3) := by decide +kernel
theorem dX12_weigh_80 : decode cX12_weigh 80 = .ok (.aload_n 0, 1) := by decide +kernel
theorem dX12_weigh_81 : decode cX12_weigh 81 = .ok (.getfield 356, 3) := by decide +kernel
theorem dX12_weigh_84 : decode cX12_weigh 84 = .ok (.iload_n 2, 1) := by decide +kernel
theorem dX12_weigh_85 : decode cX12_weigh 85 = .ok (.iastore, 1) := by decide +kernel
theorem dX12_weigh_86 : decode cX12_weigh 86 = .ok (.aload_n 0, 1) := by decide +kernel
theorem dX12_weigh_87 : decode cX12_weigh 87 = .ok (.getfield 153, 3) := by decide +kernel
theorem dX12_weigh_90 : decode cX12_weigh 90 = .ok (.aload_n 0, 1) := by decide +kernel
theorem dX12_weigh_91 : decode cX12_weigh 91 = .ok (.getfield 356, 3) := by decide +kernel
theorem dX12_weigh_94 : decode cX12_weigh 94 = .ok (.iload_n 3, 1) := by decide +kernel
theorem dX12_weigh_95 : decode cX12_weigh 95 = .ok (.iastore, 1) := by decide +kernel
theorem dX12_weigh_96 : decode cX12_weigh 96 = .ok (.aload_n 0, 1) := by decide +kernel
theorem dX12_weigh_97 : decode cX12_weigh 97 = .ok (.dup, 1) := by decide +kernel
theorem dX12_weigh_98 : decode cX12_weigh 98 = .ok (.getfield 356, 3) := by decide +kernel
theorem dX12_weigh_101 : decode cX12_weigh 101 = .ok (.iconst 1, 1) := by decide +kernel
theorem dX12_weigh_102 : decode cX12_weigh 102 = .ok (.iadd, 1) := by decide +kernel
theorem dX12_weigh_103 : decode cX12_weigh 103 = .ok (.putfield 356, 3) := by decide +kernel
theorem dX12_weigh_106 : decode cX12_weigh 106 = .ok (.aload_n 0, 1) := by decide +kernel
theorem dX12_weigh_107 : decode cX12_weigh 107 = .ok (.aload_n 0, 1) := by decide +kernel
theorem dX12_weigh_108 : decode cX12_weigh 108 = .ok (.getfield 356, 3) := by decide +kernel
theorem dX12_weigh_111 : decode cX12_weigh 111 = .ok (.invokevirtual 183, 3) := by decide +kernel
theorem dX12_weigh_114 : decode cX12_weigh 114 = .ok (.ireturn, 1) := by decide +kernel
set_option maxRecDepth 20000 in
theorem ggX12_given_X12_in : GoodIn wsX12_given wsX12_in := goodIn_r _ [15] (by decide +kernel) (by decide +kernel)
set_option maxRecDepth 20000 in
theorem gX12_given_X12_in : GoodIn wsX12_given (va_wsS RX12 164 yX12_in wsX12_in) := goodIn_app (goodIn_of _ (by decide +kernel)) ggX12_given_X12_in
theorem dX12_given_0 : decode cX12_given 0 = .ok (.aload_n 0, 1) := by decide +kernel
theorem dX12_given_1 : decode cX12_given 1 = .ok (.iconst 0, 1) := by decide +kernel
theorem dX12_given_2 : decode cX12_given 2 = .ok (.putfield 156, 3) := by decide +kernel
theorem dX12_given_5 : decode cX12_given 5 = .ok (.iload_n 1, 1) := by decide +kernel
theorem dX12_given_6 : decode cX12_given 6 = .ok (.i2l, 1) := by decide +kernel
theorem dX12_given_7 : decode cX12_given 7 = .ok (.lconst 0, 1) := by decide +kernel
theorem dX12_given_8 : decode cX12_given 8 = .ok (.ldc2_w 194, 3) := by decide +kernel
theorem dX12_given_11 : decode cX12_given 11 = .ok (.invokestatic 164, 3) := by decide +kernel
theorem dX12_given_14 : decode cX12_given 14 = .ok (.ifCond .eq 15, 3) := by decide +kernel
theorem dX12_given_17 : decode cX12_given 17 = .ok (.iload_n 2, 1) := by decide +kernel
theorem dX12_given_18 : decode cX12_given 18 = .ok (.i2l, 1) := by decide +kernel
theorem dX12_given_19 : decode cX12_given 19 = .ok (.lconst 0, 1) := by decide +kernel
theorem dX12_given_20 : decode cX12_given 20 = .ok (.ldc2_w 349, 3) := by decide +kernel
theorem dX12_given_23 : decode cX12_given 23 = .ok (.invokestatic 164, 3) := by decide +kernel
theorem dX12_given_26 : decode cX12_given 26 = .ok (.ifCond .ne 7, 3) := by decide +kernel
theorem dX12_given_29 : decode cX12_given 29 = .ok (.ldc2_w 319, 3) := by decide +kernel
theorem dX12_given_32 : decode cX12_given 32 = .ok (.lreturn, 1) := by decide +kernel
theorem dX12_given_33 : decode cX12_given 33 = .ok (.lconst 0, 1) := by decide +kernel
theorem dX12_given_34 : decode cX12_given 34 = .ok (.lstore_n 3, 1) := by decide +kernel
theorem dX12_given_35 : decode cX12_given 35 = .ok (.iconst 0, 1) := by decide +kernel
theorem dX12_given_36 : decode cX12_given 36 = .ok (.istore 5, 2) := by decide +kernel
theorem dX12_given_38 : decode cX12_given 38 = .ok (.iload 5, 2) := by decide +kernel
theorem dX12_given_40 : decode cX12_given 40 = .ok (.aload_n 0, 1) := by decide +kernel
theorem dX12_given_41 : decode cX12_given 41 = .ok (.getfield 168, 3) := by decide +kernel
theorem dX12_given_44 : decode cX12_given 44 = .ok (.if_icmp .ge 94, 3) := by decide +kernel
theorem dX12_given_47 : decode cX12_given 47 = .ok (.aload_n 0, 1) := by decide +kernel
theorem dX12_given_48 : decode cX12_given 48 = .ok (.getfield 16, 3) := by decide +kernel
theorem dX12_given_51 : decode cX12_given 51 = .ok (.iload 5, 2) := by decide +kernel
theorem dX12_given_53 : decode cX12_given 53 = .ok (.iaload, 1) := by decide +kernel
theorem dX12_given_54 : decode cX12_given 54 = .ok (.istore 6, 2) := by decide +kernel
theorem dX12_given_56 : decode cX12_given 56 = .ok (.iconst 0, 1) := by decide +kernel
theorem dX12_given_57 : decode cX12_given 57 = .ok (.istore 7, 2) := by decide +kernel
theorem dX12_given_59 : decode cX12_given 59 = .ok (.iload 7, 2) := by decide +kernel
theorem dX12_given_61 : decode cX12_given 61 = .ok (.aload_n 0, 1) := by decide +kernel
theorem dX12_given_62 : decode cX12_given 62 = .ok (.getfield 356, 3) := by decide +kernel
theorem dX12_given_65 : decode cX12_given 65 = .ok (.if_icmp .ge 46, 3) := by decide +kernel
theorem dX12_given_68 : decode cX12_given 68 = .ok (.aload_n 0, 1) := by decide +kernel
theorem dX12_given_69 : decode cX12_given 69 = .ok (.getfield 147, 3) := by decide +kernel
theorem dX12_given_72 : decode cX12_given 72 = .ok (.iload 7, 2) := by decide +kernel
theorem dX12_given_74 : decode cX12_given 74 = .ok (.iaload, 1) := by decide +kernel
theorem dX12_given_75 : decode cX12_given 75 = .ok (.iload 5, 2) := by decide +kernel
theorem dX12_given_77 : decode cX12_given 77 = .ok (.if_icmp .ne 24, 3) := by decide +kernel
theorem dX12_given_80 : decode cX12_given 80 = .ok (.aload_n 0, 1) := by decide +kernel
theorem dX12_given_81 : decode cX12_given 81 = .ok (.getfield 153, 3) := by decide +kernel
theorem dX12_given_84 : decode cX12_given 84 = .ok (.iload 7, 2) := by decide +kernel
theorem dX12_given_86 : decode cX12_given 86 = .ok (.iaload, 1) := by decide +kernel
theorem dX12_given_87 : decode cX12_given 87 = .ok (.iload_n 2, 1) := by decide +kernel
theorem dX12_given_88 : decode cX12_given 88 = .ok (.if_icmp .gt 13, 3) := by decide +kernel
theorem dX12_given_91 : decode cX12_given 91 = .ok (.aload_n 0, 1) := by decide +kernel
theorem dX12_given_92 : decode cX12_given 92 = .ok (.getfield 150, 3) := by decide +kernel
theorem dX12_given_95 : decode cX12_given 95 = .ok (.iload 7, 2) := by decide +kernel
theorem dX12_given_97 : decode cX12_given 97 = .ok (.iaload, 1) := by decide +kernel
theorem dX12_given_98 : decode cX12_given 98 = .ok (.goto 5, 3) := by decide +kernel
theorem dX12_given_101 : decode cX12_given 101 = .ok (.iload 6, 2) := by decide +kernel
theorem dX12_given_103 : decode cX12_given 103 = .ok (.istore 6, 2) := by decide +kernel
theorem dX12_given_105 : decode cX12_given 105 = .ok (.iinc 7 1, 3) := by decide +kernel
theorem dX12_given_108 : decode cX12_given 108 = .ok (.goto (-49), 3) := by decide +kernel
theorem dX12_given_111 : decode cX12_given 111 = .ok (.lload_n 3, 1) := by decide +kernel
theorem dX12_given_112 : decode cX12_given 112 = .ok (.aload_n 0, 1) := by decide +kernel
theorem dX12_given_113 : decode cX12_given 113 = .ok (.getfield 22, 3) := by decide +kernel
theorem dX12_given_116 : decode cX12_given 116 = .ok (.iload 5, 2) := by decide +kernel
theorem dX12_given_118 : decode cX12_given 118 = .ok (.iaload, 1) := by decide +kernel
theorem dX12_given_119 : decode cX12_given 119 = .ok (.iload_n 1, 1) := by decide +kernel
theorem dX12_given_120 : decode cX12_given 120 = .ok (.if_icmp .ne 9, 3) := by decide +kernel
theorem dX12_given_123 : decode cX12_given 123 = .ok (.iload 6, 2) := by decide +kernel
theorem dX12_given_125 : decode cX12_given 125 = .ok (.i2l, 1) := by decide +kernel
theorem dX12_given_126 : decode cX12_given 126 = .ok (.goto 4, 3) := by decide +kernel
theorem dX12_given_129 : decode cX12_given 129 = .ok (.lconst 0, 1) := by decide +kernel
theorem dX12_given_130 : decode cX12_given 130 = .ok (.ladd, 1) := by decide +kernel
theorem dX12_given_131 : decode cX12_given 131 = .ok (.lstore_n 3, 1) := by decide +kernel
theorem dX12_given_132 : decode cX12_given 132 = .ok (.iinc 5 1, 3) := by decide +kernel
theorem dX12_given_135 : decode cX12_given 135 = .ok (.goto (-97), 3) := by decide +kernel
theorem dX12_given_138 : decode cX12_given 138 = .ok (.lload_n 3, 1) := by decide +kernel
theorem dX12_given_139 : decode cX12_given 139 = .ok (.lreturn, 1) := by decide +kernel
set_option maxRecDepth 20000 in
theorem ggX12_led_X12_in : GoodIn wsX12_led wsX12_in := goodIn_r _ [13] (by decide +kernel) (by decide +kernel)
set_option maxRecDepth 20000 in
theorem gX12_led_X12_in : GoodIn wsX12_led (va_wsS RX12 164 yX12_in wsX12_in) := goodIn_app (goodIn_of _ (by decide +kernel)) ggX12_led_X12_in
set_option maxRecDepth 20000 in
theorem ggX12_led_X12_isFamily : GoodIn wsX12_led wsX12_isFamily := goodIn_r _ [17, 18, 10, 11, 12, 13, 19, 20, 21, 22, 23, 24, 25, 26, 27, 28, 29, 30, 31, 32, 33, 34, 35, 36, 37, 38, 39, 40, 41, 42, 43, 44, 45, 46, 47, 48, 49, 50, 51, 52, 53, 54, 55, 56, 57, 58, 59, 60, 61, 62, 63, 64, 65, 66, 67, 68, 69, 70, 71, 72, 73, 74, 75, 76, 77, 78, 79, 80, 81, 82, 83, 84, 85, 86, 87] (by decide +kernel) (by decide +kernel)
set_option maxRecDepth 20000 in
theorem gX12_led_X12_isFamily : GoodIn wsX12_led (wsV RX12 206 RX12 yX12_isFamily wsX12_isFamily) := goodIn_app (goodIn_of _ (by decide +kernel)) ggX12_led_X12_isFamily
theorem dX12_led_0 : decode cX12_led 0 = .ok (.aload_n 0, 1) := by decide +kernel
theorem dX12_led_1 : decode cX12_led 1 = .ok (.iconst 0, 1) := by decide +kernel
theorem dX12_led_2 : decode cX12_led 2 = .ok (.putfield 156, 3) := by decide +kernel
theorem dX12_led_5 : decode cX12_led 5 = .ok (.iload_n 1, 1) := by decide +kernel
theorem dX12_led_6 : decode cX12_led 6 = .ok (.i2l, 1) := by decide +kernel
theorem dX12_led_7 : decode cX12_led 7 = .ok (.lconst 0, 1) := by decide +kernel
theorem dX12_led_8 : decode cX12_led 8 = .ok (.ldc2_w 194, 3) := by decide +kernel
theorem dX12_led_11 : decode cX12_led 11 = .ok (.invokestatic 164, 3) := by decide +kernel
theorem dX12_led_14 : decode cX12_led 14 = .ok (.ifCond .eq 11, 3) := by decide +kernel
theorem dX12_led_17 : decode cX12_led 17 = .ok (.aload_n 0, 1) := by decide +kernel
theorem dX12_led_18 : decode cX12_led 18 = .ok (.iload_n 2, 1) := by decide +kernel
theorem dX12_led_19 : decode cX12_led 19 = .ok (.invokevirtual 206, 3) := by decide +kernel
theorem dX12_led_22 : decode cX12_led 22 = .ok (.ifCond .ne 7, 3) := by decide +kernel
theorem dX12_led_25 : decode cX12_led 25 = .ok (.ldc2_w 319, 3) := by decide +kernel
theorem dX12_led_28 : decode cX12_led 28 = .ok (.lreturn, 1) := by decide +kernel
theorem dX12_led_29 : decode cX12_led 29 = .ok (.lconst 0, 1) := by decide +kernel
theorem dX12_led_30 : decode cX12_led 30 = .ok (.lstore_n 3, 1) := by decide +kernel
theorem dX12_led_31 : decode cX12_led 31 = .ok (.iconst 0, 1) := by decide +kernel
theorem dX12_led_32 : decode cX12_led 32 = .ok (.istore 5, 2) := by decide +kernel
theorem dX12_led_34 : decode cX12_led 34 = .ok (.iload 5, 2) := by decide +kernel
theorem dX12_led_36 : decode cX12_led 36 = .ok (.aload_n 0, 1) := by decide +kernel
theorem dX12_led_37 : decode cX12_led 37 = .ok (.getfield 239, 3) := by decide +kernel
theorem dX12_led_40 : decode cX12_led 40 = .ok (.if_icmp .ge 80, 3) := by decide +kernel
theorem dX12_led_43 : decode cX12_led 43 = .ok (.aload_n 0, 1) := by decide +kernel
theorem dX12_led_44 : decode cX12_led 44 = .ok (.getfield 86, 3) := by decide +kernel
theorem dX12_led_47 : decode cX12_led 47 = .ok (.iload 5, 2) := by decide +kernel
theorem dX12_led_49 : decode cX12_led 49 = .ok (.iaload, 1) := by decide +kernel
theorem dX12_led_50 : decode cX12_led 50 = .ok (.istore 6, 2) := by decide +kernel
theorem dX12_led_52 : decode cX12_led 52 = .ok (.iload 6, 2) := by decide +kernel
theorem dX12_led_54 : decode cX12_led 54 = .ok (.aload_n 0, 1) := by decide +kernel
theorem dX12_led_55 : decode cX12_led 55 = .ok (.getfield 86, 3) := by decide +kernel
theorem dX12_led_58 : decode cX12_led 58 = .ok (.iload 5, 2) := by decide +kernel
theorem dX12_led_60 : decode cX12_led 60 = .ok (.iconst 1, 1) := by decide +kernel
theorem dX12_led_61 : decode cX12_led 61 = .ok (.iadd, 1) := by decide +kernel
theorem dX12_led_62 : decode cX12_led 62 = .ok (.iaload, 1) := by decide +kernel
theorem dX12_led_63 : decode cX12_led 63 = .ok (.if_icmp .ge 51, 3) := by decide +kernel
theorem dX12_led_66 : decode cX12_led 66 = .ok (.aload_n 0, 1) := by decide +kernel
theorem dX12_led_67 : decode cX12_led 67 = .ok (.getfield 80, 3) := by decide +kernel
theorem dX12_led_70 : decode cX12_led 70 = .ok (.iload 5, 2) := by decide +kernel
theorem dX12_led_72 : decode cX12_led 72 = .ok (.iaload, 1) := by decide +kernel
theorem dX12_led_73 : decode cX12_led 73 = .ok (.iload_n 2, 1) := by decide +kernel
theorem dX12_led_74 : decode cX12_led 74 = .ok (.if_icmp .ne 40, 3) := by decide +kernel
theorem dX12_led_77 : decode cX12_led 77 = .ok (.lload_n 3, 1) := by decide +kernel
theorem dX12_led_78 : decode cX12_led 78 = .ok (.aload_n 0, 1) := by decide +kernel
theorem dX12_led_79 : decode cX12_led 79 = .ok (.getfield 22, 3) := by decide +kernel
theorem dX12_led_82 : decode cX12_led 82 = .ok (.aload_n 0, 1) := by decide +kernel
theorem dX12_led_83 : decode cX12_led 83 = .ok (.getfield 92, 3) := by decide +kernel
theorem dX12_led_86 : decode cX12_led 86 = .ok (.iload 6, 2) := by decide +kernel
theorem dX12_led_88 : decode cX12_led 88 = .ok (.iaload, 1) := by decide +kernel
theorem dX12_led_89 : decode cX12_led 89 = .ok (.iaload, 1) := by decide +kernel
theorem dX12_led_90 : decode cX12_led 90 = .ok (.iload_n 1, 1) := by decide +kernel
theorem dX12_led_91 : decode cX12_led 91 = .ok (.if_icmp .ne 14, 3) := by decide +kernel
theorem dX12_led_94 : decode cX12_led 94 = .ok (.aload_n 0, 1) := by decide +kernel
theorem dX12_led_95 : decode cX12_led 95 = .ok (.getfield 95, 3) := by decide +kernel
theorem dX12_led_98 : decode cX12_led 98 = .ok (.iload 6, 2) := by decide +kernel
theorem dX12_led_100 : decode cX12_led 100 = .ok (.iaload, 1) := by decide +kernel
theorem dX12_led_101 : decode cX12_led 101 = .ok (.i2l, 1) := by decide +kernel
theorem dX12_led_102 : decode cX12_led 102 = .ok (.goto 4, 3) := by decide +kernel
theorem dX12_led_105 : decode cX12_led 105 = .ok (.lconst 0, 1) := by decide +kernel
theorem dX12_led_106 : decode cX12_led 106 = .ok (.ladd, 1) := by decide +kernel
theorem dX12_led_107 : decode cX12_led 107 = .ok (.lstore_n 3, 1) := by decide +kernel
theorem dX12_led_108 : decode cX12_led 108 = .ok (.iinc 6 1, 3) := by decide +kernel
theorem dX12_led_111 : decode cX12_led 111 = .ok (.goto (-59), 3) := by decide +kernel
theorem dX12_led_114 : decode cX12_led 114 = .ok (.iinc 5 1, 3) := by decide +kernel
theorem dX12_led_117 : decode cX12_led 117 = .ok (.goto (-83), 3) := by decide +kernel
theorem dX12_led_120 : decode cX12_led 120 = .ok (.lload_n 3, 1) := by decide +kernel
theorem dX12_led_121 : decode cX12_led 121 = .ok (.lreturn, 1) := by decide +kernel
theorem dX12_sumOf_0 : decode cX12_sumOf 0 = .ok (.lconst 0, 1) := by decide +kernel
theorem dX12_sumOf_1 : decode cX12_sumOf 1 = .ok (.lstore_n 3, 1) := by decide +kernel
theorem dX12_sumOf_2 : decode cX12_sumOf 2 = .ok (.iconst 0, 1) := by decide +kernel
theorem dX12_sumOf_3 : decode cX12_sumOf 3 = .ok (.istore 5, 2) := by decide +kernel
theorem dX12_sumOf_5 : decode cX12_sumOf 5 = .ok (.iload 5, 2) := by decide +kernel
theorem dX12_sumOf_7 : decode cX12_sumOf 7 = .ok (.aload_n 0, 1) := by decide +kernel
theorem dX12_sumOf_8 : decode cX12_sumOf 8 = .ok (.getfield 168, 3) := by decide +kernel
theorem dX12_sumOf_11 : decode cX12_sumOf 11 = .ok (.if_icmp .ge 107, 3) := by decide +kernel
theorem dX12_sumOf_14 : decode cX12_sumOf 14 = .ok (.iload_n 1, 1) := by decide +kernel
theorem dX12_sumOf_15 : decode cX12_sumOf 15 = .ok (.bipush 8, 2) := by decide +kernel
theorem dX12_sumOf_17 : decode cX12_sumOf 17 = .ok (.if_icmp .ne 13, 3) := by decide +kernel
theorem dX12_sumOf_20 : decode cX12_sumOf 20 = .ok (.aload_n 0, 1) := by decide +kernel
theorem dX12_sumOf_21 : decode cX12_sumOf 21 = .ok (.getfield 16, 3) := by decide +kernel
theorem dX12_sumOf_24 : decode cX12_sumOf 24 = .ok (.iload 5, 2) := by decide +kernel
theorem dX12_sumOf_26 : decode cX12_sumOf 26 = .ok (.iaload, 1) := by decide +kernel
theorem dX12_sumOf_27 : decode cX12_sumOf 27 = .ok (.goto 58, 3) := by decide +kernel
theorem dX12_sumOf_30 : decode cX12_sumOf 30 = .ok (.iload_n 1, 1) := by decide +kernel
theorem dX12_sumOf_31 : decode cX12_sumOf 31 = .ok (.bipush 9, 2) := by decide +kernel
theorem dX12_sumOf_33 : decode cX12_sumOf 33 = .ok (.if_icmp .ne 13, 3) := by decide +kernel
theorem dX12_sumOf_36 : decode cX12_sumOf 36 = .ok (.aload_n 0, 1) := by decide +kernel
theorem dX12_sumOf_37 : decode cX12_sumOf 37 = .ok (.getfield 25, 3) := by decide +kernel
theorem dX12_sumOf_40 : decode cX12_sumOf 40 = .ok (.iload 5, 2) := by decide +kernel
theorem dX12_sumOf_42 : decode cX12_sumOf 42 = .ok (.iaload, 1) := by decide +kernel
theorem dX12_sumOf_43 : decode cX12_sumOf 43 = .ok (.goto 42, 3) := by decide +kernel
theorem dX12_sumOf_46 : decode cX12_sumOf 46 = .ok (.iload_n 1, 1) := by decide +kernel
theorem dX12_sumOf_47 : decode cX12_sumOf 47 = .ok (.bipush 10, 2) := by decide +kernel
theorem dX12_sumOf_49 : decode cX12_sumOf 49 = .ok (.if_icmp .ne 13, 3) := by decide +kernel
theorem dX12_sumOf_52 : decode cX12_sumOf 52 = .ok (.aload_n 0, 1) := by decide +kernel
theorem dX12_sumOf_53 : decode cX12_sumOf 53 = .ok (.getfield 28, 3) := by decide +kernel
theorem dX12_sumOf_56 : decode cX12_sumOf 56 = .ok (.iload 5, 2) := by decide +kernel
theorem dX12_sumOf_58 : decode cX12_sumOf 58 = .ok (.iaload, 1) := by decide +kernel
theorem dX12_sumOf_59 : decode cX12_sumOf 59 = .ok (.goto 26, 3) := by decide +kernel
theorem dX12_sumOf_62 : decode cX12_sumOf 62 = .ok (.iload_n 1, 1) := by decide +kernel
theorem dX12_sumOf_63 : decode cX12_sumOf 63 = .ok (.bipush 11, 2) := by decide +kernel
theorem dX12_sumOf_65 : decode cX12_sumOf 65 = .ok (.if_icmp .ne 13, 3) := by decide +kernel
theorem dX12_sumOf_68 : decode cX12_sumOf 68 = .ok (.aload_n 0, 1) := by decide +kernel
theorem dX12_sumOf_69 : decode cX12_sumOf 69 = .ok (.getfield 31, 3) := by decide +kernel
theorem dX12_sumOf_72 : decode cX12_sumOf 72 = .ok (.iload 5, 2) := by decide +kernel
theorem dX12_sumOf_74 : decode cX12_sumOf 74 = .ok (.iaload, 1) := by decide +kernel
theorem dX12_sumOf_75 : decode cX12_sumOf 75 = .ok (.goto 10, 3) := by decide +kernel
theorem dX12_sumOf_78 : decode cX12_sumOf 78 = .ok (.aload_n 0, 1) := by decide +kernel
theorem dX12_sumOf_79 : decode cX12_sumOf 79 = .ok (.getfield 34, 3) := by decide +kernel
theorem dX12_sumOf_82 : decode cX12_sumOf 82 = .ok (.iload 5, 2) := by decide +kernel
theorem dX12_sumOf_84 : decode cX12_sumOf 84 = .ok (.iaload, 1) := by decide +kernel
theorem dX12_sumOf_85 : decode cX12_sumOf 85 = .ok (.istore 6, 2) := by decide +kernel
theorem dX12_sumOf_87 : decode cX12_sumOf 87 = .ok (.lload_n 3, 1) := by decide +kernel
theorem dX12_sumOf_88 : decode cX12_sumOf 88 = .ok (.iload_n 2, 1) := by decide +kernel
theorem dX12_sumOf_89 : decode cX12_sumOf 89 = .ok (.ifCond .lt 14, 3) := by decide +kernel
theorem dX12_sumOf_92 : decode cX12_sumOf 92 = .ok (.aload_n 0, 1) := by decide +kernel
theorem dX12_sumOf_93 : decode cX12_sumOf 93 = .ok (.getfield 13, 3) := by decide +kernel
theorem dX12_sumOf_96 : decode cX12_sumOf 96 = .ok (.iload 5, 2) := by decide +kernel
theorem dX12_sumOf_98 : decode cX12_sumOf 98 = .ok (.iaload, 1) := by decide +kernel
theorem dX12_sumOf_99 : decode cX12_sumOf 99 = .ok (.iload_n 2, 1) := by decide +kernel
theorem dX12_sumOf_100 : decode cX12_sumOf 100 = .ok (.if_icmp .ne 9, 3) := by decide +kernel
theorem dX12_sumOf_103 : decode cX12_sumOf 103 = .ok (.iload 6, 2) := by decide +kernel
theorem dX12_sumOf_105 : decode cX12_sumOf 105 = .ok (.i2l, 1) := by decide +kernel
theorem dX12_sumOf_106 : decode cX12_sumOf 106 = .ok (.goto 4, 3) := by decide +kernel
theorem dX12_sumOf_109 : decode cX12_sumOf 109 = .ok (.lconst 0, 1) := by decide +kernel
theorem dX12_sumOf_110 : decode cX12_sumOf 110 = .ok (.ladd, 1) := by decide +kernel
theorem dX12_sumOf_111 : decode cX12_sumOf 111 = .ok (.lstore_n 3, 1) := by decide +kernel
theorem dX12_sumOf_112 : decode cX12_sumOf 112 = .ok (.iinc 5 1, 3) := by decide +kernel
theorem dX12_sumOf_115 : decode cX12_sumOf 115 = .ok (.goto (-110), 3) := by decide +kernel
theorem dX12_sumOf_118 : decode cX12_sumOf 118 = .ok (.lload_n 3, 1) := by decide +kernel
theorem dX12_sumOf_119 : decode cX12_sumOf 119 = .ok (.lreturn, 1) := by decide +kernel
set_option maxRecDepth 20000 in
theorem ggX12_count_X12_in : GoodIn wsX12_count wsX12_in := goodIn_r _ [18] (by decide +kernel) (by decide +kernel)
set_option maxRecDepth 20000 in
theorem gX12_count_X12_in : GoodIn wsX12_count (va_wsS RX12 164 yX12_in wsX12_in) := goodIn_app (goodIn_of _ (by decide +kernel)) ggX12_count_X12_in
set_option maxRecDepth 20000 in
theorem ggX12_count_X12_sumOf : GoodIn wsX12_count wsX12_sumOf := goodIn_r _ [22, 5, 23, 24, 25, 26, 27, 28, 29, 30, 31, 32, 33, 34, 35, 36, 37, 38, 39, 40, 41, 42, 43, 44, 45, 46, 47, 48, 49, 50, 51, 52, 53, 54, 55, 56, 57, 58, 59, 60, 61, 62, 63, 64, 65, 66, 67, 68, 69, 70, 71, 72, 73, 74, 75, 76, 77, 78, 79, 80, 81, 82, 83, 84, 85, 86, 87, 88, 89, 90, 91, 92, 93, 94, 95, 96, 97] (by decide +kernel) (by decide +kernel)
set_option maxRecDepth 20000 in
theorem gX12_count_X12_sumOf : GoodIn wsX12_count (wsV RX12 361 RX12 yX12_sumOf wsX12_sumOf) := goodIn_app (goodIn_of _ (by decide +kernel)) ggX12_count_X12_sumOf
theorem dX12_count_0 : decode cX12_count 0 = .ok (.aload_n 0, 1) := by decide +kernel
theorem dX12_count_1 : decode cX12_count 1 = .ok (.iconst 0, 1) := by decide +kernel
theorem dX12_count_2 : decode cX12_count 2 = .ok (.putfield 156, 3) := by decide +kernel
theorem dX12_count_5 : decode cX12_count 5 = .ok (.iload_n 1, 1) := by decide +kernel
theorem dX12_count_6 : decode cX12_count 6 = .ok (.i2l, 1) := by decide +kernel
theorem dX12_count_7 : decode cX12_count 7 = .ok (.ldc2_w 204, 3) := by decide +kernel
theorem dX12_count_10 : decode cX12_count 10 = .ok (.ldc2_w 359, 3) := by decide +kernel
theorem dX12_count_13 : decode cX12_count 13 = .ok (.invokestatic 164, 3) := by decide +kernel
theorem dX12_count_16 : decode cX12_count 16 = .ok (.ifCond .eq 14, 3) := by decide +kernel
theorem dX12_count_19 : decode cX12_count 19 = .ok (.aload_n 0, 1) := by decide +kernel
theorem dX12_count_20 : decode cX12_count 20 = .ok (.bipush 9, 2) := by decide +kernel
theorem dX12_count_22 : decode cX12_count 22 = .ok (.iload_n 1, 1) := by decide +kernel
theorem dX12_count_23 : decode cX12_count 23 = .ok (.bipush 20, 2) := by decide +kernel
theorem dX12_count_25 : decode cX12_count 25 = .ok (.isub, 1) := by decide +kernel
theorem dX12_count_26 : decode cX12_count 26 = .ok (.invokevirtual 361, 3) := by decide +kernel
theorem dX12_count_29 : decode cX12_count 29 = .ok (.lreturn, 1) := by decide +kernel
theorem dX12_count_30 : decode cX12_count 30 = .ok (.iload_n 1, 1) := by decide +kernel
theorem dX12_count_31 : decode cX12_count 31 = .ok (.tableswitch 139 0 14 #[73, 79, 85, 91, 97, 103, 109, 115, 121, 121, 121, 121, 121, 128, 133], 73) := by decide +kernel
theorem dX12_count_104 : decode cX12_count 104 = .ok (.aload_n 0, 1) := by decide +kernel
theorem dX12_count_105 : decode cX12_count 105 = .ok (.getfield 189, 3) := by decide +kernel
theorem dX12_count_108 : decode cX12_count 108 = .ok (.i2l, 1) := by decide +kernel
theorem dX12_count_109 : decode cX12_count 109 = .ok (.lreturn, 1) := by decide +kernel
theorem dX12_count_110 : decode cX12_count 110 = .ok (.aload_n 0, 1) := by decide +kernel
theorem dX12_count_111 : decode cX12_count 111 = .ok (.getfield 168, 3) := by decide +kernel
theorem dX12_count_114 : decode cX12_count 114 = .ok (.i2l, 1) := by decide +kernel
theorem dX12_count_115 : decode cX12_count 115 = .ok (.lreturn, 1) := by decide +kernel
theorem dX12_count_116 : decode cX12_count 116 = .ok (.aload_n 0, 1) := by decide +kernel
theorem dX12_count_117 : decode cX12_count 117 = .ok (.getfield 171, 3) := by decide +kernel
theorem dX12_count_120 : decode cX12_count 120 = .ok (.i2l, 1) := by decide +kernel
theorem dX12_count_121 : decode cX12_count 121 = .ok (.lreturn, 1) := by decide +kernel
theorem dX12_count_122 : decode cX12_count 122 = .ok (.aload_n 0, 1) := by decide +kernel
theorem dX12_count_123 : decode cX12_count 123 = .ok (.getfield 174, 3) := by decide +kernel
theorem dX12_count_126 : decode cX12_count 126 = .ok (.i2l, 1) := by decide +kernel
theorem dX12_count_127 : decode cX12_count 127 = .ok (.lreturn, 1) := by decide +kernel
theorem dX12_count_128 : decode cX12_count 128 = .ok (.aload_n 0, 1) := by decide +kernel
theorem dX12_count_129 : decode cX12_count 129 = .ok (.getfield 209, 3) := by decide +kernel
theorem dX12_count_132 : decode cX12_count 132 = .ok (.i2l, 1) := by decide +kernel
theorem dX12_count_133 : decode cX12_count 133 = .ok (.lreturn, 1) := by decide +kernel
theorem dX12_count_134 : decode cX12_count 134 = .ok (.aload_n 0, 1) := by decide +kernel
theorem dX12_count_135 : decode cX12_count 135 = .ok (.getfield 239, 3) := by decide +kernel
theorem dX12_count_138 : decode cX12_count 138 = .ok (.i2l, 1) := by decide +kernel
theorem dX12_count_139 : decode cX12_count 139 = .ok (.lreturn, 1) := by decide +kernel
theorem dX12_count_140 : decode cX12_count 140 = .ok (.aload_n 0, 1) := by decide +kernel
theorem dX12_count_141 : decode cX12_count 141 = .ok (.getfield 216, 3) := by decide +kernel
theorem dX12_count_144 : decode cX12_count 144 = .ok (.i2l, 1) := by decide +kernel
theorem dX12_count_145 : decode cX12_count 145 = .ok (.lreturn, 1) := by decide +kernel
theorem dX12_count_146 : decode cX12_count 146 = .ok (.aload_n 0, 1) := by decide +kernel
theorem dX12_count_147 : decode cX12_count 147 = .ok (.getfield 356, 3) := by decide +kernel
theorem dX12_count_150 : decode cX12_count 150 = .ok (.i2l, 1) := by decide +kernel
theorem dX12_count_151 : decode cX12_count 151 = .ok (.lreturn, 1) := by decide +kernel
theorem dX12_count_152 : decode cX12_count 152 = .ok (.aload_n 0, 1) := by decide +kernel
theorem dX12_count_153 : decode cX12_count 153 = .ok (.iload_n 1, 1) := by decide +kernel
theorem dX12_count_154 : decode cX12_count 154 = .ok (.iconst (-1), 1) := by decide +kernel
theorem dX12_count_155 : decode cX12_count 155 = .ok (.invokevirtual 361, 3) := by decide +kernel
theorem dX12_count_158 : decode cX12_count 158 = .ok (.lreturn, 1) := by decide +kernel
theorem dX12_count_159 : decode cX12_count 159 = .ok (.aload_n 0, 1) := by decide +kernel
theorem dX12_count_160 : decode cX12_count 160 = .ok (.getfield 242, 3) := by decide +kernel
theorem dX12_count_163 : decode cX12_count 163 = .ok (.lreturn, 1) := by decide +kernel
theorem dX12_count_164 : decode cX12_count 164 = .ok (.aload_n 0, 1) := by decide +kernel
theorem dX12_count_165 : decode cX12_count 165 = .ok (.getfield 291, 3) := by decide +kernel
theorem dX12_count_168 : decode cX12_count 168 = .ok (.i2l, 1) := by decide +kernel
theorem dX12_count_169 : decode cX12_count 169 = .ok (.lreturn, 1) := by decide +kernel
theorem dX12_count_170 : decode cX12_count 170 = .ok (.ldc2_w 319, 3) := by decide +kernel
theorem dX12_count_173 : decode cX12_count 173 = .ok (.lreturn, 1) := by decide +kernel
theorem dX12_status_0 : decode cX12_status 0 = .ok (.aload_n 0, 1) := by decide +kernel
theorem dX12_status_1 : decode cX12_status 1 = .ok (.iconst 0, 1) := by decide +kernel
theorem dX12_status_2 : decode cX12_status 2 = .ok (.putfield 156, 3) := by decide +kernel
theorem dX12_status_5 : decode cX12_status 5 = .ok (.aload_n 0, 1) := by decide +kernel
theorem dX12_status_6 : decode cX12_status 6 = .ok (.getfield 159, 3) := by decide +kernel
theorem dX12_status_9 : decode cX12_status 9 = .ok (.ireturn, 1) := by decide +kernel
