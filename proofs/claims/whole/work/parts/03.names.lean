/-! ===== BEGIN printed: names, fields, word lists, decode rows ===== -/
def RX0 : String := "CraneYard$Hauls"
def TX0 : u_T := fun k => match k with
  | 0 => ("CraneYard$Hauls", "crates", "[I", true)
  | 1 => ("CraneYard$Hauls", "lastDays", "[I", true)
  | 2 => ("CraneYard$Hauls", "states", "[I", true)
  | 3 => ("CraneYard$Hauls", "prices", "[I", true)
  | 4 => ("CraneYard$Hauls", "bids", "[I", true)
  | 5 => ("CraneYard$Hauls", "count", "I", false)
  | 6 => ("CraneYard$Hauls", "pricesPaid", "I", false)
  | _ => ("CraneYard$Hauls", "owed", "I", false)
def tyX0 : Nat → FieldType := fun k => match k with
  | 0 => .array .int
  | 1 => .array .int
  | 2 => .array .int
  | 3 => .array .int
  | 4 => .array .int
  | 5 => .int
  | 6 => .int
  | _ => .int
abbrev wsX00 : List Cond := u_ws RX0 TX0 8
theorem nmX0 : ∀ a, a < 8 → ∀ b, b < 8 → a ≠ b → (TX0 a).2.1 ≠ (TX0 b).2.1 := by decide +kernel
theorem tyX0_ok : ∀ k, k < 8 → parseFieldDescriptor (TX0 k).2.2.1 = some (tyX0 k) := by decide +kernel
abbrev cX0_init : ByteArray := prog_2_method_1_code
def yX0_init : MethodName := ⟨RX0, "<init>", "()V"⟩
abbrev cX0_number : ByteArray := prog_2_method_2_code
def yX0_number : MethodName := ⟨RX0, "number", "()I"⟩
abbrev cX0_pricesOfDone : ByteArray := prog_2_method_3_code
def yX0_pricesOfDone : MethodName := ⟨RX0, "pricesOfDone", "()I"⟩
abbrev cX0_owedForLate : ByteArray := prog_2_method_4_code
def yX0_owedForLate : MethodName := ⟨RX0, "owedForLate", "()I"⟩
abbrev cX0_stateOf : ByteArray := prog_2_method_5_code
def yX0_stateOf : MethodName := ⟨RX0, "stateOf", "(I)I"⟩
abbrev cX0_isOpen : ByteArray := prog_2_method_6_code
def yX0_isOpen : MethodName := ⟨RX0, "isOpen", "(I)Z"⟩
abbrev cX0_openHaulOf : ByteArray := prog_2_method_7_code
def yX0_openHaulOf : MethodName := ⟨RX0, "openHaulOf", "(I)I"⟩
abbrev cX0_add : ByteArray := prog_2_method_8_code
def yX0_add : MethodName := ⟨RX0, "add", "(II)I"⟩
abbrev cX0_isPlaceForBid : ByteArray := prog_2_method_9_code
def yX0_isPlaceForBid : MethodName := ⟨RX0, "isPlaceForBid", "(II)Z"⟩
abbrev cX0_priceAsked : ByteArray := prog_2_method_10_code
def yX0_priceAsked : MethodName := ⟨RX0, "priceAsked", "(II)I"⟩
abbrev cX0_enterBid : ByteArray := prog_2_method_11_code
def yX0_enterBid : MethodName := ⟨RX0, "enterBid", "(III)V"⟩
abbrev cX0_cheapestHaulier : ByteArray := prog_2_method_12_code
def yX0_cheapestHaulier : MethodName := ⟨RX0, "cheapestHaulier", "(I)I"⟩
abbrev cX0_giveTo : ByteArray := prog_2_method_13_code
def yX0_giveTo : MethodName := ⟨RX0, "giveTo", "(II)V"⟩
abbrev cX0_finish : ByteArray := prog_2_method_14_code
def yX0_finish : MethodName := ⟨RX0, "finish", "(I)I"⟩
abbrev cX0_endDay : ByteArray := prog_2_method_15_code
def yX0_endDay : MethodName := ⟨RX0, "endDay", "(I)V"⟩
def RX1 : String := "CraneYard$Stacks"
def TX1 : u_T := fun k => match k with
  | 0 => ("CraneYard$Stacks", "heights", "[I", true)
  | 1 => ("CraneYard$Stacks", "cells", "[I", true)
  | _ => ("CraneYard$Stacks", "weights", "[I", true)
def tyX1 : Nat → FieldType := fun k => match k with
  | 0 => .array .int
  | 1 => .array .int
  | _ => .array .int
abbrev wsX10 : List Cond := u_ws RX1 TX1 3
theorem nmX1 : ∀ a, a < 3 → ∀ b, b < 3 → a ≠ b → (TX1 a).2.1 ≠ (TX1 b).2.1 := by decide +kernel
theorem tyX1_ok : ∀ k, k < 3 → parseFieldDescriptor (TX1 k).2.2.1 = some (tyX1 k) := by decide +kernel
abbrev cX1_init : ByteArray := prog_3_method_1_code
def yX1_init : MethodName := ⟨RX1, "<init>", "()V"⟩
abbrev cX1_copyFrom : ByteArray := prog_3_method_2_code
def yX1_copyFrom : MethodName := ⟨RX1, "copyFrom", "(LCraneYard$Stacks;)V"⟩
abbrev cX1_setWeight : ByteArray := prog_3_method_3_code
def yX1_setWeight : MethodName := ⟨RX1, "setWeight", "(II)V"⟩
abbrev cX1_weightOf : ByteArray := prog_3_method_4_code
def yX1_weightOf : MethodName := ⟨RX1, "weightOf", "(I)I"⟩
abbrev cX1_heightOf : ByteArray := prog_3_method_5_code
def yX1_heightOf : MethodName := ⟨RX1, "heightOf", "(I)I"⟩
abbrev cX1_crateAt : ByteArray := prog_3_method_6_code
def yX1_crateAt : MethodName := ⟨RX1, "crateAt", "(II)I"⟩
abbrev cX1_topOf : ByteArray := prog_3_method_7_code
def yX1_topOf : MethodName := ⟨RX1, "topOf", "(I)I"⟩
abbrev cX1_stackHolding : ByteArray := prog_3_method_8_code
def yX1_stackHolding : MethodName := ⟨RX1, "stackHolding", "(I)I"⟩
abbrev cX1_canTake : ByteArray := prog_3_method_9_code
def yX1_canTake : MethodName := ⟨RX1, "canTake", "(III)Z"⟩
abbrev cX1_put : ByteArray := prog_3_method_10_code
def yX1_put : MethodName := ⟨RX1, "put", "(II)V"⟩
abbrev cX1_takeTop : ByteArray := prog_3_method_11_code
def yX1_takeTop : MethodName := ⟨RX1, "takeTop", "(I)I"⟩
abbrev cX1_digOut : ByteArray := prog_3_method_12_code
def yX1_digOut : MethodName := ⟨RX1, "digOut", "(II)I"⟩
abbrev cX1_targetFor : ByteArray := prog_3_method_13_code
def yX1_targetFor : MethodName := ⟨RX1, "targetFor", "(III)I"⟩
abbrev cX1_cratesAbove : ByteArray := prog_3_method_14_code
def yX1_cratesAbove : MethodName := ⟨RX1, "cratesAbove", "(I)I"⟩
abbrev cX1_feeOfOneDay : ByteArray := prog_3_method_15_code
def yX1_feeOfOneDay : MethodName := ⟨RX1, "feeOfOneDay", "()I"⟩
def RX2 : String := "CraneYard$Words"
def TX2 : u_T := fun k => match k with
  | 0 => ("CraneYard$Words", "letters", "[I", true)
  | 1 => ("CraneYard$Words", "lengths", "[I", true)
  | 2 => ("CraneYard$Words", "paid", "[Z", true)
  | 3 => ("CraneYard$Words", "count", "I", false)
  | _ => ("CraneYard$Words", "sum", "I", false)
def tyX2 : Nat → FieldType := fun k => match k with
  | 0 => .array .int
  | 1 => .array .int
  | 2 => .array .boolean
  | 3 => .int
  | _ => .int
abbrev wsX20 : List Cond := u_ws RX2 TX2 5
theorem nmX2 : ∀ a, a < 5 → ∀ b, b < 5 → a ≠ b → (TX2 a).2.1 ≠ (TX2 b).2.1 := by decide +kernel
theorem tyX2_ok : ∀ k, k < 5 → parseFieldDescriptor (TX2 k).2.2.1 = some (tyX2 k) := by decide +kernel
abbrev cX2_init : ByteArray := prog_4_method_1_code
def yX2_init : MethodName := ⟨RX2, "<init>", "()V"⟩
abbrev cX2_number : ByteArray := prog_4_method_2_code
def yX2_number : MethodName := ⟨RX2, "number", "()I"⟩
abbrev cX2_isPaid : ByteArray := prog_4_method_3_code
def yX2_isPaid : MethodName := ⟨RX2, "isPaid", "(I)Z"⟩
abbrev cX2_paidInAll : ByteArray := prog_4_method_4_code
def yX2_paidInAll : MethodName := ⟨RX2, "paidInAll", "()I"⟩
abbrev cX2_add : ByteArray := prog_4_method_5_code
def yX2_add : MethodName := ⟨RX2, "add", "(IIII)I"⟩
abbrev cX2_payShown : ByteArray := prog_4_method_6_code
def yX2_payShown : MethodName := ⟨RX2, "payShown", "([II)V"⟩
abbrev cX2_isShown : ByteArray := prog_4_method_7_code
def yX2_isShown : MethodName := ⟨RX2, "isShown", "(I[II)Z"⟩
abbrev cX2_isShownFrom : ByteArray := prog_4_method_8_code
def yX2_isShownFrom : MethodName := ⟨RX2, "isShownFrom", "(II[I)Z"⟩
def RX3 : String := "CraneYard"
def TX3 : u_T := fun k => match k with
  | 0 => ("CraneYard", "stacks", "LCraneYard$Stacks;", true)
  | 1 => ("CraneYard", "trial", "LCraneYard$Stacks;", true)
  | 2 => ("CraneYard", "words", "LCraneYard$Words;", true)
  | 3 => ("CraneYard", "hauls", "LCraneYard$Hauls;", true)
  | 4 => ("CraneYard", "letters", "[I", true)
  | 5 => ("CraneYard", "lids", "[I", true)
  | 6 => ("CraneYard", "crateCount", "I", false)
  | 7 => ("CraneYard", "craneCrate", "I", false)
  | 8 => ("CraneYard", "liftCount", "I", false)
  | 9 => ("CraneYard", "day", "I", false)
  | 10 => ("CraneYard", "stormy", "Z", false)
  | _ => ("CraneYard", "fees", "I", false)
def tyX3 : Nat → FieldType := fun k => match k with
  | 0 => .object "CraneYard$Stacks"
  | 1 => .object "CraneYard$Stacks"
  | 2 => .object "CraneYard$Words"
  | 3 => .object "CraneYard$Hauls"
  | 4 => .array .int
  | 5 => .array .int
  | 6 => .int
  | 7 => .int
  | 8 => .int
  | 9 => .int
  | 10 => .boolean
  | _ => .int
abbrev wsX30 : List Cond := u_ws RX3 TX3 12
theorem nmX3 : ∀ a, a < 12 → ∀ b, b < 12 → a ≠ b → (TX3 a).2.1 ≠ (TX3 b).2.1 := by decide +kernel
theorem tyX3_ok : ∀ k, k < 12 → parseFieldDescriptor (TX3 k).2.2.1 = some (tyX3 k) := by decide +kernel
abbrev cX3_init : ByteArray := prog_1_method_1_code
def yX3_init : MethodName := ⟨RX3, "<init>", "()V"⟩
abbrev cX3_arrive : ByteArray := prog_1_method_2_code
def yX3_arrive : MethodName := ⟨RX3, "arrive", "(III)I"⟩
abbrev cX3_lift : ByteArray := prog_1_method_3_code
def yX3_lift : MethodName := ⟨RX3, "lift", "(I)I"⟩
abbrev cX3_drop : ByteArray := prog_1_method_4_code
def yX3_drop : MethodName := ⟨RX3, "drop", "(I)I"⟩
abbrev cX3_dig : ByteArray := prog_1_method_5_code
def yX3_dig : MethodName := ⟨RX3, "dig", "(I)I"⟩
abbrev cX3_crane : ByteArray := prog_1_method_6_code
def yX3_crane : MethodName := ⟨RX3, "crane", "()I"⟩
abbrev cX3_height : ByteArray := prog_1_method_7_code
def yX3_height : MethodName := ⟨RX3, "height", "(I)I"⟩
abbrev cX3_at : ByteArray := prog_1_method_8_code
def yX3_at : MethodName := ⟨RX3, "at", "(II)I"⟩
abbrev cX3_stackOf : ByteArray := prog_1_method_9_code
def yX3_stackOf : MethodName := ⟨RX3, "stackOf", "(I)I"⟩
abbrev cX3_lifts : ByteArray := prog_1_method_10_code
def yX3_lifts : MethodName := ⟨RX3, "lifts", "()I"⟩
abbrev cX3_fewestLifts : ByteArray := prog_1_method_11_code
def yX3_fewestLifts : MethodName := ⟨RX3, "fewestLifts", "(I)I"⟩
abbrev cX3_tell : ByteArray := prog_1_method_12_code
def yX3_tell : MethodName := ⟨RX3, "tell", "(IIII)I"⟩
abbrev cX3_hasPaid : ByteArray := prog_1_method_13_code
def yX3_hasPaid : MethodName := ⟨RX3, "hasPaid", "(I)Z"⟩
abbrev cX3_bonus : ByteArray := prog_1_method_14_code
def yX3_bonus : MethodName := ⟨RX3, "bonus", "()I"⟩
abbrev cX3_offer : ByteArray := prog_1_method_15_code
def yX3_offer : MethodName := ⟨RX3, "offer", "(II)I"⟩
abbrev cX3_bid : ByteArray := prog_1_method_16_code
def yX3_bid : MethodName := ⟨RX3, "bid", "(III)V"⟩
abbrev cX3_give : ByteArray := prog_1_method_17_code
def yX3_give : MethodName := ⟨RX3, "give", "(I)I"⟩
abbrev cX3_load : ByteArray := prog_1_method_18_code
def yX3_load : MethodName := ⟨RX3, "load", "()I"⟩
abbrev cX3_state : ByteArray := prog_1_method_19_code
def yX3_state : MethodName := ⟨RX3, "state", "(I)I"⟩
abbrev cX3_storm : ByteArray := prog_1_method_20_code
def yX3_storm : MethodName := ⟨RX3, "storm", "()I"⟩
abbrev cX3_pass : ByteArray := prog_1_method_21_code
def yX3_pass : MethodName := ⟨RX3, "pass", "(I)I"⟩
abbrev cX3_today : ByteArray := prog_1_method_22_code
def yX3_today : MethodName := ⟨RX3, "today", "()I"⟩
abbrev cX3_balance : ByteArray := prog_1_method_23_code
def yX3_balance : MethodName := ⟨RX3, "balance", "()I"⟩
abbrev cX3_requireStack : ByteArray := prog_1_method_24_code
def yX3_requireStack : MethodName := ⟨RX3, "requireStack", "(I)V"⟩
abbrev cX3_requireLetter : ByteArray := prog_1_method_25_code
def yX3_requireLetter : MethodName := ⟨RX3, "requireLetter", "(I)V"⟩
abbrev cX3_requireCrate : ByteArray := prog_1_method_26_code
def yX3_requireCrate : MethodName := ⟨RX3, "requireCrate", "(I)V"⟩
abbrev cX3_requireHaul : ByteArray := prog_1_method_27_code
def yX3_requireHaul : MethodName := ⟨RX3, "requireHaul", "(I)V"⟩
abbrev cX3_requireOffered : ByteArray := prog_1_method_28_code
def yX3_requireOffered : MethodName := ⟨RX3, "requireOffered", "(I)V"⟩
abbrev cX3_requireEmptyCrane : ByteArray := prog_1_method_29_code
def yX3_requireEmptyCrane : MethodName := ⟨RX3, "requireEmptyCrane", "()V"⟩
abbrev cX3_requireFullCrane : ByteArray := prog_1_method_30_code
def yX3_requireFullCrane : MethodName := ⟨RX3, "requireFullCrane", "()V"⟩
abbrev cX3_requireInStack : ByteArray := prog_1_method_31_code
def yX3_requireInStack : MethodName := ⟨RX3, "requireInStack", "(I)V"⟩
abbrev cX3_requireRoom : ByteArray := prog_1_method_32_code
def yX3_requireRoom : MethodName := ⟨RX3, "requireRoom", "(II)V"⟩
abbrev cX3_mostPlaces : ByteArray := prog_1_method_33_code
def yX3_mostPlaces : MethodName := ⟨RX3, "mostPlaces", "()I"⟩
abbrev cX3_payWords : ByteArray := prog_1_method_34_code
def yX3_payWords : MethodName := ⟨RX3, "payWords", "()V"⟩
abbrev cX3_endDay : ByteArray := prog_1_method_35_code
def yX3_endDay : MethodName := ⟨RX3, "endDay", "()V"⟩
abbrev cX3_areInStacks : ByteArray := prog_1_method_36_code
def yX3_areInStacks : MethodName := ⟨RX3, "areInStacks", "(I)Z"⟩
abbrev cX3_contains : ByteArray := prog_1_method_37_code
def yX3_contains : MethodName := ⟨RX3, "contains", "(II)Z"⟩
abbrev cX3_ordersOf : ByteArray := prog_1_method_38_code
def yX3_ordersOf : MethodName := ⟨RX3, "ordersOf", "(I)I"⟩
abbrev cX3_liftsInOrder : ByteArray := prog_1_method_39_code
def yX3_liftsInOrder : MethodName := ⟨RX3, "liftsInOrder", "(II)I"⟩
abbrev cX3_memberOf : ByteArray := prog_1_method_40_code
def yX3_memberOf : MethodName := ⟨RX3, "memberOf", "(II)I"⟩
def RX4 : String := "CraneYardModel"
def TX4 : u_T := fun k => match k with
  | 0 => ("CraneYardModel", "thrown", "I", false)
  | 1 => ("CraneYardModel", "yard", "[I", true)
  | 2 => ("CraneYardModel", "heights", "[I", true)
  | 3 => ("CraneYardModel", "weights", "[I", true)
  | 4 => ("CraneYardModel", "letters", "[I", true)
  | 5 => ("CraneYardModel", "crates", "I", false)
  | 6 => ("CraneYardModel", "crane", "I", false)
  | 7 => ("CraneYardModel", "lifts", "I", false)
  | 8 => ("CraneYardModel", "tried", "[I", true)
  | 9 => ("CraneYardModel", "triedHeights", "[I", true)
  | 10 => ("CraneYardModel", "words", "[I", true)
  | 11 => ("CraneYardModel", "hasPaid", "[Z", true)
  | 12 => ("CraneYardModel", "many", "I", false)
  | 13 => ("CraneYardModel", "bonus", "I", false)
  | 14 => ("CraneYardModel", "loads", "[I", true)
  | 15 => ("CraneYardModel", "lastDays", "[I", true)
  | 16 => ("CraneYardModel", "states", "[I", true)
  | 17 => ("CraneYardModel", "prices", "[I", true)
  | 18 => ("CraneYardModel", "bids", "[I", true)
  | 19 => ("CraneYardModel", "hauls", "I", false)
  | 20 => ("CraneYardModel", "today", "I", false)
  | 21 => ("CraneYardModel", "isStorm", "Z", false)
  | _ => ("CraneYardModel", "fees", "I", false)
def tyX4 : Nat → FieldType := fun k => match k with
  | 0 => .int
  | 1 => .array .int
  | 2 => .array .int
  | 3 => .array .int
  | 4 => .array .int
  | 5 => .int
  | 6 => .int
  | 7 => .int
  | 8 => .array .int
  | 9 => .array .int
  | 10 => .array .int
  | 11 => .array .boolean
  | 12 => .int
  | 13 => .int
  | 14 => .array .int
  | 15 => .array .int
  | 16 => .array .int
  | 17 => .array .int
  | 18 => .array .int
  | 19 => .int
  | 20 => .int
  | 21 => .boolean
  | _ => .int
abbrev wsX40 : List Cond := u_ws RX4 TX4 23
theorem nmX4 : ∀ a, a < 23 → ∀ b, b < 23 → a ≠ b → (TX4 a).2.1 ≠ (TX4 b).2.1 := by decide +kernel
theorem tyX4_ok : ∀ k, k < 23 → parseFieldDescriptor (TX4 k).2.2.1 = some (tyX4 k) := by decide +kernel
abbrev cX4_init : ByteArray := prog_6_method_1_code
def yX4_init : MethodName := ⟨RX4, "<init>", "()V"⟩
abbrev cX4_thrown : ByteArray := prog_6_method_2_code
def yX4_thrown : MethodName := ⟨RX4, "thrown", "()I"⟩
abbrev cX4_goesWell : ByteArray := prog_6_method_3_code
def yX4_goesWell : MethodName := ⟨RX4, "goesWell", "(I)Z"⟩
abbrev cX4_in : ByteArray := prog_6_method_4_code
def yX4_in : MethodName := ⟨RX4, "in", "(III)Z"⟩
abbrev cX4_isStack : ByteArray := prog_6_method_5_code
def yX4_isStack : MethodName := ⟨RX4, "isStack", "(I)Z"⟩
abbrev cX4_isCrate : ByteArray := prog_6_method_6_code
def yX4_isCrate : MethodName := ⟨RX4, "isCrate", "(I)Z"⟩
abbrev cX4_isHaul : ByteArray := prog_6_method_7_code
def yX4_isHaul : MethodName := ⟨RX4, "isHaul", "(I)Z"⟩
abbrev cX4_most : ByteArray := prog_6_method_8_code
def yX4_most : MethodName := ⟨RX4, "most", "()I"⟩
abbrev cX4_canPut : ByteArray := prog_6_method_9_code
def yX4_canPut : MethodName := ⟨RX4, "canPut", "(II)Z"⟩
abbrev cX4_put : ByteArray := prog_6_method_10_code
def yX4_put : MethodName := ⟨RX4, "put", "(II)V"⟩
abbrev cX4_topOf : ByteArray := prog_6_method_11_code
def yX4_topOf : MethodName := ⟨RX4, "topOf", "(I)I"⟩
abbrev cX4_isOnLids : ByteArray := prog_6_method_12_code
def yX4_isOnLids : MethodName := ⟨RX4, "isOnLids", "(II)Z"⟩
abbrev cX4_sizeOf : ByteArray := prog_6_method_13_code
def yX4_sizeOf : MethodName := ⟨RX4, "sizeOf", "(I)I"⟩
abbrev cX4_payWords : ByteArray := prog_6_method_14_code
def yX4_payWords : MethodName := ⟨RX4, "payWords", "()V"⟩
abbrev cX4_arrive : ByteArray := prog_6_method_15_code
def yX4_arrive : MethodName := ⟨RX4, "arrive", "(III)I"⟩
abbrev cX4_lift : ByteArray := prog_6_method_16_code
def yX4_lift : MethodName := ⟨RX4, "lift", "(I)I"⟩
abbrev cX4_drop : ByteArray := prog_6_method_17_code
def yX4_drop : MethodName := ⟨RX4, "drop", "(I)I"⟩
abbrev cX4_copyYard : ByteArray := prog_6_method_18_code
def yX4_copyYard : MethodName := ⟨RX4, "copyYard", "()V"⟩
abbrev cX4_canTry : ByteArray := prog_6_method_19_code
def yX4_canTry : MethodName := ⟨RX4, "canTry", "(II)Z"⟩
abbrev cX4_find : ByteArray := prog_6_method_20_code
def yX4_find : MethodName := ⟨RX4, "find", "(I)I"⟩
abbrev cX4_digOut : ByteArray := prog_6_method_21_code
def yX4_digOut : MethodName := ⟨RX4, "digOut", "(I)I"⟩
abbrev cX4_dig : ByteArray := prog_6_method_22_code
def yX4_dig : MethodName := ⟨RX4, "dig", "(I)I"⟩
abbrev cX4_crane : ByteArray := prog_6_method_23_code
def yX4_crane : MethodName := ⟨RX4, "crane", "()I"⟩
abbrev cX4_height : ByteArray := prog_6_method_24_code
def yX4_height : MethodName := ⟨RX4, "height", "(I)I"⟩
abbrev cX4_at : ByteArray := prog_6_method_25_code
def yX4_at : MethodName := ⟨RX4, "at", "(II)I"⟩
abbrev cX4_stackOf : ByteArray := prog_6_method_26_code
def yX4_stackOf : MethodName := ⟨RX4, "stackOf", "(I)I"⟩
abbrev cX4_lifts : ByteArray := prog_6_method_27_code
def yX4_lifts : MethodName := ⟨RX4, "lifts", "()I"⟩
abbrev cX4_member : ByteArray := prog_6_method_28_code
def yX4_member : MethodName := ⟨RX4, "member", "(II)I"⟩
abbrev cX4_bits : ByteArray := prog_6_method_29_code
def yX4_bits : MethodName := ⟨RX4, "bits", "(I)I"⟩
abbrev cX4_isSet : ByteArray := prog_6_method_30_code
def yX4_isSet : MethodName := ⟨RX4, "isSet", "(I)Z"⟩
abbrev cX4_liftsBy : ByteArray := prog_6_method_31_code
def yX4_liftsBy : MethodName := ⟨RX4, "liftsBy", "(III)I"⟩
abbrev cX4_fewestLifts : ByteArray := prog_6_method_32_code
def yX4_fewestLifts : MethodName := ⟨RX4, "fewestLifts", "(I)I"⟩
abbrev cX4_isLetter : ByteArray := prog_6_method_33_code
def yX4_isLetter : MethodName := ⟨RX4, "isLetter", "(I)Z"⟩
abbrev cX4_tell : ByteArray := prog_6_method_34_code
def yX4_tell : MethodName := ⟨RX4, "tell", "(IIII)I"⟩
abbrev cX4_hasPaid : ByteArray := prog_6_method_35_code
def yX4_hasPaid : MethodName := ⟨RX4, "hasPaid", "(I)Z"⟩
abbrev cX4_bonus : ByteArray := prog_6_method_36_code
def yX4_bonus : MethodName := ⟨RX4, "bonus", "()I"⟩
abbrev cX4_haulOf : ByteArray := prog_6_method_37_code
def yX4_haulOf : MethodName := ⟨RX4, "haulOf", "(I)I"⟩
abbrev cX4_offer : ByteArray := prog_6_method_38_code
def yX4_offer : MethodName := ⟨RX4, "offer", "(II)I"⟩
abbrev cX4_bid : ByteArray := prog_6_method_39_code
def yX4_bid : MethodName := ⟨RX4, "bid", "(III)V"⟩
abbrev cX4_cheapest : ByteArray := prog_6_method_40_code
def yX4_cheapest : MethodName := ⟨RX4, "cheapest", "(I)I"⟩
abbrev cX4_give : ByteArray := prog_6_method_41_code
def yX4_give : MethodName := ⟨RX4, "give", "(I)I"⟩
abbrev cX4_load : ByteArray := prog_6_method_42_code
def yX4_load : MethodName := ⟨RX4, "load", "()I"⟩
abbrev cX4_state : ByteArray := prog_6_method_43_code
def yX4_state : MethodName := ⟨RX4, "state", "(I)I"⟩
abbrev cX4_storm : ByteArray := prog_6_method_44_code
def yX4_storm : MethodName := ⟨RX4, "storm", "()I"⟩
abbrev cX4_endDay : ByteArray := prog_6_method_45_code
def yX4_endDay : MethodName := ⟨RX4, "endDay", "()I"⟩
abbrev cX4_pass : ByteArray := prog_6_method_46_code
def yX4_pass : MethodName := ⟨RX4, "pass", "(I)I"⟩
abbrev cX4_today : ByteArray := prog_6_method_47_code
def yX4_today : MethodName := ⟨RX4, "today", "()I"⟩
abbrev cX4_balance : ByteArray := prog_6_method_48_code
def yX4_balance : MethodName := ⟨RX4, "balance", "()I"⟩
def RJ6 : String := "java/lang/Integer"
def TJ6 : u_T := fun k => match k with
  | _ => ("", "", "", false)
def tyJ6 : Nat → FieldType := fun k => match k with
  | _ => .int
abbrev wsJ60 : List Cond := u_ws RJ6 TJ6 0
theorem nmJ6 : ∀ a, a < 0 → ∀ b, b < 0 → a ≠ b → (TJ6 a).2.1 ≠ (TJ6 b).2.1 := by decide +kernel
theorem tyJ6_ok : ∀ k, k < 0 → parseFieldDescriptor (TJ6 k).2.2.1 = some (tyJ6 k) := by decide +kernel
abbrev cJ6_bitCount_0f7a4 : ByteArray := prog_11_method_49_code
def yJ6_bitCount_0f7a4 : MethodName := ⟨RJ6, "bitCount", "(I)I"⟩
def RJ9 : String := "java/lang/Math"
def TJ9 : u_T := fun k => match k with
  | _ => ("", "", "", false)
def tyJ9 : Nat → FieldType := fun k => match k with
  | _ => .int
abbrev wsJ90 : List Cond := u_ws RJ9 TJ9 0
theorem nmJ9 : ∀ a, a < 0 → ∀ b, b < 0 → a ≠ b → (TJ9 a).2.1 ≠ (TJ9 b).2.1 := by decide +kernel
theorem tyJ9_ok : ∀ k, k < 0 → parseFieldDescriptor (TJ9 k).2.2.1 = some (tyJ9 k) := by decide +kernel
abbrev cJ9_max_7cf53 : ByteArray := prog_12_method_65_code
def yJ9_max_7cf53 : MethodName := ⟨RJ9, "max", "(II)I"⟩
abbrev cJ9_min_7cf53 : ByteArray := prog_12_method_69_code
def yJ9_min_7cf53 : MethodName := ⟨RJ9, "min", "(II)I"⟩
def RJ0 : String := "java/lang/String"
def TJ0 : u_T := fun k => match k with
  | _ => ("", "", "", false)
def tyJ0 : Nat → FieldType := fun k => match k with
  | _ => .int
abbrev wsJ00 : List Cond := u_ws RJ0 TJ0 0
theorem nmJ0 : ∀ a, a < 0 → ∀ b, b < 0 → a ≠ b → (TJ0 a).2.1 ≠ (TJ0 b).2.1 := by decide +kernel
theorem tyJ0_ok : ∀ k, k < 0 → parseFieldDescriptor (TJ0 k).2.2.1 = some (tyJ0 k) := by decide +kernel
def RJ10 : String := "java/lang/System"
def TJ10 : u_T := fun k => match k with
  | _ => ("", "", "", false)
def tyJ10 : Nat → FieldType := fun k => match k with
  | _ => .int
abbrev wsJ100 : List Cond := u_ws RJ10 TJ10 0
theorem nmJ10 : ∀ a, a < 0 → ∀ b, b < 0 → a ≠ b → (TJ10 a).2.1 ≠ (TJ10 b).2.1 := by decide +kernel
theorem tyJ10_ok : ∀ k, k < 0 → parseFieldDescriptor (TJ10 k).2.2.1 = some (tyJ10 k) := by decide +kernel
def RL : String := "CraneYardLaw"
abbrev cL_arrive : ByteArray := method_3_code
def yL_arrive : MethodName := ⟨RL, "arrive", "(LCraneYard;III[J)I"⟩
abbrev cL_lift : ByteArray := method_4_code
def yL_lift : MethodName := ⟨RL, "lift", "(LCraneYard;I[J)I"⟩
abbrev cL_drop : ByteArray := method_5_code
def yL_drop : MethodName := ⟨RL, "drop", "(LCraneYard;I[J)I"⟩
abbrev cL_dig : ByteArray := method_6_code
def yL_dig : MethodName := ⟨RL, "dig", "(LCraneYard;I[J)I"⟩
abbrev cL_height : ByteArray := method_7_code
def yL_height : MethodName := ⟨RL, "height", "(LCraneYard;I[J)I"⟩
abbrev cL_at : ByteArray := method_8_code
def yL_at : MethodName := ⟨RL, "at", "(LCraneYard;II[J)I"⟩
abbrev cL_stackOf : ByteArray := method_9_code
def yL_stackOf : MethodName := ⟨RL, "stackOf", "(LCraneYard;I[J)I"⟩
abbrev cL_fewestLifts : ByteArray := method_10_code
def yL_fewestLifts : MethodName := ⟨RL, "fewestLifts", "(LCraneYard;I[J)I"⟩
abbrev cL_tell : ByteArray := method_11_code
def yL_tell : MethodName := ⟨RL, "tell", "(LCraneYard;IIII[J)I"⟩
abbrev cL_hasPaid : ByteArray := method_12_code
def yL_hasPaid : MethodName := ⟨RL, "hasPaid", "(LCraneYard;I[J)I"⟩
abbrev cL_offer : ByteArray := method_13_code
def yL_offer : MethodName := ⟨RL, "offer", "(LCraneYard;II[J)I"⟩
abbrev cL_bid : ByteArray := method_14_code
def yL_bid : MethodName := ⟨RL, "bid", "(LCraneYard;III)I"⟩
abbrev cL_give : ByteArray := method_15_code
def yL_give : MethodName := ⟨RL, "give", "(LCraneYard;I[J)I"⟩
abbrev cL_load : ByteArray := method_16_code
def yL_load : MethodName := ⟨RL, "load", "(LCraneYard;[J)I"⟩
abbrev cL_state : ByteArray := method_17_code
def yL_state : MethodName := ⟨RL, "state", "(LCraneYard;I[J)I"⟩
abbrev cL_pass : ByteArray := method_18_code
def yL_pass : MethodName := ⟨RL, "pass", "(LCraneYard;I[J)I"⟩
abbrev cL_law : ByteArray := code
def yL_law : MethodName := ⟨RL, "law", "([I)Z"⟩
def wsX0_init : List Cond := .code yX0_init cX0_init 1 none :: ([.methodLink RX0 3 objectInit, .instanceMethod objectInit, .code objectInit ⟨#[0xb1]⟩ 1 none, .arrayClass .int, .fieldLink RX0 9 "CraneYard$Hauls" "crates" "[I", .fieldLink RX0 15 "CraneYard$Hauls" "lastDays" "[I", .fieldLink RX0 18 "CraneYard$Hauls" "states" "[I", .fieldLink RX0 21 "CraneYard$Hauls" "prices" "[I", .fieldLink RX0 24 "CraneYard$Hauls" "bids" "[I", .fieldLink RX0 27 "CraneYard$Hauls" "count" "I", .fieldLink RX0 31 "CraneYard$Hauls" "pricesPaid" "I", .fieldLink RX0 34 "CraneYard$Hauls" "owed" "I"] ++ wsX00)
def wsX0_number : List Cond := .code yX0_number cX0_number 1 (some .int) :: ([.fieldLink RX0 27 "CraneYard$Hauls" "count" "I"] ++ wsX00)
def wsX0_pricesOfDone : List Cond := .code yX0_pricesOfDone cX0_pricesOfDone 1 (some .int) :: ([.fieldLink RX0 31 "CraneYard$Hauls" "pricesPaid" "I"] ++ wsX00)
def wsX0_owedForLate : List Cond := .code yX0_owedForLate cX0_owedForLate 1 (some .int) :: ([.fieldLink RX0 34 "CraneYard$Hauls" "owed" "I"] ++ wsX00)
def wsX0_stateOf : List Cond := .code yX0_stateOf cX0_stateOf 2 (some .int) :: ([.fieldLink RX0 27 "CraneYard$Hauls" "count" "I", .fieldLink RX0 18 "CraneYard$Hauls" "states" "[I"] ++ wsX00)
def wsX0_isOpen : List Cond := .code yX0_isOpen cX0_isOpen 3 (some .boolean) :: ([.methodLink RX0 37 yX0_stateOf, .instanceMethod yX0_stateOf, .selects RX0 yX0_stateOf yX0_stateOf, .initialized RX0, .code yX0_stateOf cX0_stateOf 2 (some .int), .fieldLink RX0 27 "CraneYard$Hauls" "count" "I", .fieldLink RX0 18 "CraneYard$Hauls" "states" "[I"] ++ wsX00)
def wsX0_openHaulOf : List Cond := .code yX0_openHaulOf cX0_openHaulOf 3 (some .int) :: ([.fieldLink RX0 27 "CraneYard$Hauls" "count" "I", .fieldLink RX0 9 "CraneYard$Hauls" "crates" "[I", .methodLink RX0 41 yX0_isOpen, .instanceMethod yX0_isOpen, .selects RX0 yX0_isOpen yX0_isOpen, .initialized RX0, .code yX0_isOpen cX0_isOpen 3 (some .boolean), .methodLink RX0 37 yX0_stateOf, .instanceMethod yX0_stateOf, .selects RX0 yX0_stateOf yX0_stateOf, .code yX0_stateOf cX0_stateOf 2 (some .int), .fieldLink RX0 18 "CraneYard$Hauls" "states" "[I"] ++ wsX00)
def wsX0_add : List Cond := .code yX0_add cX0_add 4 (some .int) :: ([.fieldLink RX0 27 "CraneYard$Hauls" "count" "I", .fieldLink RX0 9 "CraneYard$Hauls" "crates" "[I", .fieldLink RX0 15 "CraneYard$Hauls" "lastDays" "[I", .fieldLink RX0 18 "CraneYard$Hauls" "states" "[I"] ++ wsX00)
def wsX0_isPlaceForBid : List Cond := .code yX0_isPlaceForBid cX0_isPlaceForBid 3 (some .boolean) :: ([.fieldLink RX0 27 "CraneYard$Hauls" "count" "I"] ++ wsX00)
def wsX0_priceAsked : List Cond := .code yX0_priceAsked cX0_priceAsked 3 (some .int) :: ([.fieldLink RX0 24 "CraneYard$Hauls" "bids" "[I", .methodLink RX0 45 yX0_isPlaceForBid, .instanceMethod yX0_isPlaceForBid, .selects RX0 yX0_isPlaceForBid yX0_isPlaceForBid, .initialized RX0, .code yX0_isPlaceForBid cX0_isPlaceForBid 3 (some .boolean), .fieldLink RX0 27 "CraneYard$Hauls" "count" "I"] ++ wsX00)
def wsX0_enterBid : List Cond := .code yX0_enterBid cX0_enterBid 4 none :: ([.fieldLink RX0 24 "CraneYard$Hauls" "bids" "[I", .methodLink RX0 45 yX0_isPlaceForBid, .instanceMethod yX0_isPlaceForBid, .selects RX0 yX0_isPlaceForBid yX0_isPlaceForBid, .initialized RX0, .code yX0_isPlaceForBid cX0_isPlaceForBid 3 (some .boolean), .fieldLink RX0 27 "CraneYard$Hauls" "count" "I"] ++ wsX00)
def wsX0_cheapestHaulier : List Cond := .code yX0_cheapestHaulier cX0_cheapestHaulier 5 (some .int) :: ([.methodLink RX0 49 yX0_priceAsked, .instanceMethod yX0_priceAsked, .selects RX0 yX0_priceAsked yX0_priceAsked, .initialized RX0, .code yX0_priceAsked cX0_priceAsked 3 (some .int), .fieldLink RX0 24 "CraneYard$Hauls" "bids" "[I", .methodLink RX0 45 yX0_isPlaceForBid, .instanceMethod yX0_isPlaceForBid, .selects RX0 yX0_isPlaceForBid yX0_isPlaceForBid, .code yX0_isPlaceForBid cX0_isPlaceForBid 3 (some .boolean), .fieldLink RX0 27 "CraneYard$Hauls" "count" "I"] ++ wsX00)
def wsX0_giveTo : List Cond := .code yX0_giveTo cX0_giveTo 3 none :: ([.fieldLink RX0 18 "CraneYard$Hauls" "states" "[I", .fieldLink RX0 21 "CraneYard$Hauls" "prices" "[I", .methodLink RX0 45 yX0_isPlaceForBid, .instanceMethod yX0_isPlaceForBid, .selects RX0 yX0_isPlaceForBid yX0_isPlaceForBid, .initialized RX0, .code yX0_isPlaceForBid cX0_isPlaceForBid 3 (some .boolean), .fieldLink RX0 27 "CraneYard$Hauls" "count" "I", .methodLink RX0 49 yX0_priceAsked, .instanceMethod yX0_priceAsked, .selects RX0 yX0_priceAsked yX0_priceAsked, .code yX0_priceAsked cX0_priceAsked 3 (some .int), .fieldLink RX0 24 "CraneYard$Hauls" "bids" "[I"] ++ wsX00)
def wsX0_finish : List Cond := .code yX0_finish cX0_finish 2 (some .int) :: ([.fieldLink RX0 27 "CraneYard$Hauls" "count" "I", .fieldLink RX0 18 "CraneYard$Hauls" "states" "[I", .fieldLink RX0 31 "CraneYard$Hauls" "pricesPaid" "I", .fieldLink RX0 21 "CraneYard$Hauls" "prices" "[I"] ++ wsX00)
def wsX0_endDay : List Cond := .code yX0_endDay cX0_endDay 3 none :: ([.fieldLink RX0 27 "CraneYard$Hauls" "count" "I", .fieldLink RX0 15 "CraneYard$Hauls" "lastDays" "[I", .fieldLink RX0 18 "CraneYard$Hauls" "states" "[I", .fieldLink RX0 34 "CraneYard$Hauls" "owed" "I", .methodLink RX0 41 yX0_isOpen, .instanceMethod yX0_isOpen, .selects RX0 yX0_isOpen yX0_isOpen, .initialized RX0, .code yX0_isOpen cX0_isOpen 3 (some .boolean), .methodLink RX0 37 yX0_stateOf, .instanceMethod yX0_stateOf, .selects RX0 yX0_stateOf yX0_stateOf, .code yX0_stateOf cX0_stateOf 2 (some .int)] ++ wsX00)
def wsX1_init : List Cond := .code yX1_init cX1_init 1 none :: ([.methodLink RX1 3 objectInit, .instanceMethod objectInit, .code objectInit ⟨#[0xb1]⟩ 1 none, .arrayClass .int, .fieldLink RX1 9 "CraneYard$Stacks" "heights" "[I", .fieldLink RX1 15 "CraneYard$Stacks" "cells" "[I", .fieldLink RX1 18 "CraneYard$Stacks" "weights" "[I"] ++ wsX10)
def wsX1_copyFrom : List Cond := .code yX1_copyFrom cX1_copyFrom 2 none :: ([.fieldLink RX1 9 "CraneYard$Stacks" "heights" "[I", .methodLink RX1 21 arraycopyName, .native arraycopyName, .static arraycopyName, .initialized "java/lang/System", .fieldLink RX1 15 "CraneYard$Stacks" "cells" "[I", .fieldLink RX1 18 "CraneYard$Stacks" "weights" "[I"] ++ wsX10)
def wsX1_setWeight : List Cond := .code yX1_setWeight cX1_setWeight 3 none :: ([.fieldLink RX1 18 "CraneYard$Stacks" "weights" "[I"] ++ wsX10)
def wsX1_weightOf : List Cond := .code yX1_weightOf cX1_weightOf 2 (some .int) :: ([.fieldLink RX1 18 "CraneYard$Stacks" "weights" "[I"] ++ wsX10)
def wsX1_heightOf : List Cond := .code yX1_heightOf cX1_heightOf 2 (some .int) :: ([.fieldLink RX1 9 "CraneYard$Stacks" "heights" "[I"] ++ wsX10)
def wsX1_crateAt : List Cond := .code yX1_crateAt cX1_crateAt 3 (some .int) :: ([.fieldLink RX1 15 "CraneYard$Stacks" "cells" "[I", .methodLink RX1 27 yX1_heightOf, .instanceMethod yX1_heightOf, .selects RX1 yX1_heightOf yX1_heightOf, .initialized RX1, .code yX1_heightOf cX1_heightOf 2 (some .int), .fieldLink RX1 9 "CraneYard$Stacks" "heights" "[I"] ++ wsX10)
def wsX1_topOf : List Cond := .code yX1_topOf cX1_topOf 3 (some .int) :: ([.fieldLink RX1 15 "CraneYard$Stacks" "cells" "[I", .methodLink RX1 27 yX1_heightOf, .instanceMethod yX1_heightOf, .selects RX1 yX1_heightOf yX1_heightOf, .initialized RX1, .code yX1_heightOf cX1_heightOf 2 (some .int), .fieldLink RX1 9 "CraneYard$Stacks" "heights" "[I"] ++ wsX10)
def wsX1_stackHolding : List Cond := .code yX1_stackHolding cX1_stackHolding 4 (some .int) :: ([.fieldLink RX1 9 "CraneYard$Stacks" "heights" "[I", .fieldLink RX1 15 "CraneYard$Stacks" "cells" "[I"] ++ wsX10)
def wsX1_canTake : List Cond := .code yX1_canTake cX1_canTake 5 (some .boolean) :: ([.methodLink RX1 27 yX1_heightOf, .instanceMethod yX1_heightOf, .selects RX1 yX1_heightOf yX1_heightOf, .initialized RX1, .code yX1_heightOf cX1_heightOf 2 (some .int), .fieldLink RX1 9 "CraneYard$Stacks" "heights" "[I", .methodLink RX1 31 yX1_topOf, .instanceMethod yX1_topOf, .selects RX1 yX1_topOf yX1_topOf, .code yX1_topOf cX1_topOf 3 (some .int), .fieldLink RX1 15 "CraneYard$Stacks" "cells" "[I", .methodLink RX1 34 yX1_weightOf, .instanceMethod yX1_weightOf, .selects RX1 yX1_weightOf yX1_weightOf, .code yX1_weightOf cX1_weightOf 2 (some .int), .fieldLink RX1 18 "CraneYard$Stacks" "weights" "[I"] ++ wsX10)
def wsX1_put : List Cond := .code yX1_put cX1_put 4 none :: ([.fieldLink RX1 15 "CraneYard$Stacks" "cells" "[I", .fieldLink RX1 9 "CraneYard$Stacks" "heights" "[I", .methodLink RX1 27 yX1_heightOf, .instanceMethod yX1_heightOf, .selects RX1 yX1_heightOf yX1_heightOf, .initialized RX1, .code yX1_heightOf cX1_heightOf 2 (some .int)] ++ wsX10)
def wsX1_takeTop : List Cond := .code yX1_takeTop cX1_takeTop 3 (some .int) :: ([.fieldLink RX1 9 "CraneYard$Stacks" "heights" "[I", .methodLink RX1 31 yX1_topOf, .instanceMethod yX1_topOf, .selects RX1 yX1_topOf yX1_topOf, .initialized RX1, .code yX1_topOf cX1_topOf 3 (some .int), .fieldLink RX1 15 "CraneYard$Stacks" "cells" "[I", .methodLink RX1 27 yX1_heightOf, .instanceMethod yX1_heightOf, .selects RX1 yX1_heightOf yX1_heightOf, .code yX1_heightOf cX1_heightOf 2 (some .int)] ++ wsX10)
def wsX1_targetFor : List Cond := .code yX1_targetFor cX1_targetFor 6 (some .int) :: ([.methodLink RX1 51 yX1_canTake, .instanceMethod yX1_canTake, .selects RX1 yX1_canTake yX1_canTake, .initialized RX1, .code yX1_canTake cX1_canTake 5 (some .boolean), .methodLink RX1 27 yX1_heightOf, .instanceMethod yX1_heightOf, .selects RX1 yX1_heightOf yX1_heightOf, .code yX1_heightOf cX1_heightOf 2 (some .int), .fieldLink RX1 9 "CraneYard$Stacks" "heights" "[I", .methodLink RX1 31 yX1_topOf, .instanceMethod yX1_topOf, .selects RX1 yX1_topOf yX1_topOf, .code yX1_topOf cX1_topOf 3 (some .int), .fieldLink RX1 15 "CraneYard$Stacks" "cells" "[I", .methodLink RX1 34 yX1_weightOf, .instanceMethod yX1_weightOf, .selects RX1 yX1_weightOf yX1_weightOf, .code yX1_weightOf cX1_weightOf 2 (some .int), .fieldLink RX1 18 "CraneYard$Stacks" "weights" "[I"] ++ wsX10)
def wsX1_digOut_r1 : List Cond := [Cond.methodLink RX1 37 yX1_stackHolding, Cond.instanceMethod yX1_stackHolding, Cond.selects RX1 yX1_stackHolding yX1_stackHolding, Cond.initialized RX1, Cond.code yX1_stackHolding cX1_stackHolding 4 (some .int), Cond.fieldLink RX1 9 "CraneYard$Stacks" "heights" "[I", Cond.fieldLink RX1 15 "CraneYard$Stacks" "cells" "[I", Cond.methodLink RX1 40 yX1_takeTop, Cond.instanceMethod yX1_takeTop, Cond.selects RX1 yX1_takeTop yX1_takeTop, Cond.code yX1_takeTop cX1_takeTop 3 (some .int), Cond.methodLink RX1 31 yX1_topOf, Cond.instanceMethod yX1_topOf, Cond.selects RX1 yX1_topOf yX1_topOf, Cond.code yX1_topOf cX1_topOf 3 (some .int), Cond.methodLink RX1 27 yX1_heightOf, Cond.instanceMethod yX1_heightOf, Cond.selects RX1 yX1_heightOf yX1_heightOf, Cond.code yX1_heightOf cX1_heightOf 2 (some .int), Cond.methodLink RX1 34 yX1_weightOf, Cond.instanceMethod yX1_weightOf, Cond.selects RX1 yX1_weightOf yX1_weightOf, Cond.code yX1_weightOf cX1_weightOf 2 (some .int), Cond.fieldLink RX1 18 "CraneYard$Stacks" "weights" "[I"]
def wsX1_digOut_r2 : List Cond := [Cond.methodLink RX1 43 yX1_targetFor, Cond.instanceMethod yX1_targetFor, Cond.selects RX1 yX1_targetFor yX1_targetFor, Cond.code yX1_targetFor cX1_targetFor 6 (some .int), Cond.methodLink RX1 51 yX1_canTake, Cond.instanceMethod yX1_canTake, Cond.selects RX1 yX1_canTake yX1_canTake, Cond.code yX1_canTake cX1_canTake 5 (some .boolean), Cond.methodLink RX1 47 yX1_put, Cond.instanceMethod yX1_put, Cond.selects RX1 yX1_put yX1_put, Cond.code yX1_put cX1_put 4 none]
def wsX1_digOut : List Cond := .code yX1_digOut cX1_digOut 7 (some .int) :: ((wsX1_digOut_r1 ++ wsX1_digOut_r2) ++ wsX10)
def wsX1_cratesAbove : List Cond := .code yX1_cratesAbove cX1_cratesAbove 4 (some .int) :: ([.fieldLink RX1 9 "CraneYard$Stacks" "heights" "[I", .methodLink RX1 55 Lib.Math.max.name, .static Lib.Math.max.name, .initialized "java/lang/Math", .code Lib.Math.max.name Lib.Math.max.code 2 (some .int)] ++ wsX10)
def wsX1_feeOfOneDay : List Cond := .code yX1_feeOfOneDay cX1_feeOfOneDay 3 (some .int) :: ([.fieldLink RX1 9 "CraneYard$Stacks" "heights" "[I"] ++ wsX10)
def wsX2_init : List Cond := .code yX2_init cX2_init 1 none :: ([.methodLink RX2 3 objectInit, .instanceMethod objectInit, .code objectInit ⟨#[0xb1]⟩ 1 none, .arrayClass .int, .fieldLink RX2 9 "CraneYard$Words" "letters" "[I", .fieldLink RX2 15 "CraneYard$Words" "lengths" "[I", .arrayClass .boolean, .fieldLink RX2 18 "CraneYard$Words" "paid" "[Z", .fieldLink RX2 22 "CraneYard$Words" "count" "I", .fieldLink RX2 26 "CraneYard$Words" "sum" "I"] ++ wsX20)
def wsX2_number : List Cond := .code yX2_number cX2_number 1 (some .int) :: ([.fieldLink RX2 22 "CraneYard$Words" "count" "I"] ++ wsX20)
def wsX2_isPaid : List Cond := .code yX2_isPaid cX2_isPaid 2 (some .boolean) :: ([.fieldLink RX2 22 "CraneYard$Words" "count" "I", .fieldLink RX2 18 "CraneYard$Words" "paid" "[Z"] ++ wsX20)
def wsX2_paidInAll : List Cond := .code yX2_paidInAll cX2_paidInAll 1 (some .int) :: ([.fieldLink RX2 26 "CraneYard$Words" "sum" "I"] ++ wsX20)
def wsX2_add : List Cond := .code yX2_add cX2_add 7 (some .int) :: ([.fieldLink RX2 22 "CraneYard$Words" "count" "I", .fieldLink RX2 9 "CraneYard$Words" "letters" "[I", .fieldLink RX2 15 "CraneYard$Words" "lengths" "[I"] ++ wsX20)
def wsX2_isShownFrom : List Cond := .code yX2_isShownFrom cX2_isShownFrom 5 (some .boolean) :: ([.fieldLink RX2 15 "CraneYard$Words" "lengths" "[I", .fieldLink RX2 9 "CraneYard$Words" "letters" "[I"] ++ wsX20)
def wsX2_isShown : List Cond := .code yX2_isShown cX2_isShown 6 (some .boolean) :: ([.methodLink RX2 33 Lib.Math.min.name, .static Lib.Math.min.name, .initialized "java/lang/Math", .code Lib.Math.min.name Lib.Math.min.code 2 (some .int), .fieldLink RX2 15 "CraneYard$Words" "lengths" "[I", .methodLink RX2 39 yX2_isShownFrom, .instanceMethod yX2_isShownFrom, .selects RX2 yX2_isShownFrom yX2_isShownFrom, .initialized RX2, .code yX2_isShownFrom cX2_isShownFrom 5 (some .boolean), .fieldLink RX2 9 "CraneYard$Words" "letters" "[I"] ++ wsX20)
def wsX2_payShown : List Cond := .code yX2_payShown cX2_payShown 4 none :: ([.fieldLink RX2 22 "CraneYard$Words" "count" "I", .fieldLink RX2 18 "CraneYard$Words" "paid" "[Z", .fieldLink RX2 26 "CraneYard$Words" "sum" "I", .fieldLink RX2 15 "CraneYard$Words" "lengths" "[I", .methodLink RX2 29 yX2_isShown, .instanceMethod yX2_isShown, .selects RX2 yX2_isShown yX2_isShown, .initialized RX2, .code yX2_isShown cX2_isShown 6 (some .boolean), .methodLink RX2 33 Lib.Math.min.name, .static Lib.Math.min.name, .initialized "java/lang/Math", .code Lib.Math.min.name Lib.Math.min.code 2 (some .int), .methodLink RX2 39 yX2_isShownFrom, .instanceMethod yX2_isShownFrom, .selects RX2 yX2_isShownFrom yX2_isShownFrom, .code yX2_isShownFrom cX2_isShownFrom 5 (some .boolean), .fieldLink RX2 9 "CraneYard$Words" "letters" "[I"] ++ wsX20)
def wsX3_init_r1 : List Cond := [Cond.methodLink RX3 1 objectInit, Cond.instanceMethod objectInit, Cond.code objectInit ⟨#[0xb1]⟩ 1 none, Cond.classLink RX3 7 RX1, Cond.instantiable RX1 3, Cond.initialized RX1, Cond.fieldLink RX3 10 "CraneYard" "stacks" "LCraneYard$Stacks;", Cond.fieldLink RX3 16 "CraneYard" "trial" "LCraneYard$Stacks;", Cond.classLink RX3 19 RX2, Cond.instantiable RX2 5, Cond.initialized RX2, Cond.fieldLink RX3 22 "CraneYard" "words" "LCraneYard$Words;", Cond.classLink RX3 26 RX0, Cond.instantiable RX0 8, Cond.initialized RX0, Cond.fieldLink RX3 29 "CraneYard" "hauls" "LCraneYard$Hauls;", Cond.arrayClass .int, Cond.fieldLink RX3 33 "CraneYard" "letters" "[I", Cond.fieldLink RX3 37 "CraneYard" "lids" "[I", Cond.fieldLink RX3 40 "CraneYard" "crateCount" "I", Cond.fieldLink RX3 44 "CraneYard" "craneCrate" "I", Cond.fieldLink RX3 47 "CraneYard" "liftCount" "I", Cond.fieldLink RX3 50 "CraneYard" "day" "I", Cond.fieldLink RX3 53 "CraneYard" "stormy" "Z"]
def wsX3_init_r2 : List Cond := [Cond.fieldLink RX3 57 "CraneYard" "fees" "I", Cond.instanceMethod yX1_init, Cond.code yX1_init cX1_init 1 none, Cond.methodLink RX1 3 objectInit, Cond.fieldLink RX1 9 "CraneYard$Stacks" "heights" "[I", Cond.fieldLink RX1 15 "CraneYard$Stacks" "cells" "[I", Cond.fieldLink RX1 18 "CraneYard$Stacks" "weights" "[I", Cond.instanceMethod yX2_init, Cond.code yX2_init cX2_init 1 none, Cond.methodLink RX2 3 objectInit, Cond.fieldLink RX2 9 "CraneYard$Words" "letters" "[I", Cond.fieldLink RX2 15 "CraneYard$Words" "lengths" "[I", Cond.arrayClass .boolean, Cond.fieldLink RX2 18 "CraneYard$Words" "paid" "[Z", Cond.fieldLink RX2 22 "CraneYard$Words" "count" "I", Cond.fieldLink RX2 26 "CraneYard$Words" "sum" "I", Cond.instanceMethod yX0_init, Cond.code yX0_init cX0_init 1 none, Cond.methodLink RX0 3 objectInit, Cond.fieldLink RX0 9 "CraneYard$Hauls" "crates" "[I", Cond.fieldLink RX0 15 "CraneYard$Hauls" "lastDays" "[I", Cond.fieldLink RX0 18 "CraneYard$Hauls" "states" "[I", Cond.fieldLink RX0 21 "CraneYard$Hauls" "prices" "[I", Cond.fieldLink RX0 24 "CraneYard$Hauls" "bids" "[I"]
def wsX3_init_r3 : List Cond := [Cond.fieldLink RX0 27 "CraneYard$Hauls" "count" "I", Cond.fieldLink RX0 31 "CraneYard$Hauls" "pricesPaid" "I", Cond.fieldLink RX0 34 "CraneYard$Hauls" "owed" "I"]
def wsX3_init : List Cond := .code yX3_init cX3_init 1 none :: ((wsX3_init_r1 ++ (wsX3_init_r2 ++ wsX3_init_r3)) ++ wsX10 ++ wsX30 ++ wsX20 ++ wsX00)
def wsX3_requireLetter : List Cond := .code yX3_requireLetter cX3_requireLetter 1 none :: ([.classLink RX3 60 "java/lang/IllegalArgumentException", .initialized "java/lang/IllegalArgumentException"] ++ (vx_atS RX3 64 "java/lang/IllegalArgumentException" ["java/lang/RuntimeException", "java/lang/Exception"]).filter goodWord)
def wsX3_requireStack : List Cond := .code yX3_requireStack cX3_requireStack 1 none :: ([.classLink RX3 60 "java/lang/IllegalArgumentException", .initialized "java/lang/IllegalArgumentException"] ++ (vx_atS RX3 64 "java/lang/IllegalArgumentException" ["java/lang/RuntimeException", "java/lang/Exception"]).filter goodWord)
def wsX3_mostPlaces : List Cond := .code yX3_mostPlaces cX3_mostPlaces 1 (some .int) :: ([.fieldLink RX3 53 "CraneYard" "stormy" "Z"] ++ wsX30)
def wsX3_requireRoom_r1 : List Cond := [Cond.classLink RX3 74 "java/lang/IllegalStateException", Cond.initialized "java/lang/IllegalStateException", Cond.fieldLink RX3 10 "CraneYard" "stacks" "LCraneYard$Stacks;", Cond.methodLink RX3 120 yX3_mostPlaces, Cond.instanceMethod yX3_mostPlaces, Cond.selects RX3 yX3_mostPlaces yX3_mostPlaces, Cond.initialized RX3, Cond.code yX3_mostPlaces cX3_mostPlaces 1 (some .int), Cond.fieldLink RX3 53 "CraneYard" "stormy" "Z", Cond.methodLink RX3 256 yX1_canTake, Cond.instanceMethod yX1_canTake, Cond.selects RX1 yX1_canTake yX1_canTake, Cond.initialized RX1, Cond.code yX1_canTake cX1_canTake 5 (some .boolean), Cond.methodLink RX1 27 yX1_heightOf, Cond.instanceMethod yX1_heightOf, Cond.selects RX1 yX1_heightOf yX1_heightOf, Cond.code yX1_heightOf cX1_heightOf 2 (some .int), Cond.fieldLink RX1 9 "CraneYard$Stacks" "heights" "[I", Cond.methodLink RX1 31 yX1_topOf, Cond.instanceMethod yX1_topOf, Cond.selects RX1 yX1_topOf yX1_topOf, Cond.code yX1_topOf cX1_topOf 3 (some .int), Cond.fieldLink RX1 15 "CraneYard$Stacks" "cells" "[I"]
def wsX3_requireRoom_r2 : List Cond := [Cond.methodLink RX1 34 yX1_weightOf, Cond.instanceMethod yX1_weightOf, Cond.selects RX1 yX1_weightOf yX1_weightOf, Cond.code yX1_weightOf cX1_weightOf 2 (some .int), Cond.fieldLink RX1 18 "CraneYard$Stacks" "weights" "[I"]
def wsX3_requireRoom : List Cond := .code yX3_requireRoom cX3_requireRoom 3 none :: ((wsX3_requireRoom_r1 ++ wsX3_requireRoom_r2) ++ wsX30 ++ wsX10 ++ (vx_atS RX3 78 "java/lang/IllegalStateException" ["java/lang/RuntimeException", "java/lang/Exception"]).filter goodWord)
def wsX3_payWords_r1 : List Cond := [Cond.fieldLink RX3 10 "CraneYard" "stacks" "LCraneYard$Stacks;", Cond.fieldLink RX3 37 "CraneYard" "lids" "[I", Cond.fieldLink RX3 33 "CraneYard" "letters" "[I", Cond.fieldLink RX3 22 "CraneYard" "words" "LCraneYard$Words;", Cond.methodLink RX3 262 yX1_topOf, Cond.instanceMethod yX1_topOf, Cond.selects RX1 yX1_topOf yX1_topOf, Cond.initialized RX1, Cond.code yX1_topOf cX1_topOf 3 (some .int), Cond.fieldLink RX1 15 "CraneYard$Stacks" "cells" "[I", Cond.methodLink RX1 27 yX1_heightOf, Cond.instanceMethod yX1_heightOf, Cond.selects RX1 yX1_heightOf yX1_heightOf, Cond.code yX1_heightOf cX1_heightOf 2 (some .int), Cond.fieldLink RX1 9 "CraneYard$Stacks" "heights" "[I", Cond.methodLink RX3 265 yX2_payShown, Cond.instanceMethod yX2_payShown, Cond.selects RX2 yX2_payShown yX2_payShown, Cond.initialized RX2, Cond.code yX2_payShown cX2_payShown 4 none, Cond.fieldLink RX2 22 "CraneYard$Words" "count" "I", Cond.fieldLink RX2 18 "CraneYard$Words" "paid" "[Z", Cond.fieldLink RX2 26 "CraneYard$Words" "sum" "I", Cond.fieldLink RX2 15 "CraneYard$Words" "lengths" "[I"]
def wsX3_payWords_r2 : List Cond := [Cond.methodLink RX2 29 yX2_isShown, Cond.instanceMethod yX2_isShown, Cond.selects RX2 yX2_isShown yX2_isShown, Cond.code yX2_isShown cX2_isShown 6 (some .boolean), Cond.methodLink RX2 33 Lib.Math.min.name, Cond.static Lib.Math.min.name, Cond.initialized "java/lang/Math", Cond.code Lib.Math.min.name Lib.Math.min.code 2 (some .int), Cond.methodLink RX2 39 yX2_isShownFrom, Cond.instanceMethod yX2_isShownFrom, Cond.selects RX2 yX2_isShownFrom yX2_isShownFrom, Cond.code yX2_isShownFrom cX2_isShownFrom 5 (some .boolean), Cond.fieldLink RX2 9 "CraneYard$Words" "letters" "[I"]
def wsX3_payWords : List Cond := .code yX3_payWords cX3_payWords 4 none :: ((wsX3_payWords_r1 ++ wsX3_payWords_r2) ++ wsX30 ++ wsX10 ++ wsX20)
def wsX3_arrive_r1 : List Cond := [Cond.classLink RX3 60 "java/lang/IllegalArgumentException", Cond.initialized "java/lang/IllegalArgumentException", Cond.classLink RX3 74 "java/lang/IllegalStateException", Cond.initialized "java/lang/IllegalStateException", Cond.fieldLink RX3 40 "CraneYard" "crateCount" "I", Cond.fieldLink RX3 33 "CraneYard" "letters" "[I", Cond.fieldLink RX3 10 "CraneYard" "stacks" "LCraneYard$Stacks;", Cond.methodLink RX3 67 yX3_requireLetter, Cond.static yX3_requireLetter, Cond.initialized RX3, Cond.code yX3_requireLetter cX3_requireLetter 1 none, Cond.methodLink RX3 71 yX3_requireStack, Cond.static yX3_requireStack, Cond.code yX3_requireStack cX3_requireStack 1 none, Cond.methodLink RX3 79 yX3_requireRoom, Cond.instanceMethod yX3_requireRoom, Cond.selects RX3 yX3_requireRoom yX3_requireRoom, Cond.code yX3_requireRoom cX3_requireRoom 3 none, Cond.methodLink RX3 120 yX3_mostPlaces, Cond.instanceMethod yX3_mostPlaces, Cond.selects RX3 yX3_mostPlaces yX3_mostPlaces, Cond.code yX3_mostPlaces cX3_mostPlaces 1 (some .int), Cond.fieldLink RX3 53 "CraneYard" "stormy" "Z", Cond.methodLink RX3 256 yX1_canTake]
def wsX3_arrive_r2 : List Cond := [Cond.instanceMethod yX1_canTake, Cond.selects RX1 yX1_canTake yX1_canTake, Cond.initialized RX1, Cond.code yX1_canTake cX1_canTake 5 (some .boolean), Cond.methodLink RX1 27 yX1_heightOf, Cond.instanceMethod yX1_heightOf, Cond.selects RX1 yX1_heightOf yX1_heightOf, Cond.code yX1_heightOf cX1_heightOf 2 (some .int), Cond.fieldLink RX1 9 "CraneYard$Stacks" "heights" "[I", Cond.methodLink RX1 31 yX1_topOf, Cond.instanceMethod yX1_topOf, Cond.selects RX1 yX1_topOf yX1_topOf, Cond.code yX1_topOf cX1_topOf 3 (some .int), Cond.fieldLink RX1 15 "CraneYard$Stacks" "cells" "[I", Cond.methodLink RX1 34 yX1_weightOf, Cond.instanceMethod yX1_weightOf, Cond.selects RX1 yX1_weightOf yX1_weightOf, Cond.code yX1_weightOf cX1_weightOf 2 (some .int), Cond.fieldLink RX1 18 "CraneYard$Stacks" "weights" "[I", Cond.methodLink RX3 83 yX1_setWeight, Cond.instanceMethod yX1_setWeight, Cond.selects RX1 yX1_setWeight yX1_setWeight, Cond.code yX1_setWeight cX1_setWeight 3 none, Cond.methodLink RX3 86 yX1_put]
def wsX3_arrive_r3 : List Cond := [Cond.instanceMethod yX1_put, Cond.selects RX1 yX1_put yX1_put, Cond.code yX1_put cX1_put 4 none, Cond.methodLink RX3 89 yX3_payWords, Cond.instanceMethod yX3_payWords, Cond.selects RX3 yX3_payWords yX3_payWords, Cond.code yX3_payWords cX3_payWords 4 none, Cond.fieldLink RX3 37 "CraneYard" "lids" "[I", Cond.fieldLink RX3 22 "CraneYard" "words" "LCraneYard$Words;", Cond.methodLink RX3 262 yX1_topOf, Cond.methodLink RX3 265 yX2_payShown, Cond.instanceMethod yX2_payShown, Cond.selects RX2 yX2_payShown yX2_payShown, Cond.initialized RX2, Cond.code yX2_payShown cX2_payShown 4 none, Cond.fieldLink RX2 22 "CraneYard$Words" "count" "I", Cond.fieldLink RX2 18 "CraneYard$Words" "paid" "[Z", Cond.fieldLink RX2 26 "CraneYard$Words" "sum" "I", Cond.fieldLink RX2 15 "CraneYard$Words" "lengths" "[I", Cond.methodLink RX2 29 yX2_isShown, Cond.instanceMethod yX2_isShown, Cond.selects RX2 yX2_isShown yX2_isShown, Cond.code yX2_isShown cX2_isShown 6 (some .boolean), Cond.methodLink RX2 33 Lib.Math.min.name]
def wsX3_arrive_r4 : List Cond := [Cond.static Lib.Math.min.name, Cond.initialized "java/lang/Math", Cond.code Lib.Math.min.name Lib.Math.min.code 2 (some .int), Cond.methodLink RX2 39 yX2_isShownFrom, Cond.instanceMethod yX2_isShownFrom, Cond.selects RX2 yX2_isShownFrom yX2_isShownFrom, Cond.code yX2_isShownFrom cX2_isShownFrom 5 (some .boolean), Cond.fieldLink RX2 9 "CraneYard$Words" "letters" "[I"]
def wsX3_arrive : List Cond := .code yX3_arrive cX3_arrive 5 (some .int) :: ((wsX3_arrive_r1 ++ (wsX3_arrive_r2 ++ (wsX3_arrive_r3 ++ wsX3_arrive_r4))) ++ wsX30 ++ wsX10 ++ wsX20 ++ (vx_atS RX3 64 "java/lang/IllegalArgumentException" ["java/lang/RuntimeException", "java/lang/Exception"]).filter goodWord ++ (vx_atS RX3 78 "java/lang/IllegalStateException" ["java/lang/RuntimeException", "java/lang/Exception"]).filter goodWord)
def wsX3_requireEmptyCrane : List Cond := .code yX3_requireEmptyCrane cX3_requireEmptyCrane 1 none :: ([.classLink RX3 74 "java/lang/IllegalStateException", .initialized "java/lang/IllegalStateException", .fieldLink RX3 44 "CraneYard" "craneCrate" "I"] ++ wsX30 ++ (vx_atS RX3 78 "java/lang/IllegalStateException" ["java/lang/RuntimeException", "java/lang/Exception"]).filter goodWord)
def wsX3_lift_r1 : List Cond := [Cond.classLink RX3 74 "java/lang/IllegalStateException", Cond.initialized "java/lang/IllegalStateException", Cond.fieldLink RX3 10 "CraneYard" "stacks" "LCraneYard$Stacks;", Cond.fieldLink RX3 44 "CraneYard" "craneCrate" "I", Cond.fieldLink RX3 47 "CraneYard" "liftCount" "I", Cond.methodLink RX3 71 yX3_requireStack, Cond.static yX3_requireStack, Cond.initialized RX3, Cond.code yX3_requireStack cX3_requireStack 1 none, Cond.classLink RX3 60 "java/lang/IllegalArgumentException", Cond.initialized "java/lang/IllegalArgumentException", Cond.methodLink RX3 92 yX3_requireEmptyCrane, Cond.instanceMethod yX3_requireEmptyCrane, Cond.selects RX3 yX3_requireEmptyCrane yX3_requireEmptyCrane, Cond.code yX3_requireEmptyCrane cX3_requireEmptyCrane 1 none, Cond.methodLink RX3 95 yX1_heightOf, Cond.instanceMethod yX1_heightOf, Cond.selects RX1 yX1_heightOf yX1_heightOf, Cond.initialized RX1, Cond.code yX1_heightOf cX1_heightOf 2 (some .int), Cond.fieldLink RX1 9 "CraneYard$Stacks" "heights" "[I", Cond.methodLink RX3 101 yX1_takeTop, Cond.instanceMethod yX1_takeTop, Cond.selects RX1 yX1_takeTop yX1_takeTop]
def wsX3_lift_r2 : List Cond := [Cond.code yX1_takeTop cX1_takeTop 3 (some .int), Cond.methodLink RX1 31 yX1_topOf, Cond.instanceMethod yX1_topOf, Cond.selects RX1 yX1_topOf yX1_topOf, Cond.code yX1_topOf cX1_topOf 3 (some .int), Cond.fieldLink RX1 15 "CraneYard$Stacks" "cells" "[I", Cond.methodLink RX1 27 yX1_heightOf, Cond.methodLink RX3 89 yX3_payWords, Cond.instanceMethod yX3_payWords, Cond.selects RX3 yX3_payWords yX3_payWords, Cond.code yX3_payWords cX3_payWords 4 none, Cond.fieldLink RX3 37 "CraneYard" "lids" "[I", Cond.fieldLink RX3 33 "CraneYard" "letters" "[I", Cond.fieldLink RX3 22 "CraneYard" "words" "LCraneYard$Words;", Cond.methodLink RX3 262 yX1_topOf, Cond.methodLink RX3 265 yX2_payShown, Cond.instanceMethod yX2_payShown, Cond.selects RX2 yX2_payShown yX2_payShown, Cond.initialized RX2, Cond.code yX2_payShown cX2_payShown 4 none, Cond.fieldLink RX2 22 "CraneYard$Words" "count" "I", Cond.fieldLink RX2 18 "CraneYard$Words" "paid" "[Z", Cond.fieldLink RX2 26 "CraneYard$Words" "sum" "I", Cond.fieldLink RX2 15 "CraneYard$Words" "lengths" "[I"]
def wsX3_lift_r3 : List Cond := [Cond.methodLink RX2 29 yX2_isShown, Cond.instanceMethod yX2_isShown, Cond.selects RX2 yX2_isShown yX2_isShown, Cond.code yX2_isShown cX2_isShown 6 (some .boolean), Cond.methodLink RX2 33 Lib.Math.min.name, Cond.static Lib.Math.min.name, Cond.initialized "java/lang/Math", Cond.code Lib.Math.min.name Lib.Math.min.code 2 (some .int), Cond.methodLink RX2 39 yX2_isShownFrom, Cond.instanceMethod yX2_isShownFrom, Cond.selects RX2 yX2_isShownFrom yX2_isShownFrom, Cond.code yX2_isShownFrom cX2_isShownFrom 5 (some .boolean), Cond.fieldLink RX2 9 "CraneYard$Words" "letters" "[I"]
def wsX3_lift : List Cond := .code yX3_lift cX3_lift 2 (some .int) :: ((wsX3_lift_r1 ++ (wsX3_lift_r2 ++ wsX3_lift_r3)) ++ wsX30 ++ wsX10 ++ wsX20 ++ (vx_atS RX3 78 "java/lang/IllegalStateException" ["java/lang/RuntimeException", "java/lang/Exception"]).filter goodWord ++ (vx_atS RX3 64 "java/lang/IllegalArgumentException" ["java/lang/RuntimeException", "java/lang/Exception"]).filter goodWord)
def wsX3_requireFullCrane : List Cond := .code yX3_requireFullCrane cX3_requireFullCrane 1 none :: ([.classLink RX3 74 "java/lang/IllegalStateException", .initialized "java/lang/IllegalStateException", .fieldLink RX3 44 "CraneYard" "craneCrate" "I"] ++ wsX30 ++ (vx_atS RX3 78 "java/lang/IllegalStateException" ["java/lang/RuntimeException", "java/lang/Exception"]).filter goodWord)
def wsX3_drop_r1 : List Cond := [Cond.fieldLink RX3 10 "CraneYard" "stacks" "LCraneYard$Stacks;", Cond.fieldLink RX3 44 "CraneYard" "craneCrate" "I", Cond.methodLink RX3 71 yX3_requireStack, Cond.static yX3_requireStack, Cond.initialized RX3, Cond.code yX3_requireStack cX3_requireStack 1 none, Cond.classLink RX3 60 "java/lang/IllegalArgumentException", Cond.initialized "java/lang/IllegalArgumentException", Cond.methodLink RX3 104 yX3_requireFullCrane, Cond.instanceMethod yX3_requireFullCrane, Cond.selects RX3 yX3_requireFullCrane yX3_requireFullCrane, Cond.code yX3_requireFullCrane cX3_requireFullCrane 1 none, Cond.classLink RX3 74 "java/lang/IllegalStateException", Cond.initialized "java/lang/IllegalStateException", Cond.methodLink RX3 107 yX1_weightOf, Cond.instanceMethod yX1_weightOf, Cond.selects RX1 yX1_weightOf yX1_weightOf, Cond.initialized RX1, Cond.code yX1_weightOf cX1_weightOf 2 (some .int), Cond.fieldLink RX1 18 "CraneYard$Stacks" "weights" "[I", Cond.methodLink RX3 79 yX3_requireRoom, Cond.instanceMethod yX3_requireRoom, Cond.selects RX3 yX3_requireRoom yX3_requireRoom, Cond.code yX3_requireRoom cX3_requireRoom 3 none]
def wsX3_drop_r2 : List Cond := [Cond.methodLink RX3 120 yX3_mostPlaces, Cond.instanceMethod yX3_mostPlaces, Cond.selects RX3 yX3_mostPlaces yX3_mostPlaces, Cond.code yX3_mostPlaces cX3_mostPlaces 1 (some .int), Cond.fieldLink RX3 53 "CraneYard" "stormy" "Z", Cond.methodLink RX3 256 yX1_canTake, Cond.instanceMethod yX1_canTake, Cond.selects RX1 yX1_canTake yX1_canTake, Cond.code yX1_canTake cX1_canTake 5 (some .boolean), Cond.methodLink RX1 27 yX1_heightOf, Cond.instanceMethod yX1_heightOf, Cond.selects RX1 yX1_heightOf yX1_heightOf, Cond.code yX1_heightOf cX1_heightOf 2 (some .int), Cond.fieldLink RX1 9 "CraneYard$Stacks" "heights" "[I", Cond.methodLink RX1 31 yX1_topOf, Cond.instanceMethod yX1_topOf, Cond.selects RX1 yX1_topOf yX1_topOf, Cond.code yX1_topOf cX1_topOf 3 (some .int), Cond.fieldLink RX1 15 "CraneYard$Stacks" "cells" "[I", Cond.methodLink RX1 34 yX1_weightOf, Cond.methodLink RX3 86 yX1_put, Cond.instanceMethod yX1_put, Cond.selects RX1 yX1_put yX1_put, Cond.code yX1_put cX1_put 4 none]
def wsX3_drop_r3 : List Cond := [Cond.methodLink RX3 89 yX3_payWords, Cond.instanceMethod yX3_payWords, Cond.selects RX3 yX3_payWords yX3_payWords, Cond.code yX3_payWords cX3_payWords 4 none, Cond.fieldLink RX3 37 "CraneYard" "lids" "[I", Cond.fieldLink RX3 33 "CraneYard" "letters" "[I", Cond.fieldLink RX3 22 "CraneYard" "words" "LCraneYard$Words;", Cond.methodLink RX3 262 yX1_topOf, Cond.methodLink RX3 265 yX2_payShown, Cond.instanceMethod yX2_payShown, Cond.selects RX2 yX2_payShown yX2_payShown, Cond.initialized RX2, Cond.code yX2_payShown cX2_payShown 4 none, Cond.fieldLink RX2 22 "CraneYard$Words" "count" "I", Cond.fieldLink RX2 18 "CraneYard$Words" "paid" "[Z", Cond.fieldLink RX2 26 "CraneYard$Words" "sum" "I", Cond.fieldLink RX2 15 "CraneYard$Words" "lengths" "[I", Cond.methodLink RX2 29 yX2_isShown, Cond.instanceMethod yX2_isShown, Cond.selects RX2 yX2_isShown yX2_isShown, Cond.code yX2_isShown cX2_isShown 6 (some .boolean), Cond.methodLink RX2 33 Lib.Math.min.name, Cond.static Lib.Math.min.name, Cond.initialized "java/lang/Math"]
def wsX3_drop_r4 : List Cond := [Cond.code Lib.Math.min.name Lib.Math.min.code 2 (some .int), Cond.methodLink RX2 39 yX2_isShownFrom, Cond.instanceMethod yX2_isShownFrom, Cond.selects RX2 yX2_isShownFrom yX2_isShownFrom, Cond.code yX2_isShownFrom cX2_isShownFrom 5 (some .boolean), Cond.fieldLink RX2 9 "CraneYard$Words" "letters" "[I", Cond.methodLink RX3 95 yX1_heightOf]
def wsX3_drop : List Cond := .code yX3_drop cX3_drop 2 (some .int) :: ((wsX3_drop_r1 ++ (wsX3_drop_r2 ++ (wsX3_drop_r3 ++ wsX3_drop_r4))) ++ wsX30 ++ wsX10 ++ wsX20 ++ (vx_atS RX3 64 "java/lang/IllegalArgumentException" ["java/lang/RuntimeException", "java/lang/Exception"]).filter goodWord ++ (vx_atS RX3 78 "java/lang/IllegalStateException" ["java/lang/RuntimeException", "java/lang/Exception"]).filter goodWord)
def wsX3_requireCrate : List Cond := .code yX3_requireCrate cX3_requireCrate 2 none :: ([.classLink RX3 166 "java/lang/IndexOutOfBoundsException", .initialized "java/lang/IndexOutOfBoundsException", .fieldLink RX3 40 "CraneYard" "crateCount" "I"] ++ wsX30 ++ (vx_atS RX3 170 "java/lang/IndexOutOfBoundsException" ["java/lang/RuntimeException", "java/lang/Exception"]).filter goodWord)
def wsX3_requireInStack : List Cond := .code yX3_requireInStack cX3_requireInStack 2 none :: ([.classLink RX3 74 "java/lang/IllegalStateException", .initialized "java/lang/IllegalStateException", .fieldLink RX3 10 "CraneYard" "stacks" "LCraneYard$Stacks;", .methodLink RX3 135 yX1_stackHolding, .instanceMethod yX1_stackHolding, .selects RX1 yX1_stackHolding yX1_stackHolding, .initialized RX1, .code yX1_stackHolding cX1_stackHolding 4 (some .int), .fieldLink RX1 9 "CraneYard$Stacks" "heights" "[I", .fieldLink RX1 15 "CraneYard$Stacks" "cells" "[I"] ++ wsX30 ++ wsX10 ++ (vx_atS RX3 78 "java/lang/IllegalStateException" ["java/lang/RuntimeException", "java/lang/Exception"]).filter goodWord)
def wsX3_dig_r1 : List Cond := [Cond.classLink RX3 74 "java/lang/IllegalStateException", Cond.initialized "java/lang/IllegalStateException", Cond.fieldLink RX3 16 "CraneYard" "trial" "LCraneYard$Stacks;", Cond.fieldLink RX3 10 "CraneYard" "stacks" "LCraneYard$Stacks;", Cond.fieldLink RX3 44 "CraneYard" "craneCrate" "I", Cond.fieldLink RX3 47 "CraneYard" "liftCount" "I", Cond.methodLink RX3 110 yX3_requireCrate, Cond.instanceMethod yX3_requireCrate, Cond.selects RX3 yX3_requireCrate yX3_requireCrate, Cond.initialized RX3, Cond.code yX3_requireCrate cX3_requireCrate 2 none, Cond.classLink RX3 166 "java/lang/IndexOutOfBoundsException", Cond.initialized "java/lang/IndexOutOfBoundsException", Cond.fieldLink RX3 40 "CraneYard" "crateCount" "I", Cond.methodLink RX3 92 yX3_requireEmptyCrane, Cond.instanceMethod yX3_requireEmptyCrane, Cond.selects RX3 yX3_requireEmptyCrane yX3_requireEmptyCrane, Cond.code yX3_requireEmptyCrane cX3_requireEmptyCrane 1 none, Cond.methodLink RX3 113 yX3_requireInStack, Cond.instanceMethod yX3_requireInStack, Cond.selects RX3 yX3_requireInStack yX3_requireInStack, Cond.code yX3_requireInStack cX3_requireInStack 2 none, Cond.methodLink RX3 135 yX1_stackHolding, Cond.instanceMethod yX1_stackHolding]
def wsX3_dig_r2 : List Cond := [Cond.selects RX1 yX1_stackHolding yX1_stackHolding, Cond.initialized RX1, Cond.code yX1_stackHolding cX1_stackHolding 4 (some .int), Cond.fieldLink RX1 9 "CraneYard$Stacks" "heights" "[I", Cond.fieldLink RX1 15 "CraneYard$Stacks" "cells" "[I", Cond.methodLink RX3 116 yX1_copyFrom, Cond.instanceMethod yX1_copyFrom, Cond.selects RX1 yX1_copyFrom yX1_copyFrom, Cond.code yX1_copyFrom cX1_copyFrom 2 none, Cond.methodLink RX1 21 arraycopyName, Cond.native arraycopyName, Cond.static arraycopyName, Cond.initialized "java/lang/System", Cond.fieldLink RX1 18 "CraneYard$Stacks" "weights" "[I", Cond.methodLink RX3 120 yX3_mostPlaces, Cond.instanceMethod yX3_mostPlaces, Cond.selects RX3 yX3_mostPlaces yX3_mostPlaces, Cond.code yX3_mostPlaces cX3_mostPlaces 1 (some .int), Cond.fieldLink RX3 53 "CraneYard" "stormy" "Z", Cond.methodLink RX3 124 yX1_digOut, Cond.instanceMethod yX1_digOut, Cond.selects RX1 yX1_digOut yX1_digOut, Cond.code yX1_digOut cX1_digOut 7 (some .int), Cond.methodLink RX1 37 yX1_stackHolding]
def wsX3_dig_r3 : List Cond := [Cond.methodLink RX1 40 yX1_takeTop, Cond.instanceMethod yX1_takeTop, Cond.selects RX1 yX1_takeTop yX1_takeTop, Cond.code yX1_takeTop cX1_takeTop 3 (some .int), Cond.methodLink RX1 31 yX1_topOf, Cond.instanceMethod yX1_topOf, Cond.selects RX1 yX1_topOf yX1_topOf, Cond.code yX1_topOf cX1_topOf 3 (some .int), Cond.methodLink RX1 27 yX1_heightOf, Cond.instanceMethod yX1_heightOf, Cond.selects RX1 yX1_heightOf yX1_heightOf, Cond.code yX1_heightOf cX1_heightOf 2 (some .int), Cond.methodLink RX1 34 yX1_weightOf, Cond.instanceMethod yX1_weightOf, Cond.selects RX1 yX1_weightOf yX1_weightOf, Cond.code yX1_weightOf cX1_weightOf 2 (some .int), Cond.methodLink RX1 43 yX1_targetFor, Cond.instanceMethod yX1_targetFor, Cond.selects RX1 yX1_targetFor yX1_targetFor, Cond.code yX1_targetFor cX1_targetFor 6 (some .int), Cond.methodLink RX1 51 yX1_canTake, Cond.instanceMethod yX1_canTake, Cond.selects RX1 yX1_canTake yX1_canTake, Cond.code yX1_canTake cX1_canTake 5 (some .boolean)]
def wsX3_dig_r4 : List Cond := [Cond.methodLink RX1 47 yX1_put, Cond.instanceMethod yX1_put, Cond.selects RX1 yX1_put yX1_put, Cond.code yX1_put cX1_put 4 none, Cond.methodLink RX3 89 yX3_payWords, Cond.instanceMethod yX3_payWords, Cond.selects RX3 yX3_payWords yX3_payWords, Cond.code yX3_payWords cX3_payWords 4 none, Cond.fieldLink RX3 37 "CraneYard" "lids" "[I", Cond.fieldLink RX3 33 "CraneYard" "letters" "[I", Cond.fieldLink RX3 22 "CraneYard" "words" "LCraneYard$Words;", Cond.methodLink RX3 262 yX1_topOf, Cond.methodLink RX3 265 yX2_payShown, Cond.instanceMethod yX2_payShown, Cond.selects RX2 yX2_payShown yX2_payShown, Cond.initialized RX2, Cond.code yX2_payShown cX2_payShown 4 none, Cond.fieldLink RX2 22 "CraneYard$Words" "count" "I", Cond.fieldLink RX2 18 "CraneYard$Words" "paid" "[Z", Cond.fieldLink RX2 26 "CraneYard$Words" "sum" "I", Cond.fieldLink RX2 15 "CraneYard$Words" "lengths" "[I", Cond.methodLink RX2 29 yX2_isShown, Cond.instanceMethod yX2_isShown, Cond.selects RX2 yX2_isShown yX2_isShown]
def wsX3_dig_r5 : List Cond := [Cond.code yX2_isShown cX2_isShown 6 (some .boolean), Cond.methodLink RX2 33 Lib.Math.min.name, Cond.static Lib.Math.min.name, Cond.initialized "java/lang/Math", Cond.code Lib.Math.min.name Lib.Math.min.code 2 (some .int), Cond.methodLink RX2 39 yX2_isShownFrom, Cond.instanceMethod yX2_isShownFrom, Cond.selects RX2 yX2_isShownFrom yX2_isShownFrom, Cond.code yX2_isShownFrom cX2_isShownFrom 5 (some .boolean), Cond.fieldLink RX2 9 "CraneYard$Words" "letters" "[I"]
def wsX3_dig : List Cond := .code yX3_dig cX3_dig 3 (some .int) :: ((wsX3_dig_r1 ++ (wsX3_dig_r2 ++ (wsX3_dig_r3 ++ (wsX3_dig_r4 ++ wsX3_dig_r5)))) ++ wsX30 ++ wsX10 ++ wsX20 ++ (vx_atS RX3 78 "java/lang/IllegalStateException" ["java/lang/RuntimeException", "java/lang/Exception"]).filter goodWord ++ (vx_atS RX3 170 "java/lang/IndexOutOfBoundsException" ["java/lang/RuntimeException", "java/lang/Exception"]).filter goodWord)
def wsX3_crane : List Cond := .code yX3_crane cX3_crane 1 (some .int) :: ([.fieldLink RX3 44 "CraneYard" "craneCrate" "I"] ++ wsX30)
def wsX3_height : List Cond := .code yX3_height cX3_height 2 (some .int) :: ([.fieldLink RX3 10 "CraneYard" "stacks" "LCraneYard$Stacks;", .methodLink RX3 71 yX3_requireStack, .static yX3_requireStack, .initialized RX3, .code yX3_requireStack cX3_requireStack 1 none, .classLink RX3 60 "java/lang/IllegalArgumentException", .initialized "java/lang/IllegalArgumentException", .methodLink RX3 95 yX1_heightOf, .instanceMethod yX1_heightOf, .selects RX1 yX1_heightOf yX1_heightOf, .initialized RX1, .code yX1_heightOf cX1_heightOf 2 (some .int), .fieldLink RX1 9 "CraneYard$Stacks" "heights" "[I"] ++ wsX30 ++ wsX10 ++ (vx_atS RX3 64 "java/lang/IllegalArgumentException" ["java/lang/RuntimeException", "java/lang/Exception"]).filter goodWord)
def wsX3_at : List Cond := .code yX3_at cX3_at 3 (some .int) :: ([.classLink RX3 60 "java/lang/IllegalArgumentException", .initialized "java/lang/IllegalArgumentException", .fieldLink RX3 10 "CraneYard" "stacks" "LCraneYard$Stacks;", .methodLink RX3 71 yX3_requireStack, .static yX3_requireStack, .initialized RX3, .code yX3_requireStack cX3_requireStack 1 none, .methodLink RX3 132 yX1_crateAt, .instanceMethod yX1_crateAt, .selects RX1 yX1_crateAt yX1_crateAt, .initialized RX1, .code yX1_crateAt cX1_crateAt 3 (some .int), .fieldLink RX1 15 "CraneYard$Stacks" "cells" "[I", .methodLink RX1 27 yX1_heightOf, .instanceMethod yX1_heightOf, .selects RX1 yX1_heightOf yX1_heightOf, .code yX1_heightOf cX1_heightOf 2 (some .int), .fieldLink RX1 9 "CraneYard$Stacks" "heights" "[I"] ++ wsX30 ++ wsX10 ++ (vx_atS RX3 64 "java/lang/IllegalArgumentException" ["java/lang/RuntimeException", "java/lang/Exception"]).filter goodWord)
def wsX3_stackOf : List Cond := .code yX3_stackOf cX3_stackOf 2 (some .int) :: ([.fieldLink RX3 10 "CraneYard" "stacks" "LCraneYard$Stacks;", .methodLink RX3 110 yX3_requireCrate, .instanceMethod yX3_requireCrate, .selects RX3 yX3_requireCrate yX3_requireCrate, .initialized RX3, .code yX3_requireCrate cX3_requireCrate 2 none, .classLink RX3 166 "java/lang/IndexOutOfBoundsException", .initialized "java/lang/IndexOutOfBoundsException", .fieldLink RX3 40 "CraneYard" "crateCount" "I", .methodLink RX3 135 yX1_stackHolding, .instanceMethod yX1_stackHolding, .selects RX1 yX1_stackHolding yX1_stackHolding, .initialized RX1, .code yX1_stackHolding cX1_stackHolding 4 (some .int), .fieldLink RX1 9 "CraneYard$Stacks" "heights" "[I", .fieldLink RX1 15 "CraneYard$Stacks" "cells" "[I"] ++ wsX30 ++ wsX10 ++ (vx_atS RX3 170 "java/lang/IndexOutOfBoundsException" ["java/lang/RuntimeException", "java/lang/Exception"]).filter goodWord)
def wsX3_lifts : List Cond := .code yX3_lifts cX3_lifts 1 (some .int) :: ([.fieldLink RX3 47 "CraneYard" "liftCount" "I"] ++ wsX30)
def wsJ6_bitCount_0f7a4 : List Cond := .code yJ6_bitCount_0f7a4 cJ6_bitCount_0f7a4 1 (some .int) :: ([.constant RJ6 265 (1431655765), .constant RJ6 266 (858993459), .constant RJ6 267 (252645135)])
def wsX3_contains : List Cond := .code yX3_contains cX3_contains 2 (some .boolean) :: ([])
def wsX3_areInStacks : List Cond := .code yX3_areInStacks cX3_areInStacks 4 (some .boolean) :: ([.fieldLink RX3 10 "CraneYard" "stacks" "LCraneYard$Stacks;", .methodLink RX3 144 yJ6_bitCount_0f7a4, .static yJ6_bitCount_0f7a4, .initialized RJ6, .code yJ6_bitCount_0f7a4 cJ6_bitCount_0f7a4 1 (some .int), .constant RJ6 265 (1431655765), .constant RJ6 266 (858993459), .constant RJ6 267 (252645135), .methodLink RX3 274 yX3_contains, .static yX3_contains, .initialized RX3, .code yX3_contains cX3_contains 2 (some .boolean), .methodLink RX3 135 yX1_stackHolding, .instanceMethod yX1_stackHolding, .selects RX1 yX1_stackHolding yX1_stackHolding, .initialized RX1, .code yX1_stackHolding cX1_stackHolding 4 (some .int), .fieldLink RX1 9 "CraneYard$Stacks" "heights" "[I", .fieldLink RX1 15 "CraneYard$Stacks" "cells" "[I"] ++ wsX30 ++ wsX10)
def wsX3_ordersOf : List Cond := .code yX3_ordersOf cX3_ordersOf 3 (some .int) :: ([])
def wsX3_memberOf : List Cond := .code yX3_memberOf cX3_memberOf 4 (some .int) :: ([.methodLink RX3 274 yX3_contains, .static yX3_contains, .initialized RX3, .code yX3_contains cX3_contains 2 (some .boolean)])
def wsX3_liftsInOrder_r1 : List Cond := [Cond.fieldLink RX3 16 "CraneYard" "trial" "LCraneYard$Stacks;", Cond.fieldLink RX3 10 "CraneYard" "stacks" "LCraneYard$Stacks;", Cond.methodLink RX3 116 yX1_copyFrom, Cond.instanceMethod yX1_copyFrom, Cond.selects RX1 yX1_copyFrom yX1_copyFrom, Cond.initialized RX1, Cond.code yX1_copyFrom cX1_copyFrom 2 none, Cond.fieldLink RX1 9 "CraneYard$Stacks" "heights" "[I", Cond.methodLink RX1 21 arraycopyName, Cond.native arraycopyName, Cond.static arraycopyName, Cond.initialized "java/lang/System", Cond.fieldLink RX1 15 "CraneYard$Stacks" "cells" "[I", Cond.fieldLink RX1 18 "CraneYard$Stacks" "weights" "[I", Cond.methodLink RX3 144 yJ6_bitCount_0f7a4, Cond.static yJ6_bitCount_0f7a4, Cond.initialized RJ6, Cond.code yJ6_bitCount_0f7a4 cJ6_bitCount_0f7a4 1 (some .int), Cond.constant RJ6 265 (1431655765), Cond.constant RJ6 266 (858993459), Cond.constant RJ6 267 (252645135), Cond.methodLink RX3 278 yX3_memberOf, Cond.static yX3_memberOf, Cond.initialized RX3]
def wsX3_liftsInOrder_r2 : List Cond := [Cond.code yX3_memberOf cX3_memberOf 4 (some .int), Cond.methodLink RX3 274 yX3_contains, Cond.static yX3_contains, Cond.code yX3_contains cX3_contains 2 (some .boolean), Cond.methodLink RX3 120 yX3_mostPlaces, Cond.instanceMethod yX3_mostPlaces, Cond.selects RX3 yX3_mostPlaces yX3_mostPlaces, Cond.code yX3_mostPlaces cX3_mostPlaces 1 (some .int), Cond.fieldLink RX3 53 "CraneYard" "stormy" "Z", Cond.methodLink RX3 124 yX1_digOut, Cond.instanceMethod yX1_digOut, Cond.selects RX1 yX1_digOut yX1_digOut, Cond.code yX1_digOut cX1_digOut 7 (some .int), Cond.methodLink RX1 37 yX1_stackHolding, Cond.instanceMethod yX1_stackHolding, Cond.selects RX1 yX1_stackHolding yX1_stackHolding, Cond.code yX1_stackHolding cX1_stackHolding 4 (some .int), Cond.methodLink RX1 40 yX1_takeTop, Cond.instanceMethod yX1_takeTop, Cond.selects RX1 yX1_takeTop yX1_takeTop, Cond.code yX1_takeTop cX1_takeTop 3 (some .int), Cond.methodLink RX1 31 yX1_topOf, Cond.instanceMethod yX1_topOf, Cond.selects RX1 yX1_topOf yX1_topOf]
def wsX3_liftsInOrder_r3 : List Cond := [Cond.code yX1_topOf cX1_topOf 3 (some .int), Cond.methodLink RX1 27 yX1_heightOf, Cond.instanceMethod yX1_heightOf, Cond.selects RX1 yX1_heightOf yX1_heightOf, Cond.code yX1_heightOf cX1_heightOf 2 (some .int), Cond.methodLink RX1 34 yX1_weightOf, Cond.instanceMethod yX1_weightOf, Cond.selects RX1 yX1_weightOf yX1_weightOf, Cond.code yX1_weightOf cX1_weightOf 2 (some .int), Cond.methodLink RX1 43 yX1_targetFor, Cond.instanceMethod yX1_targetFor, Cond.selects RX1 yX1_targetFor yX1_targetFor, Cond.code yX1_targetFor cX1_targetFor 6 (some .int), Cond.methodLink RX1 51 yX1_canTake, Cond.instanceMethod yX1_canTake, Cond.selects RX1 yX1_canTake yX1_canTake, Cond.code yX1_canTake cX1_canTake 5 (some .boolean), Cond.methodLink RX1 47 yX1_put, Cond.instanceMethod yX1_put, Cond.selects RX1 yX1_put yX1_put, Cond.code yX1_put cX1_put 4 none]
def wsX3_liftsInOrder : List Cond := .code yX3_liftsInOrder cX3_liftsInOrder 9 (some .int) :: ((wsX3_liftsInOrder_r1 ++ (wsX3_liftsInOrder_r2 ++ wsX3_liftsInOrder_r3)) ++ wsX30 ++ wsX10)
def wsX3_fewestLifts_r1 : List Cond := [Cond.classLink RX3 60 "java/lang/IllegalArgumentException", Cond.initialized "java/lang/IllegalArgumentException", Cond.methodLink RX3 138 yX3_areInStacks, Cond.instanceMethod yX3_areInStacks, Cond.selects RX3 yX3_areInStacks yX3_areInStacks, Cond.initialized RX3, Cond.code yX3_areInStacks cX3_areInStacks 4 (some .boolean), Cond.fieldLink RX3 10 "CraneYard" "stacks" "LCraneYard$Stacks;", Cond.methodLink RX3 144 yJ6_bitCount_0f7a4, Cond.static yJ6_bitCount_0f7a4, Cond.initialized RJ6, Cond.code yJ6_bitCount_0f7a4 cJ6_bitCount_0f7a4 1 (some .int), Cond.constant RJ6 265 (1431655765), Cond.constant RJ6 266 (858993459), Cond.constant RJ6 267 (252645135), Cond.methodLink RX3 274 yX3_contains, Cond.static yX3_contains, Cond.code yX3_contains cX3_contains 2 (some .boolean), Cond.methodLink RX3 135 yX1_stackHolding, Cond.instanceMethod yX1_stackHolding, Cond.selects RX1 yX1_stackHolding yX1_stackHolding, Cond.initialized RX1, Cond.code yX1_stackHolding cX1_stackHolding 4 (some .int), Cond.fieldLink RX1 9 "CraneYard$Stacks" "heights" "[I"]
def wsX3_fewestLifts_r2 : List Cond := [Cond.fieldLink RX1 15 "CraneYard$Stacks" "cells" "[I", Cond.methodLink RX3 92 yX3_requireEmptyCrane, Cond.instanceMethod yX3_requireEmptyCrane, Cond.selects RX3 yX3_requireEmptyCrane yX3_requireEmptyCrane, Cond.code yX3_requireEmptyCrane cX3_requireEmptyCrane 1 none, Cond.classLink RX3 74 "java/lang/IllegalStateException", Cond.initialized "java/lang/IllegalStateException", Cond.fieldLink RX3 44 "CraneYard" "craneCrate" "I", Cond.methodLink RX3 149 yX3_ordersOf, Cond.static yX3_ordersOf, Cond.code yX3_ordersOf cX3_ordersOf 3 (some .int), Cond.methodLink RX3 152 yX3_liftsInOrder, Cond.instanceMethod yX3_liftsInOrder, Cond.selects RX3 yX3_liftsInOrder yX3_liftsInOrder, Cond.code yX3_liftsInOrder cX3_liftsInOrder 9 (some .int), Cond.fieldLink RX3 16 "CraneYard" "trial" "LCraneYard$Stacks;", Cond.methodLink RX3 116 yX1_copyFrom, Cond.instanceMethod yX1_copyFrom, Cond.selects RX1 yX1_copyFrom yX1_copyFrom, Cond.code yX1_copyFrom cX1_copyFrom 2 none, Cond.methodLink RX1 21 arraycopyName, Cond.native arraycopyName, Cond.static arraycopyName, Cond.initialized "java/lang/System"]
def wsX3_fewestLifts_r3 : List Cond := [Cond.fieldLink RX1 18 "CraneYard$Stacks" "weights" "[I", Cond.methodLink RX3 278 yX3_memberOf, Cond.static yX3_memberOf, Cond.code yX3_memberOf cX3_memberOf 4 (some .int), Cond.methodLink RX3 120 yX3_mostPlaces, Cond.instanceMethod yX3_mostPlaces, Cond.selects RX3 yX3_mostPlaces yX3_mostPlaces, Cond.code yX3_mostPlaces cX3_mostPlaces 1 (some .int), Cond.fieldLink RX3 53 "CraneYard" "stormy" "Z", Cond.methodLink RX3 124 yX1_digOut, Cond.instanceMethod yX1_digOut, Cond.selects RX1 yX1_digOut yX1_digOut, Cond.code yX1_digOut cX1_digOut 7 (some .int), Cond.methodLink RX1 37 yX1_stackHolding, Cond.methodLink RX1 40 yX1_takeTop, Cond.instanceMethod yX1_takeTop, Cond.selects RX1 yX1_takeTop yX1_takeTop, Cond.code yX1_takeTop cX1_takeTop 3 (some .int), Cond.methodLink RX1 31 yX1_topOf, Cond.instanceMethod yX1_topOf, Cond.selects RX1 yX1_topOf yX1_topOf, Cond.code yX1_topOf cX1_topOf 3 (some .int), Cond.methodLink RX1 27 yX1_heightOf, Cond.instanceMethod yX1_heightOf]
def wsX3_fewestLifts_r4 : List Cond := [Cond.selects RX1 yX1_heightOf yX1_heightOf, Cond.code yX1_heightOf cX1_heightOf 2 (some .int), Cond.methodLink RX1 34 yX1_weightOf, Cond.instanceMethod yX1_weightOf, Cond.selects RX1 yX1_weightOf yX1_weightOf, Cond.code yX1_weightOf cX1_weightOf 2 (some .int), Cond.methodLink RX1 43 yX1_targetFor, Cond.instanceMethod yX1_targetFor, Cond.selects RX1 yX1_targetFor yX1_targetFor, Cond.code yX1_targetFor cX1_targetFor 6 (some .int), Cond.methodLink RX1 51 yX1_canTake, Cond.instanceMethod yX1_canTake, Cond.selects RX1 yX1_canTake yX1_canTake, Cond.code yX1_canTake cX1_canTake 5 (some .boolean), Cond.methodLink RX1 47 yX1_put, Cond.instanceMethod yX1_put, Cond.selects RX1 yX1_put yX1_put, Cond.code yX1_put cX1_put 4 none]
def wsX3_fewestLifts : List Cond := .code yX3_fewestLifts cX3_fewestLifts 6 (some .int) :: ((wsX3_fewestLifts_r1 ++ (wsX3_fewestLifts_r2 ++ (wsX3_fewestLifts_r3 ++ wsX3_fewestLifts_r4))) ++ wsX30 ++ wsX10 ++ (vx_atS RX3 64 "java/lang/IllegalArgumentException" ["java/lang/RuntimeException", "java/lang/Exception"]).filter goodWord ++ (vx_atS RX3 78 "java/lang/IllegalStateException" ["java/lang/RuntimeException", "java/lang/Exception"]).filter goodWord)
def wsX3_tell_r1 : List Cond := [Cond.classLink RX3 60 "java/lang/IllegalArgumentException", Cond.initialized "java/lang/IllegalArgumentException", Cond.classLink RX3 74 "java/lang/IllegalStateException", Cond.initialized "java/lang/IllegalStateException", Cond.fieldLink RX3 22 "CraneYard" "words" "LCraneYard$Words;", Cond.methodLink RX3 67 yX3_requireLetter, Cond.static yX3_requireLetter, Cond.initialized RX3, Cond.code yX3_requireLetter cX3_requireLetter 1 none, Cond.methodLink RX3 157 yX2_number, Cond.instanceMethod yX2_number, Cond.selects RX2 yX2_number yX2_number, Cond.initialized RX2, Cond.code yX2_number cX2_number 1 (some .int), Cond.fieldLink RX2 22 "CraneYard$Words" "count" "I", Cond.methodLink RX3 162 yX2_add, Cond.instanceMethod yX2_add, Cond.selects RX2 yX2_add yX2_add, Cond.code yX2_add cX2_add 7 (some .int), Cond.fieldLink RX2 9 "CraneYard$Words" "letters" "[I", Cond.fieldLink RX2 15 "CraneYard$Words" "lengths" "[I", Cond.methodLink RX3 89 yX3_payWords, Cond.instanceMethod yX3_payWords, Cond.selects RX3 yX3_payWords yX3_payWords]
def wsX3_tell_r2 : List Cond := [Cond.code yX3_payWords cX3_payWords 4 none, Cond.fieldLink RX3 10 "CraneYard" "stacks" "LCraneYard$Stacks;", Cond.fieldLink RX3 37 "CraneYard" "lids" "[I", Cond.fieldLink RX3 33 "CraneYard" "letters" "[I", Cond.methodLink RX3 262 yX1_topOf, Cond.instanceMethod yX1_topOf, Cond.selects RX1 yX1_topOf yX1_topOf, Cond.initialized RX1, Cond.code yX1_topOf cX1_topOf 3 (some .int), Cond.fieldLink RX1 15 "CraneYard$Stacks" "cells" "[I", Cond.methodLink RX1 27 yX1_heightOf, Cond.instanceMethod yX1_heightOf, Cond.selects RX1 yX1_heightOf yX1_heightOf, Cond.code yX1_heightOf cX1_heightOf 2 (some .int), Cond.fieldLink RX1 9 "CraneYard$Stacks" "heights" "[I", Cond.methodLink RX3 265 yX2_payShown, Cond.instanceMethod yX2_payShown, Cond.selects RX2 yX2_payShown yX2_payShown, Cond.code yX2_payShown cX2_payShown 4 none, Cond.fieldLink RX2 18 "CraneYard$Words" "paid" "[Z", Cond.fieldLink RX2 26 "CraneYard$Words" "sum" "I", Cond.methodLink RX2 29 yX2_isShown, Cond.instanceMethod yX2_isShown, Cond.selects RX2 yX2_isShown yX2_isShown]
def wsX3_tell_r3 : List Cond := [Cond.code yX2_isShown cX2_isShown 6 (some .boolean), Cond.methodLink RX2 33 Lib.Math.min.name, Cond.static Lib.Math.min.name, Cond.initialized "java/lang/Math", Cond.code Lib.Math.min.name Lib.Math.min.code 2 (some .int), Cond.methodLink RX2 39 yX2_isShownFrom, Cond.instanceMethod yX2_isShownFrom, Cond.selects RX2 yX2_isShownFrom yX2_isShownFrom, Cond.code yX2_isShownFrom cX2_isShownFrom 5 (some .boolean)]
def wsX3_tell : List Cond := .code yX3_tell cX3_tell 6 (some .int) :: ((wsX3_tell_r1 ++ (wsX3_tell_r2 ++ wsX3_tell_r3)) ++ wsX30 ++ wsX20 ++ wsX10 ++ (vx_atS RX3 64 "java/lang/IllegalArgumentException" ["java/lang/RuntimeException", "java/lang/Exception"]).filter goodWord ++ (vx_atS RX3 78 "java/lang/IllegalStateException" ["java/lang/RuntimeException", "java/lang/Exception"]).filter goodWord)
def wsX3_hasPaid : List Cond := .code yX3_hasPaid cX3_hasPaid 2 (some .boolean) :: ([.classLink RX3 166 "java/lang/IndexOutOfBoundsException", .initialized "java/lang/IndexOutOfBoundsException", .fieldLink RX3 22 "CraneYard" "words" "LCraneYard$Words;", .methodLink RX3 157 yX2_number, .instanceMethod yX2_number, .selects RX2 yX2_number yX2_number, .initialized RX2, .code yX2_number cX2_number 1 (some .int), .fieldLink RX2 22 "CraneYard$Words" "count" "I", .methodLink RX3 171 yX2_isPaid, .instanceMethod yX2_isPaid, .selects RX2 yX2_isPaid yX2_isPaid, .code yX2_isPaid cX2_isPaid 2 (some .boolean), .fieldLink RX2 18 "CraneYard$Words" "paid" "[Z"] ++ wsX30 ++ wsX20 ++ (vx_atS RX3 170 "java/lang/IndexOutOfBoundsException" ["java/lang/RuntimeException", "java/lang/Exception"]).filter goodWord)
def wsX3_bonus : List Cond := .code yX3_bonus cX3_bonus 1 (some .int) :: ([.fieldLink RX3 22 "CraneYard" "words" "LCraneYard$Words;", .methodLink RX3 174 yX2_paidInAll, .instanceMethod yX2_paidInAll, .selects RX2 yX2_paidInAll yX2_paidInAll, .initialized RX2, .code yX2_paidInAll cX2_paidInAll 1 (some .int), .fieldLink RX2 26 "CraneYard$Words" "sum" "I"] ++ wsX30 ++ wsX20)
def wsX3_offer_r1 : List Cond := [Cond.classLink RX3 60 "java/lang/IllegalArgumentException", Cond.initialized "java/lang/IllegalArgumentException", Cond.classLink RX3 74 "java/lang/IllegalStateException", Cond.initialized "java/lang/IllegalStateException", Cond.fieldLink RX3 50 "CraneYard" "day" "I", Cond.fieldLink RX3 29 "CraneYard" "hauls" "LCraneYard$Hauls;", Cond.methodLink RX3 110 yX3_requireCrate, Cond.instanceMethod yX3_requireCrate, Cond.selects RX3 yX3_requireCrate yX3_requireCrate, Cond.initialized RX3, Cond.code yX3_requireCrate cX3_requireCrate 2 none, Cond.classLink RX3 166 "java/lang/IndexOutOfBoundsException", Cond.initialized "java/lang/IndexOutOfBoundsException", Cond.fieldLink RX3 40 "CraneYard" "crateCount" "I", Cond.methodLink RX3 113 yX3_requireInStack, Cond.instanceMethod yX3_requireInStack, Cond.selects RX3 yX3_requireInStack yX3_requireInStack, Cond.code yX3_requireInStack cX3_requireInStack 2 none, Cond.fieldLink RX3 10 "CraneYard" "stacks" "LCraneYard$Stacks;", Cond.methodLink RX3 135 yX1_stackHolding, Cond.instanceMethod yX1_stackHolding, Cond.selects RX1 yX1_stackHolding yX1_stackHolding, Cond.initialized RX1, Cond.code yX1_stackHolding cX1_stackHolding 4 (some .int)]
def wsX3_offer_r2 : List Cond := [Cond.fieldLink RX1 9 "CraneYard$Stacks" "heights" "[I", Cond.fieldLink RX1 15 "CraneYard$Stacks" "cells" "[I", Cond.methodLink RX3 179 yX0_openHaulOf, Cond.instanceMethod yX0_openHaulOf, Cond.selects RX0 yX0_openHaulOf yX0_openHaulOf, Cond.initialized RX0, Cond.code yX0_openHaulOf cX0_openHaulOf 3 (some .int), Cond.fieldLink RX0 27 "CraneYard$Hauls" "count" "I", Cond.fieldLink RX0 9 "CraneYard$Hauls" "crates" "[I", Cond.methodLink RX0 41 yX0_isOpen, Cond.instanceMethod yX0_isOpen, Cond.selects RX0 yX0_isOpen yX0_isOpen, Cond.code yX0_isOpen cX0_isOpen 3 (some .boolean), Cond.methodLink RX0 37 yX0_stateOf, Cond.instanceMethod yX0_stateOf, Cond.selects RX0 yX0_stateOf yX0_stateOf, Cond.code yX0_stateOf cX0_stateOf 2 (some .int), Cond.fieldLink RX0 18 "CraneYard$Hauls" "states" "[I", Cond.methodLink RX3 184 yX0_number, Cond.instanceMethod yX0_number, Cond.selects RX0 yX0_number yX0_number, Cond.code yX0_number cX0_number 1 (some .int), Cond.methodLink RX3 187 yX0_add, Cond.instanceMethod yX0_add]
def wsX3_offer_r3 : List Cond := [Cond.selects RX0 yX0_add yX0_add, Cond.code yX0_add cX0_add 4 (some .int), Cond.fieldLink RX0 15 "CraneYard$Hauls" "lastDays" "[I"]
def wsX3_offer : List Cond := .code yX3_offer cX3_offer 3 (some .int) :: ((wsX3_offer_r1 ++ (wsX3_offer_r2 ++ wsX3_offer_r3)) ++ wsX30 ++ wsX10 ++ wsX00 ++ (vx_atS RX3 64 "java/lang/IllegalArgumentException" ["java/lang/RuntimeException", "java/lang/Exception"]).filter goodWord ++ (vx_atS RX3 78 "java/lang/IllegalStateException" ["java/lang/RuntimeException", "java/lang/Exception"]).filter goodWord ++ (vx_atS RX3 170 "java/lang/IndexOutOfBoundsException" ["java/lang/RuntimeException", "java/lang/Exception"]).filter goodWord)
def wsX3_requireHaul : List Cond := .code yX3_requireHaul cX3_requireHaul 2 none :: ([.classLink RX3 166 "java/lang/IndexOutOfBoundsException", .initialized "java/lang/IndexOutOfBoundsException", .fieldLink RX3 29 "CraneYard" "hauls" "LCraneYard$Hauls;", .methodLink RX3 184 yX0_number, .instanceMethod yX0_number, .selects RX0 yX0_number yX0_number, .initialized RX0, .code yX0_number cX0_number 1 (some .int), .fieldLink RX0 27 "CraneYard$Hauls" "count" "I"] ++ wsX30 ++ wsX00 ++ (vx_atS RX3 170 "java/lang/IndexOutOfBoundsException" ["java/lang/RuntimeException", "java/lang/Exception"]).filter goodWord)
def wsX3_requireOffered : List Cond := .code yX3_requireOffered cX3_requireOffered 2 none :: ([.classLink RX3 74 "java/lang/IllegalStateException", .initialized "java/lang/IllegalStateException", .fieldLink RX3 29 "CraneYard" "hauls" "LCraneYard$Hauls;", .methodLink RX3 216 yX0_stateOf, .instanceMethod yX0_stateOf, .selects RX0 yX0_stateOf yX0_stateOf, .initialized RX0, .code yX0_stateOf cX0_stateOf 2 (some .int), .fieldLink RX0 27 "CraneYard$Hauls" "count" "I", .fieldLink RX0 18 "CraneYard$Hauls" "states" "[I"] ++ wsX30 ++ wsX00 ++ (vx_atS RX3 78 "java/lang/IllegalStateException" ["java/lang/RuntimeException", "java/lang/Exception"]).filter goodWord)
def wsX3_bid_r1 : List Cond := [Cond.classLink RX3 60 "java/lang/IllegalArgumentException", Cond.initialized "java/lang/IllegalArgumentException", Cond.classLink RX3 74 "java/lang/IllegalStateException", Cond.initialized "java/lang/IllegalStateException", Cond.fieldLink RX3 29 "CraneYard" "hauls" "LCraneYard$Hauls;", Cond.methodLink RX3 189 yX3_requireHaul, Cond.instanceMethod yX3_requireHaul, Cond.selects RX3 yX3_requireHaul yX3_requireHaul, Cond.initialized RX3, Cond.code yX3_requireHaul cX3_requireHaul 2 none, Cond.classLink RX3 166 "java/lang/IndexOutOfBoundsException", Cond.initialized "java/lang/IndexOutOfBoundsException", Cond.methodLink RX3 184 yX0_number, Cond.instanceMethod yX0_number, Cond.selects RX0 yX0_number yX0_number, Cond.initialized RX0, Cond.code yX0_number cX0_number 1 (some .int), Cond.fieldLink RX0 27 "CraneYard$Hauls" "count" "I", Cond.methodLink RX3 196 yX3_requireOffered, Cond.instanceMethod yX3_requireOffered, Cond.selects RX3 yX3_requireOffered yX3_requireOffered, Cond.code yX3_requireOffered cX3_requireOffered 2 none, Cond.methodLink RX3 216 yX0_stateOf, Cond.instanceMethod yX0_stateOf]
def wsX3_bid_r2 : List Cond := [Cond.selects RX0 yX0_stateOf yX0_stateOf, Cond.code yX0_stateOf cX0_stateOf 2 (some .int), Cond.fieldLink RX0 18 "CraneYard$Hauls" "states" "[I", Cond.methodLink RX3 199 yX0_priceAsked, Cond.instanceMethod yX0_priceAsked, Cond.selects RX0 yX0_priceAsked yX0_priceAsked, Cond.code yX0_priceAsked cX0_priceAsked 3 (some .int), Cond.fieldLink RX0 24 "CraneYard$Hauls" "bids" "[I", Cond.methodLink RX0 45 yX0_isPlaceForBid, Cond.instanceMethod yX0_isPlaceForBid, Cond.selects RX0 yX0_isPlaceForBid yX0_isPlaceForBid, Cond.code yX0_isPlaceForBid cX0_isPlaceForBid 3 (some .boolean), Cond.methodLink RX3 204 yX0_enterBid, Cond.instanceMethod yX0_enterBid, Cond.selects RX0 yX0_enterBid yX0_enterBid, Cond.code yX0_enterBid cX0_enterBid 4 none]
def wsX3_bid : List Cond := .code yX3_bid cX3_bid 4 none :: ((wsX3_bid_r1 ++ wsX3_bid_r2) ++ wsX30 ++ wsX00 ++ (vx_atS RX3 64 "java/lang/IllegalArgumentException" ["java/lang/RuntimeException", "java/lang/Exception"]).filter goodWord ++ (vx_atS RX3 78 "java/lang/IllegalStateException" ["java/lang/RuntimeException", "java/lang/Exception"]).filter goodWord ++ (vx_atS RX3 170 "java/lang/IndexOutOfBoundsException" ["java/lang/RuntimeException", "java/lang/Exception"]).filter goodWord)
def wsX3_give_r1 : List Cond := [Cond.classLink RX3 74 "java/lang/IllegalStateException", Cond.initialized "java/lang/IllegalStateException", Cond.fieldLink RX3 29 "CraneYard" "hauls" "LCraneYard$Hauls;", Cond.methodLink RX3 189 yX3_requireHaul, Cond.instanceMethod yX3_requireHaul, Cond.selects RX3 yX3_requireHaul yX3_requireHaul, Cond.initialized RX3, Cond.code yX3_requireHaul cX3_requireHaul 2 none, Cond.classLink RX3 166 "java/lang/IndexOutOfBoundsException", Cond.initialized "java/lang/IndexOutOfBoundsException", Cond.methodLink RX3 184 yX0_number, Cond.instanceMethod yX0_number, Cond.selects RX0 yX0_number yX0_number, Cond.initialized RX0, Cond.code yX0_number cX0_number 1 (some .int), Cond.fieldLink RX0 27 "CraneYard$Hauls" "count" "I", Cond.methodLink RX3 196 yX3_requireOffered, Cond.instanceMethod yX3_requireOffered, Cond.selects RX3 yX3_requireOffered yX3_requireOffered, Cond.code yX3_requireOffered cX3_requireOffered 2 none, Cond.methodLink RX3 216 yX0_stateOf, Cond.instanceMethod yX0_stateOf, Cond.selects RX0 yX0_stateOf yX0_stateOf, Cond.code yX0_stateOf cX0_stateOf 2 (some .int)]
def wsX3_give_r2 : List Cond := [Cond.fieldLink RX0 18 "CraneYard$Hauls" "states" "[I", Cond.methodLink RX3 208 yX0_cheapestHaulier, Cond.instanceMethod yX0_cheapestHaulier, Cond.selects RX0 yX0_cheapestHaulier yX0_cheapestHaulier, Cond.code yX0_cheapestHaulier cX0_cheapestHaulier 5 (some .int), Cond.methodLink RX0 49 yX0_priceAsked, Cond.instanceMethod yX0_priceAsked, Cond.selects RX0 yX0_priceAsked yX0_priceAsked, Cond.code yX0_priceAsked cX0_priceAsked 3 (some .int), Cond.fieldLink RX0 24 "CraneYard$Hauls" "bids" "[I", Cond.methodLink RX0 45 yX0_isPlaceForBid, Cond.instanceMethod yX0_isPlaceForBid, Cond.selects RX0 yX0_isPlaceForBid yX0_isPlaceForBid, Cond.code yX0_isPlaceForBid cX0_isPlaceForBid 3 (some .boolean), Cond.methodLink RX3 213 yX0_giveTo, Cond.instanceMethod yX0_giveTo, Cond.selects RX0 yX0_giveTo yX0_giveTo, Cond.code yX0_giveTo cX0_giveTo 3 none, Cond.fieldLink RX0 21 "CraneYard$Hauls" "prices" "[I"]
def wsX3_give : List Cond := .code yX3_give cX3_give 3 (some .int) :: ((wsX3_give_r1 ++ wsX3_give_r2) ++ wsX30 ++ wsX00 ++ (vx_atS RX3 78 "java/lang/IllegalStateException" ["java/lang/RuntimeException", "java/lang/Exception"]).filter goodWord ++ (vx_atS RX3 170 "java/lang/IndexOutOfBoundsException" ["java/lang/RuntimeException", "java/lang/Exception"]).filter goodWord)
def wsX3_load_r1 : List Cond := [Cond.classLink RX3 74 "java/lang/IllegalStateException", Cond.initialized "java/lang/IllegalStateException", Cond.fieldLink RX3 29 "CraneYard" "hauls" "LCraneYard$Hauls;", Cond.fieldLink RX3 44 "CraneYard" "craneCrate" "I", Cond.methodLink RX3 104 yX3_requireFullCrane, Cond.instanceMethod yX3_requireFullCrane, Cond.selects RX3 yX3_requireFullCrane yX3_requireFullCrane, Cond.initialized RX3, Cond.code yX3_requireFullCrane cX3_requireFullCrane 1 none, Cond.methodLink RX3 179 yX0_openHaulOf, Cond.instanceMethod yX0_openHaulOf, Cond.selects RX0 yX0_openHaulOf yX0_openHaulOf, Cond.initialized RX0, Cond.code yX0_openHaulOf cX0_openHaulOf 3 (some .int), Cond.fieldLink RX0 27 "CraneYard$Hauls" "count" "I", Cond.fieldLink RX0 9 "CraneYard$Hauls" "crates" "[I", Cond.methodLink RX0 41 yX0_isOpen, Cond.instanceMethod yX0_isOpen, Cond.selects RX0 yX0_isOpen yX0_isOpen, Cond.code yX0_isOpen cX0_isOpen 3 (some .boolean), Cond.methodLink RX0 37 yX0_stateOf, Cond.instanceMethod yX0_stateOf, Cond.selects RX0 yX0_stateOf yX0_stateOf, Cond.code yX0_stateOf cX0_stateOf 2 (some .int)]
def wsX3_load_r2 : List Cond := [Cond.fieldLink RX0 18 "CraneYard$Hauls" "states" "[I", Cond.methodLink RX3 216 yX0_stateOf, Cond.methodLink RX3 221 yX0_finish, Cond.instanceMethod yX0_finish, Cond.selects RX0 yX0_finish yX0_finish, Cond.code yX0_finish cX0_finish 2 (some .int), Cond.fieldLink RX0 31 "CraneYard$Hauls" "pricesPaid" "I", Cond.fieldLink RX0 21 "CraneYard$Hauls" "prices" "[I"]
def wsX3_load : List Cond := .code yX3_load cX3_load 2 (some .int) :: ((wsX3_load_r1 ++ wsX3_load_r2) ++ wsX30 ++ wsX00 ++ (vx_atS RX3 78 "java/lang/IllegalStateException" ["java/lang/RuntimeException", "java/lang/Exception"]).filter goodWord)
def wsX3_state : List Cond := .code yX3_state cX3_state 2 (some .int) :: ([.fieldLink RX3 29 "CraneYard" "hauls" "LCraneYard$Hauls;", .methodLink RX3 189 yX3_requireHaul, .instanceMethod yX3_requireHaul, .selects RX3 yX3_requireHaul yX3_requireHaul, .initialized RX3, .code yX3_requireHaul cX3_requireHaul 2 none, .classLink RX3 166 "java/lang/IndexOutOfBoundsException", .initialized "java/lang/IndexOutOfBoundsException", .methodLink RX3 184 yX0_number, .instanceMethod yX0_number, .selects RX0 yX0_number yX0_number, .initialized RX0, .code yX0_number cX0_number 1 (some .int), .fieldLink RX0 27 "CraneYard$Hauls" "count" "I", .methodLink RX3 216 yX0_stateOf, .instanceMethod yX0_stateOf, .selects RX0 yX0_stateOf yX0_stateOf, .code yX0_stateOf cX0_stateOf 2 (some .int), .fieldLink RX0 18 "CraneYard$Hauls" "states" "[I"] ++ wsX30 ++ wsX00 ++ (vx_atS RX3 170 "java/lang/IndexOutOfBoundsException" ["java/lang/RuntimeException", "java/lang/Exception"]).filter goodWord)
def wsX3_storm : List Cond := .code yX3_storm cX3_storm 1 (some .int) :: ([.fieldLink RX3 53 "CraneYard" "stormy" "Z", .fieldLink RX3 10 "CraneYard" "stacks" "LCraneYard$Stacks;", .methodLink RX3 120 yX3_mostPlaces, .instanceMethod yX3_mostPlaces, .selects RX3 yX3_mostPlaces yX3_mostPlaces, .initialized RX3, .code yX3_mostPlaces cX3_mostPlaces 1 (some .int), .methodLink RX3 224 yX1_cratesAbove, .instanceMethod yX1_cratesAbove, .selects RX1 yX1_cratesAbove yX1_cratesAbove, .initialized RX1, .code yX1_cratesAbove cX1_cratesAbove 4 (some .int), .fieldLink RX1 9 "CraneYard$Stacks" "heights" "[I", .methodLink RX1 55 Lib.Math.max.name, .static Lib.Math.max.name, .initialized "java/lang/Math", .code Lib.Math.max.name Lib.Math.max.code 2 (some .int)] ++ wsX30 ++ wsX10)
def wsX3_endDay_r1 : List Cond := [Cond.fieldLink RX3 57 "CraneYard" "fees" "I", Cond.fieldLink RX3 10 "CraneYard" "stacks" "LCraneYard$Stacks;", Cond.fieldLink RX3 29 "CraneYard" "hauls" "LCraneYard$Hauls;", Cond.fieldLink RX3 50 "CraneYard" "day" "I", Cond.fieldLink RX3 53 "CraneYard" "stormy" "Z", Cond.methodLink RX3 269 yX1_feeOfOneDay, Cond.instanceMethod yX1_feeOfOneDay, Cond.selects RX1 yX1_feeOfOneDay yX1_feeOfOneDay, Cond.initialized RX1, Cond.code yX1_feeOfOneDay cX1_feeOfOneDay 3 (some .int), Cond.fieldLink RX1 9 "CraneYard$Stacks" "heights" "[I", Cond.methodLink RX3 272 yX0_endDay, Cond.instanceMethod yX0_endDay, Cond.selects RX0 yX0_endDay yX0_endDay, Cond.initialized RX0, Cond.code yX0_endDay cX0_endDay 3 none, Cond.fieldLink RX0 27 "CraneYard$Hauls" "count" "I", Cond.fieldLink RX0 15 "CraneYard$Hauls" "lastDays" "[I", Cond.fieldLink RX0 18 "CraneYard$Hauls" "states" "[I", Cond.fieldLink RX0 34 "CraneYard$Hauls" "owed" "I", Cond.methodLink RX0 41 yX0_isOpen, Cond.instanceMethod yX0_isOpen, Cond.selects RX0 yX0_isOpen yX0_isOpen, Cond.code yX0_isOpen cX0_isOpen 3 (some .boolean)]
def wsX3_endDay_r2 : List Cond := [Cond.methodLink RX0 37 yX0_stateOf, Cond.instanceMethod yX0_stateOf, Cond.selects RX0 yX0_stateOf yX0_stateOf, Cond.code yX0_stateOf cX0_stateOf 2 (some .int)]
def wsX3_endDay : List Cond := .code yX3_endDay cX3_endDay 1 none :: ((wsX3_endDay_r1 ++ wsX3_endDay_r2) ++ wsX30 ++ wsX10 ++ wsX00)
def wsX3_pass_r1 : List Cond := [Cond.classLink RX3 60 "java/lang/IllegalArgumentException", Cond.initialized "java/lang/IllegalArgumentException", Cond.classLink RX3 74 "java/lang/IllegalStateException", Cond.initialized "java/lang/IllegalStateException", Cond.fieldLink RX3 50 "CraneYard" "day" "I", Cond.fieldLink RX3 57 "CraneYard" "fees" "I", Cond.methodLink RX3 231 yX3_endDay, Cond.instanceMethod yX3_endDay, Cond.selects RX3 yX3_endDay yX3_endDay, Cond.initialized RX3, Cond.code yX3_endDay cX3_endDay 1 none, Cond.fieldLink RX3 10 "CraneYard" "stacks" "LCraneYard$Stacks;", Cond.fieldLink RX3 29 "CraneYard" "hauls" "LCraneYard$Hauls;", Cond.fieldLink RX3 53 "CraneYard" "stormy" "Z", Cond.methodLink RX3 269 yX1_feeOfOneDay, Cond.instanceMethod yX1_feeOfOneDay, Cond.selects RX1 yX1_feeOfOneDay yX1_feeOfOneDay, Cond.initialized RX1, Cond.code yX1_feeOfOneDay cX1_feeOfOneDay 3 (some .int), Cond.fieldLink RX1 9 "CraneYard$Stacks" "heights" "[I", Cond.methodLink RX3 272 yX0_endDay, Cond.instanceMethod yX0_endDay, Cond.selects RX0 yX0_endDay yX0_endDay, Cond.initialized RX0]
def wsX3_pass_r2 : List Cond := [Cond.code yX0_endDay cX0_endDay 3 none, Cond.fieldLink RX0 27 "CraneYard$Hauls" "count" "I", Cond.fieldLink RX0 15 "CraneYard$Hauls" "lastDays" "[I", Cond.fieldLink RX0 18 "CraneYard$Hauls" "states" "[I", Cond.fieldLink RX0 34 "CraneYard$Hauls" "owed" "I", Cond.methodLink RX0 41 yX0_isOpen, Cond.instanceMethod yX0_isOpen, Cond.selects RX0 yX0_isOpen yX0_isOpen, Cond.code yX0_isOpen cX0_isOpen 3 (some .boolean), Cond.methodLink RX0 37 yX0_stateOf, Cond.instanceMethod yX0_stateOf, Cond.selects RX0 yX0_stateOf yX0_stateOf, Cond.code yX0_stateOf cX0_stateOf 2 (some .int)]
def wsX3_pass : List Cond := .code yX3_pass cX3_pass 4 (some .int) :: ((wsX3_pass_r1 ++ wsX3_pass_r2) ++ wsX30 ++ wsX10 ++ wsX00 ++ (vx_atS RX3 64 "java/lang/IllegalArgumentException" ["java/lang/RuntimeException", "java/lang/Exception"]).filter goodWord ++ (vx_atS RX3 78 "java/lang/IllegalStateException" ["java/lang/RuntimeException", "java/lang/Exception"]).filter goodWord)
def wsX3_today : List Cond := .code yX3_today cX3_today 1 (some .int) :: ([.fieldLink RX3 50 "CraneYard" "day" "I"] ++ wsX30)
def wsX3_balance : List Cond := .code yX3_balance cX3_balance 1 (some .int) :: ([.fieldLink RX3 22 "CraneYard" "words" "LCraneYard$Words;", .fieldLink RX3 57 "CraneYard" "fees" "I", .fieldLink RX3 29 "CraneYard" "hauls" "LCraneYard$Hauls;", .methodLink RX3 174 yX2_paidInAll, .instanceMethod yX2_paidInAll, .selects RX2 yX2_paidInAll yX2_paidInAll, .initialized RX2, .code yX2_paidInAll cX2_paidInAll 1 (some .int), .fieldLink RX2 26 "CraneYard$Words" "sum" "I", .methodLink RX3 234 yX0_pricesOfDone, .instanceMethod yX0_pricesOfDone, .selects RX0 yX0_pricesOfDone yX0_pricesOfDone, .initialized RX0, .code yX0_pricesOfDone cX0_pricesOfDone 1 (some .int), .fieldLink RX0 31 "CraneYard$Hauls" "pricesPaid" "I", .methodLink RX3 237 yX0_owedForLate, .instanceMethod yX0_owedForLate, .selects RX0 yX0_owedForLate yX0_owedForLate, .code yX0_owedForLate cX0_owedForLate 1 (some .int), .fieldLink RX0 34 "CraneYard$Hauls" "owed" "I"] ++ wsX30 ++ wsX20 ++ wsX00)
def wsX4_init : List Cond := .code yX4_init cX4_init 1 none :: ([.methodLink RX4 1 objectInit, .instanceMethod objectInit, .code objectInit ⟨#[0xb1]⟩ 1 none, .arrayClass .int, .fieldLink RX4 7 "CraneYardModel" "yard" "[I", .fieldLink RX4 13 "CraneYardModel" "heights" "[I", .fieldLink RX4 16 "CraneYardModel" "weights" "[I", .fieldLink RX4 19 "CraneYardModel" "letters" "[I", .fieldLink RX4 22 "CraneYardModel" "crane" "I", .fieldLink RX4 26 "CraneYardModel" "tried" "[I", .fieldLink RX4 29 "CraneYardModel" "triedHeights" "[I", .fieldLink RX4 32 "CraneYardModel" "words" "[I", .arrayClass .boolean, .fieldLink RX4 35 "CraneYardModel" "hasPaid" "[Z", .fieldLink RX4 39 "CraneYardModel" "loads" "[I", .fieldLink RX4 42 "CraneYardModel" "lastDays" "[I", .fieldLink RX4 45 "CraneYardModel" "states" "[I", .fieldLink RX4 48 "CraneYardModel" "prices" "[I", .fieldLink RX4 51 "CraneYardModel" "bids" "[I"] ++ wsX40)
def wsX4_thrown : List Cond := .code yX4_thrown cX4_thrown 1 (some .int) :: ([.fieldLink RX4 54 "CraneYardModel" "thrown" "I"] ++ wsX40)
def wsX4_goesWell : List Cond := .code yX4_goesWell cX4_goesWell 2 (some .boolean) :: ([.fieldLink RX4 54 "CraneYardModel" "thrown" "I"] ++ wsX40)
def wsX4_in : List Cond := .code yX4_in cX4_in 3 (some .boolean) :: ([])
def wsX4_isStack : List Cond := .code yX4_isStack cX4_isStack 1 (some .boolean) :: ([.methodLink RX4 57 yX4_in, .static yX4_in, .initialized RX4, .code yX4_in cX4_in 3 (some .boolean)])
def wsX4_isCrate : List Cond := .code yX4_isCrate cX4_isCrate 2 (some .boolean) :: ([.fieldLink RX4 61 "CraneYardModel" "crates" "I", .methodLink RX4 57 yX4_in, .static yX4_in, .initialized RX4, .code yX4_in cX4_in 3 (some .boolean)] ++ wsX40)
def wsX4_isHaul : List Cond := .code yX4_isHaul cX4_isHaul 2 (some .boolean) :: ([.fieldLink RX4 64 "CraneYardModel" "hauls" "I", .methodLink RX4 57 yX4_in, .static yX4_in, .initialized RX4, .code yX4_in cX4_in 3 (some .boolean)] ++ wsX40)
def wsX4_most : List Cond := .code yX4_most cX4_most 1 (some .int) :: ([.fieldLink RX4 67 "CraneYardModel" "isStorm" "Z"] ++ wsX40)
def wsX4_canPut : List Cond := .code yX4_canPut cX4_canPut 4 (some .boolean) :: ([.fieldLink RX4 13 "CraneYardModel" "heights" "[I", .fieldLink RX4 16 "CraneYardModel" "weights" "[I", .fieldLink RX4 7 "CraneYardModel" "yard" "[I", .methodLink RX4 71 yX4_most, .instanceMethod yX4_most, .selects RX4 yX4_most yX4_most, .initialized RX4, .code yX4_most cX4_most 1 (some .int), .fieldLink RX4 67 "CraneYardModel" "isStorm" "Z"] ++ wsX40)
def wsX4_put : List Cond := .code yX4_put cX4_put 3 none :: ([.fieldLink RX4 7 "CraneYardModel" "yard" "[I", .fieldLink RX4 13 "CraneYardModel" "heights" "[I"] ++ wsX40)
def wsX4_topOf : List Cond := .code yX4_topOf cX4_topOf 2 (some .int) :: ([.fieldLink RX4 7 "CraneYardModel" "yard" "[I", .fieldLink RX4 13 "CraneYardModel" "heights" "[I"] ++ wsX40)
def wsX4_isOnLids : List Cond := .code yX4_isOnLids cX4_isOnLids 6 (some .boolean) :: ([.fieldLink RX4 32 "CraneYardModel" "words" "[I", .fieldLink RX4 13 "CraneYardModel" "heights" "[I", .fieldLink RX4 19 "CraneYardModel" "letters" "[I", .methodLink RX4 75 yX4_topOf, .instanceMethod yX4_topOf, .selects RX4 yX4_topOf yX4_topOf, .initialized RX4, .code yX4_topOf cX4_topOf 2 (some .int), .fieldLink RX4 7 "CraneYardModel" "yard" "[I"] ++ wsX40)
def wsX4_sizeOf : List Cond := .code yX4_sizeOf cX4_sizeOf 2 (some .int) :: ([.fieldLink RX4 32 "CraneYardModel" "words" "[I"] ++ wsX40)
def wsX4_payWords : List Cond := .code yX4_payWords cX4_payWords 4 none :: ([.fieldLink RX4 79 "CraneYardModel" "many" "I", .fieldLink RX4 13 "CraneYardModel" "heights" "[I", .fieldLink RX4 35 "CraneYardModel" "hasPaid" "[Z", .fieldLink RX4 86 "CraneYardModel" "bonus" "I", .methodLink RX4 82 yX4_isOnLids, .instanceMethod yX4_isOnLids, .selects RX4 yX4_isOnLids yX4_isOnLids, .initialized RX4, .code yX4_isOnLids cX4_isOnLids 6 (some .boolean), .fieldLink RX4 32 "CraneYardModel" "words" "[I", .fieldLink RX4 19 "CraneYardModel" "letters" "[I", .methodLink RX4 75 yX4_topOf, .instanceMethod yX4_topOf, .selects RX4 yX4_topOf yX4_topOf, .code yX4_topOf cX4_topOf 2 (some .int), .fieldLink RX4 7 "CraneYardModel" "yard" "[I", .methodLink RX4 89 yX4_sizeOf, .instanceMethod yX4_sizeOf, .selects RX4 yX4_sizeOf yX4_sizeOf, .code yX4_sizeOf cX4_sizeOf 2 (some .int)] ++ wsX40)
def wsX4_arrive_r1 : List Cond := [Cond.fieldLink RX4 61 "CraneYardModel" "crates" "I", Cond.fieldLink RX4 16 "CraneYardModel" "weights" "[I", Cond.fieldLink RX4 19 "CraneYardModel" "letters" "[I", Cond.methodLink RX4 57 yX4_in, Cond.static yX4_in, Cond.initialized RX4, Cond.code yX4_in cX4_in 3 (some .boolean), Cond.methodLink RX4 92 yX4_isStack, Cond.static yX4_isStack, Cond.code yX4_isStack cX4_isStack 1 (some .boolean), Cond.methodLink RX4 96 yX4_canPut, Cond.instanceMethod yX4_canPut, Cond.selects RX4 yX4_canPut yX4_canPut, Cond.code yX4_canPut cX4_canPut 4 (some .boolean), Cond.fieldLink RX4 13 "CraneYardModel" "heights" "[I", Cond.fieldLink RX4 7 "CraneYardModel" "yard" "[I", Cond.methodLink RX4 71 yX4_most, Cond.instanceMethod yX4_most, Cond.selects RX4 yX4_most yX4_most, Cond.code yX4_most cX4_most 1 (some .int), Cond.fieldLink RX4 67 "CraneYardModel" "isStorm" "Z", Cond.methodLink RX4 99 yX4_goesWell, Cond.instanceMethod yX4_goesWell, Cond.selects RX4 yX4_goesWell yX4_goesWell]
def wsX4_arrive_r2 : List Cond := [Cond.code yX4_goesWell cX4_goesWell 2 (some .boolean), Cond.fieldLink RX4 54 "CraneYardModel" "thrown" "I", Cond.methodLink RX4 102 yX4_put, Cond.instanceMethod yX4_put, Cond.selects RX4 yX4_put yX4_put, Cond.code yX4_put cX4_put 3 none, Cond.methodLink RX4 106 yX4_payWords, Cond.instanceMethod yX4_payWords, Cond.selects RX4 yX4_payWords yX4_payWords, Cond.code yX4_payWords cX4_payWords 4 none, Cond.fieldLink RX4 79 "CraneYardModel" "many" "I", Cond.fieldLink RX4 35 "CraneYardModel" "hasPaid" "[Z", Cond.fieldLink RX4 86 "CraneYardModel" "bonus" "I", Cond.methodLink RX4 82 yX4_isOnLids, Cond.instanceMethod yX4_isOnLids, Cond.selects RX4 yX4_isOnLids yX4_isOnLids, Cond.code yX4_isOnLids cX4_isOnLids 6 (some .boolean), Cond.fieldLink RX4 32 "CraneYardModel" "words" "[I", Cond.methodLink RX4 75 yX4_topOf, Cond.instanceMethod yX4_topOf, Cond.selects RX4 yX4_topOf yX4_topOf, Cond.code yX4_topOf cX4_topOf 2 (some .int), Cond.methodLink RX4 89 yX4_sizeOf, Cond.instanceMethod yX4_sizeOf]
def wsX4_arrive_r3 : List Cond := [Cond.selects RX4 yX4_sizeOf yX4_sizeOf, Cond.code yX4_sizeOf cX4_sizeOf 2 (some .int)]
def wsX4_arrive : List Cond := .code yX4_arrive cX4_arrive 6 (some .int) :: ((wsX4_arrive_r1 ++ (wsX4_arrive_r2 ++ wsX4_arrive_r3)) ++ wsX40)
def wsX4_lift_r1 : List Cond := [Cond.fieldLink RX4 13 "CraneYardModel" "heights" "[I", Cond.fieldLink RX4 22 "CraneYardModel" "crane" "I", Cond.fieldLink RX4 109 "CraneYardModel" "lifts" "I", Cond.methodLink RX4 92 yX4_isStack, Cond.static yX4_isStack, Cond.initialized RX4, Cond.code yX4_isStack cX4_isStack 1 (some .boolean), Cond.methodLink RX4 57 yX4_in, Cond.static yX4_in, Cond.code yX4_in cX4_in 3 (some .boolean), Cond.methodLink RX4 99 yX4_goesWell, Cond.instanceMethod yX4_goesWell, Cond.selects RX4 yX4_goesWell yX4_goesWell, Cond.code yX4_goesWell cX4_goesWell 2 (some .boolean), Cond.fieldLink RX4 54 "CraneYardModel" "thrown" "I", Cond.methodLink RX4 75 yX4_topOf, Cond.instanceMethod yX4_topOf, Cond.selects RX4 yX4_topOf yX4_topOf, Cond.code yX4_topOf cX4_topOf 2 (some .int), Cond.fieldLink RX4 7 "CraneYardModel" "yard" "[I", Cond.methodLink RX4 106 yX4_payWords, Cond.instanceMethod yX4_payWords, Cond.selects RX4 yX4_payWords yX4_payWords, Cond.code yX4_payWords cX4_payWords 4 none]
def wsX4_lift_r2 : List Cond := [Cond.fieldLink RX4 79 "CraneYardModel" "many" "I", Cond.fieldLink RX4 35 "CraneYardModel" "hasPaid" "[Z", Cond.fieldLink RX4 86 "CraneYardModel" "bonus" "I", Cond.methodLink RX4 82 yX4_isOnLids, Cond.instanceMethod yX4_isOnLids, Cond.selects RX4 yX4_isOnLids yX4_isOnLids, Cond.code yX4_isOnLids cX4_isOnLids 6 (some .boolean), Cond.fieldLink RX4 32 "CraneYardModel" "words" "[I", Cond.fieldLink RX4 19 "CraneYardModel" "letters" "[I", Cond.methodLink RX4 89 yX4_sizeOf, Cond.instanceMethod yX4_sizeOf, Cond.selects RX4 yX4_sizeOf yX4_sizeOf, Cond.code yX4_sizeOf cX4_sizeOf 2 (some .int)]
def wsX4_lift : List Cond := .code yX4_lift cX4_lift 3 (some .int) :: ((wsX4_lift_r1 ++ wsX4_lift_r2) ++ wsX40)
def wsX4_drop_r1 : List Cond := [Cond.fieldLink RX4 22 "CraneYardModel" "crane" "I", Cond.fieldLink RX4 16 "CraneYardModel" "weights" "[I", Cond.fieldLink RX4 13 "CraneYardModel" "heights" "[I", Cond.methodLink RX4 92 yX4_isStack, Cond.static yX4_isStack, Cond.initialized RX4, Cond.code yX4_isStack cX4_isStack 1 (some .boolean), Cond.methodLink RX4 57 yX4_in, Cond.static yX4_in, Cond.code yX4_in cX4_in 3 (some .boolean), Cond.methodLink RX4 96 yX4_canPut, Cond.instanceMethod yX4_canPut, Cond.selects RX4 yX4_canPut yX4_canPut, Cond.code yX4_canPut cX4_canPut 4 (some .boolean), Cond.fieldLink RX4 7 "CraneYardModel" "yard" "[I", Cond.methodLink RX4 71 yX4_most, Cond.instanceMethod yX4_most, Cond.selects RX4 yX4_most yX4_most, Cond.code yX4_most cX4_most 1 (some .int), Cond.fieldLink RX4 67 "CraneYardModel" "isStorm" "Z", Cond.methodLink RX4 99 yX4_goesWell, Cond.instanceMethod yX4_goesWell, Cond.selects RX4 yX4_goesWell yX4_goesWell, Cond.code yX4_goesWell cX4_goesWell 2 (some .boolean)]
def wsX4_drop_r2 : List Cond := [Cond.fieldLink RX4 54 "CraneYardModel" "thrown" "I", Cond.methodLink RX4 102 yX4_put, Cond.instanceMethod yX4_put, Cond.selects RX4 yX4_put yX4_put, Cond.code yX4_put cX4_put 3 none, Cond.methodLink RX4 106 yX4_payWords, Cond.instanceMethod yX4_payWords, Cond.selects RX4 yX4_payWords yX4_payWords, Cond.code yX4_payWords cX4_payWords 4 none, Cond.fieldLink RX4 79 "CraneYardModel" "many" "I", Cond.fieldLink RX4 35 "CraneYardModel" "hasPaid" "[Z", Cond.fieldLink RX4 86 "CraneYardModel" "bonus" "I", Cond.methodLink RX4 82 yX4_isOnLids, Cond.instanceMethod yX4_isOnLids, Cond.selects RX4 yX4_isOnLids yX4_isOnLids, Cond.code yX4_isOnLids cX4_isOnLids 6 (some .boolean), Cond.fieldLink RX4 32 "CraneYardModel" "words" "[I", Cond.fieldLink RX4 19 "CraneYardModel" "letters" "[I", Cond.methodLink RX4 75 yX4_topOf, Cond.instanceMethod yX4_topOf, Cond.selects RX4 yX4_topOf yX4_topOf, Cond.code yX4_topOf cX4_topOf 2 (some .int), Cond.methodLink RX4 89 yX4_sizeOf, Cond.instanceMethod yX4_sizeOf]
def wsX4_drop_r3 : List Cond := [Cond.selects RX4 yX4_sizeOf yX4_sizeOf, Cond.code yX4_sizeOf cX4_sizeOf 2 (some .int)]
def wsX4_drop : List Cond := .code yX4_drop cX4_drop 4 (some .int) :: ((wsX4_drop_r1 ++ (wsX4_drop_r2 ++ wsX4_drop_r3)) ++ wsX40)
def wsX4_copyYard : List Cond := .code yX4_copyYard cX4_copyYard 2 none :: ([.fieldLink RX4 26 "CraneYardModel" "tried" "[I", .fieldLink RX4 7 "CraneYardModel" "yard" "[I", .fieldLink RX4 29 "CraneYardModel" "triedHeights" "[I", .fieldLink RX4 13 "CraneYardModel" "heights" "[I"] ++ wsX40)
def wsX4_canTry : List Cond := .code yX4_canTry cX4_canTry 4 (some .boolean) :: ([.fieldLink RX4 29 "CraneYardModel" "triedHeights" "[I", .fieldLink RX4 16 "CraneYardModel" "weights" "[I", .fieldLink RX4 26 "CraneYardModel" "tried" "[I", .methodLink RX4 71 yX4_most, .instanceMethod yX4_most, .selects RX4 yX4_most yX4_most, .initialized RX4, .code yX4_most cX4_most 1 (some .int), .fieldLink RX4 67 "CraneYardModel" "isStorm" "Z"] ++ wsX40)
def wsX4_find : List Cond := .code yX4_find cX4_find 3 (some .int) :: ([.fieldLink RX4 29 "CraneYardModel" "triedHeights" "[I", .fieldLink RX4 26 "CraneYardModel" "tried" "[I"] ++ wsX40)
def wsX4_digOut : List Cond := .code yX4_digOut cX4_digOut 8 (some .int) :: ([.fieldLink RX4 26 "CraneYardModel" "tried" "[I", .fieldLink RX4 29 "CraneYardModel" "triedHeights" "[I", .methodLink RX4 112 yX4_find, .instanceMethod yX4_find, .selects RX4 yX4_find yX4_find, .initialized RX4, .code yX4_find cX4_find 3 (some .int), .methodLink RX4 115 yX4_canTry, .instanceMethod yX4_canTry, .selects RX4 yX4_canTry yX4_canTry, .code yX4_canTry cX4_canTry 4 (some .boolean), .fieldLink RX4 16 "CraneYardModel" "weights" "[I", .methodLink RX4 71 yX4_most, .instanceMethod yX4_most, .selects RX4 yX4_most yX4_most, .code yX4_most cX4_most 1 (some .int), .fieldLink RX4 67 "CraneYardModel" "isStorm" "Z"] ++ wsX40)
def wsX4_dig_r1 : List Cond := [Cond.fieldLink RX4 22 "CraneYardModel" "crane" "I", Cond.fieldLink RX4 7 "CraneYardModel" "yard" "[I", Cond.fieldLink RX4 26 "CraneYardModel" "tried" "[I", Cond.fieldLink RX4 13 "CraneYardModel" "heights" "[I", Cond.fieldLink RX4 29 "CraneYardModel" "triedHeights" "[I", Cond.fieldLink RX4 109 "CraneYardModel" "lifts" "I", Cond.methodLink RX4 118 yX4_copyYard, Cond.instanceMethod yX4_copyYard, Cond.selects RX4 yX4_copyYard yX4_copyYard, Cond.initialized RX4, Cond.code yX4_copyYard cX4_copyYard 2 none, Cond.methodLink RX4 121 yX4_isCrate, Cond.instanceMethod yX4_isCrate, Cond.selects RX4 yX4_isCrate yX4_isCrate, Cond.code yX4_isCrate cX4_isCrate 2 (some .boolean), Cond.fieldLink RX4 61 "CraneYardModel" "crates" "I", Cond.methodLink RX4 57 yX4_in, Cond.static yX4_in, Cond.code yX4_in cX4_in 3 (some .boolean), Cond.methodLink RX4 124 yX4_digOut, Cond.instanceMethod yX4_digOut, Cond.selects RX4 yX4_digOut yX4_digOut, Cond.code yX4_digOut cX4_digOut 8 (some .int), Cond.methodLink RX4 112 yX4_find]
def wsX4_dig_r2 : List Cond := [Cond.instanceMethod yX4_find, Cond.selects RX4 yX4_find yX4_find, Cond.code yX4_find cX4_find 3 (some .int), Cond.methodLink RX4 115 yX4_canTry, Cond.instanceMethod yX4_canTry, Cond.selects RX4 yX4_canTry yX4_canTry, Cond.code yX4_canTry cX4_canTry 4 (some .boolean), Cond.fieldLink RX4 16 "CraneYardModel" "weights" "[I", Cond.methodLink RX4 71 yX4_most, Cond.instanceMethod yX4_most, Cond.selects RX4 yX4_most yX4_most, Cond.code yX4_most cX4_most 1 (some .int), Cond.fieldLink RX4 67 "CraneYardModel" "isStorm" "Z", Cond.methodLink RX4 99 yX4_goesWell, Cond.instanceMethod yX4_goesWell, Cond.selects RX4 yX4_goesWell yX4_goesWell, Cond.code yX4_goesWell cX4_goesWell 2 (some .boolean), Cond.fieldLink RX4 54 "CraneYardModel" "thrown" "I", Cond.methodLink RX4 106 yX4_payWords, Cond.instanceMethod yX4_payWords, Cond.selects RX4 yX4_payWords yX4_payWords, Cond.code yX4_payWords cX4_payWords 4 none, Cond.fieldLink RX4 79 "CraneYardModel" "many" "I", Cond.fieldLink RX4 35 "CraneYardModel" "hasPaid" "[Z"]
def wsX4_dig_r3 : List Cond := [Cond.fieldLink RX4 86 "CraneYardModel" "bonus" "I", Cond.methodLink RX4 82 yX4_isOnLids, Cond.instanceMethod yX4_isOnLids, Cond.selects RX4 yX4_isOnLids yX4_isOnLids, Cond.code yX4_isOnLids cX4_isOnLids 6 (some .boolean), Cond.fieldLink RX4 32 "CraneYardModel" "words" "[I", Cond.fieldLink RX4 19 "CraneYardModel" "letters" "[I", Cond.methodLink RX4 75 yX4_topOf, Cond.instanceMethod yX4_topOf, Cond.selects RX4 yX4_topOf yX4_topOf, Cond.code yX4_topOf cX4_topOf 2 (some .int), Cond.methodLink RX4 89 yX4_sizeOf, Cond.instanceMethod yX4_sizeOf, Cond.selects RX4 yX4_sizeOf yX4_sizeOf, Cond.code yX4_sizeOf cX4_sizeOf 2 (some .int)]
def wsX4_dig : List Cond := .code yX4_dig cX4_dig 4 (some .int) :: ((wsX4_dig_r1 ++ (wsX4_dig_r2 ++ wsX4_dig_r3)) ++ wsX40)
def wsX4_crane : List Cond := .code yX4_crane cX4_crane 1 (some .int) :: ([.fieldLink RX4 54 "CraneYardModel" "thrown" "I", .fieldLink RX4 22 "CraneYardModel" "crane" "I"] ++ wsX40)
def wsX4_height : List Cond := .code yX4_height cX4_height 2 (some .int) :: ([.fieldLink RX4 13 "CraneYardModel" "heights" "[I", .methodLink RX4 92 yX4_isStack, .static yX4_isStack, .initialized RX4, .code yX4_isStack cX4_isStack 1 (some .boolean), .methodLink RX4 57 yX4_in, .static yX4_in, .code yX4_in cX4_in 3 (some .boolean), .methodLink RX4 99 yX4_goesWell, .instanceMethod yX4_goesWell, .selects RX4 yX4_goesWell yX4_goesWell, .code yX4_goesWell cX4_goesWell 2 (some .boolean), .fieldLink RX4 54 "CraneYardModel" "thrown" "I"] ++ wsX40)
def wsX4_at : List Cond := .code yX4_at cX4_at 3 (some .int) :: ([.fieldLink RX4 13 "CraneYardModel" "heights" "[I", .fieldLink RX4 7 "CraneYardModel" "yard" "[I", .methodLink RX4 92 yX4_isStack, .static yX4_isStack, .initialized RX4, .code yX4_isStack cX4_isStack 1 (some .boolean), .methodLink RX4 57 yX4_in, .static yX4_in, .code yX4_in cX4_in 3 (some .boolean), .methodLink RX4 99 yX4_goesWell, .instanceMethod yX4_goesWell, .selects RX4 yX4_goesWell yX4_goesWell, .code yX4_goesWell cX4_goesWell 2 (some .boolean), .fieldLink RX4 54 "CraneYardModel" "thrown" "I"] ++ wsX40)
def wsX4_stackOf_r1 : List Cond := [Cond.methodLink RX4 121 yX4_isCrate, Cond.instanceMethod yX4_isCrate, Cond.selects RX4 yX4_isCrate yX4_isCrate, Cond.initialized RX4, Cond.code yX4_isCrate cX4_isCrate 2 (some .boolean), Cond.fieldLink RX4 61 "CraneYardModel" "crates" "I", Cond.methodLink RX4 57 yX4_in, Cond.static yX4_in, Cond.code yX4_in cX4_in 3 (some .boolean), Cond.methodLink RX4 99 yX4_goesWell, Cond.instanceMethod yX4_goesWell, Cond.selects RX4 yX4_goesWell yX4_goesWell, Cond.code yX4_goesWell cX4_goesWell 2 (some .boolean), Cond.fieldLink RX4 54 "CraneYardModel" "thrown" "I", Cond.methodLink RX4 118 yX4_copyYard, Cond.instanceMethod yX4_copyYard, Cond.selects RX4 yX4_copyYard yX4_copyYard, Cond.code yX4_copyYard cX4_copyYard 2 none, Cond.fieldLink RX4 26 "CraneYardModel" "tried" "[I", Cond.fieldLink RX4 7 "CraneYardModel" "yard" "[I", Cond.fieldLink RX4 29 "CraneYardModel" "triedHeights" "[I", Cond.fieldLink RX4 13 "CraneYardModel" "heights" "[I", Cond.methodLink RX4 112 yX4_find, Cond.instanceMethod yX4_find]
def wsX4_stackOf_r2 : List Cond := [Cond.selects RX4 yX4_find yX4_find, Cond.code yX4_find cX4_find 3 (some .int)]
def wsX4_stackOf : List Cond := .code yX4_stackOf cX4_stackOf 2 (some .int) :: ((wsX4_stackOf_r1 ++ wsX4_stackOf_r2) ++ wsX40)
def wsX4_lifts : List Cond := .code yX4_lifts cX4_lifts 1 (some .int) :: ([.fieldLink RX4 54 "CraneYardModel" "thrown" "I", .fieldLink RX4 109 "CraneYardModel" "lifts" "I"] ++ wsX40)
def wsX4_member : List Cond := .code yX4_member cX4_member 4 (some .int) :: ([])
def wsX4_bits : List Cond := .code yX4_bits cX4_bits 3 (some .int) :: ([])
def wsX4_isSet : List Cond := .code yX4_isSet cX4_isSet 4 (some .boolean) :: ([.constant RX4 127 (1073741824), .methodLink RX4 118 yX4_copyYard, .instanceMethod yX4_copyYard, .selects RX4 yX4_copyYard yX4_copyYard, .initialized RX4, .code yX4_copyYard cX4_copyYard 2 none, .fieldLink RX4 26 "CraneYardModel" "tried" "[I", .fieldLink RX4 7 "CraneYardModel" "yard" "[I", .fieldLink RX4 29 "CraneYardModel" "triedHeights" "[I", .fieldLink RX4 13 "CraneYardModel" "heights" "[I", .methodLink RX4 128 yX4_bits, .static yX4_bits, .code yX4_bits cX4_bits 3 (some .int), .methodLink RX4 57 yX4_in, .static yX4_in, .code yX4_in cX4_in 3 (some .boolean), .methodLink RX4 112 yX4_find, .instanceMethod yX4_find, .selects RX4 yX4_find yX4_find, .code yX4_find cX4_find 3 (some .int)] ++ wsX40)
def wsX4_liftsBy_r1 : List Cond := [Cond.methodLink RX4 118 yX4_copyYard, Cond.instanceMethod yX4_copyYard, Cond.selects RX4 yX4_copyYard yX4_copyYard, Cond.initialized RX4, Cond.code yX4_copyYard cX4_copyYard 2 none, Cond.fieldLink RX4 26 "CraneYardModel" "tried" "[I", Cond.fieldLink RX4 7 "CraneYardModel" "yard" "[I", Cond.fieldLink RX4 29 "CraneYardModel" "triedHeights" "[I", Cond.fieldLink RX4 13 "CraneYardModel" "heights" "[I", Cond.methodLink RX4 131 yX4_member, Cond.static yX4_member, Cond.code yX4_member cX4_member 4 (some .int), Cond.methodLink RX4 124 yX4_digOut, Cond.instanceMethod yX4_digOut, Cond.selects RX4 yX4_digOut yX4_digOut, Cond.code yX4_digOut cX4_digOut 8 (some .int), Cond.methodLink RX4 112 yX4_find, Cond.instanceMethod yX4_find, Cond.selects RX4 yX4_find yX4_find, Cond.code yX4_find cX4_find 3 (some .int), Cond.methodLink RX4 115 yX4_canTry, Cond.instanceMethod yX4_canTry, Cond.selects RX4 yX4_canTry yX4_canTry, Cond.code yX4_canTry cX4_canTry 4 (some .boolean)]
def wsX4_liftsBy_r2 : List Cond := [Cond.fieldLink RX4 16 "CraneYardModel" "weights" "[I", Cond.methodLink RX4 71 yX4_most, Cond.instanceMethod yX4_most, Cond.selects RX4 yX4_most yX4_most, Cond.code yX4_most cX4_most 1 (some .int), Cond.fieldLink RX4 67 "CraneYardModel" "isStorm" "Z"]
def wsX4_liftsBy : List Cond := .code yX4_liftsBy cX4_liftsBy 11 (some .int) :: ((wsX4_liftsBy_r1 ++ wsX4_liftsBy_r2) ++ wsX40)
def wsX4_fewestLifts_r1 : List Cond := [Cond.fieldLink RX4 22 "CraneYardModel" "crane" "I", Cond.methodLink RX4 135 yX4_isSet, Cond.instanceMethod yX4_isSet, Cond.selects RX4 yX4_isSet yX4_isSet, Cond.initialized RX4, Cond.code yX4_isSet cX4_isSet 4 (some .boolean), Cond.constant RX4 127 (1073741824), Cond.methodLink RX4 118 yX4_copyYard, Cond.instanceMethod yX4_copyYard, Cond.selects RX4 yX4_copyYard yX4_copyYard, Cond.code yX4_copyYard cX4_copyYard 2 none, Cond.fieldLink RX4 26 "CraneYardModel" "tried" "[I", Cond.fieldLink RX4 7 "CraneYardModel" "yard" "[I", Cond.fieldLink RX4 29 "CraneYardModel" "triedHeights" "[I", Cond.fieldLink RX4 13 "CraneYardModel" "heights" "[I", Cond.methodLink RX4 128 yX4_bits, Cond.static yX4_bits, Cond.code yX4_bits cX4_bits 3 (some .int), Cond.methodLink RX4 57 yX4_in, Cond.static yX4_in, Cond.code yX4_in cX4_in 3 (some .boolean), Cond.methodLink RX4 112 yX4_find, Cond.instanceMethod yX4_find, Cond.selects RX4 yX4_find yX4_find]
def wsX4_fewestLifts_r2 : List Cond := [Cond.code yX4_find cX4_find 3 (some .int), Cond.methodLink RX4 99 yX4_goesWell, Cond.instanceMethod yX4_goesWell, Cond.selects RX4 yX4_goesWell yX4_goesWell, Cond.code yX4_goesWell cX4_goesWell 2 (some .boolean), Cond.fieldLink RX4 54 "CraneYardModel" "thrown" "I", Cond.methodLink RX4 138 yX4_liftsBy, Cond.instanceMethod yX4_liftsBy, Cond.selects RX4 yX4_liftsBy yX4_liftsBy, Cond.code yX4_liftsBy cX4_liftsBy 11 (some .int), Cond.methodLink RX4 131 yX4_member, Cond.static yX4_member, Cond.code yX4_member cX4_member 4 (some .int), Cond.methodLink RX4 124 yX4_digOut, Cond.instanceMethod yX4_digOut, Cond.selects RX4 yX4_digOut yX4_digOut, Cond.code yX4_digOut cX4_digOut 8 (some .int), Cond.methodLink RX4 115 yX4_canTry, Cond.instanceMethod yX4_canTry, Cond.selects RX4 yX4_canTry yX4_canTry, Cond.code yX4_canTry cX4_canTry 4 (some .boolean), Cond.fieldLink RX4 16 "CraneYardModel" "weights" "[I", Cond.methodLink RX4 71 yX4_most, Cond.instanceMethod yX4_most]
def wsX4_fewestLifts_r3 : List Cond := [Cond.selects RX4 yX4_most yX4_most, Cond.code yX4_most cX4_most 1 (some .int), Cond.fieldLink RX4 67 "CraneYardModel" "isStorm" "Z"]
def wsX4_fewestLifts : List Cond := .code yX4_fewestLifts cX4_fewestLifts 6 (some .int) :: ((wsX4_fewestLifts_r1 ++ (wsX4_fewestLifts_r2 ++ wsX4_fewestLifts_r3)) ++ wsX40)
def wsX4_isLetter : List Cond := .code yX4_isLetter cX4_isLetter 1 (some .boolean) :: ([.methodLink RX4 57 yX4_in, .static yX4_in, .initialized RX4, .code yX4_in cX4_in 3 (some .boolean)])
def wsX4_tell_r1 : List Cond := [Cond.fieldLink RX4 79 "CraneYardModel" "many" "I", Cond.fieldLink RX4 32 "CraneYardModel" "words" "[I", Cond.methodLink RX4 142 yX4_isLetter, Cond.static yX4_isLetter, Cond.initialized RX4, Cond.code yX4_isLetter cX4_isLetter 1 (some .boolean), Cond.methodLink RX4 57 yX4_in, Cond.static yX4_in, Cond.code yX4_in cX4_in 3 (some .boolean), Cond.methodLink RX4 99 yX4_goesWell, Cond.instanceMethod yX4_goesWell, Cond.selects RX4 yX4_goesWell yX4_goesWell, Cond.code yX4_goesWell cX4_goesWell 2 (some .boolean), Cond.fieldLink RX4 54 "CraneYardModel" "thrown" "I", Cond.methodLink RX4 106 yX4_payWords, Cond.instanceMethod yX4_payWords, Cond.selects RX4 yX4_payWords yX4_payWords, Cond.code yX4_payWords cX4_payWords 4 none, Cond.fieldLink RX4 13 "CraneYardModel" "heights" "[I", Cond.fieldLink RX4 35 "CraneYardModel" "hasPaid" "[Z", Cond.fieldLink RX4 86 "CraneYardModel" "bonus" "I", Cond.methodLink RX4 82 yX4_isOnLids, Cond.instanceMethod yX4_isOnLids, Cond.selects RX4 yX4_isOnLids yX4_isOnLids]
def wsX4_tell_r2 : List Cond := [Cond.code yX4_isOnLids cX4_isOnLids 6 (some .boolean), Cond.fieldLink RX4 19 "CraneYardModel" "letters" "[I", Cond.methodLink RX4 75 yX4_topOf, Cond.instanceMethod yX4_topOf, Cond.selects RX4 yX4_topOf yX4_topOf, Cond.code yX4_topOf cX4_topOf 2 (some .int), Cond.fieldLink RX4 7 "CraneYardModel" "yard" "[I", Cond.methodLink RX4 89 yX4_sizeOf, Cond.instanceMethod yX4_sizeOf, Cond.selects RX4 yX4_sizeOf yX4_sizeOf, Cond.code yX4_sizeOf cX4_sizeOf 2 (some .int)]
def wsX4_tell : List Cond := .code yX4_tell cX4_tell 6 (some .int) :: ((wsX4_tell_r1 ++ wsX4_tell_r2) ++ wsX40)
def wsX4_hasPaid : List Cond := .code yX4_hasPaid cX4_hasPaid 2 (some .boolean) :: ([.fieldLink RX4 79 "CraneYardModel" "many" "I", .fieldLink RX4 35 "CraneYardModel" "hasPaid" "[Z", .methodLink RX4 57 yX4_in, .static yX4_in, .initialized RX4, .code yX4_in cX4_in 3 (some .boolean), .methodLink RX4 99 yX4_goesWell, .instanceMethod yX4_goesWell, .selects RX4 yX4_goesWell yX4_goesWell, .code yX4_goesWell cX4_goesWell 2 (some .boolean), .fieldLink RX4 54 "CraneYardModel" "thrown" "I"] ++ wsX40)
def wsX4_bonus : List Cond := .code yX4_bonus cX4_bonus 1 (some .int) :: ([.fieldLink RX4 54 "CraneYardModel" "thrown" "I", .fieldLink RX4 86 "CraneYardModel" "bonus" "I"] ++ wsX40)
def wsX4_haulOf : List Cond := .code yX4_haulOf cX4_haulOf 3 (some .int) :: ([.fieldLink RX4 64 "CraneYardModel" "hauls" "I", .fieldLink RX4 39 "CraneYardModel" "loads" "[I", .fieldLink RX4 45 "CraneYardModel" "states" "[I"] ++ wsX40)
def wsX4_offer_r1 : List Cond := [Cond.fieldLink RX4 64 "CraneYardModel" "hauls" "I", Cond.fieldLink RX4 148 "CraneYardModel" "today" "I", Cond.fieldLink RX4 39 "CraneYardModel" "loads" "[I", Cond.fieldLink RX4 42 "CraneYardModel" "lastDays" "[I", Cond.fieldLink RX4 45 "CraneYardModel" "states" "[I", Cond.methodLink RX4 121 yX4_isCrate, Cond.instanceMethod yX4_isCrate, Cond.selects RX4 yX4_isCrate yX4_isCrate, Cond.initialized RX4, Cond.code yX4_isCrate cX4_isCrate 2 (some .boolean), Cond.fieldLink RX4 61 "CraneYardModel" "crates" "I", Cond.methodLink RX4 57 yX4_in, Cond.static yX4_in, Cond.code yX4_in cX4_in 3 (some .boolean), Cond.methodLink RX4 118 yX4_copyYard, Cond.instanceMethod yX4_copyYard, Cond.selects RX4 yX4_copyYard yX4_copyYard, Cond.code yX4_copyYard cX4_copyYard 2 none, Cond.fieldLink RX4 26 "CraneYardModel" "tried" "[I", Cond.fieldLink RX4 7 "CraneYardModel" "yard" "[I", Cond.fieldLink RX4 29 "CraneYardModel" "triedHeights" "[I", Cond.fieldLink RX4 13 "CraneYardModel" "heights" "[I", Cond.methodLink RX4 112 yX4_find, Cond.instanceMethod yX4_find]
def wsX4_offer_r2 : List Cond := [Cond.selects RX4 yX4_find yX4_find, Cond.code yX4_find cX4_find 3 (some .int), Cond.methodLink RX4 145 yX4_haulOf, Cond.instanceMethod yX4_haulOf, Cond.selects RX4 yX4_haulOf yX4_haulOf, Cond.code yX4_haulOf cX4_haulOf 3 (some .int), Cond.methodLink RX4 99 yX4_goesWell, Cond.instanceMethod yX4_goesWell, Cond.selects RX4 yX4_goesWell yX4_goesWell, Cond.code yX4_goesWell cX4_goesWell 2 (some .boolean), Cond.fieldLink RX4 54 "CraneYardModel" "thrown" "I"]
def wsX4_offer : List Cond := .code yX4_offer cX4_offer 5 (some .int) :: ((wsX4_offer_r1 ++ wsX4_offer_r2) ++ wsX40)
def wsX4_bid : List Cond := .code yX4_bid cX4_bid 7 none :: ([.fieldLink RX4 45 "CraneYardModel" "states" "[I", .fieldLink RX4 51 "CraneYardModel" "bids" "[I", .methodLink RX4 151 yX4_isHaul, .instanceMethod yX4_isHaul, .selects RX4 yX4_isHaul yX4_isHaul, .initialized RX4, .code yX4_isHaul cX4_isHaul 2 (some .boolean), .fieldLink RX4 64 "CraneYardModel" "hauls" "I", .methodLink RX4 57 yX4_in, .static yX4_in, .code yX4_in cX4_in 3 (some .boolean), .methodLink RX4 99 yX4_goesWell, .instanceMethod yX4_goesWell, .selects RX4 yX4_goesWell yX4_goesWell, .code yX4_goesWell cX4_goesWell 2 (some .boolean), .fieldLink RX4 54 "CraneYardModel" "thrown" "I"] ++ wsX40)
def wsX4_cheapest : List Cond := .code yX4_cheapest cX4_cheapest 5 (some .int) :: ([.fieldLink RX4 51 "CraneYardModel" "bids" "[I"] ++ wsX40)
def wsX4_give : List Cond := .code yX4_give cX4_give 4 (some .int) :: ([.fieldLink RX4 45 "CraneYardModel" "states" "[I", .fieldLink RX4 48 "CraneYardModel" "prices" "[I", .fieldLink RX4 51 "CraneYardModel" "bids" "[I", .methodLink RX4 151 yX4_isHaul, .instanceMethod yX4_isHaul, .selects RX4 yX4_isHaul yX4_isHaul, .initialized RX4, .code yX4_isHaul cX4_isHaul 2 (some .boolean), .fieldLink RX4 64 "CraneYardModel" "hauls" "I", .methodLink RX4 57 yX4_in, .static yX4_in, .code yX4_in cX4_in 3 (some .boolean), .methodLink RX4 154 yX4_cheapest, .instanceMethod yX4_cheapest, .selects RX4 yX4_cheapest yX4_cheapest, .code yX4_cheapest cX4_cheapest 5 (some .int), .methodLink RX4 99 yX4_goesWell, .instanceMethod yX4_goesWell, .selects RX4 yX4_goesWell yX4_goesWell, .code yX4_goesWell cX4_goesWell 2 (some .boolean), .fieldLink RX4 54 "CraneYardModel" "thrown" "I"] ++ wsX40)
def wsX4_load : List Cond := .code yX4_load cX4_load 2 (some .int) :: ([.fieldLink RX4 22 "CraneYardModel" "crane" "I", .fieldLink RX4 45 "CraneYardModel" "states" "[I", .fieldLink RX4 48 "CraneYardModel" "prices" "[I", .methodLink RX4 145 yX4_haulOf, .instanceMethod yX4_haulOf, .selects RX4 yX4_haulOf yX4_haulOf, .initialized RX4, .code yX4_haulOf cX4_haulOf 3 (some .int), .fieldLink RX4 64 "CraneYardModel" "hauls" "I", .fieldLink RX4 39 "CraneYardModel" "loads" "[I", .methodLink RX4 99 yX4_goesWell, .instanceMethod yX4_goesWell, .selects RX4 yX4_goesWell yX4_goesWell, .code yX4_goesWell cX4_goesWell 2 (some .boolean), .fieldLink RX4 54 "CraneYardModel" "thrown" "I"] ++ wsX40)
def wsX4_state : List Cond := .code yX4_state cX4_state 2 (some .int) :: ([.fieldLink RX4 45 "CraneYardModel" "states" "[I", .methodLink RX4 151 yX4_isHaul, .instanceMethod yX4_isHaul, .selects RX4 yX4_isHaul yX4_isHaul, .initialized RX4, .code yX4_isHaul cX4_isHaul 2 (some .boolean), .fieldLink RX4 64 "CraneYardModel" "hauls" "I", .methodLink RX4 57 yX4_in, .static yX4_in, .code yX4_in cX4_in 3 (some .boolean), .methodLink RX4 99 yX4_goesWell, .instanceMethod yX4_goesWell, .selects RX4 yX4_goesWell yX4_goesWell, .code yX4_goesWell cX4_goesWell 2 (some .boolean), .fieldLink RX4 54 "CraneYardModel" "thrown" "I"] ++ wsX40)
def wsX4_storm : List Cond := .code yX4_storm cX4_storm 3 (some .int) :: ([.fieldLink RX4 54 "CraneYardModel" "thrown" "I", .fieldLink RX4 67 "CraneYardModel" "isStorm" "Z", .fieldLink RX4 13 "CraneYardModel" "heights" "[I"] ++ wsX40)
def wsX4_endDay : List Cond := .code yX4_endDay cX4_endDay 3 (some .int) :: ([.fieldLink RX4 13 "CraneYardModel" "heights" "[I", .fieldLink RX4 64 "CraneYardModel" "hauls" "I", .fieldLink RX4 45 "CraneYardModel" "states" "[I", .fieldLink RX4 42 "CraneYardModel" "lastDays" "[I", .fieldLink RX4 148 "CraneYardModel" "today" "I", .fieldLink RX4 157 "CraneYardModel" "fees" "I", .fieldLink RX4 67 "CraneYardModel" "isStorm" "Z"] ++ wsX40)
def wsX4_pass : List Cond := .code yX4_pass cX4_pass 5 (some .int) :: ([.fieldLink RX4 148 "CraneYardModel" "today" "I", .methodLink RX4 57 yX4_in, .static yX4_in, .initialized RX4, .code yX4_in cX4_in 3 (some .boolean), .methodLink RX4 99 yX4_goesWell, .instanceMethod yX4_goesWell, .selects RX4 yX4_goesWell yX4_goesWell, .code yX4_goesWell cX4_goesWell 2 (some .boolean), .fieldLink RX4 54 "CraneYardModel" "thrown" "I", .methodLink RX4 160 yX4_endDay, .instanceMethod yX4_endDay, .selects RX4 yX4_endDay yX4_endDay, .code yX4_endDay cX4_endDay 3 (some .int), .fieldLink RX4 13 "CraneYardModel" "heights" "[I", .fieldLink RX4 64 "CraneYardModel" "hauls" "I", .fieldLink RX4 45 "CraneYardModel" "states" "[I", .fieldLink RX4 42 "CraneYardModel" "lastDays" "[I", .fieldLink RX4 157 "CraneYardModel" "fees" "I", .fieldLink RX4 67 "CraneYardModel" "isStorm" "Z"] ++ wsX40)
def wsX4_today : List Cond := .code yX4_today cX4_today 1 (some .int) :: ([.fieldLink RX4 54 "CraneYardModel" "thrown" "I", .fieldLink RX4 148 "CraneYardModel" "today" "I"] ++ wsX40)
def wsX4_balance : List Cond := .code yX4_balance cX4_balance 3 (some .int) :: ([.fieldLink RX4 54 "CraneYardModel" "thrown" "I", .fieldLink RX4 86 "CraneYardModel" "bonus" "I", .fieldLink RX4 157 "CraneYardModel" "fees" "I", .fieldLink RX4 64 "CraneYardModel" "hauls" "I", .fieldLink RX4 45 "CraneYardModel" "states" "[I", .fieldLink RX4 48 "CraneYardModel" "prices" "[I"] ++ wsX40)
def wsJ9_max_7cf53 : List Cond := .code yJ9_max_7cf53 cJ9_max_7cf53 2 (some .int) :: ([])
def wsJ9_min_7cf53 : List Cond := .code yJ9_min_7cf53 cJ9_min_7cf53 2 (some .int) :: ([])
def wsL_arrive_r1 : List Cond := [Cond.classLink RL 13 "java/lang/IllegalArgumentException", Cond.classLink RL 15 "java/lang/IllegalStateException", Cond.methodLink RL 7 yX3_arrive, Cond.instanceMethod yX3_arrive, Cond.selects RX3 yX3_arrive yX3_arrive, Cond.initialized RX3, Cond.code yX3_arrive cX3_arrive 5 (some .int), Cond.classLink RX3 60 "java/lang/IllegalArgumentException", Cond.initialized "java/lang/IllegalArgumentException", Cond.classLink RX3 74 "java/lang/IllegalStateException", Cond.initialized "java/lang/IllegalStateException", Cond.fieldLink RX3 40 "CraneYard" "crateCount" "I", Cond.fieldLink RX3 33 "CraneYard" "letters" "[I", Cond.fieldLink RX3 10 "CraneYard" "stacks" "LCraneYard$Stacks;", Cond.methodLink RX3 67 yX3_requireLetter, Cond.static yX3_requireLetter, Cond.code yX3_requireLetter cX3_requireLetter 1 none, Cond.methodLink RX3 71 yX3_requireStack, Cond.static yX3_requireStack, Cond.code yX3_requireStack cX3_requireStack 1 none, Cond.methodLink RX3 79 yX3_requireRoom, Cond.instanceMethod yX3_requireRoom, Cond.selects RX3 yX3_requireRoom yX3_requireRoom, Cond.code yX3_requireRoom cX3_requireRoom 3 none]
def wsL_arrive_r2 : List Cond := [Cond.methodLink RX3 120 yX3_mostPlaces, Cond.instanceMethod yX3_mostPlaces, Cond.selects RX3 yX3_mostPlaces yX3_mostPlaces, Cond.code yX3_mostPlaces cX3_mostPlaces 1 (some .int), Cond.fieldLink RX3 53 "CraneYard" "stormy" "Z", Cond.methodLink RX3 256 yX1_canTake, Cond.instanceMethod yX1_canTake, Cond.selects RX1 yX1_canTake yX1_canTake, Cond.initialized RX1, Cond.code yX1_canTake cX1_canTake 5 (some .boolean), Cond.methodLink RX1 27 yX1_heightOf, Cond.instanceMethod yX1_heightOf, Cond.selects RX1 yX1_heightOf yX1_heightOf, Cond.code yX1_heightOf cX1_heightOf 2 (some .int), Cond.fieldLink RX1 9 "CraneYard$Stacks" "heights" "[I", Cond.methodLink RX1 31 yX1_topOf, Cond.instanceMethod yX1_topOf, Cond.selects RX1 yX1_topOf yX1_topOf, Cond.code yX1_topOf cX1_topOf 3 (some .int), Cond.fieldLink RX1 15 "CraneYard$Stacks" "cells" "[I", Cond.methodLink RX1 34 yX1_weightOf, Cond.instanceMethod yX1_weightOf, Cond.selects RX1 yX1_weightOf yX1_weightOf, Cond.code yX1_weightOf cX1_weightOf 2 (some .int)]
def wsL_arrive_r3 : List Cond := [Cond.fieldLink RX1 18 "CraneYard$Stacks" "weights" "[I", Cond.methodLink RX3 83 yX1_setWeight, Cond.instanceMethod yX1_setWeight, Cond.selects RX1 yX1_setWeight yX1_setWeight, Cond.code yX1_setWeight cX1_setWeight 3 none, Cond.methodLink RX3 86 yX1_put, Cond.instanceMethod yX1_put, Cond.selects RX1 yX1_put yX1_put, Cond.code yX1_put cX1_put 4 none, Cond.methodLink RX3 89 yX3_payWords, Cond.instanceMethod yX3_payWords, Cond.selects RX3 yX3_payWords yX3_payWords, Cond.code yX3_payWords cX3_payWords 4 none, Cond.fieldLink RX3 37 "CraneYard" "lids" "[I", Cond.fieldLink RX3 22 "CraneYard" "words" "LCraneYard$Words;", Cond.methodLink RX3 262 yX1_topOf, Cond.methodLink RX3 265 yX2_payShown, Cond.instanceMethod yX2_payShown, Cond.selects RX2 yX2_payShown yX2_payShown, Cond.initialized RX2, Cond.code yX2_payShown cX2_payShown 4 none, Cond.fieldLink RX2 22 "CraneYard$Words" "count" "I", Cond.fieldLink RX2 18 "CraneYard$Words" "paid" "[Z", Cond.fieldLink RX2 26 "CraneYard$Words" "sum" "I"]
def wsL_arrive_r4 : List Cond := [Cond.fieldLink RX2 15 "CraneYard$Words" "lengths" "[I", Cond.methodLink RX2 29 yX2_isShown, Cond.instanceMethod yX2_isShown, Cond.selects RX2 yX2_isShown yX2_isShown, Cond.code yX2_isShown cX2_isShown 6 (some .boolean), Cond.methodLink RX2 33 Lib.Math.min.name, Cond.static Lib.Math.min.name, Cond.initialized "java/lang/Math", Cond.code Lib.Math.min.name Lib.Math.min.code 2 (some .int), Cond.methodLink RX2 39 yX2_isShownFrom, Cond.instanceMethod yX2_isShownFrom, Cond.selects RX2 yX2_isShownFrom yX2_isShownFrom, Cond.code yX2_isShownFrom cX2_isShownFrom 5 (some .boolean), Cond.fieldLink RX2 9 "CraneYard$Words" "letters" "[I"]
def wsL_arrive : List Cond := .codeWith yL_arrive cL_arrive 6 (some .int) [(0, 12, 15, 13), (0, 12, 19, 15)] :: ((wsL_arrive_r1 ++ (wsL_arrive_r2 ++ (wsL_arrive_r3 ++ wsL_arrive_r4))) ++ wsX30 ++ wsX10 ++ wsX20 ++ (vx_atS RX3 64 "java/lang/IllegalArgumentException" ["java/lang/RuntimeException", "java/lang/Exception"]).filter goodWord ++ (vx_atS RX3 78 "java/lang/IllegalStateException" ["java/lang/RuntimeException", "java/lang/Exception"]).filter goodWord)
def wsL_lift_r1 : List Cond := [Cond.classLink RL 13 "java/lang/IllegalArgumentException", Cond.classLink RL 15 "java/lang/IllegalStateException", Cond.methodLink RL 17 yX3_lift, Cond.instanceMethod yX3_lift, Cond.selects RX3 yX3_lift yX3_lift, Cond.initialized RX3, Cond.code yX3_lift cX3_lift 2 (some .int), Cond.classLink RX3 74 "java/lang/IllegalStateException", Cond.initialized "java/lang/IllegalStateException", Cond.fieldLink RX3 10 "CraneYard" "stacks" "LCraneYard$Stacks;", Cond.fieldLink RX3 44 "CraneYard" "craneCrate" "I", Cond.fieldLink RX3 47 "CraneYard" "liftCount" "I", Cond.methodLink RX3 71 yX3_requireStack, Cond.static yX3_requireStack, Cond.code yX3_requireStack cX3_requireStack 1 none, Cond.classLink RX3 60 "java/lang/IllegalArgumentException", Cond.initialized "java/lang/IllegalArgumentException", Cond.methodLink RX3 92 yX3_requireEmptyCrane, Cond.instanceMethod yX3_requireEmptyCrane, Cond.selects RX3 yX3_requireEmptyCrane yX3_requireEmptyCrane, Cond.code yX3_requireEmptyCrane cX3_requireEmptyCrane 1 none, Cond.methodLink RX3 95 yX1_heightOf, Cond.instanceMethod yX1_heightOf, Cond.selects RX1 yX1_heightOf yX1_heightOf]
def wsL_lift_r2 : List Cond := [Cond.initialized RX1, Cond.code yX1_heightOf cX1_heightOf 2 (some .int), Cond.fieldLink RX1 9 "CraneYard$Stacks" "heights" "[I", Cond.methodLink RX3 101 yX1_takeTop, Cond.instanceMethod yX1_takeTop, Cond.selects RX1 yX1_takeTop yX1_takeTop, Cond.code yX1_takeTop cX1_takeTop 3 (some .int), Cond.methodLink RX1 31 yX1_topOf, Cond.instanceMethod yX1_topOf, Cond.selects RX1 yX1_topOf yX1_topOf, Cond.code yX1_topOf cX1_topOf 3 (some .int), Cond.fieldLink RX1 15 "CraneYard$Stacks" "cells" "[I", Cond.methodLink RX1 27 yX1_heightOf, Cond.methodLink RX3 89 yX3_payWords, Cond.instanceMethod yX3_payWords, Cond.selects RX3 yX3_payWords yX3_payWords, Cond.code yX3_payWords cX3_payWords 4 none, Cond.fieldLink RX3 37 "CraneYard" "lids" "[I", Cond.fieldLink RX3 33 "CraneYard" "letters" "[I", Cond.fieldLink RX3 22 "CraneYard" "words" "LCraneYard$Words;", Cond.methodLink RX3 262 yX1_topOf, Cond.methodLink RX3 265 yX2_payShown, Cond.instanceMethod yX2_payShown, Cond.selects RX2 yX2_payShown yX2_payShown]
def wsL_lift_r3 : List Cond := [Cond.initialized RX2, Cond.code yX2_payShown cX2_payShown 4 none, Cond.fieldLink RX2 22 "CraneYard$Words" "count" "I", Cond.fieldLink RX2 18 "CraneYard$Words" "paid" "[Z", Cond.fieldLink RX2 26 "CraneYard$Words" "sum" "I", Cond.fieldLink RX2 15 "CraneYard$Words" "lengths" "[I", Cond.methodLink RX2 29 yX2_isShown, Cond.instanceMethod yX2_isShown, Cond.selects RX2 yX2_isShown yX2_isShown, Cond.code yX2_isShown cX2_isShown 6 (some .boolean), Cond.methodLink RX2 33 Lib.Math.min.name, Cond.static Lib.Math.min.name, Cond.initialized "java/lang/Math", Cond.code Lib.Math.min.name Lib.Math.min.code 2 (some .int), Cond.methodLink RX2 39 yX2_isShownFrom, Cond.instanceMethod yX2_isShownFrom, Cond.selects RX2 yX2_isShownFrom yX2_isShownFrom, Cond.code yX2_isShownFrom cX2_isShownFrom 5 (some .boolean), Cond.fieldLink RX2 9 "CraneYard$Words" "letters" "[I"]
def wsL_lift : List Cond := .codeWith yL_lift cL_lift 4 (some .int) [(0, 9, 12, 13), (0, 9, 15, 15)] :: ((wsL_lift_r1 ++ (wsL_lift_r2 ++ wsL_lift_r3)) ++ wsX30 ++ wsX10 ++ wsX20 ++ (vx_atS RX3 78 "java/lang/IllegalStateException" ["java/lang/RuntimeException", "java/lang/Exception"]).filter goodWord ++ (vx_atS RX3 64 "java/lang/IllegalArgumentException" ["java/lang/RuntimeException", "java/lang/Exception"]).filter goodWord)
def wsL_drop_r1 : List Cond := [Cond.classLink RL 13 "java/lang/IllegalArgumentException", Cond.classLink RL 15 "java/lang/IllegalStateException", Cond.methodLink RL 21 yX3_drop, Cond.instanceMethod yX3_drop, Cond.selects RX3 yX3_drop yX3_drop, Cond.initialized RX3, Cond.code yX3_drop cX3_drop 2 (some .int), Cond.fieldLink RX3 10 "CraneYard" "stacks" "LCraneYard$Stacks;", Cond.fieldLink RX3 44 "CraneYard" "craneCrate" "I", Cond.methodLink RX3 71 yX3_requireStack, Cond.static yX3_requireStack, Cond.code yX3_requireStack cX3_requireStack 1 none, Cond.classLink RX3 60 "java/lang/IllegalArgumentException", Cond.initialized "java/lang/IllegalArgumentException", Cond.methodLink RX3 104 yX3_requireFullCrane, Cond.instanceMethod yX3_requireFullCrane, Cond.selects RX3 yX3_requireFullCrane yX3_requireFullCrane, Cond.code yX3_requireFullCrane cX3_requireFullCrane 1 none, Cond.classLink RX3 74 "java/lang/IllegalStateException", Cond.initialized "java/lang/IllegalStateException", Cond.methodLink RX3 107 yX1_weightOf, Cond.instanceMethod yX1_weightOf, Cond.selects RX1 yX1_weightOf yX1_weightOf, Cond.initialized RX1]
def wsL_drop_r2 : List Cond := [Cond.code yX1_weightOf cX1_weightOf 2 (some .int), Cond.fieldLink RX1 18 "CraneYard$Stacks" "weights" "[I", Cond.methodLink RX3 79 yX3_requireRoom, Cond.instanceMethod yX3_requireRoom, Cond.selects RX3 yX3_requireRoom yX3_requireRoom, Cond.code yX3_requireRoom cX3_requireRoom 3 none, Cond.methodLink RX3 120 yX3_mostPlaces, Cond.instanceMethod yX3_mostPlaces, Cond.selects RX3 yX3_mostPlaces yX3_mostPlaces, Cond.code yX3_mostPlaces cX3_mostPlaces 1 (some .int), Cond.fieldLink RX3 53 "CraneYard" "stormy" "Z", Cond.methodLink RX3 256 yX1_canTake, Cond.instanceMethod yX1_canTake, Cond.selects RX1 yX1_canTake yX1_canTake, Cond.code yX1_canTake cX1_canTake 5 (some .boolean), Cond.methodLink RX1 27 yX1_heightOf, Cond.instanceMethod yX1_heightOf, Cond.selects RX1 yX1_heightOf yX1_heightOf, Cond.code yX1_heightOf cX1_heightOf 2 (some .int), Cond.fieldLink RX1 9 "CraneYard$Stacks" "heights" "[I", Cond.methodLink RX1 31 yX1_topOf, Cond.instanceMethod yX1_topOf, Cond.selects RX1 yX1_topOf yX1_topOf, Cond.code yX1_topOf cX1_topOf 3 (some .int)]
def wsL_drop_r3 : List Cond := [Cond.fieldLink RX1 15 "CraneYard$Stacks" "cells" "[I", Cond.methodLink RX1 34 yX1_weightOf, Cond.methodLink RX3 86 yX1_put, Cond.instanceMethod yX1_put, Cond.selects RX1 yX1_put yX1_put, Cond.code yX1_put cX1_put 4 none, Cond.methodLink RX3 89 yX3_payWords, Cond.instanceMethod yX3_payWords, Cond.selects RX3 yX3_payWords yX3_payWords, Cond.code yX3_payWords cX3_payWords 4 none, Cond.fieldLink RX3 37 "CraneYard" "lids" "[I", Cond.fieldLink RX3 33 "CraneYard" "letters" "[I", Cond.fieldLink RX3 22 "CraneYard" "words" "LCraneYard$Words;", Cond.methodLink RX3 262 yX1_topOf, Cond.methodLink RX3 265 yX2_payShown, Cond.instanceMethod yX2_payShown, Cond.selects RX2 yX2_payShown yX2_payShown, Cond.initialized RX2, Cond.code yX2_payShown cX2_payShown 4 none, Cond.fieldLink RX2 22 "CraneYard$Words" "count" "I", Cond.fieldLink RX2 18 "CraneYard$Words" "paid" "[Z", Cond.fieldLink RX2 26 "CraneYard$Words" "sum" "I", Cond.fieldLink RX2 15 "CraneYard$Words" "lengths" "[I", Cond.methodLink RX2 29 yX2_isShown]
def wsL_drop_r4 : List Cond := [Cond.instanceMethod yX2_isShown, Cond.selects RX2 yX2_isShown yX2_isShown, Cond.code yX2_isShown cX2_isShown 6 (some .boolean), Cond.methodLink RX2 33 Lib.Math.min.name, Cond.static Lib.Math.min.name, Cond.initialized "java/lang/Math", Cond.code Lib.Math.min.name Lib.Math.min.code 2 (some .int), Cond.methodLink RX2 39 yX2_isShownFrom, Cond.instanceMethod yX2_isShownFrom, Cond.selects RX2 yX2_isShownFrom yX2_isShownFrom, Cond.code yX2_isShownFrom cX2_isShownFrom 5 (some .boolean), Cond.fieldLink RX2 9 "CraneYard$Words" "letters" "[I", Cond.methodLink RX3 95 yX1_heightOf]
def wsL_drop : List Cond := .codeWith yL_drop cL_drop 4 (some .int) [(0, 9, 12, 13), (0, 9, 15, 15)] :: ((wsL_drop_r1 ++ (wsL_drop_r2 ++ (wsL_drop_r3 ++ wsL_drop_r4))) ++ wsX30 ++ wsX10 ++ wsX20 ++ (vx_atS RX3 64 "java/lang/IllegalArgumentException" ["java/lang/RuntimeException", "java/lang/Exception"]).filter goodWord ++ (vx_atS RX3 78 "java/lang/IllegalStateException" ["java/lang/RuntimeException", "java/lang/Exception"]).filter goodWord)
def wsL_dig_r1 : List Cond := [Cond.classLink RL 27 "java/lang/IndexOutOfBoundsException", Cond.classLink RL 15 "java/lang/IllegalStateException", Cond.methodLink RL 24 yX3_dig, Cond.instanceMethod yX3_dig, Cond.selects RX3 yX3_dig yX3_dig, Cond.initialized RX3, Cond.code yX3_dig cX3_dig 3 (some .int), Cond.classLink RX3 74 "java/lang/IllegalStateException", Cond.initialized "java/lang/IllegalStateException", Cond.fieldLink RX3 16 "CraneYard" "trial" "LCraneYard$Stacks;", Cond.fieldLink RX3 10 "CraneYard" "stacks" "LCraneYard$Stacks;", Cond.fieldLink RX3 44 "CraneYard" "craneCrate" "I", Cond.fieldLink RX3 47 "CraneYard" "liftCount" "I", Cond.methodLink RX3 110 yX3_requireCrate, Cond.instanceMethod yX3_requireCrate, Cond.selects RX3 yX3_requireCrate yX3_requireCrate, Cond.code yX3_requireCrate cX3_requireCrate 2 none, Cond.classLink RX3 166 "java/lang/IndexOutOfBoundsException", Cond.initialized "java/lang/IndexOutOfBoundsException", Cond.fieldLink RX3 40 "CraneYard" "crateCount" "I", Cond.methodLink RX3 92 yX3_requireEmptyCrane, Cond.instanceMethod yX3_requireEmptyCrane, Cond.selects RX3 yX3_requireEmptyCrane yX3_requireEmptyCrane, Cond.code yX3_requireEmptyCrane cX3_requireEmptyCrane 1 none]
def wsL_dig_r2 : List Cond := [Cond.methodLink RX3 113 yX3_requireInStack, Cond.instanceMethod yX3_requireInStack, Cond.selects RX3 yX3_requireInStack yX3_requireInStack, Cond.code yX3_requireInStack cX3_requireInStack 2 none, Cond.methodLink RX3 135 yX1_stackHolding, Cond.instanceMethod yX1_stackHolding, Cond.selects RX1 yX1_stackHolding yX1_stackHolding, Cond.initialized RX1, Cond.code yX1_stackHolding cX1_stackHolding 4 (some .int), Cond.fieldLink RX1 9 "CraneYard$Stacks" "heights" "[I", Cond.fieldLink RX1 15 "CraneYard$Stacks" "cells" "[I", Cond.methodLink RX3 116 yX1_copyFrom, Cond.instanceMethod yX1_copyFrom, Cond.selects RX1 yX1_copyFrom yX1_copyFrom, Cond.code yX1_copyFrom cX1_copyFrom 2 none, Cond.methodLink RX1 21 arraycopyName, Cond.native arraycopyName, Cond.static arraycopyName, Cond.initialized "java/lang/System", Cond.fieldLink RX1 18 "CraneYard$Stacks" "weights" "[I", Cond.methodLink RX3 120 yX3_mostPlaces, Cond.instanceMethod yX3_mostPlaces, Cond.selects RX3 yX3_mostPlaces yX3_mostPlaces, Cond.code yX3_mostPlaces cX3_mostPlaces 1 (some .int)]
def wsL_dig_r3 : List Cond := [Cond.fieldLink RX3 53 "CraneYard" "stormy" "Z", Cond.methodLink RX3 124 yX1_digOut, Cond.instanceMethod yX1_digOut, Cond.selects RX1 yX1_digOut yX1_digOut, Cond.code yX1_digOut cX1_digOut 7 (some .int), Cond.methodLink RX1 37 yX1_stackHolding, Cond.methodLink RX1 40 yX1_takeTop, Cond.instanceMethod yX1_takeTop, Cond.selects RX1 yX1_takeTop yX1_takeTop, Cond.code yX1_takeTop cX1_takeTop 3 (some .int), Cond.methodLink RX1 31 yX1_topOf, Cond.instanceMethod yX1_topOf, Cond.selects RX1 yX1_topOf yX1_topOf, Cond.code yX1_topOf cX1_topOf 3 (some .int), Cond.methodLink RX1 27 yX1_heightOf, Cond.instanceMethod yX1_heightOf, Cond.selects RX1 yX1_heightOf yX1_heightOf, Cond.code yX1_heightOf cX1_heightOf 2 (some .int), Cond.methodLink RX1 34 yX1_weightOf, Cond.instanceMethod yX1_weightOf, Cond.selects RX1 yX1_weightOf yX1_weightOf, Cond.code yX1_weightOf cX1_weightOf 2 (some .int), Cond.methodLink RX1 43 yX1_targetFor, Cond.instanceMethod yX1_targetFor]
def wsL_dig_r4 : List Cond := [Cond.selects RX1 yX1_targetFor yX1_targetFor, Cond.code yX1_targetFor cX1_targetFor 6 (some .int), Cond.methodLink RX1 51 yX1_canTake, Cond.instanceMethod yX1_canTake, Cond.selects RX1 yX1_canTake yX1_canTake, Cond.code yX1_canTake cX1_canTake 5 (some .boolean), Cond.methodLink RX1 47 yX1_put, Cond.instanceMethod yX1_put, Cond.selects RX1 yX1_put yX1_put, Cond.code yX1_put cX1_put 4 none, Cond.methodLink RX3 89 yX3_payWords, Cond.instanceMethod yX3_payWords, Cond.selects RX3 yX3_payWords yX3_payWords, Cond.code yX3_payWords cX3_payWords 4 none, Cond.fieldLink RX3 37 "CraneYard" "lids" "[I", Cond.fieldLink RX3 33 "CraneYard" "letters" "[I", Cond.fieldLink RX3 22 "CraneYard" "words" "LCraneYard$Words;", Cond.methodLink RX3 262 yX1_topOf, Cond.methodLink RX3 265 yX2_payShown, Cond.instanceMethod yX2_payShown, Cond.selects RX2 yX2_payShown yX2_payShown, Cond.initialized RX2, Cond.code yX2_payShown cX2_payShown 4 none, Cond.fieldLink RX2 22 "CraneYard$Words" "count" "I"]
def wsL_dig_r5 : List Cond := [Cond.fieldLink RX2 18 "CraneYard$Words" "paid" "[Z", Cond.fieldLink RX2 26 "CraneYard$Words" "sum" "I", Cond.fieldLink RX2 15 "CraneYard$Words" "lengths" "[I", Cond.methodLink RX2 29 yX2_isShown, Cond.instanceMethod yX2_isShown, Cond.selects RX2 yX2_isShown yX2_isShown, Cond.code yX2_isShown cX2_isShown 6 (some .boolean), Cond.methodLink RX2 33 Lib.Math.min.name, Cond.static Lib.Math.min.name, Cond.initialized "java/lang/Math", Cond.code Lib.Math.min.name Lib.Math.min.code 2 (some .int), Cond.methodLink RX2 39 yX2_isShownFrom, Cond.instanceMethod yX2_isShownFrom, Cond.selects RX2 yX2_isShownFrom yX2_isShownFrom, Cond.code yX2_isShownFrom cX2_isShownFrom 5 (some .boolean), Cond.fieldLink RX2 9 "CraneYard$Words" "letters" "[I"]
def wsL_dig : List Cond := .codeWith yL_dig cL_dig 4 (some .int) [(0, 9, 12, 27), (0, 9, 15, 15)] :: ((wsL_dig_r1 ++ (wsL_dig_r2 ++ (wsL_dig_r3 ++ (wsL_dig_r4 ++ wsL_dig_r5)))) ++ wsX30 ++ wsX10 ++ wsX20 ++ (vx_atS RX3 78 "java/lang/IllegalStateException" ["java/lang/RuntimeException", "java/lang/Exception"]).filter goodWord ++ (vx_atS RX3 170 "java/lang/IndexOutOfBoundsException" ["java/lang/RuntimeException", "java/lang/Exception"]).filter goodWord)
def wsL_height : List Cond := .codeWith yL_height cL_height 4 (some .int) [(0, 9, 12, 13)] :: ([.classLink RL 13 "java/lang/IllegalArgumentException", .methodLink RL 29 yX3_height, .instanceMethod yX3_height, .selects RX3 yX3_height yX3_height, .initialized RX3, .code yX3_height cX3_height 2 (some .int), .fieldLink RX3 10 "CraneYard" "stacks" "LCraneYard$Stacks;", .methodLink RX3 71 yX3_requireStack, .static yX3_requireStack, .code yX3_requireStack cX3_requireStack 1 none, .classLink RX3 60 "java/lang/IllegalArgumentException", .initialized "java/lang/IllegalArgumentException", .methodLink RX3 95 yX1_heightOf, .instanceMethod yX1_heightOf, .selects RX1 yX1_heightOf yX1_heightOf, .initialized RX1, .code yX1_heightOf cX1_heightOf 2 (some .int), .fieldLink RX1 9 "CraneYard$Stacks" "heights" "[I"] ++ wsX30 ++ wsX10 ++ (vx_atS RX3 64 "java/lang/IllegalArgumentException" ["java/lang/RuntimeException", "java/lang/Exception"]).filter goodWord)
def wsL_at : List Cond := .codeWith yL_at cL_at 5 (some .int) [(0, 10, 13, 13)] :: ([.classLink RL 13 "java/lang/IllegalArgumentException", .methodLink RL 32 yX3_at, .instanceMethod yX3_at, .selects RX3 yX3_at yX3_at, .initialized RX3, .code yX3_at cX3_at 3 (some .int), .classLink RX3 60 "java/lang/IllegalArgumentException", .initialized "java/lang/IllegalArgumentException", .fieldLink RX3 10 "CraneYard" "stacks" "LCraneYard$Stacks;", .methodLink RX3 71 yX3_requireStack, .static yX3_requireStack, .code yX3_requireStack cX3_requireStack 1 none, .methodLink RX3 132 yX1_crateAt, .instanceMethod yX1_crateAt, .selects RX1 yX1_crateAt yX1_crateAt, .initialized RX1, .code yX1_crateAt cX1_crateAt 3 (some .int), .fieldLink RX1 15 "CraneYard$Stacks" "cells" "[I", .methodLink RX1 27 yX1_heightOf, .instanceMethod yX1_heightOf, .selects RX1 yX1_heightOf yX1_heightOf, .code yX1_heightOf cX1_heightOf 2 (some .int), .fieldLink RX1 9 "CraneYard$Stacks" "heights" "[I"] ++ wsX30 ++ wsX10 ++ (vx_atS RX3 64 "java/lang/IllegalArgumentException" ["java/lang/RuntimeException", "java/lang/Exception"]).filter goodWord)
def wsL_stackOf : List Cond := .codeWith yL_stackOf cL_stackOf 4 (some .int) [(0, 9, 12, 27)] :: ([.classLink RL 27 "java/lang/IndexOutOfBoundsException", .methodLink RL 36 yX3_stackOf, .instanceMethod yX3_stackOf, .selects RX3 yX3_stackOf yX3_stackOf, .initialized RX3, .code yX3_stackOf cX3_stackOf 2 (some .int), .fieldLink RX3 10 "CraneYard" "stacks" "LCraneYard$Stacks;", .methodLink RX3 110 yX3_requireCrate, .instanceMethod yX3_requireCrate, .selects RX3 yX3_requireCrate yX3_requireCrate, .code yX3_requireCrate cX3_requireCrate 2 none, .classLink RX3 166 "java/lang/IndexOutOfBoundsException", .initialized "java/lang/IndexOutOfBoundsException", .fieldLink RX3 40 "CraneYard" "crateCount" "I", .methodLink RX3 135 yX1_stackHolding, .instanceMethod yX1_stackHolding, .selects RX1 yX1_stackHolding yX1_stackHolding, .initialized RX1, .code yX1_stackHolding cX1_stackHolding 4 (some .int), .fieldLink RX1 9 "CraneYard$Stacks" "heights" "[I", .fieldLink RX1 15 "CraneYard$Stacks" "cells" "[I"] ++ wsX30 ++ wsX10 ++ (vx_atS RX3 170 "java/lang/IndexOutOfBoundsException" ["java/lang/RuntimeException", "java/lang/Exception"]).filter goodWord)
def wsL_fewestLifts_r1 : List Cond := [Cond.classLink RL 13 "java/lang/IllegalArgumentException", Cond.classLink RL 15 "java/lang/IllegalStateException", Cond.methodLink RL 39 yX3_fewestLifts, Cond.instanceMethod yX3_fewestLifts, Cond.selects RX3 yX3_fewestLifts yX3_fewestLifts, Cond.initialized RX3, Cond.code yX3_fewestLifts cX3_fewestLifts 6 (some .int), Cond.classLink RX3 60 "java/lang/IllegalArgumentException", Cond.initialized "java/lang/IllegalArgumentException", Cond.methodLink RX3 138 yX3_areInStacks, Cond.instanceMethod yX3_areInStacks, Cond.selects RX3 yX3_areInStacks yX3_areInStacks, Cond.code yX3_areInStacks cX3_areInStacks 4 (some .boolean), Cond.fieldLink RX3 10 "CraneYard" "stacks" "LCraneYard$Stacks;", Cond.methodLink RX3 144 yJ6_bitCount_0f7a4, Cond.static yJ6_bitCount_0f7a4, Cond.initialized RJ6, Cond.code yJ6_bitCount_0f7a4 cJ6_bitCount_0f7a4 1 (some .int), Cond.constant RJ6 265 (1431655765), Cond.constant RJ6 266 (858993459), Cond.constant RJ6 267 (252645135), Cond.methodLink RX3 274 yX3_contains, Cond.static yX3_contains, Cond.code yX3_contains cX3_contains 2 (some .boolean)]
def wsL_fewestLifts_r2 : List Cond := [Cond.methodLink RX3 135 yX1_stackHolding, Cond.instanceMethod yX1_stackHolding, Cond.selects RX1 yX1_stackHolding yX1_stackHolding, Cond.initialized RX1, Cond.code yX1_stackHolding cX1_stackHolding 4 (some .int), Cond.fieldLink RX1 9 "CraneYard$Stacks" "heights" "[I", Cond.fieldLink RX1 15 "CraneYard$Stacks" "cells" "[I", Cond.methodLink RX3 92 yX3_requireEmptyCrane, Cond.instanceMethod yX3_requireEmptyCrane, Cond.selects RX3 yX3_requireEmptyCrane yX3_requireEmptyCrane, Cond.code yX3_requireEmptyCrane cX3_requireEmptyCrane 1 none, Cond.classLink RX3 74 "java/lang/IllegalStateException", Cond.initialized "java/lang/IllegalStateException", Cond.fieldLink RX3 44 "CraneYard" "craneCrate" "I", Cond.methodLink RX3 149 yX3_ordersOf, Cond.static yX3_ordersOf, Cond.code yX3_ordersOf cX3_ordersOf 3 (some .int), Cond.methodLink RX3 152 yX3_liftsInOrder, Cond.instanceMethod yX3_liftsInOrder, Cond.selects RX3 yX3_liftsInOrder yX3_liftsInOrder, Cond.code yX3_liftsInOrder cX3_liftsInOrder 9 (some .int), Cond.fieldLink RX3 16 "CraneYard" "trial" "LCraneYard$Stacks;", Cond.methodLink RX3 116 yX1_copyFrom, Cond.instanceMethod yX1_copyFrom]
def wsL_fewestLifts_r3 : List Cond := [Cond.selects RX1 yX1_copyFrom yX1_copyFrom, Cond.code yX1_copyFrom cX1_copyFrom 2 none, Cond.methodLink RX1 21 arraycopyName, Cond.native arraycopyName, Cond.static arraycopyName, Cond.initialized "java/lang/System", Cond.fieldLink RX1 18 "CraneYard$Stacks" "weights" "[I", Cond.methodLink RX3 278 yX3_memberOf, Cond.static yX3_memberOf, Cond.code yX3_memberOf cX3_memberOf 4 (some .int), Cond.methodLink RX3 120 yX3_mostPlaces, Cond.instanceMethod yX3_mostPlaces, Cond.selects RX3 yX3_mostPlaces yX3_mostPlaces, Cond.code yX3_mostPlaces cX3_mostPlaces 1 (some .int), Cond.fieldLink RX3 53 "CraneYard" "stormy" "Z", Cond.methodLink RX3 124 yX1_digOut, Cond.instanceMethod yX1_digOut, Cond.selects RX1 yX1_digOut yX1_digOut, Cond.code yX1_digOut cX1_digOut 7 (some .int), Cond.methodLink RX1 37 yX1_stackHolding, Cond.methodLink RX1 40 yX1_takeTop, Cond.instanceMethod yX1_takeTop, Cond.selects RX1 yX1_takeTop yX1_takeTop, Cond.code yX1_takeTop cX1_takeTop 3 (some .int)]
def wsL_fewestLifts_r4 : List Cond := [Cond.methodLink RX1 31 yX1_topOf, Cond.instanceMethod yX1_topOf, Cond.selects RX1 yX1_topOf yX1_topOf, Cond.code yX1_topOf cX1_topOf 3 (some .int), Cond.methodLink RX1 27 yX1_heightOf, Cond.instanceMethod yX1_heightOf, Cond.selects RX1 yX1_heightOf yX1_heightOf, Cond.code yX1_heightOf cX1_heightOf 2 (some .int), Cond.methodLink RX1 34 yX1_weightOf, Cond.instanceMethod yX1_weightOf, Cond.selects RX1 yX1_weightOf yX1_weightOf, Cond.code yX1_weightOf cX1_weightOf 2 (some .int), Cond.methodLink RX1 43 yX1_targetFor, Cond.instanceMethod yX1_targetFor, Cond.selects RX1 yX1_targetFor yX1_targetFor, Cond.code yX1_targetFor cX1_targetFor 6 (some .int), Cond.methodLink RX1 51 yX1_canTake, Cond.instanceMethod yX1_canTake, Cond.selects RX1 yX1_canTake yX1_canTake, Cond.code yX1_canTake cX1_canTake 5 (some .boolean), Cond.methodLink RX1 47 yX1_put, Cond.instanceMethod yX1_put, Cond.selects RX1 yX1_put yX1_put, Cond.code yX1_put cX1_put 4 none]
def wsL_fewestLifts : List Cond := .codeWith yL_fewestLifts cL_fewestLifts 4 (some .int) [(0, 9, 12, 13), (0, 9, 15, 15)] :: ((wsL_fewestLifts_r1 ++ (wsL_fewestLifts_r2 ++ (wsL_fewestLifts_r3 ++ wsL_fewestLifts_r4))) ++ wsX30 ++ wsX10 ++ (vx_atS RX3 64 "java/lang/IllegalArgumentException" ["java/lang/RuntimeException", "java/lang/Exception"]).filter goodWord ++ (vx_atS RX3 78 "java/lang/IllegalStateException" ["java/lang/RuntimeException", "java/lang/Exception"]).filter goodWord)
def wsL_tell_r1 : List Cond := [Cond.classLink RL 13 "java/lang/IllegalArgumentException", Cond.classLink RL 15 "java/lang/IllegalStateException", Cond.methodLink RL 42 yX3_tell, Cond.instanceMethod yX3_tell, Cond.selects RX3 yX3_tell yX3_tell, Cond.initialized RX3, Cond.code yX3_tell cX3_tell 6 (some .int), Cond.classLink RX3 60 "java/lang/IllegalArgumentException", Cond.initialized "java/lang/IllegalArgumentException", Cond.classLink RX3 74 "java/lang/IllegalStateException", Cond.initialized "java/lang/IllegalStateException", Cond.fieldLink RX3 22 "CraneYard" "words" "LCraneYard$Words;", Cond.methodLink RX3 67 yX3_requireLetter, Cond.static yX3_requireLetter, Cond.code yX3_requireLetter cX3_requireLetter 1 none, Cond.methodLink RX3 157 yX2_number, Cond.instanceMethod yX2_number, Cond.selects RX2 yX2_number yX2_number, Cond.initialized RX2, Cond.code yX2_number cX2_number 1 (some .int), Cond.fieldLink RX2 22 "CraneYard$Words" "count" "I", Cond.methodLink RX3 162 yX2_add, Cond.instanceMethod yX2_add, Cond.selects RX2 yX2_add yX2_add]
def wsL_tell_r2 : List Cond := [Cond.code yX2_add cX2_add 7 (some .int), Cond.fieldLink RX2 9 "CraneYard$Words" "letters" "[I", Cond.fieldLink RX2 15 "CraneYard$Words" "lengths" "[I", Cond.methodLink RX3 89 yX3_payWords, Cond.instanceMethod yX3_payWords, Cond.selects RX3 yX3_payWords yX3_payWords, Cond.code yX3_payWords cX3_payWords 4 none, Cond.fieldLink RX3 10 "CraneYard" "stacks" "LCraneYard$Stacks;", Cond.fieldLink RX3 37 "CraneYard" "lids" "[I", Cond.fieldLink RX3 33 "CraneYard" "letters" "[I", Cond.methodLink RX3 262 yX1_topOf, Cond.instanceMethod yX1_topOf, Cond.selects RX1 yX1_topOf yX1_topOf, Cond.initialized RX1, Cond.code yX1_topOf cX1_topOf 3 (some .int), Cond.fieldLink RX1 15 "CraneYard$Stacks" "cells" "[I", Cond.methodLink RX1 27 yX1_heightOf, Cond.instanceMethod yX1_heightOf, Cond.selects RX1 yX1_heightOf yX1_heightOf, Cond.code yX1_heightOf cX1_heightOf 2 (some .int), Cond.fieldLink RX1 9 "CraneYard$Stacks" "heights" "[I", Cond.methodLink RX3 265 yX2_payShown, Cond.instanceMethod yX2_payShown, Cond.selects RX2 yX2_payShown yX2_payShown]
def wsL_tell_r3 : List Cond := [Cond.code yX2_payShown cX2_payShown 4 none, Cond.fieldLink RX2 18 "CraneYard$Words" "paid" "[Z", Cond.fieldLink RX2 26 "CraneYard$Words" "sum" "I", Cond.methodLink RX2 29 yX2_isShown, Cond.instanceMethod yX2_isShown, Cond.selects RX2 yX2_isShown yX2_isShown, Cond.code yX2_isShown cX2_isShown 6 (some .boolean), Cond.methodLink RX2 33 Lib.Math.min.name, Cond.static Lib.Math.min.name, Cond.initialized "java/lang/Math", Cond.code Lib.Math.min.name Lib.Math.min.code 2 (some .int), Cond.methodLink RX2 39 yX2_isShownFrom, Cond.instanceMethod yX2_isShownFrom, Cond.selects RX2 yX2_isShownFrom yX2_isShownFrom, Cond.code yX2_isShownFrom cX2_isShownFrom 5 (some .boolean)]
def wsL_tell : List Cond := .codeWith yL_tell cL_tell 7 (some .int) [(0, 14, 17, 13), (0, 14, 21, 15)] :: ((wsL_tell_r1 ++ (wsL_tell_r2 ++ wsL_tell_r3)) ++ wsX30 ++ wsX20 ++ wsX10 ++ (vx_atS RX3 64 "java/lang/IllegalArgumentException" ["java/lang/RuntimeException", "java/lang/Exception"]).filter goodWord ++ (vx_atS RX3 78 "java/lang/IllegalStateException" ["java/lang/RuntimeException", "java/lang/Exception"]).filter goodWord)
def wsL_hasPaid : List Cond := .codeWith yL_hasPaid cL_hasPaid 4 (some .int) [(0, 16, 19, 27)] :: ([.classLink RL 27 "java/lang/IndexOutOfBoundsException", .methodLink RL 46 yX3_hasPaid, .instanceMethod yX3_hasPaid, .selects RX3 yX3_hasPaid yX3_hasPaid, .initialized RX3, .code yX3_hasPaid cX3_hasPaid 2 (some .boolean), .classLink RX3 166 "java/lang/IndexOutOfBoundsException", .initialized "java/lang/IndexOutOfBoundsException", .fieldLink RX3 22 "CraneYard" "words" "LCraneYard$Words;", .methodLink RX3 157 yX2_number, .instanceMethod yX2_number, .selects RX2 yX2_number yX2_number, .initialized RX2, .code yX2_number cX2_number 1 (some .int), .fieldLink RX2 22 "CraneYard$Words" "count" "I", .methodLink RX3 171 yX2_isPaid, .instanceMethod yX2_isPaid, .selects RX2 yX2_isPaid yX2_isPaid, .code yX2_isPaid cX2_isPaid 2 (some .boolean), .fieldLink RX2 18 "CraneYard$Words" "paid" "[Z"] ++ wsX30 ++ wsX20 ++ (vx_atS RX3 170 "java/lang/IndexOutOfBoundsException" ["java/lang/RuntimeException", "java/lang/Exception"]).filter goodWord)
def wsL_offer_r1 : List Cond := [Cond.classLink RL 27 "java/lang/IndexOutOfBoundsException", Cond.classLink RL 13 "java/lang/IllegalArgumentException", Cond.classLink RL 15 "java/lang/IllegalStateException", Cond.methodLink RL 50 yX3_offer, Cond.instanceMethod yX3_offer, Cond.selects RX3 yX3_offer yX3_offer, Cond.initialized RX3, Cond.code yX3_offer cX3_offer 3 (some .int), Cond.classLink RX3 60 "java/lang/IllegalArgumentException", Cond.initialized "java/lang/IllegalArgumentException", Cond.classLink RX3 74 "java/lang/IllegalStateException", Cond.initialized "java/lang/IllegalStateException", Cond.fieldLink RX3 50 "CraneYard" "day" "I", Cond.fieldLink RX3 29 "CraneYard" "hauls" "LCraneYard$Hauls;", Cond.methodLink RX3 110 yX3_requireCrate, Cond.instanceMethod yX3_requireCrate, Cond.selects RX3 yX3_requireCrate yX3_requireCrate, Cond.code yX3_requireCrate cX3_requireCrate 2 none, Cond.classLink RX3 166 "java/lang/IndexOutOfBoundsException", Cond.initialized "java/lang/IndexOutOfBoundsException", Cond.fieldLink RX3 40 "CraneYard" "crateCount" "I", Cond.methodLink RX3 113 yX3_requireInStack, Cond.instanceMethod yX3_requireInStack, Cond.selects RX3 yX3_requireInStack yX3_requireInStack]
def wsL_offer_r2 : List Cond := [Cond.code yX3_requireInStack cX3_requireInStack 2 none, Cond.fieldLink RX3 10 "CraneYard" "stacks" "LCraneYard$Stacks;", Cond.methodLink RX3 135 yX1_stackHolding, Cond.instanceMethod yX1_stackHolding, Cond.selects RX1 yX1_stackHolding yX1_stackHolding, Cond.initialized RX1, Cond.code yX1_stackHolding cX1_stackHolding 4 (some .int), Cond.fieldLink RX1 9 "CraneYard$Stacks" "heights" "[I", Cond.fieldLink RX1 15 "CraneYard$Stacks" "cells" "[I", Cond.methodLink RX3 179 yX0_openHaulOf, Cond.instanceMethod yX0_openHaulOf, Cond.selects RX0 yX0_openHaulOf yX0_openHaulOf, Cond.initialized RX0, Cond.code yX0_openHaulOf cX0_openHaulOf 3 (some .int), Cond.fieldLink RX0 27 "CraneYard$Hauls" "count" "I", Cond.fieldLink RX0 9 "CraneYard$Hauls" "crates" "[I", Cond.methodLink RX0 41 yX0_isOpen, Cond.instanceMethod yX0_isOpen, Cond.selects RX0 yX0_isOpen yX0_isOpen, Cond.code yX0_isOpen cX0_isOpen 3 (some .boolean), Cond.methodLink RX0 37 yX0_stateOf, Cond.instanceMethod yX0_stateOf, Cond.selects RX0 yX0_stateOf yX0_stateOf, Cond.code yX0_stateOf cX0_stateOf 2 (some .int)]
def wsL_offer_r3 : List Cond := [Cond.fieldLink RX0 18 "CraneYard$Hauls" "states" "[I", Cond.methodLink RX3 184 yX0_number, Cond.instanceMethod yX0_number, Cond.selects RX0 yX0_number yX0_number, Cond.code yX0_number cX0_number 1 (some .int), Cond.methodLink RX3 187 yX0_add, Cond.instanceMethod yX0_add, Cond.selects RX0 yX0_add yX0_add, Cond.code yX0_add cX0_add 4 (some .int), Cond.fieldLink RX0 15 "CraneYard$Hauls" "lastDays" "[I"]
def wsL_offer : List Cond := .codeWith yL_offer cL_offer 5 (some .int) [(0, 10, 13, 27), (0, 10, 17, 13), (0, 10, 21, 15)] :: ((wsL_offer_r1 ++ (wsL_offer_r2 ++ wsL_offer_r3)) ++ wsX30 ++ wsX10 ++ wsX00 ++ (vx_atS RX3 64 "java/lang/IllegalArgumentException" ["java/lang/RuntimeException", "java/lang/Exception"]).filter goodWord ++ (vx_atS RX3 78 "java/lang/IllegalStateException" ["java/lang/RuntimeException", "java/lang/Exception"]).filter goodWord ++ (vx_atS RX3 170 "java/lang/IndexOutOfBoundsException" ["java/lang/RuntimeException", "java/lang/Exception"]).filter goodWord)
def wsL_bid_r1 : List Cond := [Cond.classLink RL 27 "java/lang/IndexOutOfBoundsException", Cond.classLink RL 13 "java/lang/IllegalArgumentException", Cond.classLink RL 15 "java/lang/IllegalStateException", Cond.methodLink RL 53 yX3_bid, Cond.instanceMethod yX3_bid, Cond.selects RX3 yX3_bid yX3_bid, Cond.initialized RX3, Cond.code yX3_bid cX3_bid 4 none, Cond.classLink RX3 60 "java/lang/IllegalArgumentException", Cond.initialized "java/lang/IllegalArgumentException", Cond.classLink RX3 74 "java/lang/IllegalStateException", Cond.initialized "java/lang/IllegalStateException", Cond.fieldLink RX3 29 "CraneYard" "hauls" "LCraneYard$Hauls;", Cond.methodLink RX3 189 yX3_requireHaul, Cond.instanceMethod yX3_requireHaul, Cond.selects RX3 yX3_requireHaul yX3_requireHaul, Cond.code yX3_requireHaul cX3_requireHaul 2 none, Cond.classLink RX3 166 "java/lang/IndexOutOfBoundsException", Cond.initialized "java/lang/IndexOutOfBoundsException", Cond.methodLink RX3 184 yX0_number, Cond.instanceMethod yX0_number, Cond.selects RX0 yX0_number yX0_number, Cond.initialized RX0, Cond.code yX0_number cX0_number 1 (some .int)]
def wsL_bid_r2 : List Cond := [Cond.fieldLink RX0 27 "CraneYard$Hauls" "count" "I", Cond.methodLink RX3 196 yX3_requireOffered, Cond.instanceMethod yX3_requireOffered, Cond.selects RX3 yX3_requireOffered yX3_requireOffered, Cond.code yX3_requireOffered cX3_requireOffered 2 none, Cond.methodLink RX3 216 yX0_stateOf, Cond.instanceMethod yX0_stateOf, Cond.selects RX0 yX0_stateOf yX0_stateOf, Cond.code yX0_stateOf cX0_stateOf 2 (some .int), Cond.fieldLink RX0 18 "CraneYard$Hauls" "states" "[I", Cond.methodLink RX3 199 yX0_priceAsked, Cond.instanceMethod yX0_priceAsked, Cond.selects RX0 yX0_priceAsked yX0_priceAsked, Cond.code yX0_priceAsked cX0_priceAsked 3 (some .int), Cond.fieldLink RX0 24 "CraneYard$Hauls" "bids" "[I", Cond.methodLink RX0 45 yX0_isPlaceForBid, Cond.instanceMethod yX0_isPlaceForBid, Cond.selects RX0 yX0_isPlaceForBid yX0_isPlaceForBid, Cond.code yX0_isPlaceForBid cX0_isPlaceForBid 3 (some .boolean), Cond.methodLink RX3 204 yX0_enterBid, Cond.instanceMethod yX0_enterBid, Cond.selects RX0 yX0_enterBid yX0_enterBid, Cond.code yX0_enterBid cX0_enterBid 4 none]
def wsL_bid : List Cond := .codeWith yL_bid cL_bid 5 (some .int) [(0, 7, 10, 27), (0, 7, 14, 13), (0, 7, 18, 15)] :: ((wsL_bid_r1 ++ wsL_bid_r2) ++ wsX30 ++ wsX00 ++ (vx_atS RX3 64 "java/lang/IllegalArgumentException" ["java/lang/RuntimeException", "java/lang/Exception"]).filter goodWord ++ (vx_atS RX3 78 "java/lang/IllegalStateException" ["java/lang/RuntimeException", "java/lang/Exception"]).filter goodWord ++ (vx_atS RX3 170 "java/lang/IndexOutOfBoundsException" ["java/lang/RuntimeException", "java/lang/Exception"]).filter goodWord)
def wsL_give_r1 : List Cond := [Cond.classLink RL 27 "java/lang/IndexOutOfBoundsException", Cond.classLink RL 15 "java/lang/IllegalStateException", Cond.methodLink RL 57 yX3_give, Cond.instanceMethod yX3_give, Cond.selects RX3 yX3_give yX3_give, Cond.initialized RX3, Cond.code yX3_give cX3_give 3 (some .int), Cond.classLink RX3 74 "java/lang/IllegalStateException", Cond.initialized "java/lang/IllegalStateException", Cond.fieldLink RX3 29 "CraneYard" "hauls" "LCraneYard$Hauls;", Cond.methodLink RX3 189 yX3_requireHaul, Cond.instanceMethod yX3_requireHaul, Cond.selects RX3 yX3_requireHaul yX3_requireHaul, Cond.code yX3_requireHaul cX3_requireHaul 2 none, Cond.classLink RX3 166 "java/lang/IndexOutOfBoundsException", Cond.initialized "java/lang/IndexOutOfBoundsException", Cond.methodLink RX3 184 yX0_number, Cond.instanceMethod yX0_number, Cond.selects RX0 yX0_number yX0_number, Cond.initialized RX0, Cond.code yX0_number cX0_number 1 (some .int), Cond.fieldLink RX0 27 "CraneYard$Hauls" "count" "I", Cond.methodLink RX3 196 yX3_requireOffered, Cond.instanceMethod yX3_requireOffered]
def wsL_give_r2 : List Cond := [Cond.selects RX3 yX3_requireOffered yX3_requireOffered, Cond.code yX3_requireOffered cX3_requireOffered 2 none, Cond.methodLink RX3 216 yX0_stateOf, Cond.instanceMethod yX0_stateOf, Cond.selects RX0 yX0_stateOf yX0_stateOf, Cond.code yX0_stateOf cX0_stateOf 2 (some .int), Cond.fieldLink RX0 18 "CraneYard$Hauls" "states" "[I", Cond.methodLink RX3 208 yX0_cheapestHaulier, Cond.instanceMethod yX0_cheapestHaulier, Cond.selects RX0 yX0_cheapestHaulier yX0_cheapestHaulier, Cond.code yX0_cheapestHaulier cX0_cheapestHaulier 5 (some .int), Cond.methodLink RX0 49 yX0_priceAsked, Cond.instanceMethod yX0_priceAsked, Cond.selects RX0 yX0_priceAsked yX0_priceAsked, Cond.code yX0_priceAsked cX0_priceAsked 3 (some .int), Cond.fieldLink RX0 24 "CraneYard$Hauls" "bids" "[I", Cond.methodLink RX0 45 yX0_isPlaceForBid, Cond.instanceMethod yX0_isPlaceForBid, Cond.selects RX0 yX0_isPlaceForBid yX0_isPlaceForBid, Cond.code yX0_isPlaceForBid cX0_isPlaceForBid 3 (some .boolean), Cond.methodLink RX3 213 yX0_giveTo, Cond.instanceMethod yX0_giveTo, Cond.selects RX0 yX0_giveTo yX0_giveTo, Cond.code yX0_giveTo cX0_giveTo 3 none]
def wsL_give_r3 : List Cond := [Cond.fieldLink RX0 21 "CraneYard$Hauls" "prices" "[I"]
def wsL_give : List Cond := .codeWith yL_give cL_give 4 (some .int) [(0, 9, 12, 27), (0, 9, 15, 15)] :: ((wsL_give_r1 ++ (wsL_give_r2 ++ wsL_give_r3)) ++ wsX30 ++ wsX00 ++ (vx_atS RX3 78 "java/lang/IllegalStateException" ["java/lang/RuntimeException", "java/lang/Exception"]).filter goodWord ++ (vx_atS RX3 170 "java/lang/IndexOutOfBoundsException" ["java/lang/RuntimeException", "java/lang/Exception"]).filter goodWord)
def wsL_load_r1 : List Cond := [Cond.classLink RL 15 "java/lang/IllegalStateException", Cond.methodLink RL 60 yX3_load, Cond.instanceMethod yX3_load, Cond.selects RX3 yX3_load yX3_load, Cond.initialized RX3, Cond.code yX3_load cX3_load 2 (some .int), Cond.classLink RX3 74 "java/lang/IllegalStateException", Cond.initialized "java/lang/IllegalStateException", Cond.fieldLink RX3 29 "CraneYard" "hauls" "LCraneYard$Hauls;", Cond.fieldLink RX3 44 "CraneYard" "craneCrate" "I", Cond.methodLink RX3 104 yX3_requireFullCrane, Cond.instanceMethod yX3_requireFullCrane, Cond.selects RX3 yX3_requireFullCrane yX3_requireFullCrane, Cond.code yX3_requireFullCrane cX3_requireFullCrane 1 none, Cond.methodLink RX3 179 yX0_openHaulOf, Cond.instanceMethod yX0_openHaulOf, Cond.selects RX0 yX0_openHaulOf yX0_openHaulOf, Cond.initialized RX0, Cond.code yX0_openHaulOf cX0_openHaulOf 3 (some .int), Cond.fieldLink RX0 27 "CraneYard$Hauls" "count" "I", Cond.fieldLink RX0 9 "CraneYard$Hauls" "crates" "[I", Cond.methodLink RX0 41 yX0_isOpen, Cond.instanceMethod yX0_isOpen, Cond.selects RX0 yX0_isOpen yX0_isOpen]
def wsL_load_r2 : List Cond := [Cond.code yX0_isOpen cX0_isOpen 3 (some .boolean), Cond.methodLink RX0 37 yX0_stateOf, Cond.instanceMethod yX0_stateOf, Cond.selects RX0 yX0_stateOf yX0_stateOf, Cond.code yX0_stateOf cX0_stateOf 2 (some .int), Cond.fieldLink RX0 18 "CraneYard$Hauls" "states" "[I", Cond.methodLink RX3 216 yX0_stateOf, Cond.methodLink RX3 221 yX0_finish, Cond.instanceMethod yX0_finish, Cond.selects RX0 yX0_finish yX0_finish, Cond.code yX0_finish cX0_finish 2 (some .int), Cond.fieldLink RX0 31 "CraneYard$Hauls" "pricesPaid" "I", Cond.fieldLink RX0 21 "CraneYard$Hauls" "prices" "[I"]
def wsL_load : List Cond := .codeWith yL_load cL_load 3 (some .int) [(0, 8, 11, 15)] :: ((wsL_load_r1 ++ wsL_load_r2) ++ wsX30 ++ wsX00 ++ (vx_atS RX3 78 "java/lang/IllegalStateException" ["java/lang/RuntimeException", "java/lang/Exception"]).filter goodWord)
def wsL_state : List Cond := .codeWith yL_state cL_state 4 (some .int) [(0, 9, 12, 27)] :: ([.classLink RL 27 "java/lang/IndexOutOfBoundsException", .methodLink RL 64 yX3_state, .instanceMethod yX3_state, .selects RX3 yX3_state yX3_state, .initialized RX3, .code yX3_state cX3_state 2 (some .int), .fieldLink RX3 29 "CraneYard" "hauls" "LCraneYard$Hauls;", .methodLink RX3 189 yX3_requireHaul, .instanceMethod yX3_requireHaul, .selects RX3 yX3_requireHaul yX3_requireHaul, .code yX3_requireHaul cX3_requireHaul 2 none, .classLink RX3 166 "java/lang/IndexOutOfBoundsException", .initialized "java/lang/IndexOutOfBoundsException", .methodLink RX3 184 yX0_number, .instanceMethod yX0_number, .selects RX0 yX0_number yX0_number, .initialized RX0, .code yX0_number cX0_number 1 (some .int), .fieldLink RX0 27 "CraneYard$Hauls" "count" "I", .methodLink RX3 216 yX0_stateOf, .instanceMethod yX0_stateOf, .selects RX0 yX0_stateOf yX0_stateOf, .code yX0_stateOf cX0_stateOf 2 (some .int), .fieldLink RX0 18 "CraneYard$Hauls" "states" "[I"] ++ wsX30 ++ wsX00 ++ (vx_atS RX3 170 "java/lang/IndexOutOfBoundsException" ["java/lang/RuntimeException", "java/lang/Exception"]).filter goodWord)
def wsL_pass_r1 : List Cond := [Cond.classLink RL 13 "java/lang/IllegalArgumentException", Cond.classLink RL 15 "java/lang/IllegalStateException", Cond.methodLink RL 67 yX3_pass, Cond.instanceMethod yX3_pass, Cond.selects RX3 yX3_pass yX3_pass, Cond.initialized RX3, Cond.code yX3_pass cX3_pass 4 (some .int), Cond.classLink RX3 60 "java/lang/IllegalArgumentException", Cond.initialized "java/lang/IllegalArgumentException", Cond.classLink RX3 74 "java/lang/IllegalStateException", Cond.initialized "java/lang/IllegalStateException", Cond.fieldLink RX3 50 "CraneYard" "day" "I", Cond.fieldLink RX3 57 "CraneYard" "fees" "I", Cond.methodLink RX3 231 yX3_endDay, Cond.instanceMethod yX3_endDay, Cond.selects RX3 yX3_endDay yX3_endDay, Cond.code yX3_endDay cX3_endDay 1 none, Cond.fieldLink RX3 10 "CraneYard" "stacks" "LCraneYard$Stacks;", Cond.fieldLink RX3 29 "CraneYard" "hauls" "LCraneYard$Hauls;", Cond.fieldLink RX3 53 "CraneYard" "stormy" "Z", Cond.methodLink RX3 269 yX1_feeOfOneDay, Cond.instanceMethod yX1_feeOfOneDay, Cond.selects RX1 yX1_feeOfOneDay yX1_feeOfOneDay, Cond.initialized RX1]
def wsL_pass_r2 : List Cond := [Cond.code yX1_feeOfOneDay cX1_feeOfOneDay 3 (some .int), Cond.fieldLink RX1 9 "CraneYard$Stacks" "heights" "[I", Cond.methodLink RX3 272 yX0_endDay, Cond.instanceMethod yX0_endDay, Cond.selects RX0 yX0_endDay yX0_endDay, Cond.initialized RX0, Cond.code yX0_endDay cX0_endDay 3 none, Cond.fieldLink RX0 27 "CraneYard$Hauls" "count" "I", Cond.fieldLink RX0 15 "CraneYard$Hauls" "lastDays" "[I", Cond.fieldLink RX0 18 "CraneYard$Hauls" "states" "[I", Cond.fieldLink RX0 34 "CraneYard$Hauls" "owed" "I", Cond.methodLink RX0 41 yX0_isOpen, Cond.instanceMethod yX0_isOpen, Cond.selects RX0 yX0_isOpen yX0_isOpen, Cond.code yX0_isOpen cX0_isOpen 3 (some .boolean), Cond.methodLink RX0 37 yX0_stateOf, Cond.instanceMethod yX0_stateOf, Cond.selects RX0 yX0_stateOf yX0_stateOf, Cond.code yX0_stateOf cX0_stateOf 2 (some .int)]
def wsL_pass : List Cond := .codeWith yL_pass cL_pass 4 (some .int) [(0, 9, 12, 13), (0, 9, 15, 15)] :: ((wsL_pass_r1 ++ wsL_pass_r2) ++ wsX30 ++ wsX10 ++ wsX00 ++ (vx_atS RX3 64 "java/lang/IllegalArgumentException" ["java/lang/RuntimeException", "java/lang/Exception"]).filter goodWord ++ (vx_atS RX3 78 "java/lang/IllegalStateException" ["java/lang/RuntimeException", "java/lang/Exception"]).filter goodWord)
set_option maxRecDepth 20000 in
theorem ggX0_isOpen_X0_stateOf : GoodIn wsX0_isOpen wsX0_stateOf := goodIn_r _ [5, 6, 7, 8, 9, 10, 11, 12, 13, 14, 15] (by decide +kernel) (by decide +kernel)
set_option maxRecDepth 20000 in
theorem gX0_isOpen_X0_stateOf : GoodIn wsX0_isOpen (wsV RX0 37 RX0 yX0_stateOf wsX0_stateOf) := goodIn_app (goodIn_of _ (by decide +kernel)) ggX0_isOpen_X0_stateOf
set_option maxRecDepth 20000 in
theorem ggX0_openHaulOf_X0_isOpen : GoodIn wsX0_openHaulOf wsX0_isOpen := goodIn_r _ [7, 8, 9, 10, 6, 11, 1, 12, 13, 14, 15, 16, 17, 18, 19, 20] (by decide +kernel) (by decide +kernel)
set_option maxRecDepth 20000 in
theorem gX0_openHaulOf_X0_isOpen : GoodIn wsX0_openHaulOf (wsV RX0 41 RX0 yX0_isOpen wsX0_isOpen) := goodIn_app (goodIn_of _ (by decide +kernel)) ggX0_openHaulOf_X0_isOpen
set_option maxRecDepth 20000 in
theorem ggX0_priceAsked_X0_isPlaceForBid : GoodIn wsX0_priceAsked wsX0_isPlaceForBid := goodIn_r _ [6, 7, 8, 9, 10, 11, 12, 13, 14, 15] (by decide +kernel) (by decide +kernel)
set_option maxRecDepth 20000 in
theorem gX0_priceAsked_X0_isPlaceForBid : GoodIn wsX0_priceAsked (wsV RX0 45 RX0 yX0_isPlaceForBid wsX0_isPlaceForBid) := goodIn_app (goodIn_of _ (by decide +kernel)) ggX0_priceAsked_X0_isPlaceForBid
set_option maxRecDepth 20000 in
theorem ggX0_enterBid_X0_isPlaceForBid : GoodIn wsX0_enterBid wsX0_isPlaceForBid := goodIn_r _ [6, 7, 8, 9, 10, 11, 12, 13, 14, 15] (by decide +kernel) (by decide +kernel)
set_option maxRecDepth 20000 in
theorem gX0_enterBid_X0_isPlaceForBid : GoodIn wsX0_enterBid (wsV RX0 45 RX0 yX0_isPlaceForBid wsX0_isPlaceForBid) := goodIn_app (goodIn_of _ (by decide +kernel)) ggX0_enterBid_X0_isPlaceForBid
set_option maxRecDepth 20000 in
theorem ggX0_cheapestHaulier_X0_priceAsked : GoodIn wsX0_cheapestHaulier wsX0_priceAsked := goodIn_r _ [5, 6, 7, 8, 9, 4, 10, 11, 12, 13, 14, 15, 16, 17, 18, 19] (by decide +kernel) (by decide +kernel)
set_option maxRecDepth 20000 in
theorem gX0_cheapestHaulier_X0_priceAsked : GoodIn wsX0_cheapestHaulier (wsV RX0 49 RX0 yX0_priceAsked wsX0_priceAsked) := goodIn_app (goodIn_of _ (by decide +kernel)) ggX0_cheapestHaulier_X0_priceAsked
set_option maxRecDepth 20000 in
theorem ggX0_giveTo_X0_isPlaceForBid : GoodIn wsX0_giveTo wsX0_isPlaceForBid := goodIn_r _ [7, 8, 14, 15, 16, 17, 18, 19, 20, 21] (by decide +kernel) (by decide +kernel)
set_option maxRecDepth 20000 in
theorem gX0_giveTo_X0_isPlaceForBid : GoodIn wsX0_giveTo (wsV RX0 45 RX0 yX0_isPlaceForBid wsX0_isPlaceForBid) := goodIn_app (goodIn_of _ (by decide +kernel)) ggX0_giveTo_X0_isPlaceForBid
set_option maxRecDepth 20000 in
theorem ggX0_giveTo_X0_priceAsked : GoodIn wsX0_giveTo wsX0_priceAsked := goodIn_r _ [12, 13, 3, 4, 5, 6, 7, 8, 14, 15, 16, 17, 18, 19, 20, 21] (by decide +kernel) (by decide +kernel)
set_option maxRecDepth 20000 in
theorem gX0_giveTo_X0_priceAsked : GoodIn wsX0_giveTo (wsV RX0 49 RX0 yX0_priceAsked wsX0_priceAsked) := goodIn_app (goodIn_of _ (by decide +kernel)) ggX0_giveTo_X0_priceAsked
set_option maxRecDepth 20000 in
theorem ggX0_endDay_X0_isOpen : GoodIn wsX0_endDay wsX0_isOpen := goodIn_r _ [9, 10, 11, 12, 8, 13, 1, 3, 14, 15, 16, 17, 18, 19, 20, 21] (by decide +kernel) (by decide +kernel)
set_option maxRecDepth 20000 in
theorem gX0_endDay_X0_isOpen : GoodIn wsX0_endDay (wsV RX0 41 RX0 yX0_isOpen wsX0_isOpen) := goodIn_app (goodIn_of _ (by decide +kernel)) ggX0_endDay_X0_isOpen
set_option maxRecDepth 20000 in
theorem ggX1_crateAt_X1_heightOf : GoodIn wsX1_crateAt wsX1_heightOf := goodIn_r _ [6, 7, 8, 9, 10] (by decide +kernel) (by decide +kernel)
set_option maxRecDepth 20000 in
theorem gX1_crateAt_X1_heightOf : GoodIn wsX1_crateAt (wsV RX1 27 RX1 yX1_heightOf wsX1_heightOf) := goodIn_app (goodIn_of _ (by decide +kernel)) ggX1_crateAt_X1_heightOf
set_option maxRecDepth 20000 in
theorem ggX1_topOf_X1_heightOf : GoodIn wsX1_topOf wsX1_heightOf := goodIn_r _ [6, 7, 8, 9, 10] (by decide +kernel) (by decide +kernel)
set_option maxRecDepth 20000 in
theorem gX1_topOf_X1_heightOf : GoodIn wsX1_topOf (wsV RX1 27 RX1 yX1_heightOf wsX1_heightOf) := goodIn_app (goodIn_of _ (by decide +kernel)) ggX1_topOf_X1_heightOf
set_option maxRecDepth 20000 in
theorem ggX1_canTake_X1_heightOf : GoodIn wsX1_canTake wsX1_heightOf := goodIn_r _ [5, 6, 17, 18, 19] (by decide +kernel) (by decide +kernel)
set_option maxRecDepth 20000 in
theorem gX1_canTake_X1_heightOf : GoodIn wsX1_canTake (wsV RX1 27 RX1 yX1_heightOf wsX1_heightOf) := goodIn_app (goodIn_of _ (by decide +kernel)) ggX1_canTake_X1_heightOf
set_option maxRecDepth 20000 in
theorem ggX1_canTake_X1_topOf : GoodIn wsX1_canTake wsX1_topOf := goodIn_r _ [10, 11, 1, 2, 3, 4, 5, 6, 17, 18, 19] (by decide +kernel) (by decide +kernel)
set_option maxRecDepth 20000 in
theorem gX1_canTake_X1_topOf : GoodIn wsX1_canTake (wsV RX1 31 RX1 yX1_topOf wsX1_topOf) := goodIn_app (goodIn_of _ (by decide +kernel)) ggX1_canTake_X1_topOf
set_option maxRecDepth 20000 in
theorem ggX1_canTake_X1_weightOf : GoodIn wsX1_canTake wsX1_weightOf := goodIn_r _ [15, 16, 17, 18, 19] (by decide +kernel) (by decide +kernel)
set_option maxRecDepth 20000 in
theorem gX1_canTake_X1_weightOf : GoodIn wsX1_canTake (wsV RX1 34 RX1 yX1_weightOf wsX1_weightOf) := goodIn_app (goodIn_of _ (by decide +kernel)) ggX1_canTake_X1_weightOf
set_option maxRecDepth 20000 in
theorem ggX1_put_X1_heightOf : GoodIn wsX1_put wsX1_heightOf := goodIn_r _ [7, 2, 8, 9, 10] (by decide +kernel) (by decide +kernel)
set_option maxRecDepth 20000 in
theorem gX1_put_X1_heightOf : GoodIn wsX1_put (wsV RX1 27 RX1 yX1_heightOf wsX1_heightOf) := goodIn_app (goodIn_of _ (by decide +kernel)) ggX1_put_X1_heightOf
set_option maxRecDepth 20000 in
theorem ggX1_takeTop_X1_topOf : GoodIn wsX1_takeTop wsX1_topOf := goodIn_r _ [6, 7, 8, 9, 10, 5, 11, 1, 12, 13, 14] (by decide +kernel) (by decide +kernel)
set_option maxRecDepth 20000 in
theorem gX1_takeTop_X1_topOf : GoodIn wsX1_takeTop (wsV RX1 31 RX1 yX1_topOf wsX1_topOf) := goodIn_app (goodIn_of _ (by decide +kernel)) ggX1_takeTop_X1_topOf
set_option maxRecDepth 20000 in
theorem ggX1_digOut_X1_stackHolding : GoodIn wsX1_digOut wsX1_stackHolding := goodIn_r _ [5, 6, 7, 37, 38, 39] (by decide +kernel) (by decide +kernel)
set_option maxRecDepth 20000 in
theorem gX1_digOut_X1_stackHolding : GoodIn wsX1_digOut (wsV RX1 37 RX1 yX1_stackHolding wsX1_stackHolding) := goodIn_app (goodIn_of _ (by decide +kernel)) ggX1_digOut_X1_stackHolding
set_option maxRecDepth 20000 in
theorem ggX1_digOut_X1_takeTop : GoodIn wsX1_digOut wsX1_takeTop := goodIn_r _ [11, 6, 12, 13, 14, 4, 15, 7, 16, 17, 18, 19, 37, 38, 39] (by decide +kernel) (by decide +kernel)
set_option maxRecDepth 20000 in
theorem gX1_digOut_X1_takeTop : GoodIn wsX1_digOut (wsV RX1 40 RX1 yX1_takeTop wsX1_takeTop) := goodIn_app (goodIn_of _ (by decide +kernel)) ggX1_digOut_X1_takeTop
set_option maxRecDepth 20000 in
theorem ggX1_digOut_X1_weightOf : GoodIn wsX1_digOut wsX1_weightOf := goodIn_r _ [23, 24, 37, 38, 39] (by decide +kernel) (by decide +kernel)
set_option maxRecDepth 20000 in
theorem gX1_digOut_X1_weightOf : GoodIn wsX1_digOut (wsV RX1 34 RX1 yX1_weightOf wsX1_weightOf) := goodIn_app (goodIn_of _ (by decide +kernel)) ggX1_digOut_X1_weightOf
set_option maxRecDepth 20000 in
theorem ggX1_digOut_X1_targetFor : GoodIn wsX1_digOut wsX1_targetFor := goodIn_r _ [28, 29, 30, 31, 4, 32, 16, 17, 18, 19, 6, 12, 13, 14, 15, 7, 20, 21, 22, 23, 24, 37, 38, 39] (by decide +kernel) (by decide +kernel)
set_option maxRecDepth 20000 in
theorem gX1_digOut_X1_targetFor : GoodIn wsX1_digOut (wsV RX1 43 RX1 yX1_targetFor wsX1_targetFor) := goodIn_app (goodIn_of _ (by decide +kernel)) ggX1_digOut_X1_targetFor
set_option maxRecDepth 20000 in
theorem ggX1_digOut_X1_put : GoodIn wsX1_digOut wsX1_put := goodIn_r _ [36, 7, 6, 16, 17, 18, 4, 19, 37, 38, 39] (by decide +kernel) (by decide +kernel)
set_option maxRecDepth 20000 in
theorem gX1_digOut_X1_put : GoodIn wsX1_digOut (wsV RX1 47 RX1 yX1_put wsX1_put) := goodIn_app (goodIn_of _ (by decide +kernel)) ggX1_digOut_X1_put
set_option maxRecDepth 20000 in
theorem ggX1_targetFor_X1_canTake : GoodIn wsX1_targetFor wsX1_canTake := goodIn_r _ [5, 6, 7, 8, 4, 9, 10, 11, 12, 13, 14, 15, 16, 17, 18, 19, 20, 21, 22, 23] (by decide +kernel) (by decide +kernel)
set_option maxRecDepth 20000 in
theorem gX1_targetFor_X1_canTake : GoodIn wsX1_targetFor (wsV RX1 51 RX1 yX1_canTake wsX1_canTake) := goodIn_app (goodIn_of _ (by decide +kernel)) ggX1_targetFor_X1_canTake
set_option maxRecDepth 20000 in
theorem ggX1_targetFor_X1_heightOf : GoodIn wsX1_targetFor wsX1_heightOf := goodIn_r _ [9, 10, 21, 22, 23] (by decide +kernel) (by decide +kernel)
set_option maxRecDepth 20000 in
theorem gX1_targetFor_X1_heightOf : GoodIn wsX1_targetFor (wsV RX1 27 RX1 yX1_heightOf wsX1_heightOf) := goodIn_app (goodIn_of _ (by decide +kernel)) ggX1_targetFor_X1_heightOf
set_option maxRecDepth 20000 in
theorem ggX2_payShown_X2_isShown : GoodIn wsX2_payShown wsX2_isShown := goodIn_r _ [9, 10, 11, 12, 13, 4, 14, 15, 16, 8, 17, 18, 19, 20, 21, 22, 23] (by decide +kernel) (by decide +kernel)
set_option maxRecDepth 20000 in
theorem gX2_payShown_X2_isShown : GoodIn wsX2_payShown (wsV RX2 29 RX2 yX2_isShown wsX2_isShown) := goodIn_app (goodIn_of _ (by decide +kernel)) ggX2_payShown_X2_isShown
set_option maxRecDepth 20000 in
theorem ggX2_isShown_X2_isShownFrom : GoodIn wsX2_isShown wsX2_isShownFrom := goodIn_r _ [10, 5, 11, 12, 13, 14, 15, 16] (by decide +kernel) (by decide +kernel)
set_option maxRecDepth 20000 in
theorem gX2_isShown_X2_isShownFrom : GoodIn wsX2_isShown (wsV RX2 39 RX2 yX2_isShownFrom wsX2_isShownFrom) := goodIn_app (goodIn_of _ (by decide +kernel)) ggX2_isShown_X2_isShownFrom
set_option maxRecDepth 20000 in
theorem ggX3_init_X1_init : GoodIn wsX3_init wsX1_init := goodIn_r _ [27, 28, 2, 3, 17, 29, 30, 31, 52, 53, 54] (by decide +kernel) (by decide +kernel)
set_option maxRecDepth 20000 in
theorem gX3_init_X1_init_n9 : GoodIn wsX3_init (wsX1_init) := ggX3_init_X1_init
set_option maxRecDepth 20000 in
theorem ggX3_init_X2_init : GoodIn wsX3_init wsX2_init := goodIn_r _ [33, 34, 2, 3, 17, 35, 36, 37, 38, 39, 40, 67, 68, 69, 70, 71] (by decide +kernel) (by decide +kernel)
set_option maxRecDepth 20000 in
theorem gX3_init_X2_init_n21 : GoodIn wsX3_init (wsX2_init) := ggX3_init_X2_init
set_option maxRecDepth 20000 in
theorem ggX3_init_X0_init : GoodIn wsX3_init wsX0_init := goodIn_r _ [42, 43, 2, 3, 17, 44, 45, 46, 47, 48, 49, 50, 51, 72, 73, 74, 75, 76, 77, 78, 79] (by decide +kernel) (by decide +kernel)
set_option maxRecDepth 20000 in
theorem gX3_init_X0_init_n28 : GoodIn wsX3_init (wsX0_init) := ggX3_init_X0_init
set_option maxRecDepth 20000 in
theorem ggX3_arrive_X3_requireLetter : GoodIn wsX3_arrive wsX3_requireLetter := goodIn_ca (goodIn_r _ [11, 1, 2] (by decide +kernel) (by decide +kernel)) (goodIn_sub (fun _ h => List.mem_cons_of_mem _ (List.mem_append_left _ (List.mem_append_right _ h))) (by decide +kernel))
set_option maxRecDepth 20000 in
theorem gX3_arrive_X3_requireLetter : GoodIn wsX3_arrive (va_wsS RX3 67 yX3_requireLetter wsX3_requireLetter) := goodIn_app (goodIn_of _ (by decide +kernel)) ggX3_arrive_X3_requireLetter
set_option maxRecDepth 20000 in
theorem ggX3_arrive_X3_requireStack : GoodIn wsX3_arrive wsX3_requireStack := goodIn_ca (goodIn_r _ [14, 1, 2] (by decide +kernel) (by decide +kernel)) (goodIn_sub (fun _ h => List.mem_cons_of_mem _ (List.mem_append_left _ (List.mem_append_right _ h))) (by decide +kernel))
set_option maxRecDepth 20000 in
theorem gX3_arrive_X3_requireStack : GoodIn wsX3_arrive (va_wsS RX3 71 yX3_requireStack wsX3_requireStack) := goodIn_app (goodIn_of _ (by decide +kernel)) ggX3_arrive_X3_requireStack
set_option maxRecDepth 20000 in
theorem ggX3_arrive_X3_requireRoom : GoodIn wsX3_arrive wsX3_requireRoom := goodIn_ca (goodIn_r _ [18, 3, 4, 7, 19, 20, 21, 10, 22, 23, 24, 25, 26, 27, 28, 29, 30, 31, 32, 33, 34, 35, 36, 37, 38, 39, 40, 41, 42, 43, 81, 82, 83, 84, 85, 86, 87, 88, 89, 90, 91, 92, 93, 94, 95] (by decide +kernel) (by decide +kernel)) (goodIn_sub (fun _ h => List.mem_cons_of_mem _ (List.mem_append_right _ h)) (by decide +kernel))
set_option maxRecDepth 20000 in
theorem gX3_arrive_X3_requireRoom : GoodIn wsX3_arrive (wsV RX3 79 RX3 yX3_requireRoom wsX3_requireRoom) := goodIn_app (goodIn_of _ (by decide +kernel)) ggX3_arrive_X3_requireRoom
set_option maxRecDepth 20000 in
theorem ggX3_arrive_X1_setWeight : GoodIn wsX3_arrive wsX1_setWeight := goodIn_r _ [47, 43, 93, 94, 95] (by decide +kernel) (by decide +kernel)
set_option maxRecDepth 20000 in
theorem gX3_arrive_X1_setWeight : GoodIn wsX3_arrive (wsV RX3 83 RX1 yX1_setWeight wsX1_setWeight) := goodIn_app (goodIn_of _ (by decide +kernel)) ggX3_arrive_X1_setWeight
set_option maxRecDepth 20000 in
theorem ggX3_arrive_X1_put : GoodIn wsX3_arrive wsX1_put := goodIn_r _ [51, 38, 33, 29, 30, 31, 27, 32, 93, 94, 95] (by decide +kernel) (by decide +kernel)
set_option maxRecDepth 20000 in
theorem gX3_arrive_X1_put : GoodIn wsX3_arrive (wsV RX3 86 RX1 yX1_put wsX1_put) := goodIn_app (goodIn_of _ (by decide +kernel)) ggX3_arrive_X1_put
set_option maxRecDepth 20000 in
theorem ggX3_arrive_X3_payWords : GoodIn wsX3_arrive wsX3_payWords := goodIn_r _ [55, 7, 56, 6, 57, 58, 35, 36, 27, 37, 38, 29, 30, 31, 32, 33, 59, 60, 61, 62, 63, 64, 65, 66, 67, 68, 69, 70, 71, 72, 73, 74, 75, 76, 77, 78, 79, 80, 81, 82, 83, 84, 85, 86, 87, 88, 89, 90, 91, 92, 93, 94, 95, 96, 97, 98, 99, 100] (by decide +kernel) (by decide +kernel)
set_option maxRecDepth 20000 in
theorem gX3_arrive_X3_payWords : GoodIn wsX3_arrive (wsV RX3 89 RX3 yX3_payWords wsX3_payWords) := goodIn_app (goodIn_of _ (by decide +kernel)) ggX3_arrive_X3_payWords
set_option maxRecDepth 20000 in
theorem ggX3_lift_X3_requireStack : GoodIn wsX3_lift wsX3_requireStack := goodIn_ca (goodIn_r _ [9, 10, 11] (by decide +kernel) (by decide +kernel)) (goodIn_sub (fun _ h => List.mem_cons_of_mem _ (List.mem_append_right _ h)) (by decide +kernel))
set_option maxRecDepth 20000 in
theorem gX3_lift_X3_requireStack : GoodIn wsX3_lift (va_wsS RX3 71 yX3_requireStack wsX3_requireStack) := goodIn_app (goodIn_of _ (by decide +kernel)) ggX3_lift_X3_requireStack
set_option maxRecDepth 20000 in
theorem ggX3_lift_X3_requireEmptyCrane : GoodIn wsX3_lift wsX3_requireEmptyCrane := goodIn_ca (goodIn_r _ [15, 1, 2, 4, 62, 63, 64, 65, 66, 67, 68, 69, 70, 71, 72, 73] (by decide +kernel) (by decide +kernel)) (goodIn_sub (fun _ h => List.mem_cons_of_mem _ (List.mem_append_left _ (List.mem_append_right _ h))) (by decide +kernel))
set_option maxRecDepth 20000 in
theorem gX3_lift_X3_requireEmptyCrane : GoodIn wsX3_lift (wsV RX3 92 RX3 yX3_requireEmptyCrane wsX3_requireEmptyCrane) := goodIn_app (goodIn_of _ (by decide +kernel)) ggX3_lift_X3_requireEmptyCrane
set_option maxRecDepth 20000 in
theorem ggX3_lift_X1_heightOf : GoodIn wsX3_lift wsX1_heightOf := goodIn_r _ [20, 21, 74, 75, 76] (by decide +kernel) (by decide +kernel)
set_option maxRecDepth 20000 in
theorem gX3_lift_X1_heightOf : GoodIn wsX3_lift (wsV RX3 95 RX1 yX1_heightOf wsX1_heightOf) := goodIn_app (goodIn_of _ (by decide +kernel)) ggX3_lift_X1_heightOf
set_option maxRecDepth 20000 in
theorem ggX3_lift_X1_takeTop : GoodIn wsX3_lift wsX1_takeTop := goodIn_r _ [25, 21, 26, 27, 28, 19, 29, 30, 31, 17, 18, 20, 74, 75, 76] (by decide +kernel) (by decide +kernel)
set_option maxRecDepth 20000 in
theorem gX3_lift_X1_takeTop : GoodIn wsX3_lift (wsV RX3 101 RX1 yX1_takeTop wsX1_takeTop) := goodIn_app (goodIn_of _ (by decide +kernel)) ggX3_lift_X1_takeTop
set_option maxRecDepth 20000 in
theorem ggX3_lift_X3_payWords : GoodIn wsX3_lift wsX3_payWords := goodIn_r _ [35, 3, 36, 37, 38, 39, 27, 28, 19, 29, 30, 31, 17, 18, 20, 21, 40, 41, 42, 43, 44, 45, 46, 47, 48, 49, 50, 51, 52, 53, 54, 55, 56, 57, 58, 59, 60, 61, 62, 63, 64, 65, 66, 67, 68, 69, 70, 71, 72, 73, 74, 75, 76, 77, 78, 79, 80, 81] (by decide +kernel) (by decide +kernel)
set_option maxRecDepth 20000 in
theorem gX3_lift_X3_payWords : GoodIn wsX3_lift (wsV RX3 89 RX3 yX3_payWords wsX3_payWords) := goodIn_app (goodIn_of _ (by decide +kernel)) ggX3_lift_X3_payWords
set_option maxRecDepth 20000 in
theorem ggX3_drop_X3_requireStack : GoodIn wsX3_drop wsX3_requireStack := goodIn_ca (goodIn_r _ [6, 7, 8] (by decide +kernel) (by decide +kernel)) (goodIn_sub (fun _ h => List.mem_cons_of_mem _ (List.mem_append_left _ (List.mem_append_right _ h))) (by decide +kernel))
set_option maxRecDepth 20000 in
theorem gX3_drop_X3_requireStack : GoodIn wsX3_drop (va_wsS RX3 71 yX3_requireStack wsX3_requireStack) := goodIn_app (goodIn_of _ (by decide +kernel)) ggX3_drop_X3_requireStack
set_option maxRecDepth 20000 in
theorem ggX3_drop_X3_requireFullCrane : GoodIn wsX3_drop wsX3_requireFullCrane := goodIn_ca (goodIn_r _ [12, 13, 14, 2, 80, 81, 82, 83, 84, 85, 86, 87, 88, 89, 90, 91] (by decide +kernel) (by decide +kernel)) (goodIn_sub (fun _ h => List.mem_cons_of_mem _ (List.mem_append_right _ h)) (by decide +kernel))
set_option maxRecDepth 20000 in
theorem gX3_drop_X3_requireFullCrane : GoodIn wsX3_drop (wsV RX3 104 RX3 yX3_requireFullCrane wsX3_requireFullCrane) := goodIn_app (goodIn_of _ (by decide +kernel)) ggX3_drop_X3_requireFullCrane
set_option maxRecDepth 20000 in
theorem ggX3_drop_X1_weightOf : GoodIn wsX3_drop wsX1_weightOf := goodIn_r _ [19, 20, 92, 93, 94] (by decide +kernel) (by decide +kernel)
set_option maxRecDepth 20000 in
theorem gX3_drop_X1_weightOf : GoodIn wsX3_drop (wsV RX3 107 RX1 yX1_weightOf wsX1_weightOf) := goodIn_app (goodIn_of _ (by decide +kernel)) ggX3_drop_X1_weightOf
set_option maxRecDepth 20000 in
theorem ggX3_drop_X3_requireRoom : GoodIn wsX3_drop wsX3_requireRoom := goodIn_ca (goodIn_r _ [24, 13, 14, 1, 25, 26, 27, 5, 28, 29, 30, 31, 32, 18, 33, 34, 35, 36, 37, 38, 39, 40, 41, 42, 43, 44, 16, 17, 19, 20, 80, 81, 82, 83, 84, 85, 86, 87, 88, 89, 90, 91, 92, 93, 94] (by decide +kernel) (by decide +kernel)) (goodIn_sub (fun _ h => List.mem_cons_of_mem _ (List.mem_append_right _ h)) (by decide +kernel))
set_option maxRecDepth 20000 in
theorem gX3_drop_X3_requireRoom : GoodIn wsX3_drop (wsV RX3 79 RX3 yX3_requireRoom wsX3_requireRoom) := goodIn_app (goodIn_of _ (by decide +kernel)) ggX3_drop_X3_requireRoom
set_option maxRecDepth 20000 in
theorem ggX3_drop_X1_put : GoodIn wsX3_drop wsX1_put := goodIn_r _ [48, 43, 38, 34, 35, 36, 18, 37, 92, 93, 94] (by decide +kernel) (by decide +kernel)
set_option maxRecDepth 20000 in
theorem gX3_drop_X1_put : GoodIn wsX3_drop (wsV RX3 86 RX1 yX1_put wsX1_put) := goodIn_app (goodIn_of _ (by decide +kernel)) ggX3_drop_X1_put
set_option maxRecDepth 20000 in
theorem ggX3_drop_X3_payWords : GoodIn wsX3_drop wsX3_payWords := goodIn_r _ [52, 1, 53, 54, 55, 56, 40, 41, 18, 42, 43, 34, 35, 36, 37, 38, 57, 58, 59, 60, 61, 62, 63, 64, 65, 66, 67, 68, 69, 70, 71, 72, 73, 74, 75, 76, 77, 78, 80, 81, 82, 83, 84, 85, 86, 87, 88, 89, 90, 91, 92, 93, 94, 95, 96, 97, 98, 99] (by decide +kernel) (by decide +kernel)
set_option maxRecDepth 20000 in
theorem gX3_drop_X3_payWords : GoodIn wsX3_drop (wsV RX3 89 RX3 yX3_payWords wsX3_payWords) := goodIn_app (goodIn_of _ (by decide +kernel)) ggX3_drop_X3_payWords
set_option maxRecDepth 20000 in
theorem ggX3_drop_X1_heightOf : GoodIn wsX3_drop wsX1_heightOf := goodIn_r _ [37, 38, 92, 93, 94] (by decide +kernel) (by decide +kernel)
set_option maxRecDepth 20000 in
theorem gX3_drop_X1_heightOf : GoodIn wsX3_drop (wsV RX3 95 RX1 yX1_heightOf wsX1_heightOf) := goodIn_app (goodIn_of _ (by decide +kernel)) ggX3_drop_X1_heightOf
set_option maxRecDepth 20000 in
theorem ggX3_dig_X3_requireCrate : GoodIn wsX3_dig wsX3_requireCrate := goodIn_ca (goodIn_r _ [11, 12, 13, 14, 107, 108, 109, 110, 111, 112, 113, 114, 115, 116, 117, 118] (by decide +kernel) (by decide +kernel)) (goodIn_sub (fun _ h => List.mem_cons_of_mem _ (List.mem_append_right _ h)) (by decide +kernel))
set_option maxRecDepth 20000 in
theorem gX3_dig_X3_requireCrate : GoodIn wsX3_dig (wsV RX3 110 RX3 yX3_requireCrate wsX3_requireCrate) := goodIn_app (goodIn_of _ (by decide +kernel)) ggX3_dig_X3_requireCrate
set_option maxRecDepth 20000 in
theorem ggX3_dig_X3_requireEmptyCrane : GoodIn wsX3_dig wsX3_requireEmptyCrane := goodIn_ca (goodIn_r _ [18, 1, 2, 5, 107, 108, 109, 110, 111, 112, 113, 114, 115, 116, 117, 118] (by decide +kernel) (by decide +kernel)) (goodIn_sub (fun _ h => List.mem_cons_of_mem _ (List.mem_append_left _ (List.mem_append_right _ h))) (by decide +kernel))
set_option maxRecDepth 20000 in
theorem gX3_dig_X3_requireEmptyCrane : GoodIn wsX3_dig (wsV RX3 92 RX3 yX3_requireEmptyCrane wsX3_requireEmptyCrane) := goodIn_app (goodIn_of _ (by decide +kernel)) ggX3_dig_X3_requireEmptyCrane
set_option maxRecDepth 20000 in
theorem ggX3_dig_X3_requireInStack : GoodIn wsX3_dig wsX3_requireInStack := goodIn_ca (goodIn_r _ [22, 1, 2, 4, 23, 24, 25, 26, 27, 28, 29, 107, 108, 109, 110, 111, 112, 113, 114, 115, 116, 117, 118, 119, 120, 121] (by decide +kernel) (by decide +kernel)) (goodIn_sub (fun _ h => List.mem_cons_of_mem _ (List.mem_append_left _ (List.mem_append_right _ h))) (by decide +kernel))
set_option maxRecDepth 20000 in
theorem gX3_dig_X3_requireInStack : GoodIn wsX3_dig (wsV RX3 113 RX3 yX3_requireInStack wsX3_requireInStack) := goodIn_app (goodIn_of _ (by decide +kernel)) ggX3_dig_X3_requireInStack
set_option maxRecDepth 20000 in
theorem ggX3_dig_X1_copyFrom : GoodIn wsX3_dig wsX1_copyFrom := goodIn_r _ [33, 28, 34, 35, 36, 37, 29, 38, 119, 120, 121] (by decide +kernel) (by decide +kernel)
set_option maxRecDepth 20000 in
theorem gX3_dig_X1_copyFrom : GoodIn wsX3_dig (wsV RX3 116 RX1 yX1_copyFrom wsX1_copyFrom) := goodIn_app (goodIn_of _ (by decide +kernel)) ggX3_dig_X1_copyFrom
set_option maxRecDepth 20000 in
theorem ggX3_dig_X3_mostPlaces : GoodIn wsX3_dig wsX3_mostPlaces := goodIn_r _ [42, 43, 107, 108, 109, 110, 111, 112, 113, 114, 115, 116, 117, 118] (by decide +kernel) (by decide +kernel)
set_option maxRecDepth 20000 in
theorem gX3_dig_X3_mostPlaces : GoodIn wsX3_dig (wsV RX3 120 RX3 yX3_mostPlaces wsX3_mostPlaces) := goodIn_app (goodIn_of _ (by decide +kernel)) ggX3_dig_X3_mostPlaces
set_option maxRecDepth 20000 in
theorem ggX3_dig_X1_digOut : GoodIn wsX3_dig wsX1_digOut := goodIn_r _ [47, 48, 24, 25, 26, 27, 28, 29, 49, 50, 51, 52, 53, 54, 55, 56, 57, 58, 59, 60, 61, 62, 63, 64, 38, 65, 66, 67, 68, 69, 70, 71, 72, 73, 74, 75, 76, 119, 120, 121] (by decide +kernel) (by decide +kernel)
set_option maxRecDepth 20000 in
theorem gX3_dig_X1_digOut : GoodIn wsX3_dig (wsV RX3 124 RX1 yX1_digOut wsX1_digOut) := goodIn_app (goodIn_of _ (by decide +kernel)) ggX3_dig_X1_digOut
set_option maxRecDepth 20000 in
theorem ggX3_dig_X3_payWords : GoodIn wsX3_dig wsX3_payWords := goodIn_r _ [80, 4, 81, 82, 83, 84, 54, 55, 26, 56, 29, 57, 58, 59, 60, 28, 85, 86, 87, 88, 89, 90, 91, 92, 93, 94, 95, 96, 97, 98, 99, 100, 101, 102, 103, 104, 105, 106, 107, 108, 109, 110, 111, 112, 113, 114, 115, 116, 117, 118, 119, 120, 121, 122, 123, 124, 125, 126] (by decide +kernel) (by decide +kernel)
set_option maxRecDepth 20000 in
theorem gX3_dig_X3_payWords : GoodIn wsX3_dig (wsV RX3 89 RX3 yX3_payWords wsX3_payWords) := goodIn_app (goodIn_of _ (by decide +kernel)) ggX3_dig_X3_payWords
set_option maxRecDepth 20000 in
theorem ggX3_height_X3_requireStack : GoodIn wsX3_height wsX3_requireStack := goodIn_ca (goodIn_r _ [5, 6, 7] (by decide +kernel) (by decide +kernel)) (goodIn_sub (fun _ h => List.mem_cons_of_mem _ (List.mem_append_right _ h)) (by decide +kernel))
set_option maxRecDepth 20000 in
theorem gX3_height_X3_requireStack : GoodIn wsX3_height (va_wsS RX3 71 yX3_requireStack wsX3_requireStack) := goodIn_app (goodIn_of _ (by decide +kernel)) ggX3_height_X3_requireStack
set_option maxRecDepth 20000 in
theorem ggX3_height_X1_heightOf : GoodIn wsX3_height wsX1_heightOf := goodIn_r _ [12, 13, 26, 27, 28] (by decide +kernel) (by decide +kernel)
set_option maxRecDepth 20000 in
theorem gX3_height_X1_heightOf : GoodIn wsX3_height (wsV RX3 95 RX1 yX1_heightOf wsX1_heightOf) := goodIn_app (goodIn_of _ (by decide +kernel)) ggX3_height_X1_heightOf
set_option maxRecDepth 20000 in
theorem ggX3_at_X3_requireStack : GoodIn wsX3_at wsX3_requireStack := goodIn_ca (goodIn_r _ [7, 1, 2] (by decide +kernel) (by decide +kernel)) (goodIn_sub (fun _ h => List.mem_cons_of_mem _ (List.mem_append_right _ h)) (by decide +kernel))
set_option maxRecDepth 20000 in
theorem gX3_at_X3_requireStack : GoodIn wsX3_at (va_wsS RX3 71 yX3_requireStack wsX3_requireStack) := goodIn_app (goodIn_of _ (by decide +kernel)) ggX3_at_X3_requireStack
set_option maxRecDepth 20000 in
theorem ggX3_at_X1_crateAt : GoodIn wsX3_at wsX1_crateAt := goodIn_r _ [12, 13, 14, 15, 16, 11, 17, 18, 31, 32, 33] (by decide +kernel) (by decide +kernel)
set_option maxRecDepth 20000 in
theorem gX3_at_X1_crateAt : GoodIn wsX3_at (wsV RX3 132 RX1 yX1_crateAt wsX1_crateAt) := goodIn_app (goodIn_of _ (by decide +kernel)) ggX3_at_X1_crateAt
set_option maxRecDepth 20000 in
theorem ggX3_stackOf_X3_requireCrate : GoodIn wsX3_stackOf wsX3_requireCrate := goodIn_ca (goodIn_r _ [6, 7, 8, 9, 17, 18, 19, 20, 21, 22, 23, 24, 25, 26, 27, 28] (by decide +kernel) (by decide +kernel)) (goodIn_sub (fun _ h => List.mem_cons_of_mem _ (List.mem_append_right _ h)) (by decide +kernel))
set_option maxRecDepth 20000 in
theorem gX3_stackOf_X3_requireCrate : GoodIn wsX3_stackOf (wsV RX3 110 RX3 yX3_requireCrate wsX3_requireCrate) := goodIn_app (goodIn_of _ (by decide +kernel)) ggX3_stackOf_X3_requireCrate
set_option maxRecDepth 20000 in
theorem ggX3_stackOf_X1_stackHolding : GoodIn wsX3_stackOf wsX1_stackHolding := goodIn_r _ [14, 15, 16, 29, 30, 31] (by decide +kernel) (by decide +kernel)
set_option maxRecDepth 20000 in
theorem gX3_stackOf_X1_stackHolding : GoodIn wsX3_stackOf (wsV RX3 135 RX1 yX1_stackHolding wsX1_stackHolding) := goodIn_app (goodIn_of _ (by decide +kernel)) ggX3_stackOf_X1_stackHolding
set_option maxRecDepth 20000 in
theorem ggX3_fewestLifts_X3_areInStacks : GoodIn wsX3_fewestLifts wsX3_areInStacks := goodIn_r _ [7, 8, 9, 10, 11, 12, 13, 14, 15, 16, 17, 6, 18, 19, 20, 21, 22, 23, 24, 25, 91, 92, 93, 94, 95, 96, 97, 98, 99, 100, 101, 102, 103, 104, 105] (by decide +kernel) (by decide +kernel)
set_option maxRecDepth 20000 in
theorem gX3_fewestLifts_X3_areInStacks : GoodIn wsX3_fewestLifts (wsV RX3 138 RX3 yX3_areInStacks wsX3_areInStacks) := goodIn_app (goodIn_of _ (by decide +kernel)) ggX3_fewestLifts_X3_areInStacks
set_option maxRecDepth 20000 in
theorem ggX3_fewestLifts_X3_requireEmptyCrane : GoodIn wsX3_fewestLifts wsX3_requireEmptyCrane := goodIn_ca (goodIn_r _ [29, 30, 31, 32, 91, 92, 93, 94, 95, 96, 97, 98, 99, 100, 101, 102] (by decide +kernel) (by decide +kernel)) (goodIn_sub (fun _ h => List.mem_cons_of_mem _ (List.mem_append_right _ h)) (by decide +kernel))
set_option maxRecDepth 20000 in
theorem gX3_fewestLifts_X3_requireEmptyCrane : GoodIn wsX3_fewestLifts (wsV RX3 92 RX3 yX3_requireEmptyCrane wsX3_requireEmptyCrane) := goodIn_app (goodIn_of _ (by decide +kernel)) ggX3_fewestLifts_X3_requireEmptyCrane
set_option maxRecDepth 20000 in
theorem ggX3_fewestLifts_J6_bitCount_0f7a4 : GoodIn wsX3_fewestLifts wsJ6_bitCount_0f7a4 := goodIn_r _ [12, 13, 14, 15] (by decide +kernel) (by decide +kernel)
set_option maxRecDepth 20000 in
theorem gX3_fewestLifts_J6_bitCount_0f7a4 : GoodIn wsX3_fewestLifts (va_wsS RX3 144 yJ6_bitCount_0f7a4 wsJ6_bitCount_0f7a4) := goodIn_app (goodIn_of _ (by decide +kernel)) ggX3_fewestLifts_J6_bitCount_0f7a4
set_option maxRecDepth 20000 in
theorem ggX3_fewestLifts_X3_ordersOf : GoodIn wsX3_fewestLifts wsX3_ordersOf := goodIn_r _ [35] (by decide +kernel) (by decide +kernel)
set_option maxRecDepth 20000 in
theorem gX3_fewestLifts_X3_ordersOf : GoodIn wsX3_fewestLifts (va_wsS RX3 149 yX3_ordersOf wsX3_ordersOf) := goodIn_app (goodIn_of _ (by decide +kernel)) ggX3_fewestLifts_X3_ordersOf
set_option maxRecDepth 20000 in
theorem ggX3_fewestLifts_X3_liftsInOrder : GoodIn wsX3_fewestLifts wsX3_liftsInOrder := goodIn_r _ [39, 40, 8, 41, 42, 43, 22, 44, 24, 45, 46, 47, 48, 25, 49, 9, 10, 11, 12, 13, 14, 15, 50, 51, 6, 52, 16, 17, 18, 53, 54, 55, 56, 57, 58, 59, 60, 61, 62, 20, 21, 23, 63, 64, 65, 66, 67, 68, 69, 70, 71, 72, 73, 74, 75, 76, 77, 78, 79, 80, 81, 82, 83, 84, 85, 86, 87, 88, 89, 90, 91, 92, 93, 94, 95, 96, 97, 98, 99, 100, 101, 102, 103, 104, 105] (by decide +kernel) (by decide +kernel)
set_option maxRecDepth 20000 in
theorem gX3_fewestLifts_X3_liftsInOrder : GoodIn wsX3_fewestLifts (wsV RX3 152 RX3 yX3_liftsInOrder wsX3_liftsInOrder) := goodIn_app (goodIn_of _ (by decide +kernel)) ggX3_fewestLifts_X3_liftsInOrder
set_option maxRecDepth 20000 in
theorem ggX3_tell_X3_requireLetter : GoodIn wsX3_tell wsX3_requireLetter := goodIn_ca (goodIn_r _ [9, 1, 2] (by decide +kernel) (by decide +kernel)) (goodIn_sub (fun _ h => List.mem_cons_of_mem _ (List.mem_append_left _ (List.mem_append_right _ h))) (by decide +kernel))
set_option maxRecDepth 20000 in
theorem gX3_tell_X3_requireLetter : GoodIn wsX3_tell (va_wsS RX3 67 yX3_requireLetter wsX3_requireLetter) := goodIn_app (goodIn_of _ (by decide +kernel)) ggX3_tell_X3_requireLetter
set_option maxRecDepth 20000 in
theorem ggX3_tell_X2_number : GoodIn wsX3_tell wsX2_number := goodIn_r _ [14, 15, 70, 71, 72, 73, 74] (by decide +kernel) (by decide +kernel)
set_option maxRecDepth 20000 in
theorem gX3_tell_X2_number : GoodIn wsX3_tell (wsV RX3 157 RX2 yX2_number wsX2_number) := goodIn_app (goodIn_of _ (by decide +kernel)) ggX3_tell_X2_number
set_option maxRecDepth 20000 in
theorem ggX3_tell_X2_add : GoodIn wsX3_tell wsX2_add := goodIn_r _ [19, 15, 20, 21, 70, 71, 72, 73, 74] (by decide +kernel) (by decide +kernel)
set_option maxRecDepth 20000 in
theorem gX3_tell_X2_add : GoodIn wsX3_tell (wsV RX3 162 RX2 yX2_add wsX2_add) := goodIn_app (goodIn_of _ (by decide +kernel)) ggX3_tell_X2_add
set_option maxRecDepth 20000 in
theorem ggX3_tell_X3_payWords : GoodIn wsX3_tell wsX3_payWords := goodIn_r _ [25, 26, 27, 28, 5, 29, 30, 31, 32, 33, 34, 35, 36, 37, 38, 39, 40, 41, 42, 13, 43, 15, 44, 45, 21, 46, 47, 48, 49, 50, 51, 52, 53, 54, 55, 56, 57, 20, 58, 59, 60, 61, 62, 63, 64, 65, 66, 67, 68, 69, 75, 76, 77, 70, 71, 72, 73, 74] (by decide +kernel) (by decide +kernel)
set_option maxRecDepth 20000 in
theorem gX3_tell_X3_payWords : GoodIn wsX3_tell (wsV RX3 89 RX3 yX3_payWords wsX3_payWords) := goodIn_app (goodIn_of _ (by decide +kernel)) ggX3_tell_X3_payWords
set_option maxRecDepth 20000 in
theorem ggX3_hasPaid_X2_number : GoodIn wsX3_hasPaid wsX2_number := goodIn_r _ [8, 9, 27, 28, 29, 30, 31] (by decide +kernel) (by decide +kernel)
set_option maxRecDepth 20000 in
theorem gX3_hasPaid_X2_number : GoodIn wsX3_hasPaid (wsV RX3 157 RX2 yX2_number wsX2_number) := goodIn_app (goodIn_of _ (by decide +kernel)) ggX3_hasPaid_X2_number
set_option maxRecDepth 20000 in
theorem ggX3_hasPaid_X2_isPaid : GoodIn wsX3_hasPaid wsX2_isPaid := goodIn_r _ [13, 9, 14, 27, 28, 29, 30, 31] (by decide +kernel) (by decide +kernel)
set_option maxRecDepth 20000 in
theorem gX3_hasPaid_X2_isPaid : GoodIn wsX3_hasPaid (wsV RX3 171 RX2 yX2_isPaid wsX2_isPaid) := goodIn_app (goodIn_of _ (by decide +kernel)) ggX3_hasPaid_X2_isPaid
set_option maxRecDepth 20000 in
theorem ggX3_bonus_X2_paidInAll : GoodIn wsX3_bonus wsX2_paidInAll := goodIn_r _ [6, 7, 20, 21, 22, 23, 24] (by decide +kernel) (by decide +kernel)
set_option maxRecDepth 20000 in
theorem gX3_bonus_X2_paidInAll : GoodIn wsX3_bonus (wsV RX3 174 RX2 yX2_paidInAll wsX2_paidInAll) := goodIn_app (goodIn_of _ (by decide +kernel)) ggX3_bonus_X2_paidInAll
set_option maxRecDepth 20000 in
theorem ggX3_offer_X3_requireCrate : GoodIn wsX3_offer wsX3_requireCrate := goodIn_ca (goodIn_r _ [11, 12, 13, 14, 52, 53, 54, 55, 56, 57, 58, 59, 60, 61, 62, 63] (by decide +kernel) (by decide +kernel)) (goodIn_sub (fun _ h => List.mem_cons_of_mem _ (List.mem_append_right _ h)) (by decide +kernel))
set_option maxRecDepth 20000 in
theorem gX3_offer_X3_requireCrate : GoodIn wsX3_offer (wsV RX3 110 RX3 yX3_requireCrate wsX3_requireCrate) := goodIn_app (goodIn_of _ (by decide +kernel)) ggX3_offer_X3_requireCrate
set_option maxRecDepth 20000 in
theorem ggX3_offer_X3_requireInStack : GoodIn wsX3_offer wsX3_requireInStack := goodIn_ca (goodIn_r _ [18, 3, 4, 19, 20, 21, 22, 23, 24, 25, 26, 52, 53, 54, 55, 56, 57, 58, 59, 60, 61, 62, 63, 64, 65, 66] (by decide +kernel) (by decide +kernel)) (goodIn_sub (fun _ h => List.mem_cons_of_mem _ (List.mem_append_left _ (List.mem_append_right _ h))) (by decide +kernel))
set_option maxRecDepth 20000 in
theorem gX3_offer_X3_requireInStack : GoodIn wsX3_offer (wsV RX3 113 RX3 yX3_requireInStack wsX3_requireInStack) := goodIn_app (goodIn_of _ (by decide +kernel)) ggX3_offer_X3_requireInStack
set_option maxRecDepth 20000 in
theorem ggX3_offer_X0_openHaulOf : GoodIn wsX3_offer wsX0_openHaulOf := goodIn_r _ [31, 32, 33, 34, 35, 36, 30, 37, 38, 39, 40, 41, 42, 67, 68, 69, 70, 71, 72, 73, 74] (by decide +kernel) (by decide +kernel)
set_option maxRecDepth 20000 in
theorem gX3_offer_X0_openHaulOf : GoodIn wsX3_offer (wsV RX3 179 RX0 yX0_openHaulOf wsX0_openHaulOf) := goodIn_app (goodIn_of _ (by decide +kernel)) ggX3_offer_X0_openHaulOf
set_option maxRecDepth 20000 in
theorem ggX3_offer_X0_number : GoodIn wsX3_offer wsX0_number := goodIn_r _ [46, 32, 67, 68, 69, 70, 71, 72, 73, 74] (by decide +kernel) (by decide +kernel)
set_option maxRecDepth 20000 in
theorem gX3_offer_X0_number : GoodIn wsX3_offer (wsV RX3 184 RX0 yX0_number wsX0_number) := goodIn_app (goodIn_of _ (by decide +kernel)) ggX3_offer_X0_number
set_option maxRecDepth 20000 in
theorem ggX3_offer_X0_add : GoodIn wsX3_offer wsX0_add := goodIn_r _ [50, 32, 33, 51, 42, 67, 68, 69, 70, 71, 72, 73, 74] (by decide +kernel) (by decide +kernel)
set_option maxRecDepth 20000 in
theorem gX3_offer_X0_add : GoodIn wsX3_offer (wsV RX3 187 RX0 yX0_add wsX0_add) := goodIn_app (goodIn_of _ (by decide +kernel)) ggX3_offer_X0_add
set_option maxRecDepth 20000 in
theorem ggX3_bid_X3_requireHaul : GoodIn wsX3_bid wsX3_requireHaul := goodIn_ca (goodIn_r _ [10, 11, 12, 5, 13, 14, 15, 16, 17, 18, 41, 42, 43, 44, 45, 46, 47, 48, 49, 50, 51, 52, 53, 54, 55, 56, 57, 58, 59, 60] (by decide +kernel) (by decide +kernel)) (goodIn_sub (fun _ h => List.mem_cons_of_mem _ (List.mem_append_right _ h)) (by decide +kernel))
set_option maxRecDepth 20000 in
theorem gX3_bid_X3_requireHaul : GoodIn wsX3_bid (wsV RX3 189 RX3 yX3_requireHaul wsX3_requireHaul) := goodIn_app (goodIn_of _ (by decide +kernel)) ggX3_bid_X3_requireHaul
set_option maxRecDepth 20000 in
theorem ggX3_bid_X3_requireOffered : GoodIn wsX3_bid wsX3_requireOffered := goodIn_ca (goodIn_r _ [22, 3, 4, 5, 23, 24, 25, 16, 26, 18, 27, 41, 42, 43, 44, 45, 46, 47, 48, 49, 50, 51, 52, 53, 54, 55, 56, 57, 58, 59, 60] (by decide +kernel) (by decide +kernel)) (goodIn_sub (fun _ h => List.mem_cons_of_mem _ (List.mem_append_left _ (List.mem_append_right _ h))) (by decide +kernel))
set_option maxRecDepth 20000 in
theorem gX3_bid_X3_requireOffered : GoodIn wsX3_bid (wsV RX3 196 RX3 yX3_requireOffered wsX3_requireOffered) := goodIn_app (goodIn_of _ (by decide +kernel)) ggX3_bid_X3_requireOffered
set_option maxRecDepth 20000 in
theorem ggX3_bid_X0_priceAsked : GoodIn wsX3_bid wsX0_priceAsked := goodIn_r _ [31, 32, 33, 34, 35, 16, 36, 18, 53, 54, 55, 56, 57, 58, 59, 60] (by decide +kernel) (by decide +kernel)
set_option maxRecDepth 20000 in
theorem gX3_bid_X0_priceAsked : GoodIn wsX3_bid (wsV RX3 199 RX0 yX0_priceAsked wsX0_priceAsked) := goodIn_app (goodIn_of _ (by decide +kernel)) ggX3_bid_X0_priceAsked
set_option maxRecDepth 20000 in
theorem ggX3_bid_X0_enterBid : GoodIn wsX3_bid wsX0_enterBid := goodIn_r _ [40, 32, 33, 34, 35, 16, 36, 18, 53, 54, 55, 56, 57, 58, 59, 60] (by decide +kernel) (by decide +kernel)
set_option maxRecDepth 20000 in
theorem gX3_bid_X0_enterBid : GoodIn wsX3_bid (wsV RX3 204 RX0 yX0_enterBid wsX0_enterBid) := goodIn_app (goodIn_of _ (by decide +kernel)) ggX3_bid_X0_enterBid
set_option maxRecDepth 20000 in
theorem ggX3_give_X3_requireHaul : GoodIn wsX3_give wsX3_requireHaul := goodIn_ca (goodIn_r _ [8, 9, 10, 3, 11, 12, 13, 14, 15, 16, 44, 45, 46, 47, 48, 49, 50, 51, 52, 53, 54, 55, 56, 57, 58, 59, 60, 61, 62, 63] (by decide +kernel) (by decide +kernel)) (goodIn_sub (fun _ h => List.mem_cons_of_mem _ (List.mem_append_right _ h)) (by decide +kernel))
set_option maxRecDepth 20000 in
theorem gX3_give_X3_requireHaul : GoodIn wsX3_give (wsV RX3 189 RX3 yX3_requireHaul wsX3_requireHaul) := goodIn_app (goodIn_of _ (by decide +kernel)) ggX3_give_X3_requireHaul
set_option maxRecDepth 20000 in
theorem ggX3_give_X3_requireOffered : GoodIn wsX3_give wsX3_requireOffered := goodIn_ca (goodIn_r _ [20, 1, 2, 3, 21, 22, 23, 14, 24, 16, 25, 44, 45, 46, 47, 48, 49, 50, 51, 52, 53, 54, 55, 56, 57, 58, 59, 60, 61, 62, 63] (by decide +kernel) (by decide +kernel)) (goodIn_sub (fun _ h => List.mem_cons_of_mem _ (List.mem_append_left _ (List.mem_append_right _ h))) (by decide +kernel))
set_option maxRecDepth 20000 in
theorem gX3_give_X3_requireOffered : GoodIn wsX3_give (wsV RX3 196 RX3 yX3_requireOffered wsX3_requireOffered) := goodIn_app (goodIn_of _ (by decide +kernel)) ggX3_give_X3_requireOffered
set_option maxRecDepth 20000 in
theorem ggX3_give_X0_cheapestHaulier : GoodIn wsX3_give wsX0_cheapestHaulier := goodIn_r _ [29, 30, 31, 32, 14, 33, 34, 35, 36, 37, 38, 16, 56, 57, 58, 59, 60, 61, 62, 63] (by decide +kernel) (by decide +kernel)
set_option maxRecDepth 20000 in
theorem gX3_give_X0_cheapestHaulier : GoodIn wsX3_give (wsV RX3 208 RX0 yX0_cheapestHaulier wsX0_cheapestHaulier) := goodIn_app (goodIn_of _ (by decide +kernel)) ggX3_give_X0_cheapestHaulier
set_option maxRecDepth 20000 in
theorem ggX3_give_X0_giveTo : GoodIn wsX3_give wsX0_giveTo := goodIn_r _ [42, 25, 43, 35, 36, 37, 14, 38, 16, 30, 31, 32, 33, 34, 56, 57, 58, 59, 60, 61, 62, 63] (by decide +kernel) (by decide +kernel)
set_option maxRecDepth 20000 in
theorem gX3_give_X0_giveTo : GoodIn wsX3_give (wsV RX3 213 RX0 yX0_giveTo wsX0_giveTo) := goodIn_app (goodIn_of _ (by decide +kernel)) ggX3_give_X0_giveTo
set_option maxRecDepth 20000 in
theorem ggX3_load_X3_requireFullCrane : GoodIn wsX3_load wsX3_requireFullCrane := goodIn_ca (goodIn_r _ [9, 1, 2, 4, 33, 34, 35, 36, 37, 38, 39, 40, 41, 42, 43, 44] (by decide +kernel) (by decide +kernel)) (goodIn_sub (fun _ h => List.mem_cons_of_mem _ (List.mem_append_right _ h)) (by decide +kernel))
set_option maxRecDepth 20000 in
theorem gX3_load_X3_requireFullCrane : GoodIn wsX3_load (wsV RX3 104 RX3 yX3_requireFullCrane wsX3_requireFullCrane) := goodIn_app (goodIn_of _ (by decide +kernel)) ggX3_load_X3_requireFullCrane
set_option maxRecDepth 20000 in
theorem ggX3_load_X0_openHaulOf : GoodIn wsX3_load wsX0_openHaulOf := goodIn_r _ [14, 15, 16, 17, 18, 19, 13, 20, 21, 22, 23, 24, 25, 45, 46, 47, 48, 49, 50, 51, 52] (by decide +kernel) (by decide +kernel)
set_option maxRecDepth 20000 in
theorem gX3_load_X0_openHaulOf : GoodIn wsX3_load (wsV RX3 179 RX0 yX0_openHaulOf wsX0_openHaulOf) := goodIn_app (goodIn_of _ (by decide +kernel)) ggX3_load_X0_openHaulOf
set_option maxRecDepth 20000 in
theorem ggX3_load_X0_stateOf : GoodIn wsX3_load wsX0_stateOf := goodIn_r _ [24, 15, 25, 45, 46, 47, 48, 49, 50, 51, 52] (by decide +kernel) (by decide +kernel)
set_option maxRecDepth 20000 in
theorem gX3_load_X0_stateOf : GoodIn wsX3_load (wsV RX3 216 RX0 yX0_stateOf wsX0_stateOf) := goodIn_app (goodIn_of _ (by decide +kernel)) ggX3_load_X0_stateOf
set_option maxRecDepth 20000 in
theorem ggX3_load_X0_finish : GoodIn wsX3_load wsX0_finish := goodIn_r _ [30, 15, 25, 31, 32, 45, 46, 47, 48, 49, 50, 51, 52] (by decide +kernel) (by decide +kernel)
set_option maxRecDepth 20000 in
theorem gX3_load_X0_finish : GoodIn wsX3_load (wsV RX3 221 RX0 yX0_finish wsX0_finish) := goodIn_app (goodIn_of _ (by decide +kernel)) ggX3_load_X0_finish
set_option maxRecDepth 20000 in
theorem ggX3_state_X3_requireHaul : GoodIn wsX3_state wsX3_requireHaul := goodIn_ca (goodIn_r _ [6, 7, 8, 1, 9, 10, 11, 12, 13, 14, 20, 21, 22, 23, 24, 25, 26, 27, 28, 29, 30, 31, 32, 33, 34, 35, 36, 37, 38, 39] (by decide +kernel) (by decide +kernel)) (goodIn_sub (fun _ h => List.mem_cons_of_mem _ (List.mem_append_right _ h)) (by decide +kernel))
set_option maxRecDepth 20000 in
theorem gX3_state_X3_requireHaul : GoodIn wsX3_state (wsV RX3 189 RX3 yX3_requireHaul wsX3_requireHaul) := goodIn_app (goodIn_of _ (by decide +kernel)) ggX3_state_X3_requireHaul
set_option maxRecDepth 20000 in
theorem ggX3_state_X0_stateOf : GoodIn wsX3_state wsX0_stateOf := goodIn_r _ [18, 14, 19, 32, 33, 34, 35, 36, 37, 38, 39] (by decide +kernel) (by decide +kernel)
set_option maxRecDepth 20000 in
theorem gX3_state_X0_stateOf : GoodIn wsX3_state (wsV RX3 216 RX0 yX0_stateOf wsX0_stateOf) := goodIn_app (goodIn_of _ (by decide +kernel)) ggX3_state_X0_stateOf
set_option maxRecDepth 20000 in
theorem ggX3_storm_X3_mostPlaces : GoodIn wsX3_storm wsX3_mostPlaces := goodIn_r _ [7, 1, 18, 19, 20, 21, 22, 23, 24, 25, 26, 27, 28, 29] (by decide +kernel) (by decide +kernel)
set_option maxRecDepth 20000 in
theorem gX3_storm_X3_mostPlaces : GoodIn wsX3_storm (wsV RX3 120 RX3 yX3_mostPlaces wsX3_mostPlaces) := goodIn_app (goodIn_of _ (by decide +kernel)) ggX3_storm_X3_mostPlaces
set_option maxRecDepth 20000 in
theorem ggX3_storm_X1_cratesAbove : GoodIn wsX3_storm wsX1_cratesAbove := goodIn_r _ [12, 13, 14, 15, 16, 17, 30, 31, 32] (by decide +kernel) (by decide +kernel)
set_option maxRecDepth 20000 in
theorem gX3_storm_X1_cratesAbove : GoodIn wsX3_storm (wsV RX3 224 RX1 yX1_cratesAbove wsX1_cratesAbove) := goodIn_app (goodIn_of _ (by decide +kernel)) ggX3_storm_X1_cratesAbove
set_option maxRecDepth 20000 in
theorem ggX3_pass_X3_endDay : GoodIn wsX3_pass wsX3_endDay := goodIn_r _ [11, 6, 12, 13, 5, 14, 15, 16, 17, 18, 19, 20, 21, 22, 23, 24, 25, 26, 27, 28, 29, 30, 31, 32, 33, 34, 35, 36, 37, 38, 39, 40, 41, 42, 43, 44, 45, 46, 47, 48, 49, 50, 51, 52, 53, 54, 55, 56, 57, 58, 59, 60] (by decide +kernel) (by decide +kernel)
set_option maxRecDepth 20000 in
theorem gX3_pass_X3_endDay : GoodIn wsX3_pass (wsV RX3 231 RX3 yX3_endDay wsX3_endDay) := goodIn_app (goodIn_of _ (by decide +kernel)) ggX3_pass_X3_endDay
set_option maxRecDepth 20000 in
theorem ggX3_balance_X2_paidInAll : GoodIn wsX3_balance wsX2_paidInAll := goodIn_r _ [8, 9, 33, 34, 35, 36, 37] (by decide +kernel) (by decide +kernel)
set_option maxRecDepth 20000 in
theorem gX3_balance_X2_paidInAll : GoodIn wsX3_balance (wsV RX3 174 RX2 yX2_paidInAll wsX2_paidInAll) := goodIn_app (goodIn_of _ (by decide +kernel)) ggX3_balance_X2_paidInAll
set_option maxRecDepth 20000 in
theorem ggX3_balance_X0_pricesOfDone : GoodIn wsX3_balance wsX0_pricesOfDone := goodIn_r _ [14, 15, 38, 39, 40, 41, 42, 43, 44, 45] (by decide +kernel) (by decide +kernel)
set_option maxRecDepth 20000 in
theorem gX3_balance_X0_pricesOfDone : GoodIn wsX3_balance (wsV RX3 234 RX0 yX0_pricesOfDone wsX0_pricesOfDone) := goodIn_app (goodIn_of _ (by decide +kernel)) ggX3_balance_X0_pricesOfDone
set_option maxRecDepth 20000 in
theorem ggX3_balance_X0_owedForLate : GoodIn wsX3_balance wsX0_owedForLate := goodIn_r _ [19, 20, 38, 39, 40, 41, 42, 43, 44, 45] (by decide +kernel) (by decide +kernel)
set_option maxRecDepth 20000 in
theorem gX3_balance_X0_owedForLate : GoodIn wsX3_balance (wsV RX3 237 RX0 yX0_owedForLate wsX0_owedForLate) := goodIn_app (goodIn_of _ (by decide +kernel)) ggX3_balance_X0_owedForLate
set_option maxRecDepth 20000 in
theorem ggX3_requireHaul_X0_number : GoodIn wsX3_requireHaul wsX0_number := goodIn_r _ [8, 9, 22, 23, 24, 25, 26, 27, 28, 29] (by decide +kernel) (by decide +kernel)
set_option maxRecDepth 20000 in
theorem gX3_requireHaul_X0_number : GoodIn wsX3_requireHaul (wsV RX3 184 RX0 yX0_number wsX0_number) := goodIn_app (goodIn_of _ (by decide +kernel)) ggX3_requireHaul_X0_number
set_option maxRecDepth 20000 in
theorem ggX3_requireOffered_X0_stateOf : GoodIn wsX3_requireOffered wsX0_stateOf := goodIn_r _ [8, 9, 10, 23, 24, 25, 26, 27, 28, 29, 30] (by decide +kernel) (by decide +kernel)
set_option maxRecDepth 20000 in
theorem gX3_requireOffered_X0_stateOf : GoodIn wsX3_requireOffered (wsV RX3 216 RX0 yX0_stateOf wsX0_stateOf) := goodIn_app (goodIn_of _ (by decide +kernel)) ggX3_requireOffered_X0_stateOf
set_option maxRecDepth 20000 in
theorem ggX3_requireInStack_X1_stackHolding : GoodIn wsX3_requireInStack wsX1_stackHolding := goodIn_r _ [8, 9, 10, 23, 24, 25] (by decide +kernel) (by decide +kernel)
set_option maxRecDepth 20000 in
theorem gX3_requireInStack_X1_stackHolding : GoodIn wsX3_requireInStack (wsV RX3 135 RX1 yX1_stackHolding wsX1_stackHolding) := goodIn_app (goodIn_of _ (by decide +kernel)) ggX3_requireInStack_X1_stackHolding
set_option maxRecDepth 20000 in
theorem ggX3_requireRoom_X3_mostPlaces : GoodIn wsX3_requireRoom wsX3_mostPlaces := goodIn_r _ [8, 9, 30, 31, 32, 33, 34, 35, 36, 37, 38, 39, 40, 41] (by decide +kernel) (by decide +kernel)
set_option maxRecDepth 20000 in
theorem gX3_requireRoom_X3_mostPlaces : GoodIn wsX3_requireRoom (wsV RX3 120 RX3 yX3_mostPlaces wsX3_mostPlaces) := goodIn_app (goodIn_of _ (by decide +kernel)) ggX3_requireRoom_X3_mostPlaces
set_option maxRecDepth 20000 in
theorem ggX3_requireRoom_X1_canTake : GoodIn wsX3_requireRoom wsX1_canTake := goodIn_r _ [14, 15, 16, 17, 13, 18, 19, 20, 21, 22, 23, 24, 25, 26, 27, 28, 29, 42, 43, 44] (by decide +kernel) (by decide +kernel)
set_option maxRecDepth 20000 in
theorem gX3_requireRoom_X1_canTake : GoodIn wsX3_requireRoom (wsV RX3 256 RX1 yX1_canTake wsX1_canTake) := goodIn_app (goodIn_of _ (by decide +kernel)) ggX3_requireRoom_X1_canTake
set_option maxRecDepth 20000 in
theorem ggX3_payWords_X1_topOf : GoodIn wsX3_payWords wsX1_topOf := goodIn_r _ [9, 10, 11, 12, 13, 8, 14, 15, 50, 51, 52] (by decide +kernel) (by decide +kernel)
set_option maxRecDepth 20000 in
theorem gX3_payWords_X1_topOf : GoodIn wsX3_payWords (wsV RX3 262 RX1 yX1_topOf wsX1_topOf) := goodIn_app (goodIn_of _ (by decide +kernel)) ggX3_payWords_X1_topOf
set_option maxRecDepth 20000 in
theorem ggX3_payWords_X2_payShown : GoodIn wsX3_payWords wsX2_payShown := goodIn_r _ [20, 21, 22, 23, 24, 25, 26, 27, 19, 28, 29, 30, 31, 32, 33, 34, 35, 36, 37, 53, 54, 55, 56, 57] (by decide +kernel) (by decide +kernel)
set_option maxRecDepth 20000 in
theorem gX3_payWords_X2_payShown : GoodIn wsX3_payWords (wsV RX3 265 RX2 yX2_payShown wsX2_payShown) := goodIn_app (goodIn_of _ (by decide +kernel)) ggX3_payWords_X2_payShown
set_option maxRecDepth 20000 in
theorem ggX3_endDay_X1_feeOfOneDay : GoodIn wsX3_endDay wsX1_feeOfOneDay := goodIn_r _ [10, 11, 41, 42, 43] (by decide +kernel) (by decide +kernel)
set_option maxRecDepth 20000 in
theorem gX3_endDay_X1_feeOfOneDay : GoodIn wsX3_endDay (wsV RX3 269 RX1 yX1_feeOfOneDay wsX1_feeOfOneDay) := goodIn_app (goodIn_of _ (by decide +kernel)) ggX3_endDay_X1_feeOfOneDay
set_option maxRecDepth 20000 in
theorem ggX3_endDay_X0_endDay : GoodIn wsX3_endDay wsX0_endDay := goodIn_r _ [16, 17, 18, 19, 20, 21, 22, 23, 15, 24, 25, 26, 27, 28, 44, 45, 46, 47, 48, 49, 50, 51] (by decide +kernel) (by decide +kernel)
set_option maxRecDepth 20000 in
theorem gX3_endDay_X0_endDay : GoodIn wsX3_endDay (wsV RX3 272 RX0 yX0_endDay wsX0_endDay) := goodIn_app (goodIn_of _ (by decide +kernel)) ggX3_endDay_X0_endDay
set_option maxRecDepth 20000 in
theorem ggX3_areInStacks_J6_bitCount_0f7a4 : GoodIn wsX3_areInStacks wsJ6_bitCount_0f7a4 := goodIn_r _ [5, 6, 7, 8] (by decide +kernel) (by decide +kernel)
set_option maxRecDepth 20000 in
theorem gX3_areInStacks_J6_bitCount_0f7a4 : GoodIn wsX3_areInStacks (va_wsS RX3 144 yJ6_bitCount_0f7a4 wsJ6_bitCount_0f7a4) := goodIn_app (goodIn_of _ (by decide +kernel)) ggX3_areInStacks_J6_bitCount_0f7a4
set_option maxRecDepth 20000 in
theorem ggX3_areInStacks_X3_contains : GoodIn wsX3_areInStacks wsX3_contains := goodIn_r _ [12] (by decide +kernel) (by decide +kernel)
set_option maxRecDepth 20000 in
theorem gX3_areInStacks_X3_contains : GoodIn wsX3_areInStacks (va_wsS RX3 274 yX3_contains wsX3_contains) := goodIn_app (goodIn_of _ (by decide +kernel)) ggX3_areInStacks_X3_contains
set_option maxRecDepth 20000 in
theorem ggX3_areInStacks_X1_stackHolding : GoodIn wsX3_areInStacks wsX1_stackHolding := goodIn_r _ [17, 18, 19, 32, 33, 34] (by decide +kernel) (by decide +kernel)
set_option maxRecDepth 20000 in
theorem gX3_areInStacks_X1_stackHolding : GoodIn wsX3_areInStacks (wsV RX3 135 RX1 yX1_stackHolding wsX1_stackHolding) := goodIn_app (goodIn_of _ (by decide +kernel)) ggX3_areInStacks_X1_stackHolding
set_option maxRecDepth 20000 in
theorem ggX3_liftsInOrder_X1_copyFrom : GoodIn wsX3_liftsInOrder wsX1_copyFrom := goodIn_r _ [7, 8, 9, 10, 11, 12, 13, 14, 82, 83, 84] (by decide +kernel) (by decide +kernel)
set_option maxRecDepth 20000 in
theorem gX3_liftsInOrder_X1_copyFrom : GoodIn wsX3_liftsInOrder (wsV RX3 116 RX1 yX1_copyFrom wsX1_copyFrom) := goodIn_app (goodIn_of _ (by decide +kernel)) ggX3_liftsInOrder_X1_copyFrom
set_option maxRecDepth 20000 in
theorem ggX3_liftsInOrder_J6_bitCount_0f7a4 : GoodIn wsX3_liftsInOrder wsJ6_bitCount_0f7a4 := goodIn_r _ [18, 19, 20, 21] (by decide +kernel) (by decide +kernel)
set_option maxRecDepth 20000 in
theorem gX3_liftsInOrder_J6_bitCount_0f7a4 : GoodIn wsX3_liftsInOrder (va_wsS RX3 144 yJ6_bitCount_0f7a4 wsJ6_bitCount_0f7a4) := goodIn_app (goodIn_of _ (by decide +kernel)) ggX3_liftsInOrder_J6_bitCount_0f7a4
set_option maxRecDepth 20000 in
theorem ggX3_liftsInOrder_X3_memberOf : GoodIn wsX3_liftsInOrder wsX3_memberOf := goodIn_r _ [25, 26, 27, 24, 28] (by decide +kernel) (by decide +kernel)
set_option maxRecDepth 20000 in
theorem gX3_liftsInOrder_X3_memberOf : GoodIn wsX3_liftsInOrder (va_wsS RX3 278 yX3_memberOf wsX3_memberOf) := goodIn_app (goodIn_of _ (by decide +kernel)) ggX3_liftsInOrder_X3_memberOf
set_option maxRecDepth 20000 in
theorem ggX3_liftsInOrder_X3_mostPlaces : GoodIn wsX3_liftsInOrder wsX3_mostPlaces := goodIn_r _ [32, 33, 70, 71, 72, 73, 74, 75, 76, 77, 78, 79, 80, 81] (by decide +kernel) (by decide +kernel)
set_option maxRecDepth 20000 in
theorem gX3_liftsInOrder_X3_mostPlaces : GoodIn wsX3_liftsInOrder (wsV RX3 120 RX3 yX3_mostPlaces wsX3_mostPlaces) := goodIn_app (goodIn_of _ (by decide +kernel)) ggX3_liftsInOrder_X3_mostPlaces
set_option maxRecDepth 20000 in
theorem ggX3_liftsInOrder_X1_digOut : GoodIn wsX3_liftsInOrder wsX1_digOut := goodIn_r _ [37, 38, 39, 40, 6, 41, 8, 13, 42, 43, 44, 45, 46, 47, 48, 49, 50, 51, 52, 53, 54, 55, 56, 57, 14, 58, 59, 60, 61, 62, 63, 64, 65, 66, 67, 68, 69, 82, 83, 84] (by decide +kernel) (by decide +kernel)
set_option maxRecDepth 20000 in
theorem gX3_liftsInOrder_X1_digOut : GoodIn wsX3_liftsInOrder (wsV RX3 124 RX1 yX1_digOut wsX1_digOut) := goodIn_app (goodIn_of _ (by decide +kernel)) ggX3_liftsInOrder_X1_digOut
set_option maxRecDepth 20000 in
theorem ggX3_memberOf_X3_contains : GoodIn wsX3_memberOf wsX3_contains := goodIn_r _ [4] (by decide +kernel) (by decide +kernel)
set_option maxRecDepth 20000 in
theorem gX3_memberOf_X3_contains : GoodIn wsX3_memberOf (va_wsS RX3 274 yX3_contains wsX3_contains) := goodIn_app (goodIn_of _ (by decide +kernel)) ggX3_memberOf_X3_contains
set_option maxRecDepth 20000 in
theorem ggX4_isStack_X4_in : GoodIn wsX4_isStack wsX4_in := goodIn_r _ [4] (by decide +kernel) (by decide +kernel)
set_option maxRecDepth 20000 in
theorem gX4_isStack_X4_in : GoodIn wsX4_isStack (va_wsS RX4 57 yX4_in wsX4_in) := goodIn_app (goodIn_of _ (by decide +kernel)) ggX4_isStack_X4_in
set_option maxRecDepth 20000 in
theorem ggX4_isCrate_X4_in : GoodIn wsX4_isCrate wsX4_in := goodIn_r _ [5] (by decide +kernel) (by decide +kernel)
set_option maxRecDepth 20000 in
theorem gX4_isCrate_X4_in : GoodIn wsX4_isCrate (va_wsS RX4 57 yX4_in wsX4_in) := goodIn_app (goodIn_of _ (by decide +kernel)) ggX4_isCrate_X4_in
set_option maxRecDepth 20000 in
theorem ggX4_isHaul_X4_in : GoodIn wsX4_isHaul wsX4_in := goodIn_r _ [5] (by decide +kernel) (by decide +kernel)
set_option maxRecDepth 20000 in
theorem gX4_isHaul_X4_in : GoodIn wsX4_isHaul (va_wsS RX4 57 yX4_in wsX4_in) := goodIn_app (goodIn_of _ (by decide +kernel)) ggX4_isHaul_X4_in
set_option maxRecDepth 20000 in
theorem ggX4_canPut_X4_most : GoodIn wsX4_canPut wsX4_most := goodIn_r _ [8, 9, 10, 11, 12, 13, 14, 15, 16, 17, 18, 19, 20, 21, 22, 23, 24, 25, 26, 27, 28, 29, 30, 31, 32] (by decide +kernel) (by decide +kernel)
set_option maxRecDepth 20000 in
theorem gX4_canPut_X4_most : GoodIn wsX4_canPut (wsV RX4 71 RX4 yX4_most wsX4_most) := goodIn_app (goodIn_of _ (by decide +kernel)) ggX4_canPut_X4_most
set_option maxRecDepth 20000 in
theorem ggX4_isOnLids_X4_topOf : GoodIn wsX4_isOnLids wsX4_topOf := goodIn_r _ [8, 9, 2, 10, 11, 12, 13, 14, 15, 16, 17, 18, 19, 20, 21, 22, 23, 24, 25, 26, 27, 28, 29, 30, 31, 32] (by decide +kernel) (by decide +kernel)
set_option maxRecDepth 20000 in
theorem gX4_isOnLids_X4_topOf : GoodIn wsX4_isOnLids (wsV RX4 75 RX4 yX4_topOf wsX4_topOf) := goodIn_app (goodIn_of _ (by decide +kernel)) ggX4_isOnLids_X4_topOf
set_option maxRecDepth 20000 in
theorem ggX4_payWords_X4_isOnLids : GoodIn wsX4_payWords wsX4_isOnLids := goodIn_r _ [9, 10, 2, 11, 12, 13, 14, 8, 15, 16, 21, 22, 23, 24, 25, 26, 27, 28, 29, 30, 31, 32, 33, 34, 35, 36, 37, 38, 39, 40, 41, 42, 43] (by decide +kernel) (by decide +kernel)
set_option maxRecDepth 20000 in
theorem gX4_payWords_X4_isOnLids : GoodIn wsX4_payWords (wsV RX4 82 RX4 yX4_isOnLids wsX4_isOnLids) := goodIn_app (goodIn_of _ (by decide +kernel)) ggX4_payWords_X4_isOnLids
set_option maxRecDepth 20000 in
theorem ggX4_payWords_X4_sizeOf : GoodIn wsX4_payWords wsX4_sizeOf := goodIn_r _ [20, 10, 21, 22, 23, 24, 25, 26, 27, 28, 29, 30, 31, 32, 33, 34, 35, 36, 37, 38, 39, 40, 41, 42, 43] (by decide +kernel) (by decide +kernel)
set_option maxRecDepth 20000 in
theorem gX4_payWords_X4_sizeOf : GoodIn wsX4_payWords (wsV RX4 89 RX4 yX4_sizeOf wsX4_sizeOf) := goodIn_app (goodIn_of _ (by decide +kernel)) ggX4_payWords_X4_sizeOf
set_option maxRecDepth 20000 in
theorem ggX4_arrive_X4_in : GoodIn wsX4_arrive wsX4_in := goodIn_r _ [7] (by decide +kernel) (by decide +kernel)
set_option maxRecDepth 20000 in
theorem gX4_arrive_X4_in : GoodIn wsX4_arrive (va_wsS RX4 57 yX4_in wsX4_in) := goodIn_app (goodIn_of _ (by decide +kernel)) ggX4_arrive_X4_in
set_option maxRecDepth 20000 in
theorem ggX4_arrive_X4_isStack : GoodIn wsX4_arrive wsX4_isStack := goodIn_r _ [10, 4, 5, 6, 7] (by decide +kernel) (by decide +kernel)
set_option maxRecDepth 20000 in
theorem gX4_arrive_X4_isStack : GoodIn wsX4_arrive (va_wsS RX4 92 yX4_isStack wsX4_isStack) := goodIn_app (goodIn_of _ (by decide +kernel)) ggX4_arrive_X4_isStack
set_option maxRecDepth 20000 in
theorem ggX4_arrive_X4_canPut : GoodIn wsX4_arrive wsX4_canPut := goodIn_r _ [14, 15, 2, 16, 17, 18, 19, 6, 20, 21, 51, 52, 53, 54, 55, 56, 57, 58, 59, 60, 61, 62, 63, 64, 65, 66, 67, 68, 69, 70, 71, 72, 73] (by decide +kernel) (by decide +kernel)
set_option maxRecDepth 20000 in
theorem gX4_arrive_X4_canPut : GoodIn wsX4_arrive (wsV RX4 96 RX4 yX4_canPut wsX4_canPut) := goodIn_app (goodIn_of _ (by decide +kernel)) ggX4_arrive_X4_canPut
set_option maxRecDepth 20000 in
theorem ggX4_arrive_X4_goesWell : GoodIn wsX4_arrive wsX4_goesWell := goodIn_r _ [25, 26, 51, 52, 53, 54, 55, 56, 57, 58, 59, 60, 61, 62, 63, 64, 65, 66, 67, 68, 69, 70, 71, 72, 73] (by decide +kernel) (by decide +kernel)
set_option maxRecDepth 20000 in
theorem gX4_arrive_X4_goesWell : GoodIn wsX4_arrive (wsV RX4 99 RX4 yX4_goesWell wsX4_goesWell) := goodIn_app (goodIn_of _ (by decide +kernel)) ggX4_arrive_X4_goesWell
set_option maxRecDepth 20000 in
theorem ggX4_arrive_X4_put : GoodIn wsX4_arrive wsX4_put := goodIn_r _ [30, 16, 15, 51, 52, 53, 54, 55, 56, 57, 58, 59, 60, 61, 62, 63, 64, 65, 66, 67, 68, 69, 70, 71, 72, 73] (by decide +kernel) (by decide +kernel)
set_option maxRecDepth 20000 in
theorem gX4_arrive_X4_put : GoodIn wsX4_arrive (wsV RX4 102 RX4 yX4_put wsX4_put) := goodIn_app (goodIn_of _ (by decide +kernel)) ggX4_arrive_X4_put
set_option maxRecDepth 20000 in
theorem ggX4_arrive_X4_payWords : GoodIn wsX4_arrive wsX4_payWords := goodIn_r _ [34, 35, 15, 36, 37, 38, 39, 40, 6, 41, 42, 3, 43, 44, 45, 46, 16, 47, 48, 49, 50, 51, 52, 53, 54, 55, 56, 57, 58, 59, 60, 61, 62, 63, 64, 65, 66, 67, 68, 69, 70, 71, 72, 73] (by decide +kernel) (by decide +kernel)
set_option maxRecDepth 20000 in
theorem gX4_arrive_X4_payWords : GoodIn wsX4_arrive (wsV RX4 106 RX4 yX4_payWords wsX4_payWords) := goodIn_app (goodIn_of _ (by decide +kernel)) ggX4_arrive_X4_payWords
set_option maxRecDepth 20000 in
theorem ggX4_lift_X4_isStack : GoodIn wsX4_lift wsX4_isStack := goodIn_r _ [7, 8, 9, 6, 10] (by decide +kernel) (by decide +kernel)
set_option maxRecDepth 20000 in
theorem gX4_lift_X4_isStack : GoodIn wsX4_lift (va_wsS RX4 92 yX4_isStack wsX4_isStack) := goodIn_app (goodIn_of _ (by decide +kernel)) ggX4_lift_X4_isStack
set_option maxRecDepth 20000 in
theorem ggX4_lift_X4_goesWell : GoodIn wsX4_lift wsX4_goesWell := goodIn_r _ [14, 15, 38, 39, 40, 41, 42, 43, 44, 45, 46, 47, 48, 49, 50, 51, 52, 53, 54, 55, 56, 57, 58, 59, 60] (by decide +kernel) (by decide +kernel)
set_option maxRecDepth 20000 in
theorem gX4_lift_X4_goesWell : GoodIn wsX4_lift (wsV RX4 99 RX4 yX4_goesWell wsX4_goesWell) := goodIn_app (goodIn_of _ (by decide +kernel)) ggX4_lift_X4_goesWell
set_option maxRecDepth 20000 in
theorem ggX4_lift_X4_topOf : GoodIn wsX4_lift wsX4_topOf := goodIn_r _ [19, 20, 1, 38, 39, 40, 41, 42, 43, 44, 45, 46, 47, 48, 49, 50, 51, 52, 53, 54, 55, 56, 57, 58, 59, 60] (by decide +kernel) (by decide +kernel)
set_option maxRecDepth 20000 in
theorem gX4_lift_X4_topOf : GoodIn wsX4_lift (wsV RX4 75 RX4 yX4_topOf wsX4_topOf) := goodIn_app (goodIn_of _ (by decide +kernel)) ggX4_lift_X4_topOf
set_option maxRecDepth 20000 in
theorem ggX4_lift_X4_payWords : GoodIn wsX4_lift wsX4_payWords := goodIn_r _ [24, 25, 1, 26, 27, 28, 29, 30, 6, 31, 32, 33, 16, 17, 18, 19, 20, 34, 35, 36, 37, 38, 39, 40, 41, 42, 43, 44, 45, 46, 47, 48, 49, 50, 51, 52, 53, 54, 55, 56, 57, 58, 59, 60] (by decide +kernel) (by decide +kernel)
set_option maxRecDepth 20000 in
theorem gX4_lift_X4_payWords : GoodIn wsX4_lift (wsV RX4 106 RX4 yX4_payWords wsX4_payWords) := goodIn_app (goodIn_of _ (by decide +kernel)) ggX4_lift_X4_payWords
set_option maxRecDepth 20000 in
theorem ggX4_drop_X4_isStack : GoodIn wsX4_drop wsX4_isStack := goodIn_r _ [7, 8, 9, 6, 10] (by decide +kernel) (by decide +kernel)
set_option maxRecDepth 20000 in
theorem gX4_drop_X4_isStack : GoodIn wsX4_drop (va_wsS RX4 92 yX4_isStack wsX4_isStack) := goodIn_app (goodIn_of _ (by decide +kernel)) ggX4_drop_X4_isStack
set_option maxRecDepth 20000 in
theorem ggX4_drop_X4_canPut : GoodIn wsX4_drop wsX4_canPut := goodIn_r _ [14, 3, 2, 15, 16, 17, 18, 6, 19, 20, 51, 52, 53, 54, 55, 56, 57, 58, 59, 60, 61, 62, 63, 64, 65, 66, 67, 68, 69, 70, 71, 72, 73] (by decide +kernel) (by decide +kernel)
set_option maxRecDepth 20000 in
theorem gX4_drop_X4_canPut : GoodIn wsX4_drop (wsV RX4 96 RX4 yX4_canPut wsX4_canPut) := goodIn_app (goodIn_of _ (by decide +kernel)) ggX4_drop_X4_canPut
set_option maxRecDepth 20000 in
theorem ggX4_drop_X4_goesWell : GoodIn wsX4_drop wsX4_goesWell := goodIn_r _ [24, 25, 51, 52, 53, 54, 55, 56, 57, 58, 59, 60, 61, 62, 63, 64, 65, 66, 67, 68, 69, 70, 71, 72, 73] (by decide +kernel) (by decide +kernel)
set_option maxRecDepth 20000 in
theorem gX4_drop_X4_goesWell : GoodIn wsX4_drop (wsV RX4 99 RX4 yX4_goesWell wsX4_goesWell) := goodIn_app (goodIn_of _ (by decide +kernel)) ggX4_drop_X4_goesWell
set_option maxRecDepth 20000 in
theorem ggX4_drop_X4_put : GoodIn wsX4_drop wsX4_put := goodIn_r _ [29, 15, 3, 51, 52, 53, 54, 55, 56, 57, 58, 59, 60, 61, 62, 63, 64, 65, 66, 67, 68, 69, 70, 71, 72, 73] (by decide +kernel) (by decide +kernel)
set_option maxRecDepth 20000 in
theorem gX4_drop_X4_put : GoodIn wsX4_drop (wsV RX4 102 RX4 yX4_put wsX4_put) := goodIn_app (goodIn_of _ (by decide +kernel)) ggX4_drop_X4_put
set_option maxRecDepth 20000 in
theorem ggX4_drop_X4_payWords : GoodIn wsX4_drop wsX4_payWords := goodIn_r _ [33, 34, 3, 35, 36, 37, 38, 39, 6, 40, 41, 42, 43, 44, 45, 46, 15, 47, 48, 49, 50, 51, 52, 53, 54, 55, 56, 57, 58, 59, 60, 61, 62, 63, 64, 65, 66, 67, 68, 69, 70, 71, 72, 73] (by decide +kernel) (by decide +kernel)
set_option maxRecDepth 20000 in
theorem gX4_drop_X4_payWords : GoodIn wsX4_drop (wsV RX4 106 RX4 yX4_payWords wsX4_payWords) := goodIn_app (goodIn_of _ (by decide +kernel)) ggX4_drop_X4_payWords
set_option maxRecDepth 20000 in
theorem ggX4_canTry_X4_most : GoodIn wsX4_canTry wsX4_most := goodIn_r _ [8, 9, 10, 11, 12, 13, 14, 15, 16, 17, 18, 19, 20, 21, 22, 23, 24, 25, 26, 27, 28, 29, 30, 31, 32] (by decide +kernel) (by decide +kernel)
set_option maxRecDepth 20000 in
theorem gX4_canTry_X4_most : GoodIn wsX4_canTry (wsV RX4 71 RX4 yX4_most wsX4_most) := goodIn_app (goodIn_of _ (by decide +kernel)) ggX4_canTry_X4_most
set_option maxRecDepth 20000 in
theorem ggX4_digOut_X4_find : GoodIn wsX4_digOut wsX4_find := goodIn_r _ [7, 2, 1, 18, 19, 20, 21, 22, 23, 24, 25, 26, 27, 28, 29, 30, 31, 32, 33, 34, 35, 36, 37, 38, 39, 40] (by decide +kernel) (by decide +kernel)
set_option maxRecDepth 20000 in
theorem gX4_digOut_X4_find : GoodIn wsX4_digOut (wsV RX4 112 RX4 yX4_find wsX4_find) := goodIn_app (goodIn_of _ (by decide +kernel)) ggX4_digOut_X4_find
set_option maxRecDepth 20000 in
theorem ggX4_digOut_X4_canTry : GoodIn wsX4_digOut wsX4_canTry := goodIn_r _ [11, 2, 12, 1, 13, 14, 15, 6, 16, 17, 18, 19, 20, 21, 22, 23, 24, 25, 26, 27, 28, 29, 30, 31, 32, 33, 34, 35, 36, 37, 38, 39, 40] (by decide +kernel) (by decide +kernel)
set_option maxRecDepth 20000 in
theorem gX4_digOut_X4_canTry : GoodIn wsX4_digOut (wsV RX4 115 RX4 yX4_canTry wsX4_canTry) := goodIn_app (goodIn_of _ (by decide +kernel)) ggX4_digOut_X4_canTry
set_option maxRecDepth 20000 in
theorem ggX4_dig_X4_copyYard : GoodIn wsX4_dig wsX4_copyYard := goodIn_r _ [11, 3, 2, 5, 4, 64, 65, 66, 67, 68, 69, 70, 71, 72, 73, 74, 75, 76, 77, 78, 79, 80, 81, 82, 83, 84, 85, 86] (by decide +kernel) (by decide +kernel)
set_option maxRecDepth 20000 in
theorem gX4_dig_X4_copyYard : GoodIn wsX4_dig (wsV RX4 118 RX4 yX4_copyYard wsX4_copyYard) := goodIn_app (goodIn_of _ (by decide +kernel)) ggX4_dig_X4_copyYard
set_option maxRecDepth 20000 in
theorem ggX4_dig_X4_isCrate : GoodIn wsX4_dig wsX4_isCrate := goodIn_r _ [15, 16, 17, 18, 10, 19, 64, 65, 66, 67, 68, 69, 70, 71, 72, 73, 74, 75, 76, 77, 78, 79, 80, 81, 82, 83, 84, 85, 86] (by decide +kernel) (by decide +kernel)
set_option maxRecDepth 20000 in
theorem gX4_dig_X4_isCrate : GoodIn wsX4_dig (wsV RX4 121 RX4 yX4_isCrate wsX4_isCrate) := goodIn_app (goodIn_of _ (by decide +kernel)) ggX4_dig_X4_isCrate
set_option maxRecDepth 20000 in
theorem ggX4_dig_X4_digOut : GoodIn wsX4_dig wsX4_digOut := goodIn_r _ [23, 3, 5, 24, 25, 26, 10, 27, 28, 29, 30, 31, 32, 33, 34, 35, 36, 37, 64, 65, 66, 67, 68, 69, 70, 71, 72, 73, 74, 75, 76, 77, 78, 79, 80, 81, 82, 83, 84, 85, 86] (by decide +kernel) (by decide +kernel)
set_option maxRecDepth 20000 in
theorem gX4_dig_X4_digOut : GoodIn wsX4_dig (wsV RX4 124 RX4 yX4_digOut wsX4_digOut) := goodIn_app (goodIn_of _ (by decide +kernel)) ggX4_dig_X4_digOut
set_option maxRecDepth 20000 in
theorem ggX4_dig_X4_goesWell : GoodIn wsX4_dig wsX4_goesWell := goodIn_r _ [41, 42, 64, 65, 66, 67, 68, 69, 70, 71, 72, 73, 74, 75, 76, 77, 78, 79, 80, 81, 82, 83, 84, 85, 86] (by decide +kernel) (by decide +kernel)
set_option maxRecDepth 20000 in
theorem gX4_dig_X4_goesWell : GoodIn wsX4_dig (wsV RX4 99 RX4 yX4_goesWell wsX4_goesWell) := goodIn_app (goodIn_of _ (by decide +kernel)) ggX4_dig_X4_goesWell
set_option maxRecDepth 20000 in
theorem ggX4_dig_X4_payWords : GoodIn wsX4_dig wsX4_payWords := goodIn_r _ [46, 47, 4, 48, 49, 50, 51, 52, 10, 53, 54, 55, 56, 57, 58, 59, 2, 60, 61, 62, 63, 64, 65, 66, 67, 68, 69, 70, 71, 72, 73, 74, 75, 76, 77, 78, 79, 80, 81, 82, 83, 84, 85, 86] (by decide +kernel) (by decide +kernel)
set_option maxRecDepth 20000 in
theorem gX4_dig_X4_payWords : GoodIn wsX4_dig (wsV RX4 106 RX4 yX4_payWords wsX4_payWords) := goodIn_app (goodIn_of _ (by decide +kernel)) ggX4_dig_X4_payWords
set_option maxRecDepth 20000 in
theorem ggX4_height_X4_isStack : GoodIn wsX4_height wsX4_isStack := goodIn_r _ [5, 6, 7, 4, 8] (by decide +kernel) (by decide +kernel)
set_option maxRecDepth 20000 in
theorem gX4_height_X4_isStack : GoodIn wsX4_height (va_wsS RX4 92 yX4_isStack wsX4_isStack) := goodIn_app (goodIn_of _ (by decide +kernel)) ggX4_height_X4_isStack
set_option maxRecDepth 20000 in
theorem ggX4_height_X4_goesWell : GoodIn wsX4_height wsX4_goesWell := goodIn_r _ [12, 13, 14, 15, 16, 17, 18, 19, 20, 21, 22, 23, 24, 25, 26, 27, 28, 29, 30, 31, 32, 33, 34, 35, 36] (by decide +kernel) (by decide +kernel)
set_option maxRecDepth 20000 in
theorem gX4_height_X4_goesWell : GoodIn wsX4_height (wsV RX4 99 RX4 yX4_goesWell wsX4_goesWell) := goodIn_app (goodIn_of _ (by decide +kernel)) ggX4_height_X4_goesWell
set_option maxRecDepth 20000 in
theorem ggX4_at_X4_isStack : GoodIn wsX4_at wsX4_isStack := goodIn_r _ [6, 7, 8, 5, 9] (by decide +kernel) (by decide +kernel)
set_option maxRecDepth 20000 in
theorem gX4_at_X4_isStack : GoodIn wsX4_at (va_wsS RX4 92 yX4_isStack wsX4_isStack) := goodIn_app (goodIn_of _ (by decide +kernel)) ggX4_at_X4_isStack
set_option maxRecDepth 20000 in
theorem ggX4_at_X4_in : GoodIn wsX4_at wsX4_in := goodIn_r _ [9] (by decide +kernel) (by decide +kernel)
set_option maxRecDepth 20000 in
theorem gX4_at_X4_in : GoodIn wsX4_at (va_wsS RX4 57 yX4_in wsX4_in) := goodIn_app (goodIn_of _ (by decide +kernel)) ggX4_at_X4_in
set_option maxRecDepth 20000 in
theorem ggX4_at_X4_goesWell : GoodIn wsX4_at wsX4_goesWell := goodIn_r _ [13, 14, 15, 16, 17, 18, 19, 20, 21, 22, 23, 24, 25, 26, 27, 28, 29, 30, 31, 32, 33, 34, 35, 36, 37] (by decide +kernel) (by decide +kernel)
set_option maxRecDepth 20000 in
theorem gX4_at_X4_goesWell : GoodIn wsX4_at (wsV RX4 99 RX4 yX4_goesWell wsX4_goesWell) := goodIn_app (goodIn_of _ (by decide +kernel)) ggX4_at_X4_goesWell
set_option maxRecDepth 20000 in
theorem ggX4_stackOf_X4_isCrate : GoodIn wsX4_stackOf wsX4_isCrate := goodIn_r _ [5, 6, 7, 8, 4, 9, 27, 28, 29, 30, 31, 32, 33, 34, 35, 36, 37, 38, 39, 40, 41, 42, 43, 44, 45, 46, 47, 48, 49] (by decide +kernel) (by decide +kernel)
set_option maxRecDepth 20000 in
theorem gX4_stackOf_X4_isCrate : GoodIn wsX4_stackOf (wsV RX4 121 RX4 yX4_isCrate wsX4_isCrate) := goodIn_app (goodIn_of _ (by decide +kernel)) ggX4_stackOf_X4_isCrate
set_option maxRecDepth 20000 in
theorem ggX4_stackOf_X4_goesWell : GoodIn wsX4_stackOf wsX4_goesWell := goodIn_r _ [13, 14, 27, 28, 29, 30, 31, 32, 33, 34, 35, 36, 37, 38, 39, 40, 41, 42, 43, 44, 45, 46, 47, 48, 49] (by decide +kernel) (by decide +kernel)
set_option maxRecDepth 20000 in
theorem gX4_stackOf_X4_goesWell : GoodIn wsX4_stackOf (wsV RX4 99 RX4 yX4_goesWell wsX4_goesWell) := goodIn_app (goodIn_of _ (by decide +kernel)) ggX4_stackOf_X4_goesWell
set_option maxRecDepth 20000 in
theorem ggX4_stackOf_X4_copyYard : GoodIn wsX4_stackOf wsX4_copyYard := goodIn_r _ [18, 19, 20, 21, 22, 27, 28, 29, 30, 31, 32, 33, 34, 35, 36, 37, 38, 39, 40, 41, 42, 43, 44, 45, 46, 47, 48, 49] (by decide +kernel) (by decide +kernel)
set_option maxRecDepth 20000 in
theorem gX4_stackOf_X4_copyYard : GoodIn wsX4_stackOf (wsV RX4 118 RX4 yX4_copyYard wsX4_copyYard) := goodIn_app (goodIn_of _ (by decide +kernel)) ggX4_stackOf_X4_copyYard
set_option maxRecDepth 20000 in
theorem ggX4_stackOf_X4_find : GoodIn wsX4_stackOf wsX4_find := goodIn_r _ [26, 21, 19, 27, 28, 29, 30, 31, 32, 33, 34, 35, 36, 37, 38, 39, 40, 41, 42, 43, 44, 45, 46, 47, 48, 49] (by decide +kernel) (by decide +kernel)
set_option maxRecDepth 20000 in
theorem gX4_stackOf_X4_find : GoodIn wsX4_stackOf (wsV RX4 112 RX4 yX4_find wsX4_find) := goodIn_app (goodIn_of _ (by decide +kernel)) ggX4_stackOf_X4_find
set_option maxRecDepth 20000 in
theorem ggX4_isSet_X4_copyYard : GoodIn wsX4_isSet wsX4_copyYard := goodIn_r _ [6, 7, 8, 9, 10, 21, 22, 23, 24, 25, 26, 27, 28, 29, 30, 31, 32, 33, 34, 35, 36, 37, 38, 39, 40, 41, 42, 43] (by decide +kernel) (by decide +kernel)
set_option maxRecDepth 20000 in
theorem gX4_isSet_X4_copyYard : GoodIn wsX4_isSet (wsV RX4 118 RX4 yX4_copyYard wsX4_copyYard) := goodIn_app (goodIn_of _ (by decide +kernel)) ggX4_isSet_X4_copyYard
set_option maxRecDepth 20000 in
theorem ggX4_isSet_X4_bits : GoodIn wsX4_isSet wsX4_bits := goodIn_r _ [13] (by decide +kernel) (by decide +kernel)
set_option maxRecDepth 20000 in
theorem gX4_isSet_X4_bits : GoodIn wsX4_isSet (va_wsS RX4 128 yX4_bits wsX4_bits) := goodIn_app (goodIn_of _ (by decide +kernel)) ggX4_isSet_X4_bits
set_option maxRecDepth 20000 in
theorem ggX4_isSet_X4_in : GoodIn wsX4_isSet wsX4_in := goodIn_r _ [16] (by decide +kernel) (by decide +kernel)
set_option maxRecDepth 20000 in
theorem gX4_isSet_X4_in : GoodIn wsX4_isSet (va_wsS RX4 57 yX4_in wsX4_in) := goodIn_app (goodIn_of _ (by decide +kernel)) ggX4_isSet_X4_in
set_option maxRecDepth 20000 in
theorem ggX4_isSet_X4_find : GoodIn wsX4_isSet wsX4_find := goodIn_r _ [20, 9, 7, 21, 22, 23, 24, 25, 26, 27, 28, 29, 30, 31, 32, 33, 34, 35, 36, 37, 38, 39, 40, 41, 42, 43] (by decide +kernel) (by decide +kernel)
set_option maxRecDepth 20000 in
theorem gX4_isSet_X4_find : GoodIn wsX4_isSet (wsV RX4 112 RX4 yX4_find wsX4_find) := goodIn_app (goodIn_of _ (by decide +kernel)) ggX4_isSet_X4_find
set_option maxRecDepth 20000 in
theorem ggX4_liftsBy_X4_copyYard : GoodIn wsX4_liftsBy wsX4_copyYard := goodIn_r _ [5, 6, 7, 8, 9, 31, 32, 33, 34, 35, 36, 37, 38, 39, 40, 41, 42, 43, 44, 45, 46, 47, 48, 49, 50, 51, 52, 53] (by decide +kernel) (by decide +kernel)
set_option maxRecDepth 20000 in
theorem gX4_liftsBy_X4_copyYard : GoodIn wsX4_liftsBy (wsV RX4 118 RX4 yX4_copyYard wsX4_copyYard) := goodIn_app (goodIn_of _ (by decide +kernel)) ggX4_liftsBy_X4_copyYard
set_option maxRecDepth 20000 in
theorem ggX4_liftsBy_X4_member : GoodIn wsX4_liftsBy wsX4_member := goodIn_r _ [12] (by decide +kernel) (by decide +kernel)
set_option maxRecDepth 20000 in
theorem gX4_liftsBy_X4_member : GoodIn wsX4_liftsBy (va_wsS RX4 131 yX4_member wsX4_member) := goodIn_app (goodIn_of _ (by decide +kernel)) ggX4_liftsBy_X4_member
set_option maxRecDepth 20000 in
theorem ggX4_liftsBy_X4_digOut : GoodIn wsX4_liftsBy wsX4_digOut := goodIn_r _ [16, 6, 8, 17, 18, 19, 4, 20, 21, 22, 23, 24, 25, 26, 27, 28, 29, 30, 31, 32, 33, 34, 35, 36, 37, 38, 39, 40, 41, 42, 43, 44, 45, 46, 47, 48, 49, 50, 51, 52, 53] (by decide +kernel) (by decide +kernel)
set_option maxRecDepth 20000 in
theorem gX4_liftsBy_X4_digOut : GoodIn wsX4_liftsBy (wsV RX4 124 RX4 yX4_digOut wsX4_digOut) := goodIn_app (goodIn_of _ (by decide +kernel)) ggX4_liftsBy_X4_digOut
set_option maxRecDepth 20000 in
theorem ggX4_fewestLifts_X4_isSet : GoodIn wsX4_fewestLifts wsX4_isSet := goodIn_r _ [6, 7, 8, 9, 10, 5, 11, 12, 13, 14, 15, 16, 17, 18, 19, 20, 21, 22, 23, 24, 25, 52, 53, 54, 55, 56, 57, 58, 59, 60, 61, 62, 63, 64, 65, 66, 67, 68, 69, 70, 71, 72, 73, 74] (by decide +kernel) (by decide +kernel)
set_option maxRecDepth 20000 in
theorem gX4_fewestLifts_X4_isSet : GoodIn wsX4_fewestLifts (wsV RX4 135 RX4 yX4_isSet wsX4_isSet) := goodIn_app (goodIn_of _ (by decide +kernel)) ggX4_fewestLifts_X4_isSet
set_option maxRecDepth 20000 in
theorem ggX4_fewestLifts_X4_goesWell : GoodIn wsX4_fewestLifts wsX4_goesWell := goodIn_r _ [29, 30, 52, 53, 54, 55, 56, 57, 58, 59, 60, 61, 62, 63, 64, 65, 66, 67, 68, 69, 70, 71, 72, 73, 74] (by decide +kernel) (by decide +kernel)
set_option maxRecDepth 20000 in
theorem gX4_fewestLifts_X4_goesWell : GoodIn wsX4_fewestLifts (wsV RX4 99 RX4 yX4_goesWell wsX4_goesWell) := goodIn_app (goodIn_of _ (by decide +kernel)) ggX4_fewestLifts_X4_goesWell
set_option maxRecDepth 20000 in
theorem ggX4_fewestLifts_X4_bits : GoodIn wsX4_fewestLifts wsX4_bits := goodIn_r _ [18] (by decide +kernel) (by decide +kernel)
set_option maxRecDepth 20000 in
theorem gX4_fewestLifts_X4_bits : GoodIn wsX4_fewestLifts (va_wsS RX4 128 yX4_bits wsX4_bits) := goodIn_app (goodIn_of _ (by decide +kernel)) ggX4_fewestLifts_X4_bits
set_option maxRecDepth 20000 in
theorem ggX4_fewestLifts_X4_liftsBy : GoodIn wsX4_fewestLifts wsX4_liftsBy := goodIn_r _ [34, 8, 9, 10, 5, 11, 12, 13, 14, 15, 35, 36, 37, 38, 39, 40, 41, 22, 23, 24, 25, 42, 43, 44, 45, 46, 47, 48, 49, 50, 51, 52, 53, 54, 55, 56, 57, 58, 59, 60, 61, 62, 63, 64, 65, 66, 67, 68, 69, 70, 71, 72, 73, 74] (by decide +kernel) (by decide +kernel)
set_option maxRecDepth 20000 in
theorem gX4_fewestLifts_X4_liftsBy : GoodIn wsX4_fewestLifts (wsV RX4 138 RX4 yX4_liftsBy wsX4_liftsBy) := goodIn_app (goodIn_of _ (by decide +kernel)) ggX4_fewestLifts_X4_liftsBy
set_option maxRecDepth 20000 in
theorem ggX4_isLetter_X4_in : GoodIn wsX4_isLetter wsX4_in := goodIn_r _ [4] (by decide +kernel) (by decide +kernel)
set_option maxRecDepth 20000 in
theorem gX4_isLetter_X4_in : GoodIn wsX4_isLetter (va_wsS RX4 57 yX4_in wsX4_in) := goodIn_app (goodIn_of _ (by decide +kernel)) ggX4_isLetter_X4_in
set_option maxRecDepth 20000 in
theorem ggX4_tell_X4_isLetter : GoodIn wsX4_tell wsX4_isLetter := goodIn_r _ [6, 7, 8, 5, 9] (by decide +kernel) (by decide +kernel)
set_option maxRecDepth 20000 in
theorem gX4_tell_X4_isLetter : GoodIn wsX4_tell (va_wsS RX4 142 yX4_isLetter wsX4_isLetter) := goodIn_app (goodIn_of _ (by decide +kernel)) ggX4_tell_X4_isLetter
set_option maxRecDepth 20000 in
theorem ggX4_tell_X4_goesWell : GoodIn wsX4_tell wsX4_goesWell := goodIn_r _ [13, 14, 36, 37, 38, 39, 40, 41, 42, 43, 44, 45, 46, 47, 48, 49, 50, 51, 52, 53, 54, 55, 56, 57, 58] (by decide +kernel) (by decide +kernel)
set_option maxRecDepth 20000 in
theorem gX4_tell_X4_goesWell : GoodIn wsX4_tell (wsV RX4 99 RX4 yX4_goesWell wsX4_goesWell) := goodIn_app (goodIn_of _ (by decide +kernel)) ggX4_tell_X4_goesWell
set_option maxRecDepth 20000 in
theorem ggX4_tell_X4_payWords : GoodIn wsX4_tell wsX4_payWords := goodIn_r _ [18, 1, 19, 20, 21, 22, 23, 24, 5, 25, 2, 26, 27, 28, 29, 30, 31, 32, 33, 34, 35, 36, 37, 38, 39, 40, 41, 42, 43, 44, 45, 46, 47, 48, 49, 50, 51, 52, 53, 54, 55, 56, 57, 58] (by decide +kernel) (by decide +kernel)
set_option maxRecDepth 20000 in
theorem gX4_tell_X4_payWords : GoodIn wsX4_tell (wsV RX4 106 RX4 yX4_payWords wsX4_payWords) := goodIn_app (goodIn_of _ (by decide +kernel)) ggX4_tell_X4_payWords
set_option maxRecDepth 20000 in
theorem ggX4_hasPaid_X4_in : GoodIn wsX4_hasPaid wsX4_in := goodIn_r _ [6] (by decide +kernel) (by decide +kernel)
set_option maxRecDepth 20000 in
theorem gX4_hasPaid_X4_in : GoodIn wsX4_hasPaid (va_wsS RX4 57 yX4_in wsX4_in) := goodIn_app (goodIn_of _ (by decide +kernel)) ggX4_hasPaid_X4_in
set_option maxRecDepth 20000 in
theorem ggX4_hasPaid_X4_goesWell : GoodIn wsX4_hasPaid wsX4_goesWell := goodIn_r _ [10, 11, 12, 13, 14, 15, 16, 17, 18, 19, 20, 21, 22, 23, 24, 25, 26, 27, 28, 29, 30, 31, 32, 33, 34] (by decide +kernel) (by decide +kernel)
set_option maxRecDepth 20000 in
theorem gX4_hasPaid_X4_goesWell : GoodIn wsX4_hasPaid (wsV RX4 99 RX4 yX4_goesWell wsX4_goesWell) := goodIn_app (goodIn_of _ (by decide +kernel)) ggX4_hasPaid_X4_goesWell
set_option maxRecDepth 20000 in
theorem ggX4_offer_X4_isCrate : GoodIn wsX4_offer wsX4_isCrate := goodIn_r _ [10, 11, 12, 13, 9, 14, 36, 37, 38, 39, 40, 41, 42, 43, 44, 45, 46, 47, 48, 49, 50, 51, 52, 53, 54, 55, 56, 57, 58] (by decide +kernel) (by decide +kernel)
set_option maxRecDepth 20000 in
theorem gX4_offer_X4_isCrate : GoodIn wsX4_offer (wsV RX4 121 RX4 yX4_isCrate wsX4_isCrate) := goodIn_app (goodIn_of _ (by decide +kernel)) ggX4_offer_X4_isCrate
set_option maxRecDepth 20000 in
theorem ggX4_offer_X4_copyYard : GoodIn wsX4_offer wsX4_copyYard := goodIn_r _ [18, 19, 20, 21, 22, 36, 37, 38, 39, 40, 41, 42, 43, 44, 45, 46, 47, 48, 49, 50, 51, 52, 53, 54, 55, 56, 57, 58] (by decide +kernel) (by decide +kernel)
set_option maxRecDepth 20000 in
theorem gX4_offer_X4_copyYard : GoodIn wsX4_offer (wsV RX4 118 RX4 yX4_copyYard wsX4_copyYard) := goodIn_app (goodIn_of _ (by decide +kernel)) ggX4_offer_X4_copyYard
set_option maxRecDepth 20000 in
theorem ggX4_offer_X4_find : GoodIn wsX4_offer wsX4_find := goodIn_r _ [26, 21, 19, 36, 37, 38, 39, 40, 41, 42, 43, 44, 45, 46, 47, 48, 49, 50, 51, 52, 53, 54, 55, 56, 57, 58] (by decide +kernel) (by decide +kernel)
set_option maxRecDepth 20000 in
theorem gX4_offer_X4_find : GoodIn wsX4_offer (wsV RX4 112 RX4 yX4_find wsX4_find) := goodIn_app (goodIn_of _ (by decide +kernel)) ggX4_offer_X4_find
set_option maxRecDepth 20000 in
theorem ggX4_offer_X4_haulOf : GoodIn wsX4_offer wsX4_haulOf := goodIn_r _ [30, 1, 3, 5, 36, 37, 38, 39, 40, 41, 42, 43, 44, 45, 46, 47, 48, 49, 50, 51, 52, 53, 54, 55, 56, 57, 58] (by decide +kernel) (by decide +kernel)
set_option maxRecDepth 20000 in
theorem gX4_offer_X4_haulOf : GoodIn wsX4_offer (wsV RX4 145 RX4 yX4_haulOf wsX4_haulOf) := goodIn_app (goodIn_of _ (by decide +kernel)) ggX4_offer_X4_haulOf
set_option maxRecDepth 20000 in
theorem ggX4_offer_X4_in : GoodIn wsX4_offer wsX4_in := goodIn_r _ [14] (by decide +kernel) (by decide +kernel)
set_option maxRecDepth 20000 in
theorem gX4_offer_X4_in : GoodIn wsX4_offer (va_wsS RX4 57 yX4_in wsX4_in) := goodIn_app (goodIn_of _ (by decide +kernel)) ggX4_offer_X4_in
set_option maxRecDepth 20000 in
theorem ggX4_offer_X4_goesWell : GoodIn wsX4_offer wsX4_goesWell := goodIn_r _ [34, 35, 36, 37, 38, 39, 40, 41, 42, 43, 44, 45, 46, 47, 48, 49, 50, 51, 52, 53, 54, 55, 56, 57, 58] (by decide +kernel) (by decide +kernel)
set_option maxRecDepth 20000 in
theorem gX4_offer_X4_goesWell : GoodIn wsX4_offer (wsV RX4 99 RX4 yX4_goesWell wsX4_goesWell) := goodIn_app (goodIn_of _ (by decide +kernel)) ggX4_offer_X4_goesWell
set_option maxRecDepth 20000 in
theorem ggX4_bid_X4_isHaul : GoodIn wsX4_bid wsX4_isHaul := goodIn_r _ [7, 8, 9, 10, 6, 11, 17, 18, 19, 20, 21, 22, 23, 24, 25, 26, 27, 28, 29, 30, 31, 32, 33, 34, 35, 36, 37, 38, 39] (by decide +kernel) (by decide +kernel)
set_option maxRecDepth 20000 in
theorem gX4_bid_X4_isHaul : GoodIn wsX4_bid (wsV RX4 151 RX4 yX4_isHaul wsX4_isHaul) := goodIn_app (goodIn_of _ (by decide +kernel)) ggX4_bid_X4_isHaul
set_option maxRecDepth 20000 in
theorem ggX4_bid_X4_in : GoodIn wsX4_bid wsX4_in := goodIn_r _ [11] (by decide +kernel) (by decide +kernel)
set_option maxRecDepth 20000 in
theorem gX4_bid_X4_in : GoodIn wsX4_bid (va_wsS RX4 57 yX4_in wsX4_in) := goodIn_app (goodIn_of _ (by decide +kernel)) ggX4_bid_X4_in
set_option maxRecDepth 20000 in
theorem ggX4_bid_X4_goesWell : GoodIn wsX4_bid wsX4_goesWell := goodIn_r _ [15, 16, 17, 18, 19, 20, 21, 22, 23, 24, 25, 26, 27, 28, 29, 30, 31, 32, 33, 34, 35, 36, 37, 38, 39] (by decide +kernel) (by decide +kernel)
set_option maxRecDepth 20000 in
theorem gX4_bid_X4_goesWell : GoodIn wsX4_bid (wsV RX4 99 RX4 yX4_goesWell wsX4_goesWell) := goodIn_app (goodIn_of _ (by decide +kernel)) ggX4_bid_X4_goesWell
set_option maxRecDepth 20000 in
theorem ggX4_give_X4_isHaul : GoodIn wsX4_give wsX4_isHaul := goodIn_r _ [8, 9, 10, 11, 7, 12, 22, 23, 24, 25, 26, 27, 28, 29, 30, 31, 32, 33, 34, 35, 36, 37, 38, 39, 40, 41, 42, 43, 44] (by decide +kernel) (by decide +kernel)
set_option maxRecDepth 20000 in
theorem gX4_give_X4_isHaul : GoodIn wsX4_give (wsV RX4 151 RX4 yX4_isHaul wsX4_isHaul) := goodIn_app (goodIn_of _ (by decide +kernel)) ggX4_give_X4_isHaul
set_option maxRecDepth 20000 in
theorem ggX4_give_X4_cheapest : GoodIn wsX4_give wsX4_cheapest := goodIn_r _ [16, 3, 22, 23, 24, 25, 26, 27, 28, 29, 30, 31, 32, 33, 34, 35, 36, 37, 38, 39, 40, 41, 42, 43, 44] (by decide +kernel) (by decide +kernel)
set_option maxRecDepth 20000 in
theorem gX4_give_X4_cheapest : GoodIn wsX4_give (wsV RX4 154 RX4 yX4_cheapest wsX4_cheapest) := goodIn_app (goodIn_of _ (by decide +kernel)) ggX4_give_X4_cheapest
set_option maxRecDepth 20000 in
theorem ggX4_give_X4_goesWell : GoodIn wsX4_give wsX4_goesWell := goodIn_r _ [20, 21, 22, 23, 24, 25, 26, 27, 28, 29, 30, 31, 32, 33, 34, 35, 36, 37, 38, 39, 40, 41, 42, 43, 44] (by decide +kernel) (by decide +kernel)
set_option maxRecDepth 20000 in
theorem gX4_give_X4_goesWell : GoodIn wsX4_give (wsV RX4 99 RX4 yX4_goesWell wsX4_goesWell) := goodIn_app (goodIn_of _ (by decide +kernel)) ggX4_give_X4_goesWell
set_option maxRecDepth 20000 in
theorem ggX4_load_X4_haulOf : GoodIn wsX4_load wsX4_haulOf := goodIn_r _ [8, 9, 10, 2, 16, 17, 18, 19, 20, 21, 22, 23, 24, 25, 26, 27, 28, 29, 30, 31, 32, 33, 34, 35, 36, 37, 38] (by decide +kernel) (by decide +kernel)
set_option maxRecDepth 20000 in
theorem gX4_load_X4_haulOf : GoodIn wsX4_load (wsV RX4 145 RX4 yX4_haulOf wsX4_haulOf) := goodIn_app (goodIn_of _ (by decide +kernel)) ggX4_load_X4_haulOf
set_option maxRecDepth 20000 in
theorem ggX4_load_X4_goesWell : GoodIn wsX4_load wsX4_goesWell := goodIn_r _ [14, 15, 16, 17, 18, 19, 20, 21, 22, 23, 24, 25, 26, 27, 28, 29, 30, 31, 32, 33, 34, 35, 36, 37, 38] (by decide +kernel) (by decide +kernel)
set_option maxRecDepth 20000 in
theorem gX4_load_X4_goesWell : GoodIn wsX4_load (wsV RX4 99 RX4 yX4_goesWell wsX4_goesWell) := goodIn_app (goodIn_of _ (by decide +kernel)) ggX4_load_X4_goesWell
set_option maxRecDepth 20000 in
theorem ggX4_state_X4_isHaul : GoodIn wsX4_state wsX4_isHaul := goodIn_r _ [6, 7, 8, 9, 5, 10, 16, 17, 18, 19, 20, 21, 22, 23, 24, 25, 26, 27, 28, 29, 30, 31, 32, 33, 34, 35, 36, 37, 38] (by decide +kernel) (by decide +kernel)
set_option maxRecDepth 20000 in
theorem gX4_state_X4_isHaul : GoodIn wsX4_state (wsV RX4 151 RX4 yX4_isHaul wsX4_isHaul) := goodIn_app (goodIn_of _ (by decide +kernel)) ggX4_state_X4_isHaul
set_option maxRecDepth 20000 in
theorem ggX4_state_X4_goesWell : GoodIn wsX4_state wsX4_goesWell := goodIn_r _ [14, 15, 16, 17, 18, 19, 20, 21, 22, 23, 24, 25, 26, 27, 28, 29, 30, 31, 32, 33, 34, 35, 36, 37, 38] (by decide +kernel) (by decide +kernel)
set_option maxRecDepth 20000 in
theorem gX4_state_X4_goesWell : GoodIn wsX4_state (wsV RX4 99 RX4 yX4_goesWell wsX4_goesWell) := goodIn_app (goodIn_of _ (by decide +kernel)) ggX4_state_X4_goesWell
set_option maxRecDepth 20000 in
theorem ggX4_pass_X4_in : GoodIn wsX4_pass wsX4_in := goodIn_r _ [5] (by decide +kernel) (by decide +kernel)
set_option maxRecDepth 20000 in
theorem gX4_pass_X4_in : GoodIn wsX4_pass (va_wsS RX4 57 yX4_in wsX4_in) := goodIn_app (goodIn_of _ (by decide +kernel)) ggX4_pass_X4_in
set_option maxRecDepth 20000 in
theorem ggX4_pass_X4_goesWell : GoodIn wsX4_pass wsX4_goesWell := goodIn_r _ [9, 10, 21, 22, 23, 24, 25, 26, 27, 28, 29, 30, 31, 32, 33, 34, 35, 36, 37, 38, 39, 40, 41, 42, 43] (by decide +kernel) (by decide +kernel)
set_option maxRecDepth 20000 in
theorem gX4_pass_X4_goesWell : GoodIn wsX4_pass (wsV RX4 99 RX4 yX4_goesWell wsX4_goesWell) := goodIn_app (goodIn_of _ (by decide +kernel)) ggX4_pass_X4_goesWell
set_option maxRecDepth 20000 in
theorem ggX4_pass_X4_endDay : GoodIn wsX4_pass wsX4_endDay := goodIn_r _ [14, 15, 16, 17, 18, 1, 19, 20, 21, 22, 23, 24, 25, 26, 27, 28, 29, 30, 31, 32, 33, 34, 35, 36, 37, 38, 39, 40, 41, 42, 43] (by decide +kernel) (by decide +kernel)
set_option maxRecDepth 20000 in
theorem gX4_pass_X4_endDay : GoodIn wsX4_pass (wsV RX4 160 RX4 yX4_endDay wsX4_endDay) := goodIn_app (goodIn_of _ (by decide +kernel)) ggX4_pass_X4_endDay
set_option maxRecDepth 20000 in
theorem ggL_arrive_X3_arrive : GoodIn wsL_arrive wsX3_arrive := goodIn_ca (goodIn_ca (goodIn_r _ [7, 8, 9, 10, 11, 12, 13, 14, 15, 16, 6, 17, 18, 19, 20, 21, 22, 23, 24, 25, 26, 27, 28, 29, 30, 31, 32, 33, 34, 35, 36, 37, 38, 39, 40, 41, 42, 43, 44, 45, 46, 47, 48, 49, 50, 51, 52, 53, 54, 55, 56, 57, 58, 59, 60, 61, 62, 63, 64, 65, 66, 67, 68, 69, 70, 71, 72, 73, 74, 75, 76, 77, 78, 79, 80, 81, 82, 83, 84, 85, 86, 87, 88, 89, 90, 91, 92, 93, 94, 95, 96, 97, 98, 99, 100, 101, 102, 103, 104, 105, 106] (by decide +kernel) (by decide +kernel)) (goodIn_sub (fun _ h => List.mem_cons_of_mem _ (List.mem_append_left _ (List.mem_append_right _ h))) (by decide +kernel))) (goodIn_sub (fun _ h => List.mem_cons_of_mem _ (List.mem_append_right _ h)) (by decide +kernel))
set_option maxRecDepth 20000 in
theorem gL_arrive_X3_arrive : GoodIn wsL_arrive (wsV RL 7 RX3 yX3_arrive wsX3_arrive) := goodIn_app (goodIn_of _ (by decide +kernel)) ggL_arrive_X3_arrive
set_option maxRecDepth 20000 in
theorem ggL_lift_X3_lift : GoodIn wsL_lift wsX3_lift := goodIn_ca (goodIn_ca (goodIn_r _ [7, 8, 9, 10, 11, 12, 13, 14, 6, 15, 16, 17, 18, 19, 20, 21, 22, 23, 24, 25, 26, 27, 28, 29, 30, 31, 32, 33, 34, 35, 36, 37, 38, 39, 40, 41, 42, 43, 44, 45, 46, 47, 48, 49, 50, 51, 52, 53, 54, 55, 56, 57, 58, 59, 60, 61, 62, 63, 64, 65, 66, 67, 68, 69, 70, 71, 72, 73, 74, 75, 76, 77, 78, 79, 80, 81, 82, 83, 84, 85, 86, 87] (by decide +kernel) (by decide +kernel)) (goodIn_sub (fun _ h => List.mem_cons_of_mem _ (List.mem_append_left _ (List.mem_append_right _ h))) (by decide +kernel))) (goodIn_sub (fun _ h => List.mem_cons_of_mem _ (List.mem_append_right _ h)) (by decide +kernel))
set_option maxRecDepth 20000 in
theorem gL_lift_X3_lift : GoodIn wsL_lift (wsV RL 17 RX3 yX3_lift wsX3_lift) := goodIn_app (goodIn_of _ (by decide +kernel)) ggL_lift_X3_lift
set_option maxRecDepth 20000 in
theorem ggL_drop_X3_drop : GoodIn wsL_drop wsX3_drop := goodIn_ca (goodIn_ca (goodIn_r _ [7, 8, 9, 10, 11, 6, 12, 13, 14, 15, 16, 17, 18, 19, 20, 21, 22, 23, 24, 25, 26, 27, 28, 29, 30, 31, 32, 33, 34, 35, 36, 37, 38, 39, 40, 41, 42, 43, 44, 45, 46, 47, 48, 49, 50, 51, 52, 53, 54, 55, 56, 57, 58, 59, 60, 61, 62, 63, 64, 65, 66, 67, 68, 69, 70, 71, 72, 73, 74, 75, 76, 77, 78, 79, 80, 81, 82, 83, 84, 85, 86, 87, 88, 89, 90, 91, 92, 93, 94, 95, 96, 97, 98, 99, 100, 101, 102, 103, 104, 105] (by decide +kernel) (by decide +kernel)) (goodIn_sub (fun _ h => List.mem_cons_of_mem _ (List.mem_append_left _ (List.mem_append_right _ h))) (by decide +kernel))) (goodIn_sub (fun _ h => List.mem_cons_of_mem _ (List.mem_append_right _ h)) (by decide +kernel))
set_option maxRecDepth 20000 in
theorem gL_drop_X3_drop : GoodIn wsL_drop (wsV RL 21 RX3 yX3_drop wsX3_drop) := goodIn_app (goodIn_of _ (by decide +kernel)) ggL_drop_X3_drop
set_option maxRecDepth 20000 in
theorem ggL_dig_X3_dig : GoodIn wsL_dig wsX3_dig := goodIn_ca (goodIn_ca (goodIn_r _ [7, 8, 9, 10, 11, 12, 13, 14, 15, 16, 6, 17, 18, 19, 20, 21, 22, 23, 24, 25, 26, 27, 28, 29, 30, 31, 32, 33, 34, 35, 36, 37, 38, 39, 40, 41, 42, 43, 44, 45, 46, 47, 48, 49, 50, 51, 52, 53, 54, 55, 56, 57, 58, 59, 60, 61, 62, 63, 64, 65, 66, 67, 68, 69, 70, 71, 72, 73, 74, 75, 76, 77, 78, 79, 80, 81, 82, 83, 84, 85, 86, 87, 88, 89, 90, 91, 92, 93, 94, 95, 96, 97, 98, 99, 100, 101, 102, 103, 104, 105, 106, 107, 108, 109, 110, 111, 112, 113, 114, 115, 116, 117, 118, 119, 120, 121, 122, 123, 124, 125, 126, 127, 128, 129, 130, 131, 132] (by decide +kernel) (by decide +kernel)) (goodIn_sub (fun _ h => List.mem_cons_of_mem _ (List.mem_append_left _ (List.mem_append_right _ h))) (by decide +kernel))) (goodIn_sub (fun _ h => List.mem_cons_of_mem _ (List.mem_append_right _ h)) (by decide +kernel))
set_option maxRecDepth 20000 in
theorem gL_dig_X3_dig : GoodIn wsL_dig (wsV RL 24 RX3 yX3_dig wsX3_dig) := goodIn_app (goodIn_of _ (by decide +kernel)) ggL_dig_X3_dig
set_option maxRecDepth 20000 in
theorem ggL_height_X3_height : GoodIn wsL_height wsX3_height := goodIn_ca (goodIn_r _ [6, 7, 8, 9, 5, 10, 11, 12, 13, 14, 15, 16, 17, 18, 19, 20, 21, 22, 23, 24, 25, 26, 27, 28, 29, 30, 31, 32, 33] (by decide +kernel) (by decide +kernel)) (goodIn_sub (fun _ h => List.mem_cons_of_mem _ (List.mem_append_right _ h)) (by decide +kernel))
set_option maxRecDepth 20000 in
theorem gL_height_X3_height : GoodIn wsL_height (wsV RL 29 RX3 yX3_height wsX3_height) := goodIn_app (goodIn_of _ (by decide +kernel)) ggL_height_X3_height
set_option maxRecDepth 20000 in
theorem ggL_at_X3_at : GoodIn wsL_at wsX3_at := goodIn_ca (goodIn_r _ [6, 7, 8, 9, 10, 11, 5, 12, 13, 14, 15, 16, 17, 18, 19, 20, 21, 22, 23, 24, 25, 26, 27, 28, 29, 30, 31, 32, 33, 34, 35, 36, 37, 38] (by decide +kernel) (by decide +kernel)) (goodIn_sub (fun _ h => List.mem_cons_of_mem _ (List.mem_append_right _ h)) (by decide +kernel))
set_option maxRecDepth 20000 in
theorem gL_at_X3_at : GoodIn wsL_at (wsV RL 32 RX3 yX3_at wsX3_at) := goodIn_app (goodIn_of _ (by decide +kernel)) ggL_at_X3_at
set_option maxRecDepth 20000 in
theorem ggL_stackOf_X3_stackOf : GoodIn wsL_stackOf wsX3_stackOf := goodIn_ca (goodIn_r _ [6, 7, 8, 9, 10, 5, 11, 12, 13, 14, 15, 16, 17, 18, 19, 20, 21, 22, 23, 24, 25, 26, 27, 28, 29, 30, 31, 32, 33, 34, 35, 36] (by decide +kernel) (by decide +kernel)) (goodIn_sub (fun _ h => List.mem_cons_of_mem _ (List.mem_append_right _ h)) (by decide +kernel))
set_option maxRecDepth 20000 in
theorem gL_stackOf_X3_stackOf : GoodIn wsL_stackOf (wsV RL 36 RX3 yX3_stackOf wsX3_stackOf) := goodIn_app (goodIn_of _ (by decide +kernel)) ggL_stackOf_X3_stackOf
set_option maxRecDepth 20000 in
theorem ggL_fewestLifts_X3_fewestLifts : GoodIn wsL_fewestLifts wsX3_fewestLifts := goodIn_ca (goodIn_ca (goodIn_r _ [7, 8, 9, 10, 11, 12, 6, 13, 14, 15, 16, 17, 18, 19, 20, 21, 22, 23, 24, 25, 26, 27, 28, 29, 30, 31, 32, 33, 34, 35, 36, 37, 38, 39, 40, 41, 42, 43, 44, 45, 46, 47, 48, 49, 50, 51, 52, 53, 54, 55, 56, 57, 58, 59, 60, 61, 62, 63, 64, 65, 66, 67, 68, 69, 70, 71, 72, 73, 74, 75, 76, 77, 78, 79, 80, 81, 82, 83, 84, 85, 86, 87, 88, 89, 90, 91, 92, 93, 94, 95, 96, 97, 98, 99, 100, 101, 102, 103, 104, 105, 106, 107, 108, 109, 110, 111] (by decide +kernel) (by decide +kernel)) (goodIn_sub (fun _ h => List.mem_cons_of_mem _ (List.mem_append_left _ (List.mem_append_right _ h))) (by decide +kernel))) (goodIn_sub (fun _ h => List.mem_cons_of_mem _ (List.mem_append_right _ h)) (by decide +kernel))
set_option maxRecDepth 20000 in
theorem gL_fewestLifts_X3_fewestLifts : GoodIn wsL_fewestLifts (wsV RL 39 RX3 yX3_fewestLifts wsX3_fewestLifts) := goodIn_app (goodIn_of _ (by decide +kernel)) ggL_fewestLifts_X3_fewestLifts
set_option maxRecDepth 20000 in
theorem ggL_tell_X3_tell : GoodIn wsL_tell wsX3_tell := goodIn_ca (goodIn_ca (goodIn_r _ [7, 8, 9, 10, 11, 12, 13, 14, 6, 15, 16, 17, 18, 19, 20, 21, 22, 23, 24, 25, 26, 27, 28, 29, 30, 31, 32, 33, 34, 35, 36, 37, 38, 39, 40, 41, 42, 43, 44, 45, 46, 47, 48, 49, 50, 51, 52, 53, 54, 55, 56, 57, 58, 59, 60, 61, 62, 63, 64, 65, 66, 67, 68, 69, 70, 71, 72, 73, 74, 75, 76, 77, 78, 79, 80, 81, 82, 83] (by decide +kernel) (by decide +kernel)) (goodIn_sub (fun _ h => List.mem_cons_of_mem _ (List.mem_append_left _ (List.mem_append_right _ h))) (by decide +kernel))) (goodIn_sub (fun _ h => List.mem_cons_of_mem _ (List.mem_append_right _ h)) (by decide +kernel))
set_option maxRecDepth 20000 in
theorem gL_tell_X3_tell : GoodIn wsL_tell (wsV RL 42 RX3 yX3_tell wsX3_tell) := goodIn_app (goodIn_of _ (by decide +kernel)) ggL_tell_X3_tell
set_option maxRecDepth 20000 in
theorem ggL_hasPaid_X3_hasPaid : GoodIn wsL_hasPaid wsX3_hasPaid := goodIn_ca (goodIn_r _ [6, 7, 8, 9, 10, 11, 12, 13, 14, 15, 16, 17, 18, 19, 20, 21, 22, 23, 24, 25, 26, 27, 28, 29, 30, 31, 32, 33, 34, 35, 36, 37] (by decide +kernel) (by decide +kernel)) (goodIn_sub (fun _ h => List.mem_cons_of_mem _ (List.mem_append_right _ h)) (by decide +kernel))
set_option maxRecDepth 20000 in
theorem gL_hasPaid_X3_hasPaid : GoodIn wsL_hasPaid (wsV RL 46 RX3 yX3_hasPaid wsX3_hasPaid) := goodIn_app (goodIn_of _ (by decide +kernel)) ggL_hasPaid_X3_hasPaid
set_option maxRecDepth 20000 in
theorem ggL_offer_X3_offer : GoodIn wsL_offer wsX3_offer := goodIn_ca (goodIn_ca (goodIn_ca (goodIn_r _ [8, 9, 10, 11, 12, 13, 14, 15, 16, 17, 7, 18, 19, 20, 21, 22, 23, 24, 25, 26, 27, 28, 29, 30, 31, 32, 33, 34, 35, 36, 37, 38, 39, 40, 41, 42, 43, 44, 45, 46, 47, 48, 49, 50, 51, 52, 53, 54, 55, 56, 57, 58, 59, 60, 61, 62, 63, 64, 65, 66, 67, 68, 69, 70, 71, 72, 73, 74, 75, 76, 77, 78, 79, 80, 81] (by decide +kernel) (by decide +kernel)) (goodIn_sub (fun _ h => List.mem_cons_of_mem _ (List.mem_append_left _ (List.mem_append_left _ (List.mem_append_right _ h)))) (by decide +kernel))) (goodIn_sub (fun _ h => List.mem_cons_of_mem _ (List.mem_append_left _ (List.mem_append_right _ h))) (by decide +kernel))) (goodIn_sub (fun _ h => List.mem_cons_of_mem _ (List.mem_append_right _ h)) (by decide +kernel))
set_option maxRecDepth 20000 in
theorem gL_offer_X3_offer : GoodIn wsL_offer (wsV RL 50 RX3 yX3_offer wsX3_offer) := goodIn_app (goodIn_of _ (by decide +kernel)) ggL_offer_X3_offer
set_option maxRecDepth 20000 in
theorem ggL_bid_X3_bid : GoodIn wsL_bid wsX3_bid := goodIn_ca (goodIn_ca (goodIn_ca (goodIn_r _ [8, 9, 10, 11, 12, 13, 14, 15, 16, 7, 17, 18, 19, 20, 21, 22, 23, 24, 25, 26, 27, 28, 29, 30, 31, 32, 33, 34, 35, 36, 37, 38, 39, 40, 41, 42, 43, 44, 45, 46, 47, 48, 49, 50, 51, 52, 53, 54, 55, 56, 57, 58, 59, 60, 61, 62, 63, 64, 65, 66, 67] (by decide +kernel) (by decide +kernel)) (goodIn_sub (fun _ h => List.mem_cons_of_mem _ (List.mem_append_left _ (List.mem_append_left _ (List.mem_append_right _ h)))) (by decide +kernel))) (goodIn_sub (fun _ h => List.mem_cons_of_mem _ (List.mem_append_left _ (List.mem_append_right _ h))) (by decide +kernel))) (goodIn_sub (fun _ h => List.mem_cons_of_mem _ (List.mem_append_right _ h)) (by decide +kernel))
set_option maxRecDepth 20000 in
theorem gL_bid_X3_bid : GoodIn wsL_bid (wsV RL 53 RX3 yX3_bid wsX3_bid) := goodIn_app (goodIn_of _ (by decide +kernel)) ggL_bid_X3_bid
set_option maxRecDepth 20000 in
theorem ggL_give_X3_give : GoodIn wsL_give wsX3_give := goodIn_ca (goodIn_ca (goodIn_r _ [7, 8, 9, 10, 11, 12, 13, 6, 14, 15, 16, 17, 18, 19, 20, 21, 22, 23, 24, 25, 26, 27, 28, 29, 30, 31, 32, 33, 34, 35, 36, 37, 38, 39, 40, 41, 42, 43, 44, 45, 46, 47, 48, 49, 50, 51, 52, 53, 54, 55, 56, 57, 58, 59, 60, 61, 62, 63, 64, 65, 66, 67, 68, 69] (by decide +kernel) (by decide +kernel)) (goodIn_sub (fun _ h => List.mem_cons_of_mem _ (List.mem_append_left _ (List.mem_append_right _ h))) (by decide +kernel))) (goodIn_sub (fun _ h => List.mem_cons_of_mem _ (List.mem_append_right _ h)) (by decide +kernel))
set_option maxRecDepth 20000 in
theorem gL_give_X3_give : GoodIn wsL_give (wsV RL 57 RX3 yX3_give wsX3_give) := goodIn_app (goodIn_of _ (by decide +kernel)) ggL_give_X3_give
set_option maxRecDepth 20000 in
theorem ggL_load_X3_load : GoodIn wsL_load wsX3_load := goodIn_ca (goodIn_r _ [6, 7, 8, 9, 10, 11, 12, 13, 5, 14, 15, 16, 17, 18, 19, 20, 21, 22, 23, 24, 25, 26, 27, 28, 29, 30, 31, 32, 33, 34, 35, 36, 37, 38, 39, 40, 41, 42, 43, 44, 45, 46, 47, 48, 49, 50, 51, 52, 53, 54, 55, 56, 57] (by decide +kernel) (by decide +kernel)) (goodIn_sub (fun _ h => List.mem_cons_of_mem _ (List.mem_append_right _ h)) (by decide +kernel))
set_option maxRecDepth 20000 in
theorem gL_load_X3_load : GoodIn wsL_load (wsV RL 60 RX3 yX3_load wsX3_load) := goodIn_app (goodIn_of _ (by decide +kernel)) ggL_load_X3_load
set_option maxRecDepth 20000 in
theorem ggL_state_X3_state : GoodIn wsL_state wsX3_state := goodIn_ca (goodIn_r _ [6, 7, 8, 9, 10, 5, 11, 12, 13, 14, 15, 16, 17, 18, 19, 20, 21, 22, 23, 24, 25, 26, 27, 28, 29, 30, 31, 32, 33, 34, 35, 36, 37, 38, 39, 40, 41, 42, 43, 44] (by decide +kernel) (by decide +kernel)) (goodIn_sub (fun _ h => List.mem_cons_of_mem _ (List.mem_append_right _ h)) (by decide +kernel))
set_option maxRecDepth 20000 in
theorem gL_state_X3_state : GoodIn wsL_state (wsV RL 64 RX3 yX3_state wsX3_state) := goodIn_app (goodIn_of _ (by decide +kernel)) ggL_state_X3_state
set_option maxRecDepth 20000 in
theorem ggL_pass_X3_pass : GoodIn wsL_pass wsX3_pass := goodIn_ca (goodIn_ca (goodIn_r _ [7, 8, 9, 10, 11, 12, 13, 14, 15, 16, 6, 17, 18, 19, 20, 21, 22, 23, 24, 25, 26, 27, 28, 29, 30, 31, 32, 33, 34, 35, 36, 37, 38, 39, 40, 41, 42, 43, 44, 45, 46, 47, 48, 49, 50, 51, 52, 53, 54, 55, 56, 57, 58, 59, 60, 61, 62, 63, 64, 65, 66] (by decide +kernel) (by decide +kernel)) (goodIn_sub (fun _ h => List.mem_cons_of_mem _ (List.mem_append_left _ (List.mem_append_right _ h))) (by decide +kernel))) (goodIn_sub (fun _ h => List.mem_cons_of_mem _ (List.mem_append_right _ h)) (by decide +kernel))
set_option maxRecDepth 20000 in
theorem gL_pass_X3_pass : GoodIn wsL_pass (wsV RL 67 RX3 yX3_pass wsX3_pass) := goodIn_app (goodIn_of _ (by decide +kernel)) ggL_pass_X3_pass
abbrev vwCl : List vw_C := [(RX0, TX0, 8), (RX1, TX1, 3), (RX2, TX2, 5), (RX3, TX3, 12), (RX4, TX4, 23)]
