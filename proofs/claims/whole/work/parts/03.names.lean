/-! ===== BEGIN printed: names, fields, word lists, decode rows ===== -/
def RX0 : String := "FerryRights"
def TX0 : u_T := fun k => match k with
  | 0 => ("FerryRights", "ferryCount", "I", false)
  | 1 => ("FerryRights", "tolls", "[I", true)
  | 2 => ("FerryRights", "passengersCarried", "[I", true)
  | 3 => ("FerryRights", "sharesOwned", "[I", true)
  | 4 => ("FerryRights", "personCount", "I", false)
  | 5 => ("FerryRights", "alive", "[Z", true)
  | 6 => ("FerryRights", "purses", "[I", true)
  | 7 => ("FerryRights", "fares", "[I", true)
  | 8 => ("FerryRights", "parents", "[I", true)
  | _ => ("FerryRights", "crownPurse", "I", false)
def tyX0 : Nat → FieldType := fun k => match k with
  | 0 => .int
  | 1 => .array .int
  | 2 => .array .int
  | 3 => .array .int
  | 4 => .int
  | 5 => .array .boolean
  | 6 => .array .int
  | 7 => .array .int
  | 8 => .array .int
  | _ => .int
abbrev wsX00 : List Cond := u_ws RX0 TX0 10
theorem nmX0 : ∀ a, a < 10 → ∀ b, b < 10 → a ≠ b → (TX0 a).2.1 ≠ (TX0 b).2.1 := by decide +kernel
theorem tyX0_ok : ∀ k, k < 10 → parseFieldDescriptor (TX0 k).2.2.1 = some (tyX0 k) := by decide +kernel
abbrev cX0_init : ByteArray := prog_1_method_1_code
def yX0_init : MethodName := ⟨RX0, "<init>", "()V"⟩
abbrev cX0_addFerry : ByteArray := prog_1_method_2_code
def yX0_addFerry : MethodName := ⟨RX0, "addFerry", "(I)I"⟩
abbrev cX0_addPerson : ByteArray := prog_1_method_3_code
def yX0_addPerson : MethodName := ⟨RX0, "addPerson", "()I"⟩
abbrev cX0_addChild : ByteArray := prog_1_method_4_code
def yX0_addChild : MethodName := ⟨RX0, "addChild", "(I)I"⟩
abbrev cX0_pay : ByteArray := prog_1_method_5_code
def yX0_pay : MethodName := ⟨RX0, "pay", "(II)I"⟩
abbrev cX0_grant : ByteArray := prog_1_method_6_code
def yX0_grant : MethodName := ⟨RX0, "grant", "(IIII)I"⟩
abbrev cX0_give : ByteArray := prog_1_method_7_code
def yX0_give : MethodName := ⟨RX0, "give", "(IIIII)I"⟩
abbrev cX0_buy : ByteArray := prog_1_method_8_code
def yX0_buy : MethodName := ⟨RX0, "buy", "(IIII)I"⟩
abbrev cX0_setToll : ByteArray := prog_1_method_9_code
def yX0_setToll : MethodName := ⟨RX0, "setToll", "(III)I"⟩
abbrev cX0_carry : ByteArray := prog_1_method_10_code
def yX0_carry : MethodName := ⟨RX0, "carry", "(III)I"⟩
abbrev cX0_die : ByteArray := prog_1_method_11_code
def yX0_die : MethodName := ⟨RX0, "die", "(I)I"⟩
abbrev cX0_ferries : ByteArray := prog_1_method_12_code
def yX0_ferries : MethodName := ⟨RX0, "ferries", "()I"⟩
abbrev cX0_toll : ByteArray := prog_1_method_13_code
def yX0_toll : MethodName := ⟨RX0, "toll", "(I)I"⟩
abbrev cX0_carried : ByteArray := prog_1_method_14_code
def yX0_carried : MethodName := ⟨RX0, "carried", "(I)I"⟩
abbrev cX0_shares : ByteArray := prog_1_method_15_code
def yX0_shares : MethodName := ⟨RX0, "shares", "(III)I"⟩
abbrev cX0_crownShares : ByteArray := prog_1_method_16_code
def yX0_crownShares : MethodName := ⟨RX0, "crownShares", "(II)I"⟩
abbrev cX0_owners : ByteArray := prog_1_method_17_code
def yX0_owners : MethodName := ⟨RX0, "owners", "(II)I"⟩
abbrev cX0_holder : ByteArray := prog_1_method_18_code
def yX0_holder : MethodName := ⟨RX0, "holder", "(II)I"⟩
abbrev cX0_master : ByteArray := prog_1_method_19_code
def yX0_master : MethodName := ⟨RX0, "master", "(I)I"⟩
abbrev cX0_hasMaster : ByteArray := prog_1_method_20_code
def yX0_hasMaster : MethodName := ⟨RX0, "hasMaster", "(I)Z"⟩
abbrev cX0_shareValue : ByteArray := prog_1_method_21_code
def yX0_shareValue : MethodName := ⟨RX0, "shareValue", "(II)I"⟩
abbrev cX0_watchAt : ByteArray := prog_1_method_22_code
def yX0_watchAt : MethodName := ⟨RX0, "watchAt", "(I)I"⟩
abbrev cX0_people : ByteArray := prog_1_method_23_code
def yX0_people : MethodName := ⟨RX0, "people", "()I"⟩
abbrev cX0_living : ByteArray := prog_1_method_24_code
def yX0_living : MethodName := ⟨RX0, "living", "()I"⟩
abbrev cX0_isAlive : ByteArray := prog_1_method_25_code
def yX0_isAlive : MethodName := ⟨RX0, "isAlive", "(I)Z"⟩
abbrev cX0_coins : ByteArray := prog_1_method_26_code
def yX0_coins : MethodName := ⟨RX0, "coins", "(I)I"⟩
abbrev cX0_earned : ByteArray := prog_1_method_27_code
def yX0_earned : MethodName := ⟨RX0, "earned", "(I)I"⟩
abbrev cX0_allShares : ByteArray := prog_1_method_28_code
def yX0_allShares : MethodName := ⟨RX0, "allShares", "(I)I"⟩
abbrev cX0_hasParent : ByteArray := prog_1_method_29_code
def yX0_hasParent : MethodName := ⟨RX0, "hasParent", "(I)Z"⟩
abbrev cX0_parent : ByteArray := prog_1_method_30_code
def yX0_parent : MethodName := ⟨RX0, "parent", "(I)I"⟩
abbrev cX0_children : ByteArray := prog_1_method_31_code
def yX0_children : MethodName := ⟨RX0, "children", "(I)I"⟩
abbrev cX0_heirs : ByteArray := prog_1_method_32_code
def yX0_heirs : MethodName := ⟨RX0, "heirs", "(I)I"⟩
abbrev cX0_heir : ByteArray := prog_1_method_33_code
def yX0_heir : MethodName := ⟨RX0, "heir", "(II)I"⟩
abbrev cX0_crownCoins : ByteArray := prog_1_method_34_code
def yX0_crownCoins : MethodName := ⟨RX0, "crownCoins", "()I"⟩
abbrev cX0_price : ByteArray := prog_1_method_35_code
def yX0_price : MethodName := ⟨RX0, "price", "(III)I"⟩
abbrev cX0_canBuy : ByteArray := prog_1_method_36_code
def yX0_canBuy : MethodName := ⟨RX0, "canBuy", "(IIII)Z"⟩
abbrev cX0_inheritance : ByteArray := prog_1_method_37_code
def yX0_inheritance : MethodName := ⟨RX0, "inheritance", "(IIII)I"⟩
abbrev cX0_fare : ByteArray := prog_1_method_38_code
def yX0_fare : MethodName := ⟨RX0, "fare", "(IIII)I"⟩
abbrev cX0_richest : ByteArray := prog_1_method_39_code
def yX0_richest : MethodName := ⟨RX0, "richest", "()I"⟩
abbrev cX0_meanCoins : ByteArray := prog_1_method_40_code
def yX0_meanCoins : MethodName := ⟨RX0, "meanCoins", "()D"⟩
abbrev cX0_digest : ByteArray := prog_1_method_41_code
def yX0_digest : MethodName := ⟨RX0, "digest", "()J"⟩
abbrev cX0_needFerry : ByteArray := prog_1_method_42_code
def yX0_needFerry : MethodName := ⟨RX0, "needFerry", "(I)V"⟩
abbrev cX0_needWatch : ByteArray := prog_1_method_43_code
def yX0_needWatch : MethodName := ⟨RX0, "needWatch", "(I)V"⟩
abbrev cX0_needHour : ByteArray := prog_1_method_44_code
def yX0_needHour : MethodName := ⟨RX0, "needHour", "(I)V"⟩
abbrev cX0_needPerson : ByteArray := prog_1_method_45_code
def yX0_needPerson : MethodName := ⟨RX0, "needPerson", "(I)V"⟩
abbrev cX0_needSale : ByteArray := prog_1_method_46_code
def yX0_needSale : MethodName := ⟨RX0, "needSale", "(IIII)V"⟩
abbrev cX0_needToll : ByteArray := prog_1_method_47_code
def yX0_needToll : MethodName := ⟨RX0, "needToll", "(I)V"⟩
abbrev cX0_needShares : ByteArray := prog_1_method_48_code
def yX0_needShares : MethodName := ⟨RX0, "needShares", "(I)V"⟩
abbrev cX0_needPassengers : ByteArray := prog_1_method_49_code
def yX0_needPassengers : MethodName := ⟨RX0, "needPassengers", "(I)V"⟩
abbrev cX0_needAlive : ByteArray := prog_1_method_50_code
def yX0_needAlive : MethodName := ⟨RX0, "needAlive", "(I)V"⟩
abbrev cX0_needRoomForPerson : ByteArray := prog_1_method_51_code
def yX0_needRoomForPerson : MethodName := ⟨RX0, "needRoomForPerson", "()V"⟩
abbrev cX0_settle : ByteArray := prog_1_method_52_code
def yX0_settle : MethodName := ⟨RX0, "settle", "(I)I"⟩
abbrev cX0_addCoins : ByteArray := prog_1_method_53_code
def yX0_addCoins : MethodName := ⟨RX0, "addCoins", "(II)V"⟩
abbrev cX0_countChildren : ByteArray := prog_1_method_54_code
def yX0_countChildren : MethodName := ⟨RX0, "countChildren", "(I)I"⟩
abbrev cX0_slot : ByteArray := prog_1_method_55_code
def yX0_slot : MethodName := ⟨RX0, "slot", "(III)I"⟩
abbrev cX0_owns : ByteArray := prog_1_method_56_code
def yX0_owns : MethodName := ⟨RX0, "owns", "(III)I"⟩
abbrev cX0_addShares : ByteArray := prog_1_method_57_code
def yX0_addShares : MethodName := ⟨RX0, "addShares", "(IIII)V"⟩
abbrev cX0_crownOwns : ByteArray := prog_1_method_58_code
def yX0_crownOwns : MethodName := ⟨RX0, "crownOwns", "(II)I"⟩
abbrev cX0_countSharesOfFerry : ByteArray := prog_1_method_59_code
def yX0_countSharesOfFerry : MethodName := ⟨RX0, "countSharesOfFerry", "(II)I"⟩
abbrev cX0_countAllShares : ByteArray := prog_1_method_60_code
def yX0_countAllShares : MethodName := ⟨RX0, "countAllShares", "(I)I"⟩
abbrev cX0_findMaster : ByteArray := prog_1_method_61_code
def yX0_findMaster : MethodName := ⟨RX0, "findMaster", "(I)I"⟩
abbrev cX0_worth : ByteArray := prog_1_method_62_code
def yX0_worth : MethodName := ⟨RX0, "worth", "(II)I"⟩
abbrev cX0_priceOf : ByteArray := prog_1_method_63_code
def yX0_priceOf : MethodName := ⟨RX0, "priceOf", "(III)I"⟩
abbrev cX0_mayBuy : ByteArray := prog_1_method_64_code
def yX0_mayBuy : MethodName := ⟨RX0, "mayBuy", "(IIII)Z"⟩
abbrev cX0_otherOwnerHas : ByteArray := prog_1_method_65_code
def yX0_otherOwnerHas : MethodName := ⟨RX0, "otherOwnerHas", "(IIII)Z"⟩
abbrev cX0_fareOf : ByteArray := prog_1_method_66_code
def yX0_fareOf : MethodName := ⟨RX0, "fareOf", "(IIII)I"⟩
abbrev cX0_hasLivingChild : ByteArray := prog_1_method_67_code
def yX0_hasLivingChild : MethodName := ⟨RX0, "hasLivingChild", "(I)Z"⟩
abbrev cX0_isHeir : ByteArray := prog_1_method_68_code
def yX0_isHeir : MethodName := ⟨RX0, "isHeir", "(II)Z"⟩
abbrev cX0_countHeirs : ByteArray := prog_1_method_69_code
def yX0_countHeirs : MethodName := ⟨RX0, "countHeirs", "(I)I"⟩
abbrev cX0_countHeirsBelow : ByteArray := prog_1_method_70_code
def yX0_countHeirsBelow : MethodName := ⟨RX0, "countHeirsBelow", "(II)I"⟩
abbrev cX0_findHeir : ByteArray := prog_1_method_71_code
def yX0_findHeir : MethodName := ⟨RX0, "findHeir", "(II)I"⟩
abbrev cX0_partOf : ByteArray := prog_1_method_72_code
def yX0_partOf : MethodName := ⟨RX0, "partOf", "(III)I"⟩
abbrev cX0_hand : ByteArray := prog_1_method_73_code
def yX0_hand : MethodName := ⟨RX0, "hand", "(IIII)V"⟩
abbrev cX0_bury : ByteArray := prog_1_method_74_code
def yX0_bury : MethodName := ⟨RX0, "bury", "(I)V"⟩
abbrev cX0_mix : ByteArray := prog_1_method_75_code
def yX0_mix : MethodName := ⟨RX0, "mix", "(JJ)J"⟩
abbrev cX0_mixFerry : ByteArray := prog_1_method_76_code
def yX0_mixFerry : MethodName := ⟨RX0, "mixFerry", "(JI)J"⟩
abbrev cX0_mixPerson : ByteArray := prog_1_method_77_code
def yX0_mixPerson : MethodName := ⟨RX0, "mixPerson", "(JI)J"⟩
def RX1 : String := "FerryRightsModel"
def TX1 : u_T := fun k => match k with
  | 0 => ("FerryRightsModel", "thrown", "I", false)
  | 1 => ("FerryRightsModel", "ferries", "I", false)
  | 2 => ("FerryRightsModel", "toll", "[I", true)
  | 3 => ("FerryRightsModel", "carried", "[I", true)
  | 4 => ("FerryRightsModel", "owns", "[I", true)
  | 5 => ("FerryRightsModel", "people", "I", false)
  | 6 => ("FerryRightsModel", "coins", "[I", true)
  | 7 => ("FerryRightsModel", "earned", "[I", true)
  | 8 => ("FerryRightsModel", "parent", "[I", true)
  | 9 => ("FerryRightsModel", "isDead", "[Z", true)
  | 10 => ("FerryRightsModel", "crownCoins", "I", false)
  | 11 => ("FerryRightsModel", "heir", "[I", true)
  | _ => ("FerryRightsModel", "heirs", "I", false)
def tyX1 : Nat → FieldType := fun k => match k with
  | 0 => .int
  | 1 => .int
  | 2 => .array .int
  | 3 => .array .int
  | 4 => .array .int
  | 5 => .int
  | 6 => .array .int
  | 7 => .array .int
  | 8 => .array .int
  | 9 => .array .boolean
  | 10 => .int
  | 11 => .array .int
  | _ => .int
abbrev wsX10 : List Cond := u_ws RX1 TX1 13
theorem nmX1 : ∀ a, a < 13 → ∀ b, b < 13 → a ≠ b → (TX1 a).2.1 ≠ (TX1 b).2.1 := by decide +kernel
theorem tyX1_ok : ∀ k, k < 13 → parseFieldDescriptor (TX1 k).2.2.1 = some (tyX1 k) := by decide +kernel
abbrev cX1_init : ByteArray := prog_3_method_1_code
def yX1_init : MethodName := ⟨RX1, "<init>", "()V"⟩
abbrev cX1_thrown : ByteArray := prog_3_method_2_code
def yX1_thrown : MethodName := ⟨RX1, "thrown", "()I"⟩
abbrev cX1_no : ByteArray := prog_3_method_3_code
def yX1_no : MethodName := ⟨RX1, "no", "(I)I"⟩
abbrev cX1_isNot : ByteArray := prog_3_method_4_code
def yX1_isNot : MethodName := ⟨RX1, "isNot", "(I)Z"⟩
abbrev cX1_isIn : ByteArray := prog_3_method_5_code
def yX1_isIn : MethodName := ⟨RX1, "isIn", "(III)Z"⟩
abbrev cX1_isFerry : ByteArray := prog_3_method_6_code
def yX1_isFerry : MethodName := ⟨RX1, "isFerry", "(I)Z"⟩
abbrev cX1_isWatch : ByteArray := prog_3_method_7_code
def yX1_isWatch : MethodName := ⟨RX1, "isWatch", "(II)Z"⟩
abbrev cX1_isPerson : ByteArray := prog_3_method_8_code
def yX1_isPerson : MethodName := ⟨RX1, "isPerson", "(I)Z"⟩
abbrev cX1_at : ByteArray := prog_3_method_9_code
def yX1_at : MethodName := ⟨RX1, "at", "(III)I"⟩
abbrev cX1_crown : ByteArray := prog_3_method_10_code
def yX1_crown : MethodName := ⟨RX1, "crown", "(II)I"⟩
abbrev cX1_worth : ByteArray := prog_3_method_11_code
def yX1_worth : MethodName := ⟨RX1, "worth", "(II)I"⟩
abbrev cX1_get : ByteArray := prog_3_method_12_code
def yX1_get : MethodName := ⟨RX1, "get", "(II)V"⟩
abbrev cX1_addFerry : ByteArray := prog_3_method_13_code
def yX1_addFerry : MethodName := ⟨RX1, "addFerry", "(I)I"⟩
abbrev cX1_person : ByteArray := prog_3_method_14_code
def yX1_person : MethodName := ⟨RX1, "person", "(I)I"⟩
abbrev cX1_addPerson : ByteArray := prog_3_method_15_code
def yX1_addPerson : MethodName := ⟨RX1, "addPerson", "()I"⟩
abbrev cX1_addChild : ByteArray := prog_3_method_16_code
def yX1_addChild : MethodName := ⟨RX1, "addChild", "(I)I"⟩
abbrev cX1_pay : ByteArray := prog_3_method_17_code
def yX1_pay : MethodName := ⟨RX1, "pay", "(II)I"⟩
abbrev cX1_grant : ByteArray := prog_3_method_18_code
def yX1_grant : MethodName := ⟨RX1, "grant", "(IIII)I"⟩
abbrev cX1_give : ByteArray := prog_3_method_19_code
def yX1_give : MethodName := ⟨RX1, "give", "(IIIII)I"⟩
abbrev cX1_priceOf : ByteArray := prog_3_method_20_code
def yX1_priceOf : MethodName := ⟨RX1, "priceOf", "(III)I"⟩
abbrev cX1_isOtherAhead : ByteArray := prog_3_method_21_code
def yX1_isOtherAhead : MethodName := ⟨RX1, "isOtherAhead", "(IIII)Z"⟩
abbrev cX1_buys : ByteArray := prog_3_method_22_code
def yX1_buys : MethodName := ⟨RX1, "buys", "(IIII)Z"⟩
abbrev cX1_buy : ByteArray := prog_3_method_23_code
def yX1_buy : MethodName := ⟨RX1, "buy", "(IIII)I"⟩
abbrev cX1_inFerry : ByteArray := prog_3_method_24_code
def yX1_inFerry : MethodName := ⟨RX1, "inFerry", "(II)I"⟩
abbrev cX1_masterOf : ByteArray := prog_3_method_25_code
def yX1_masterOf : MethodName := ⟨RX1, "masterOf", "(I)I"⟩
abbrev cX1_setToll : ByteArray := prog_3_method_26_code
def yX1_setToll : MethodName := ⟨RX1, "setToll", "(III)I"⟩
abbrev cX1_part : ByteArray := prog_3_method_27_code
def yX1_part : MethodName := ⟨RX1, "part", "(IIII)I"⟩
abbrev cX1_carry : ByteArray := prog_3_method_28_code
def yX1_carry : MethodName := ⟨RX1, "carry", "(III)I"⟩
abbrev cX1_lookForHeirs : ByteArray := prog_3_method_29_code
def yX1_lookForHeirs : MethodName := ⟨RX1, "lookForHeirs", "(I)V"⟩
abbrev cX1_addHeir : ByteArray := prog_3_method_30_code
def yX1_addHeir : MethodName := ⟨RX1, "addHeir", "(I)V"⟩
abbrev cX1_partOf : ByteArray := prog_3_method_31_code
def yX1_partOf : MethodName := ⟨RX1, "partOf", "(II)I"⟩
abbrev cX1_die : ByteArray := prog_3_method_32_code
def yX1_die : MethodName := ⟨RX1, "die", "(I)I"⟩
abbrev cX1_ferries : ByteArray := prog_3_method_33_code
def yX1_ferries : MethodName := ⟨RX1, "ferries", "()I"⟩
abbrev cX1_toll : ByteArray := prog_3_method_34_code
def yX1_toll : MethodName := ⟨RX1, "toll", "(I)I"⟩
abbrev cX1_carried : ByteArray := prog_3_method_35_code
def yX1_carried : MethodName := ⟨RX1, "carried", "(I)I"⟩
abbrev cX1_shares : ByteArray := prog_3_method_36_code
def yX1_shares : MethodName := ⟨RX1, "shares", "(III)I"⟩
abbrev cX1_crownShares : ByteArray := prog_3_method_37_code
def yX1_crownShares : MethodName := ⟨RX1, "crownShares", "(II)I"⟩
abbrev cX1_owners : ByteArray := prog_3_method_38_code
def yX1_owners : MethodName := ⟨RX1, "owners", "(II)I"⟩
abbrev cX1_holder : ByteArray := prog_3_method_39_code
def yX1_holder : MethodName := ⟨RX1, "holder", "(II)I"⟩
abbrev cX1_master : ByteArray := prog_3_method_40_code
def yX1_master : MethodName := ⟨RX1, "master", "(I)I"⟩
abbrev cX1_hasMaster : ByteArray := prog_3_method_41_code
def yX1_hasMaster : MethodName := ⟨RX1, "hasMaster", "(I)Z"⟩
abbrev cX1_shareValue : ByteArray := prog_3_method_42_code
def yX1_shareValue : MethodName := ⟨RX1, "shareValue", "(II)I"⟩
abbrev cX1_watchAt : ByteArray := prog_3_method_43_code
def yX1_watchAt : MethodName := ⟨RX1, "watchAt", "(I)I"⟩
abbrev cX1_people : ByteArray := prog_3_method_44_code
def yX1_people : MethodName := ⟨RX1, "people", "()I"⟩
abbrev cX1_alive : ByteArray := prog_3_method_45_code
def yX1_alive : MethodName := ⟨RX1, "alive", "()I"⟩
abbrev cX1_living : ByteArray := prog_3_method_46_code
def yX1_living : MethodName := ⟨RX1, "living", "()I"⟩
abbrev cX1_isAlive : ByteArray := prog_3_method_47_code
def yX1_isAlive : MethodName := ⟨RX1, "isAlive", "(I)Z"⟩
abbrev cX1_coins : ByteArray := prog_3_method_48_code
def yX1_coins : MethodName := ⟨RX1, "coins", "(I)I"⟩
abbrev cX1_earned : ByteArray := prog_3_method_49_code
def yX1_earned : MethodName := ⟨RX1, "earned", "(I)I"⟩
abbrev cX1_allOf : ByteArray := prog_3_method_50_code
def yX1_allOf : MethodName := ⟨RX1, "allOf", "(I)I"⟩
abbrev cX1_allShares : ByteArray := prog_3_method_51_code
def yX1_allShares : MethodName := ⟨RX1, "allShares", "(I)I"⟩
abbrev cX1_hasParent : ByteArray := prog_3_method_52_code
def yX1_hasParent : MethodName := ⟨RX1, "hasParent", "(I)Z"⟩
abbrev cX1_parent : ByteArray := prog_3_method_53_code
def yX1_parent : MethodName := ⟨RX1, "parent", "(I)I"⟩
abbrev cX1_childrenOf : ByteArray := prog_3_method_54_code
def yX1_childrenOf : MethodName := ⟨RX1, "childrenOf", "(I)I"⟩
abbrev cX1_children : ByteArray := prog_3_method_55_code
def yX1_children : MethodName := ⟨RX1, "children", "(I)I"⟩
abbrev cX1_heirsOf : ByteArray := prog_3_method_56_code
def yX1_heirsOf : MethodName := ⟨RX1, "heirsOf", "(I)I"⟩
abbrev cX1_heirs : ByteArray := prog_3_method_57_code
def yX1_heirs : MethodName := ⟨RX1, "heirs", "(I)I"⟩
abbrev cX1_heir : ByteArray := prog_3_method_58_code
def yX1_heir : MethodName := ⟨RX1, "heir", "(II)I"⟩
abbrev cX1_crownCoins : ByteArray := prog_3_method_59_code
def yX1_crownCoins : MethodName := ⟨RX1, "crownCoins", "()I"⟩
abbrev cX1_price : ByteArray := prog_3_method_60_code
def yX1_price : MethodName := ⟨RX1, "price", "(III)I"⟩
abbrev cX1_canBuy : ByteArray := prog_3_method_61_code
def yX1_canBuy : MethodName := ⟨RX1, "canBuy", "(IIII)Z"⟩
abbrev cX1_inheritance : ByteArray := prog_3_method_62_code
def yX1_inheritance : MethodName := ⟨RX1, "inheritance", "(IIII)I"⟩
abbrev cX1_fare : ByteArray := prog_3_method_63_code
def yX1_fare : MethodName := ⟨RX1, "fare", "(IIII)I"⟩
abbrev cX1_richest : ByteArray := prog_3_method_64_code
def yX1_richest : MethodName := ⟨RX1, "richest", "()I"⟩
abbrev cX1_meanCoins : ByteArray := prog_3_method_65_code
def yX1_meanCoins : MethodName := ⟨RX1, "meanCoins", "()D"⟩
abbrev cX1_digest : ByteArray := prog_3_method_66_code
def yX1_digest : MethodName := ⟨RX1, "digest", "()J"⟩
def RJ9 : String := "java/lang/Math"
def TJ9 : u_T := fun k => match k with
  | _ => ("", "", "", false)
def tyJ9 : Nat → FieldType := fun k => match k with
  | _ => .int
abbrev wsJ90 : List Cond := u_ws RJ9 TJ9 0
theorem nmJ9 : ∀ a, a < 0 → ∀ b, b < 0 → a ≠ b → (TJ9 a).2.1 ≠ (TJ9 b).2.1 := by decide +kernel
theorem tyJ9_ok : ∀ k, k < 0 → parseFieldDescriptor (TJ9 k).2.2.1 = some (tyJ9 k) := by decide +kernel
abbrev cJ9_min_7cf53 : ByteArray := prog_8_method_69_code
def yJ9_min_7cf53 : MethodName := ⟨RJ9, "min", "(II)I"⟩
def RJ0 : String := "java/lang/String"
def TJ0 : u_T := fun k => match k with
  | _ => ("", "", "", false)
def tyJ0 : Nat → FieldType := fun k => match k with
  | _ => .int
abbrev wsJ00 : List Cond := u_ws RJ0 TJ0 0
theorem nmJ0 : ∀ a, a < 0 → ∀ b, b < 0 → a ≠ b → (TJ0 a).2.1 ≠ (TJ0 b).2.1 := by decide +kernel
theorem tyJ0_ok : ∀ k, k < 0 → parseFieldDescriptor (TJ0 k).2.2.1 = some (tyJ0 k) := by decide +kernel
def RL : String := "FerryRightsLaw"
abbrev cL_addFerry : ByteArray := method_3_code
def yL_addFerry : MethodName := ⟨RL, "addFerry", "(LFerryRights;I[J)I"⟩
abbrev cL_addPerson : ByteArray := method_4_code
def yL_addPerson : MethodName := ⟨RL, "addPerson", "(LFerryRights;[J)I"⟩
abbrev cL_addChild : ByteArray := method_5_code
def yL_addChild : MethodName := ⟨RL, "addChild", "(LFerryRights;I[J)I"⟩
abbrev cL_pay : ByteArray := method_6_code
def yL_pay : MethodName := ⟨RL, "pay", "(LFerryRights;II[J)I"⟩
abbrev cL_grant : ByteArray := method_7_code
def yL_grant : MethodName := ⟨RL, "grant", "(LFerryRights;IIII[J)I"⟩
abbrev cL_give : ByteArray := method_8_code
def yL_give : MethodName := ⟨RL, "give", "(LFerryRights;IIIII[J)I"⟩
abbrev cL_buy : ByteArray := method_9_code
def yL_buy : MethodName := ⟨RL, "buy", "(LFerryRights;IIII[J)I"⟩
abbrev cL_setToll : ByteArray := method_10_code
def yL_setToll : MethodName := ⟨RL, "setToll", "(LFerryRights;III[J)I"⟩
abbrev cL_carry : ByteArray := method_11_code
def yL_carry : MethodName := ⟨RL, "carry", "(LFerryRights;III[J)I"⟩
abbrev cL_die : ByteArray := method_12_code
def yL_die : MethodName := ⟨RL, "die", "(LFerryRights;I[J)I"⟩
abbrev cL_toll : ByteArray := method_13_code
def yL_toll : MethodName := ⟨RL, "toll", "(LFerryRights;I[J)I"⟩
abbrev cL_carried : ByteArray := method_14_code
def yL_carried : MethodName := ⟨RL, "carried", "(LFerryRights;I[J)I"⟩
abbrev cL_shares : ByteArray := method_15_code
def yL_shares : MethodName := ⟨RL, "shares", "(LFerryRights;III[J)I"⟩
abbrev cL_crownShares : ByteArray := method_16_code
def yL_crownShares : MethodName := ⟨RL, "crownShares", "(LFerryRights;II[J)I"⟩
abbrev cL_owners : ByteArray := method_17_code
def yL_owners : MethodName := ⟨RL, "owners", "(LFerryRights;II[J)I"⟩
abbrev cL_holder : ByteArray := method_18_code
def yL_holder : MethodName := ⟨RL, "holder", "(LFerryRights;II[J)I"⟩
abbrev cL_master : ByteArray := method_19_code
def yL_master : MethodName := ⟨RL, "master", "(LFerryRights;I[J)I"⟩
abbrev cL_hasMaster : ByteArray := method_20_code
def yL_hasMaster : MethodName := ⟨RL, "hasMaster", "(LFerryRights;I[J)I"⟩
abbrev cL_shareValue : ByteArray := method_21_code
def yL_shareValue : MethodName := ⟨RL, "shareValue", "(LFerryRights;II[J)I"⟩
abbrev cL_watchAt : ByteArray := method_22_code
def yL_watchAt : MethodName := ⟨RL, "watchAt", "(LFerryRights;I[J)I"⟩
abbrev cL_isAlive : ByteArray := method_23_code
def yL_isAlive : MethodName := ⟨RL, "isAlive", "(LFerryRights;I[J)I"⟩
abbrev cL_coins : ByteArray := method_24_code
def yL_coins : MethodName := ⟨RL, "coins", "(LFerryRights;I[J)I"⟩
abbrev cL_earned : ByteArray := method_25_code
def yL_earned : MethodName := ⟨RL, "earned", "(LFerryRights;I[J)I"⟩
abbrev cL_allShares : ByteArray := method_26_code
def yL_allShares : MethodName := ⟨RL, "allShares", "(LFerryRights;I[J)I"⟩
abbrev cL_hasParent : ByteArray := method_27_code
def yL_hasParent : MethodName := ⟨RL, "hasParent", "(LFerryRights;I[J)I"⟩
abbrev cL_parent : ByteArray := method_28_code
def yL_parent : MethodName := ⟨RL, "parent", "(LFerryRights;I[J)I"⟩
abbrev cL_children : ByteArray := method_29_code
def yL_children : MethodName := ⟨RL, "children", "(LFerryRights;I[J)I"⟩
abbrev cL_heirs : ByteArray := method_30_code
def yL_heirs : MethodName := ⟨RL, "heirs", "(LFerryRights;I[J)I"⟩
abbrev cL_heir : ByteArray := method_31_code
def yL_heir : MethodName := ⟨RL, "heir", "(LFerryRights;II[J)I"⟩
abbrev cL_price : ByteArray := method_32_code
def yL_price : MethodName := ⟨RL, "price", "(LFerryRights;III[J)I"⟩
abbrev cL_canBuy : ByteArray := method_33_code
def yL_canBuy : MethodName := ⟨RL, "canBuy", "(LFerryRights;IIII[J)I"⟩
abbrev cL_inheritance : ByteArray := method_34_code
def yL_inheritance : MethodName := ⟨RL, "inheritance", "(LFerryRights;IIII[J)I"⟩
abbrev cL_fare : ByteArray := method_35_code
def yL_fare : MethodName := ⟨RL, "fare", "(LFerryRights;IIII[J)I"⟩
abbrev cL_richest : ByteArray := method_36_code
def yL_richest : MethodName := ⟨RL, "richest", "(LFerryRights;[J)I"⟩
abbrev cL_law : ByteArray := code
def yL_law : MethodName := ⟨RL, "law", "([I)Z"⟩
def wsX0_init : List Cond := .code yX0_init cX0_init 1 none :: ([.methodLink RX0 3 objectInit, .instanceMethod objectInit, .code objectInit ⟨#[0xb1]⟩ 1 none, .fieldLink RX0 9 "FerryRights" "ferryCount" "I", .arrayClass .int, .fieldLink RX0 13 "FerryRights" "tolls" "[I", .fieldLink RX0 17 "FerryRights" "passengersCarried" "[I", .fieldLink RX0 20 "FerryRights" "sharesOwned" "[I", .fieldLink RX0 23 "FerryRights" "personCount" "I", .arrayClass .boolean, .fieldLink RX0 26 "FerryRights" "alive" "[Z", .fieldLink RX0 30 "FerryRights" "purses" "[I", .fieldLink RX0 33 "FerryRights" "fares" "[I", .fieldLink RX0 36 "FerryRights" "parents" "[I", .fieldLink RX0 39 "FerryRights" "crownPurse" "I"] ++ wsX00)
def wsX0_needToll : List Cond := .code yX0_needToll cX0_needToll 1 none :: ([.classLink RX0 66 "java/lang/IllegalArgumentException", .initialized "java/lang/IllegalArgumentException"] ++ (vx_atS RX0 70 "java/lang/IllegalArgumentException" ["java/lang/RuntimeException", "java/lang/Exception"]).filter goodWord)
def wsX0_addFerry : List Cond := .code yX0_addFerry cX0_addFerry 3 (some .int) :: ([.classLink RX0 46 "java/lang/IllegalStateException", .initialized "java/lang/IllegalStateException", .fieldLink RX0 9 "FerryRights" "ferryCount" "I", .fieldLink RX0 13 "FerryRights" "tolls" "[I", .methodLink RX0 42 yX0_needToll, .static yX0_needToll, .initialized RX0, .code yX0_needToll cX0_needToll 1 none, .classLink RX0 66 "java/lang/IllegalArgumentException", .initialized "java/lang/IllegalArgumentException"] ++ wsX00 ++ (vx_atS RX0 50 "java/lang/IllegalStateException" ["java/lang/RuntimeException", "java/lang/Exception"]).filter goodWord ++ (vx_atS RX0 70 "java/lang/IllegalArgumentException" ["java/lang/RuntimeException", "java/lang/Exception"]).filter goodWord)
def wsX0_needRoomForPerson : List Cond := .code yX0_needRoomForPerson cX0_needRoomForPerson 1 none :: ([.classLink RX0 46 "java/lang/IllegalStateException", .initialized "java/lang/IllegalStateException", .fieldLink RX0 23 "FerryRights" "personCount" "I"] ++ wsX00 ++ (vx_atS RX0 50 "java/lang/IllegalStateException" ["java/lang/RuntimeException", "java/lang/Exception"]).filter goodWord)
def wsX0_settle : List Cond := .code yX0_settle cX0_settle 3 (some .int) :: ([.fieldLink RX0 23 "FerryRights" "personCount" "I", .fieldLink RX0 26 "FerryRights" "alive" "[Z", .fieldLink RX0 36 "FerryRights" "parents" "[I"] ++ wsX00)
def wsX0_addPerson : List Cond := .code yX0_addPerson cX0_addPerson 1 (some .int) :: ([.methodLink RX0 53 yX0_needRoomForPerson, .instanceMethod yX0_needRoomForPerson, .selects RX0 yX0_needRoomForPerson yX0_needRoomForPerson, .initialized RX0, .code yX0_needRoomForPerson cX0_needRoomForPerson 1 none, .classLink RX0 46 "java/lang/IllegalStateException", .initialized "java/lang/IllegalStateException", .fieldLink RX0 23 "FerryRights" "personCount" "I", .methodLink RX0 56 yX0_settle, .instanceMethod yX0_settle, .selects RX0 yX0_settle yX0_settle, .code yX0_settle cX0_settle 3 (some .int), .fieldLink RX0 26 "FerryRights" "alive" "[Z", .fieldLink RX0 36 "FerryRights" "parents" "[I"] ++ wsX00 ++ (vx_atS RX0 50 "java/lang/IllegalStateException" ["java/lang/RuntimeException", "java/lang/Exception"]).filter goodWord)
def wsX0_needPerson : List Cond := .code yX0_needPerson cX0_needPerson 2 none :: ([.classLink RX0 160 "java/lang/IndexOutOfBoundsException", .initialized "java/lang/IndexOutOfBoundsException", .fieldLink RX0 23 "FerryRights" "personCount" "I"] ++ wsX00 ++ (vx_atS RX0 164 "java/lang/IndexOutOfBoundsException" ["java/lang/RuntimeException", "java/lang/Exception"]).filter goodWord)
def wsX0_needAlive : List Cond := .code yX0_needAlive cX0_needAlive 2 none :: ([.classLink RX0 46 "java/lang/IllegalStateException", .initialized "java/lang/IllegalStateException", .fieldLink RX0 26 "FerryRights" "alive" "[Z"] ++ wsX00 ++ (vx_atS RX0 50 "java/lang/IllegalStateException" ["java/lang/RuntimeException", "java/lang/Exception"]).filter goodWord)
def wsX0_addChild : List Cond := .code yX0_addChild cX0_addChild 2 (some .int) :: ([.methodLink RX0 60 yX0_needPerson, .instanceMethod yX0_needPerson, .selects RX0 yX0_needPerson yX0_needPerson, .initialized RX0, .code yX0_needPerson cX0_needPerson 2 none, .classLink RX0 160 "java/lang/IndexOutOfBoundsException", .initialized "java/lang/IndexOutOfBoundsException", .fieldLink RX0 23 "FerryRights" "personCount" "I", .methodLink RX0 63 yX0_needAlive, .instanceMethod yX0_needAlive, .selects RX0 yX0_needAlive yX0_needAlive, .code yX0_needAlive cX0_needAlive 2 none, .classLink RX0 46 "java/lang/IllegalStateException", .initialized "java/lang/IllegalStateException", .fieldLink RX0 26 "FerryRights" "alive" "[Z", .methodLink RX0 53 yX0_needRoomForPerson, .instanceMethod yX0_needRoomForPerson, .selects RX0 yX0_needRoomForPerson yX0_needRoomForPerson, .code yX0_needRoomForPerson cX0_needRoomForPerson 1 none, .methodLink RX0 56 yX0_settle, .instanceMethod yX0_settle, .selects RX0 yX0_settle yX0_settle, .code yX0_settle cX0_settle 3 (some .int), .fieldLink RX0 36 "FerryRights" "parents" "[I"] ++ wsX00 ++ (vx_atS RX0 164 "java/lang/IndexOutOfBoundsException" ["java/lang/RuntimeException", "java/lang/Exception"]).filter goodWord ++ (vx_atS RX0 50 "java/lang/IllegalStateException" ["java/lang/RuntimeException", "java/lang/Exception"]).filter goodWord)
def wsX0_addCoins : List Cond := .code yX0_addCoins cX0_addCoins 3 none :: ([.fieldLink RX0 30 "FerryRights" "purses" "[I", .methodLink RX0 208 Lib.Math.min.name, .static Lib.Math.min.name, .initialized "java/lang/Math", .code Lib.Math.min.name Lib.Math.min.code 2 (some .int)] ++ wsX00)
def wsX0_pay_r1 : List Cond := [Cond.classLink RX0 66 "java/lang/IllegalArgumentException", Cond.initialized "java/lang/IllegalArgumentException", Cond.fieldLink RX0 30 "FerryRights" "purses" "[I", Cond.methodLink RX0 60 yX0_needPerson, Cond.instanceMethod yX0_needPerson, Cond.selects RX0 yX0_needPerson yX0_needPerson, Cond.initialized RX0, Cond.code yX0_needPerson cX0_needPerson 2 none, Cond.classLink RX0 160 "java/lang/IndexOutOfBoundsException", Cond.initialized "java/lang/IndexOutOfBoundsException", Cond.fieldLink RX0 23 "FerryRights" "personCount" "I", Cond.methodLink RX0 63 yX0_needAlive, Cond.instanceMethod yX0_needAlive, Cond.selects RX0 yX0_needAlive yX0_needAlive, Cond.code yX0_needAlive cX0_needAlive 2 none, Cond.classLink RX0 46 "java/lang/IllegalStateException", Cond.initialized "java/lang/IllegalStateException", Cond.fieldLink RX0 26 "FerryRights" "alive" "[Z", Cond.methodLink RX0 71 yX0_addCoins, Cond.instanceMethod yX0_addCoins, Cond.selects RX0 yX0_addCoins yX0_addCoins, Cond.code yX0_addCoins cX0_addCoins 3 none, Cond.methodLink RX0 208 Lib.Math.min.name, Cond.static Lib.Math.min.name]
def wsX0_pay_r2 : List Cond := [Cond.initialized "java/lang/Math", Cond.code Lib.Math.min.name Lib.Math.min.code 2 (some .int)]
def wsX0_pay : List Cond := .code yX0_pay cX0_pay 3 (some .int) :: ((wsX0_pay_r1 ++ wsX0_pay_r2) ++ wsX00 ++ (vx_atS RX0 70 "java/lang/IllegalArgumentException" ["java/lang/RuntimeException", "java/lang/Exception"]).filter goodWord ++ (vx_atS RX0 164 "java/lang/IndexOutOfBoundsException" ["java/lang/RuntimeException", "java/lang/Exception"]).filter goodWord ++ (vx_atS RX0 50 "java/lang/IllegalStateException" ["java/lang/RuntimeException", "java/lang/Exception"]).filter goodWord)
def wsX0_needFerry : List Cond := .code yX0_needFerry cX0_needFerry 2 none :: ([.classLink RX0 160 "java/lang/IndexOutOfBoundsException", .initialized "java/lang/IndexOutOfBoundsException", .fieldLink RX0 9 "FerryRights" "ferryCount" "I"] ++ wsX00 ++ (vx_atS RX0 164 "java/lang/IndexOutOfBoundsException" ["java/lang/RuntimeException", "java/lang/Exception"]).filter goodWord)
def wsX0_needWatch : List Cond := .code yX0_needWatch cX0_needWatch 1 none :: ([.classLink RX0 160 "java/lang/IndexOutOfBoundsException", .initialized "java/lang/IndexOutOfBoundsException"] ++ (vx_atS RX0 164 "java/lang/IndexOutOfBoundsException" ["java/lang/RuntimeException", "java/lang/Exception"]).filter goodWord)
def wsX0_needShares : List Cond := .code yX0_needShares cX0_needShares 1 none :: ([.classLink RX0 66 "java/lang/IllegalArgumentException", .initialized "java/lang/IllegalArgumentException"] ++ (vx_atS RX0 70 "java/lang/IllegalArgumentException" ["java/lang/RuntimeException", "java/lang/Exception"]).filter goodWord)
def wsX0_slot : List Cond := .code yX0_slot cX0_slot 3 (some .int) :: ([])
def wsX0_owns : List Cond := .code yX0_owns cX0_owns 4 (some .int) :: ([.fieldLink RX0 20 "FerryRights" "sharesOwned" "[I", .methodLink RX0 213 yX0_slot, .static yX0_slot, .initialized RX0, .code yX0_slot cX0_slot 3 (some .int)] ++ wsX00)
def wsX0_crownOwns : List Cond := .code yX0_crownOwns cX0_crownOwns 5 (some .int) :: ([.fieldLink RX0 23 "FerryRights" "personCount" "I", .methodLink RX0 96 yX0_owns, .instanceMethod yX0_owns, .selects RX0 yX0_owns yX0_owns, .initialized RX0, .code yX0_owns cX0_owns 4 (some .int), .fieldLink RX0 20 "FerryRights" "sharesOwned" "[I", .methodLink RX0 213 yX0_slot, .static yX0_slot, .code yX0_slot cX0_slot 3 (some .int)] ++ wsX00)
def wsX0_addShares : List Cond := .code yX0_addShares cX0_addShares 5 none :: ([.fieldLink RX0 20 "FerryRights" "sharesOwned" "[I", .methodLink RX0 213 yX0_slot, .static yX0_slot, .initialized RX0, .code yX0_slot cX0_slot 3 (some .int)] ++ wsX00)
def wsX0_grant_r1 : List Cond := [Cond.classLink RX0 46 "java/lang/IllegalStateException", Cond.initialized "java/lang/IllegalStateException", Cond.methodLink RX0 75 yX0_needFerry, Cond.instanceMethod yX0_needFerry, Cond.selects RX0 yX0_needFerry yX0_needFerry, Cond.initialized RX0, Cond.code yX0_needFerry cX0_needFerry 2 none, Cond.classLink RX0 160 "java/lang/IndexOutOfBoundsException", Cond.initialized "java/lang/IndexOutOfBoundsException", Cond.fieldLink RX0 9 "FerryRights" "ferryCount" "I", Cond.methodLink RX0 78 yX0_needWatch, Cond.static yX0_needWatch, Cond.code yX0_needWatch cX0_needWatch 1 none, Cond.methodLink RX0 60 yX0_needPerson, Cond.instanceMethod yX0_needPerson, Cond.selects RX0 yX0_needPerson yX0_needPerson, Cond.code yX0_needPerson cX0_needPerson 2 none, Cond.fieldLink RX0 23 "FerryRights" "personCount" "I", Cond.methodLink RX0 81 yX0_needShares, Cond.static yX0_needShares, Cond.code yX0_needShares cX0_needShares 1 none, Cond.classLink RX0 66 "java/lang/IllegalArgumentException", Cond.initialized "java/lang/IllegalArgumentException", Cond.methodLink RX0 63 yX0_needAlive]
def wsX0_grant_r2 : List Cond := [Cond.instanceMethod yX0_needAlive, Cond.selects RX0 yX0_needAlive yX0_needAlive, Cond.code yX0_needAlive cX0_needAlive 2 none, Cond.fieldLink RX0 26 "FerryRights" "alive" "[Z", Cond.methodLink RX0 84 yX0_crownOwns, Cond.instanceMethod yX0_crownOwns, Cond.selects RX0 yX0_crownOwns yX0_crownOwns, Cond.code yX0_crownOwns cX0_crownOwns 5 (some .int), Cond.methodLink RX0 96 yX0_owns, Cond.instanceMethod yX0_owns, Cond.selects RX0 yX0_owns yX0_owns, Cond.code yX0_owns cX0_owns 4 (some .int), Cond.fieldLink RX0 20 "FerryRights" "sharesOwned" "[I", Cond.methodLink RX0 213 yX0_slot, Cond.static yX0_slot, Cond.code yX0_slot cX0_slot 3 (some .int), Cond.methodLink RX0 90 yX0_addShares, Cond.instanceMethod yX0_addShares, Cond.selects RX0 yX0_addShares yX0_addShares, Cond.code yX0_addShares cX0_addShares 5 none]
def wsX0_grant : List Cond := .code yX0_grant cX0_grant 5 (some .int) :: ((wsX0_grant_r1 ++ wsX0_grant_r2) ++ wsX00 ++ (vx_atS RX0 50 "java/lang/IllegalStateException" ["java/lang/RuntimeException", "java/lang/Exception"]).filter goodWord ++ (vx_atS RX0 164 "java/lang/IndexOutOfBoundsException" ["java/lang/RuntimeException", "java/lang/Exception"]).filter goodWord ++ (vx_atS RX0 70 "java/lang/IllegalArgumentException" ["java/lang/RuntimeException", "java/lang/Exception"]).filter goodWord)
def wsX0_give_r1 : List Cond := [Cond.classLink RX0 66 "java/lang/IllegalArgumentException", Cond.initialized "java/lang/IllegalArgumentException", Cond.classLink RX0 46 "java/lang/IllegalStateException", Cond.initialized "java/lang/IllegalStateException", Cond.methodLink RX0 60 yX0_needPerson, Cond.instanceMethod yX0_needPerson, Cond.selects RX0 yX0_needPerson yX0_needPerson, Cond.initialized RX0, Cond.code yX0_needPerson cX0_needPerson 2 none, Cond.classLink RX0 160 "java/lang/IndexOutOfBoundsException", Cond.initialized "java/lang/IndexOutOfBoundsException", Cond.fieldLink RX0 23 "FerryRights" "personCount" "I", Cond.methodLink RX0 75 yX0_needFerry, Cond.instanceMethod yX0_needFerry, Cond.selects RX0 yX0_needFerry yX0_needFerry, Cond.code yX0_needFerry cX0_needFerry 2 none, Cond.fieldLink RX0 9 "FerryRights" "ferryCount" "I", Cond.methodLink RX0 78 yX0_needWatch, Cond.static yX0_needWatch, Cond.code yX0_needWatch cX0_needWatch 1 none, Cond.methodLink RX0 81 yX0_needShares, Cond.static yX0_needShares, Cond.code yX0_needShares cX0_needShares 1 none, Cond.methodLink RX0 63 yX0_needAlive]
def wsX0_give_r2 : List Cond := [Cond.instanceMethod yX0_needAlive, Cond.selects RX0 yX0_needAlive yX0_needAlive, Cond.code yX0_needAlive cX0_needAlive 2 none, Cond.fieldLink RX0 26 "FerryRights" "alive" "[Z", Cond.methodLink RX0 96 yX0_owns, Cond.instanceMethod yX0_owns, Cond.selects RX0 yX0_owns yX0_owns, Cond.code yX0_owns cX0_owns 4 (some .int), Cond.fieldLink RX0 20 "FerryRights" "sharesOwned" "[I", Cond.methodLink RX0 213 yX0_slot, Cond.static yX0_slot, Cond.code yX0_slot cX0_slot 3 (some .int), Cond.methodLink RX0 90 yX0_addShares, Cond.instanceMethod yX0_addShares, Cond.selects RX0 yX0_addShares yX0_addShares, Cond.code yX0_addShares cX0_addShares 5 none]
def wsX0_give : List Cond := .code yX0_give cX0_give 6 (some .int) :: ((wsX0_give_r1 ++ wsX0_give_r2) ++ wsX00 ++ (vx_atS RX0 70 "java/lang/IllegalArgumentException" ["java/lang/RuntimeException", "java/lang/Exception"]).filter goodWord ++ (vx_atS RX0 50 "java/lang/IllegalStateException" ["java/lang/RuntimeException", "java/lang/Exception"]).filter goodWord ++ (vx_atS RX0 164 "java/lang/IndexOutOfBoundsException" ["java/lang/RuntimeException", "java/lang/Exception"]).filter goodWord)
def wsX0_needSale : List Cond := .code yX0_needSale cX0_needSale 5 none :: ([.methodLink RX0 60 yX0_needPerson, .instanceMethod yX0_needPerson, .selects RX0 yX0_needPerson yX0_needPerson, .initialized RX0, .code yX0_needPerson cX0_needPerson 2 none, .classLink RX0 160 "java/lang/IndexOutOfBoundsException", .initialized "java/lang/IndexOutOfBoundsException", .fieldLink RX0 23 "FerryRights" "personCount" "I", .methodLink RX0 75 yX0_needFerry, .instanceMethod yX0_needFerry, .selects RX0 yX0_needFerry yX0_needFerry, .code yX0_needFerry cX0_needFerry 2 none, .fieldLink RX0 9 "FerryRights" "ferryCount" "I", .methodLink RX0 78 yX0_needWatch, .static yX0_needWatch, .code yX0_needWatch cX0_needWatch 1 none] ++ wsX00 ++ (vx_atS RX0 164 "java/lang/IndexOutOfBoundsException" ["java/lang/RuntimeException", "java/lang/Exception"]).filter goodWord)
def wsX0_worth : List Cond := .code yX0_worth cX0_worth 3 (some .int) :: ([.fieldLink RX0 13 "FerryRights" "tolls" "[I", .fieldLink RX0 219 "FerryRights" "TRAFFIC" "[I"] ++ wsX00)
def wsX0_priceOf : List Cond := .code yX0_priceOf cX0_priceOf 4 (some .int) :: ([.methodLink RX0 96 yX0_owns, .instanceMethod yX0_owns, .selects RX0 yX0_owns yX0_owns, .initialized RX0, .code yX0_owns cX0_owns 4 (some .int), .fieldLink RX0 20 "FerryRights" "sharesOwned" "[I", .methodLink RX0 213 yX0_slot, .static yX0_slot, .code yX0_slot cX0_slot 3 (some .int), .methodLink RX0 146 yX0_worth, .instanceMethod yX0_worth, .selects RX0 yX0_worth yX0_worth, .code yX0_worth cX0_worth 3 (some .int), .fieldLink RX0 13 "FerryRights" "tolls" "[I", .fieldLink RX0 219 "FerryRights" "TRAFFIC" "[I"] ++ wsX00)
def wsX0_otherOwnerHas : List Cond := .code yX0_otherOwnerHas cX0_otherOwnerHas 6 (some .boolean) :: ([.fieldLink RX0 23 "FerryRights" "personCount" "I", .fieldLink RX0 30 "FerryRights" "purses" "[I", .methodLink RX0 96 yX0_owns, .instanceMethod yX0_owns, .selects RX0 yX0_owns yX0_owns, .initialized RX0, .code yX0_owns cX0_owns 4 (some .int), .fieldLink RX0 20 "FerryRights" "sharesOwned" "[I", .methodLink RX0 213 yX0_slot, .static yX0_slot, .code yX0_slot cX0_slot 3 (some .int)] ++ wsX00)
def wsX0_mayBuy_r1 : List Cond := [Cond.fieldLink RX0 26 "FerryRights" "alive" "[Z", Cond.fieldLink RX0 30 "FerryRights" "purses" "[I", Cond.methodLink RX0 111 yX0_priceOf, Cond.instanceMethod yX0_priceOf, Cond.selects RX0 yX0_priceOf yX0_priceOf, Cond.initialized RX0, Cond.code yX0_priceOf cX0_priceOf 4 (some .int), Cond.methodLink RX0 96 yX0_owns, Cond.instanceMethod yX0_owns, Cond.selects RX0 yX0_owns yX0_owns, Cond.code yX0_owns cX0_owns 4 (some .int), Cond.fieldLink RX0 20 "FerryRights" "sharesOwned" "[I", Cond.methodLink RX0 213 yX0_slot, Cond.static yX0_slot, Cond.code yX0_slot cX0_slot 3 (some .int), Cond.methodLink RX0 146 yX0_worth, Cond.instanceMethod yX0_worth, Cond.selects RX0 yX0_worth yX0_worth, Cond.code yX0_worth cX0_worth 3 (some .int), Cond.fieldLink RX0 13 "FerryRights" "tolls" "[I", Cond.fieldLink RX0 219 "FerryRights" "TRAFFIC" "[I", Cond.methodLink RX0 222 yX0_otherOwnerHas, Cond.instanceMethod yX0_otherOwnerHas, Cond.selects RX0 yX0_otherOwnerHas yX0_otherOwnerHas]
def wsX0_mayBuy_r2 : List Cond := [Cond.code yX0_otherOwnerHas cX0_otherOwnerHas 6 (some .boolean), Cond.fieldLink RX0 23 "FerryRights" "personCount" "I"]
def wsX0_mayBuy : List Cond := .code yX0_mayBuy cX0_mayBuy 6 (some .boolean) :: ((wsX0_mayBuy_r1 ++ wsX0_mayBuy_r2) ++ wsX00)
def wsX0_buy_r1 : List Cond := [Cond.classLink RX0 46 "java/lang/IllegalStateException", Cond.initialized "java/lang/IllegalStateException", Cond.fieldLink RX0 30 "FerryRights" "purses" "[I", Cond.methodLink RX0 102 yX0_needSale, Cond.instanceMethod yX0_needSale, Cond.selects RX0 yX0_needSale yX0_needSale, Cond.initialized RX0, Cond.code yX0_needSale cX0_needSale 5 none, Cond.methodLink RX0 60 yX0_needPerson, Cond.instanceMethod yX0_needPerson, Cond.selects RX0 yX0_needPerson yX0_needPerson, Cond.code yX0_needPerson cX0_needPerson 2 none, Cond.classLink RX0 160 "java/lang/IndexOutOfBoundsException", Cond.initialized "java/lang/IndexOutOfBoundsException", Cond.fieldLink RX0 23 "FerryRights" "personCount" "I", Cond.methodLink RX0 75 yX0_needFerry, Cond.instanceMethod yX0_needFerry, Cond.selects RX0 yX0_needFerry yX0_needFerry, Cond.code yX0_needFerry cX0_needFerry 2 none, Cond.fieldLink RX0 9 "FerryRights" "ferryCount" "I", Cond.methodLink RX0 78 yX0_needWatch, Cond.static yX0_needWatch, Cond.code yX0_needWatch cX0_needWatch 1 none, Cond.methodLink RX0 105 yX0_mayBuy]
def wsX0_buy_r2 : List Cond := [Cond.instanceMethod yX0_mayBuy, Cond.selects RX0 yX0_mayBuy yX0_mayBuy, Cond.code yX0_mayBuy cX0_mayBuy 6 (some .boolean), Cond.fieldLink RX0 26 "FerryRights" "alive" "[Z", Cond.methodLink RX0 111 yX0_priceOf, Cond.instanceMethod yX0_priceOf, Cond.selects RX0 yX0_priceOf yX0_priceOf, Cond.code yX0_priceOf cX0_priceOf 4 (some .int), Cond.methodLink RX0 96 yX0_owns, Cond.instanceMethod yX0_owns, Cond.selects RX0 yX0_owns yX0_owns, Cond.code yX0_owns cX0_owns 4 (some .int), Cond.fieldLink RX0 20 "FerryRights" "sharesOwned" "[I", Cond.methodLink RX0 213 yX0_slot, Cond.static yX0_slot, Cond.code yX0_slot cX0_slot 3 (some .int), Cond.methodLink RX0 146 yX0_worth, Cond.instanceMethod yX0_worth, Cond.selects RX0 yX0_worth yX0_worth, Cond.code yX0_worth cX0_worth 3 (some .int), Cond.fieldLink RX0 13 "FerryRights" "tolls" "[I", Cond.fieldLink RX0 219 "FerryRights" "TRAFFIC" "[I", Cond.methodLink RX0 222 yX0_otherOwnerHas, Cond.instanceMethod yX0_otherOwnerHas]
def wsX0_buy_r3 : List Cond := [Cond.selects RX0 yX0_otherOwnerHas yX0_otherOwnerHas, Cond.code yX0_otherOwnerHas cX0_otherOwnerHas 6 (some .boolean), Cond.methodLink RX0 71 yX0_addCoins, Cond.instanceMethod yX0_addCoins, Cond.selects RX0 yX0_addCoins yX0_addCoins, Cond.code yX0_addCoins cX0_addCoins 3 none, Cond.methodLink RX0 208 Lib.Math.min.name, Cond.static Lib.Math.min.name, Cond.initialized "java/lang/Math", Cond.code Lib.Math.min.name Lib.Math.min.code 2 (some .int), Cond.methodLink RX0 90 yX0_addShares, Cond.instanceMethod yX0_addShares, Cond.selects RX0 yX0_addShares yX0_addShares, Cond.code yX0_addShares cX0_addShares 5 none]
def wsX0_buy : List Cond := .code yX0_buy cX0_buy 7 (some .int) :: ((wsX0_buy_r1 ++ (wsX0_buy_r2 ++ wsX0_buy_r3)) ++ wsX00 ++ (vx_atS RX0 50 "java/lang/IllegalStateException" ["java/lang/RuntimeException", "java/lang/Exception"]).filter goodWord ++ (vx_atS RX0 164 "java/lang/IndexOutOfBoundsException" ["java/lang/RuntimeException", "java/lang/Exception"]).filter goodWord)
def wsX0_countSharesOfFerry : List Cond := .code yX0_countSharesOfFerry cX0_countSharesOfFerry 5 (some .int) :: ([.methodLink RX0 96 yX0_owns, .instanceMethod yX0_owns, .selects RX0 yX0_owns yX0_owns, .initialized RX0, .code yX0_owns cX0_owns 4 (some .int), .fieldLink RX0 20 "FerryRights" "sharesOwned" "[I", .methodLink RX0 213 yX0_slot, .static yX0_slot, .code yX0_slot cX0_slot 3 (some .int)] ++ wsX00)
def wsX0_findMaster : List Cond := .code yX0_findMaster cX0_findMaster 3 (some .int) :: ([.fieldLink RX0 23 "FerryRights" "personCount" "I", .methodLink RX0 216 yX0_countSharesOfFerry, .instanceMethod yX0_countSharesOfFerry, .selects RX0 yX0_countSharesOfFerry yX0_countSharesOfFerry, .initialized RX0, .code yX0_countSharesOfFerry cX0_countSharesOfFerry 5 (some .int), .methodLink RX0 96 yX0_owns, .instanceMethod yX0_owns, .selects RX0 yX0_owns yX0_owns, .code yX0_owns cX0_owns 4 (some .int), .fieldLink RX0 20 "FerryRights" "sharesOwned" "[I", .methodLink RX0 213 yX0_slot, .static yX0_slot, .code yX0_slot cX0_slot 3 (some .int)] ++ wsX00)
def wsX0_setToll_r1 : List Cond := [Cond.classLink RX0 46 "java/lang/IllegalStateException", Cond.initialized "java/lang/IllegalStateException", Cond.fieldLink RX0 13 "FerryRights" "tolls" "[I", Cond.methodLink RX0 75 yX0_needFerry, Cond.instanceMethod yX0_needFerry, Cond.selects RX0 yX0_needFerry yX0_needFerry, Cond.initialized RX0, Cond.code yX0_needFerry cX0_needFerry 2 none, Cond.classLink RX0 160 "java/lang/IndexOutOfBoundsException", Cond.initialized "java/lang/IndexOutOfBoundsException", Cond.fieldLink RX0 9 "FerryRights" "ferryCount" "I", Cond.methodLink RX0 60 yX0_needPerson, Cond.instanceMethod yX0_needPerson, Cond.selects RX0 yX0_needPerson yX0_needPerson, Cond.code yX0_needPerson cX0_needPerson 2 none, Cond.fieldLink RX0 23 "FerryRights" "personCount" "I", Cond.methodLink RX0 42 yX0_needToll, Cond.static yX0_needToll, Cond.code yX0_needToll cX0_needToll 1 none, Cond.classLink RX0 66 "java/lang/IllegalArgumentException", Cond.initialized "java/lang/IllegalArgumentException", Cond.methodLink RX0 114 yX0_findMaster, Cond.instanceMethod yX0_findMaster, Cond.selects RX0 yX0_findMaster yX0_findMaster]
def wsX0_setToll_r2 : List Cond := [Cond.code yX0_findMaster cX0_findMaster 3 (some .int), Cond.methodLink RX0 216 yX0_countSharesOfFerry, Cond.instanceMethod yX0_countSharesOfFerry, Cond.selects RX0 yX0_countSharesOfFerry yX0_countSharesOfFerry, Cond.code yX0_countSharesOfFerry cX0_countSharesOfFerry 5 (some .int), Cond.methodLink RX0 96 yX0_owns, Cond.instanceMethod yX0_owns, Cond.selects RX0 yX0_owns yX0_owns, Cond.code yX0_owns cX0_owns 4 (some .int), Cond.fieldLink RX0 20 "FerryRights" "sharesOwned" "[I", Cond.methodLink RX0 213 yX0_slot, Cond.static yX0_slot, Cond.code yX0_slot cX0_slot 3 (some .int)]
def wsX0_setToll : List Cond := .code yX0_setToll cX0_setToll 5 (some .int) :: ((wsX0_setToll_r1 ++ wsX0_setToll_r2) ++ wsX00 ++ (vx_atS RX0 50 "java/lang/IllegalStateException" ["java/lang/RuntimeException", "java/lang/Exception"]).filter goodWord ++ (vx_atS RX0 164 "java/lang/IndexOutOfBoundsException" ["java/lang/RuntimeException", "java/lang/Exception"]).filter goodWord ++ (vx_atS RX0 70 "java/lang/IllegalArgumentException" ["java/lang/RuntimeException", "java/lang/Exception"]).filter goodWord)
def wsX0_needHour : List Cond := .code yX0_needHour cX0_needHour 1 none :: ([.classLink RX0 160 "java/lang/IndexOutOfBoundsException", .initialized "java/lang/IndexOutOfBoundsException"] ++ (vx_atS RX0 164 "java/lang/IndexOutOfBoundsException" ["java/lang/RuntimeException", "java/lang/Exception"]).filter goodWord)
def wsX0_needPassengers : List Cond := .code yX0_needPassengers cX0_needPassengers 1 none :: ([.classLink RX0 66 "java/lang/IllegalArgumentException", .initialized "java/lang/IllegalArgumentException"] ++ (vx_atS RX0 70 "java/lang/IllegalArgumentException" ["java/lang/RuntimeException", "java/lang/Exception"]).filter goodWord)
def wsX0_fareOf : List Cond := .code yX0_fareOf cX0_fareOf 5 (some .int) :: ([.fieldLink RX0 13 "FerryRights" "tolls" "[I", .methodLink RX0 96 yX0_owns, .instanceMethod yX0_owns, .selects RX0 yX0_owns yX0_owns, .initialized RX0, .code yX0_owns cX0_owns 4 (some .int), .fieldLink RX0 20 "FerryRights" "sharesOwned" "[I", .methodLink RX0 213 yX0_slot, .static yX0_slot, .code yX0_slot cX0_slot 3 (some .int)] ++ wsX00)
def wsX0_carry_r1 : List Cond := [Cond.fieldLink RX0 13 "FerryRights" "tolls" "[I", Cond.fieldLink RX0 23 "FerryRights" "personCount" "I", Cond.fieldLink RX0 33 "FerryRights" "fares" "[I", Cond.fieldLink RX0 39 "FerryRights" "crownPurse" "I", Cond.fieldLink RX0 17 "FerryRights" "passengersCarried" "[I", Cond.methodLink RX0 75 yX0_needFerry, Cond.instanceMethod yX0_needFerry, Cond.selects RX0 yX0_needFerry yX0_needFerry, Cond.initialized RX0, Cond.code yX0_needFerry cX0_needFerry 2 none, Cond.classLink RX0 160 "java/lang/IndexOutOfBoundsException", Cond.initialized "java/lang/IndexOutOfBoundsException", Cond.fieldLink RX0 9 "FerryRights" "ferryCount" "I", Cond.methodLink RX0 119 yX0_needHour, Cond.static yX0_needHour, Cond.code yX0_needHour cX0_needHour 1 none, Cond.methodLink RX0 122 yX0_needPassengers, Cond.static yX0_needPassengers, Cond.code yX0_needPassengers cX0_needPassengers 1 none, Cond.classLink RX0 66 "java/lang/IllegalArgumentException", Cond.initialized "java/lang/IllegalArgumentException", Cond.methodLink RX0 125 yX0_fareOf, Cond.instanceMethod yX0_fareOf, Cond.selects RX0 yX0_fareOf yX0_fareOf]
def wsX0_carry_r2 : List Cond := [Cond.code yX0_fareOf cX0_fareOf 5 (some .int), Cond.methodLink RX0 96 yX0_owns, Cond.instanceMethod yX0_owns, Cond.selects RX0 yX0_owns yX0_owns, Cond.code yX0_owns cX0_owns 4 (some .int), Cond.fieldLink RX0 20 "FerryRights" "sharesOwned" "[I", Cond.methodLink RX0 213 yX0_slot, Cond.static yX0_slot, Cond.code yX0_slot cX0_slot 3 (some .int), Cond.methodLink RX0 71 yX0_addCoins, Cond.instanceMethod yX0_addCoins, Cond.selects RX0 yX0_addCoins yX0_addCoins, Cond.code yX0_addCoins cX0_addCoins 3 none, Cond.fieldLink RX0 30 "FerryRights" "purses" "[I", Cond.methodLink RX0 208 Lib.Math.min.name, Cond.static Lib.Math.min.name, Cond.initialized "java/lang/Math", Cond.code Lib.Math.min.name Lib.Math.min.code 2 (some .int)]
def wsX0_carry : List Cond := .code yX0_carry cX0_carry 8 (some .int) :: ((wsX0_carry_r1 ++ wsX0_carry_r2) ++ wsX00 ++ (vx_atS RX0 164 "java/lang/IndexOutOfBoundsException" ["java/lang/RuntimeException", "java/lang/Exception"]).filter goodWord ++ (vx_atS RX0 70 "java/lang/IllegalArgumentException" ["java/lang/RuntimeException", "java/lang/Exception"]).filter goodWord)
def wsX0_hasLivingChild : List Cond := .code yX0_hasLivingChild cX0_hasLivingChild 3 (some .boolean) :: ([.fieldLink RX0 23 "FerryRights" "personCount" "I", .fieldLink RX0 26 "FerryRights" "alive" "[Z", .fieldLink RX0 36 "FerryRights" "parents" "[I"] ++ wsX00)
def wsX0_isHeir : List Cond := .code yX0_isHeir cX0_isHeir 3 (some .boolean) :: ([.fieldLink RX0 26 "FerryRights" "alive" "[Z", .fieldLink RX0 36 "FerryRights" "parents" "[I", .methodLink RX0 225 yX0_hasLivingChild, .instanceMethod yX0_hasLivingChild, .selects RX0 yX0_hasLivingChild yX0_hasLivingChild, .initialized RX0, .code yX0_hasLivingChild cX0_hasLivingChild 3 (some .boolean), .fieldLink RX0 23 "FerryRights" "personCount" "I"] ++ wsX00)
def wsX0_countHeirsBelow : List Cond := .code yX0_countHeirsBelow cX0_countHeirsBelow 5 (some .int) :: ([.methodLink RX0 132 yX0_isHeir, .instanceMethod yX0_isHeir, .selects RX0 yX0_isHeir yX0_isHeir, .initialized RX0, .code yX0_isHeir cX0_isHeir 3 (some .boolean), .fieldLink RX0 26 "FerryRights" "alive" "[Z", .fieldLink RX0 36 "FerryRights" "parents" "[I", .methodLink RX0 225 yX0_hasLivingChild, .instanceMethod yX0_hasLivingChild, .selects RX0 yX0_hasLivingChild yX0_hasLivingChild, .code yX0_hasLivingChild cX0_hasLivingChild 3 (some .boolean), .fieldLink RX0 23 "FerryRights" "personCount" "I"] ++ wsX00)
def wsX0_countHeirs : List Cond := .code yX0_countHeirs cX0_countHeirs 2 (some .int) :: ([.fieldLink RX0 23 "FerryRights" "personCount" "I", .methodLink RX0 165 yX0_countHeirsBelow, .instanceMethod yX0_countHeirsBelow, .selects RX0 yX0_countHeirsBelow yX0_countHeirsBelow, .initialized RX0, .code yX0_countHeirsBelow cX0_countHeirsBelow 5 (some .int), .methodLink RX0 132 yX0_isHeir, .instanceMethod yX0_isHeir, .selects RX0 yX0_isHeir yX0_isHeir, .code yX0_isHeir cX0_isHeir 3 (some .boolean), .fieldLink RX0 26 "FerryRights" "alive" "[Z", .fieldLink RX0 36 "FerryRights" "parents" "[I", .methodLink RX0 225 yX0_hasLivingChild, .instanceMethod yX0_hasLivingChild, .selects RX0 yX0_hasLivingChild yX0_hasLivingChild, .code yX0_hasLivingChild cX0_hasLivingChild 3 (some .boolean)] ++ wsX00)
def wsX0_partOf : List Cond := .code yX0_partOf cX0_partOf 6 (some .int) :: ([])
def wsX0_hand_r1 : List Cond := [Cond.fieldLink RX0 9 "FerryRights" "ferryCount" "I", Cond.fieldLink RX0 30 "FerryRights" "purses" "[I", Cond.methodLink RX0 96 yX0_owns, Cond.instanceMethod yX0_owns, Cond.selects RX0 yX0_owns yX0_owns, Cond.initialized RX0, Cond.code yX0_owns cX0_owns 4 (some .int), Cond.fieldLink RX0 20 "FerryRights" "sharesOwned" "[I", Cond.methodLink RX0 213 yX0_slot, Cond.static yX0_slot, Cond.code yX0_slot cX0_slot 3 (some .int), Cond.methodLink RX0 168 yX0_partOf, Cond.static yX0_partOf, Cond.code yX0_partOf cX0_partOf 6 (some .int), Cond.methodLink RX0 90 yX0_addShares, Cond.instanceMethod yX0_addShares, Cond.selects RX0 yX0_addShares yX0_addShares, Cond.code yX0_addShares cX0_addShares 5 none, Cond.methodLink RX0 71 yX0_addCoins, Cond.instanceMethod yX0_addCoins, Cond.selects RX0 yX0_addCoins yX0_addCoins, Cond.code yX0_addCoins cX0_addCoins 3 none, Cond.methodLink RX0 208 Lib.Math.min.name, Cond.static Lib.Math.min.name]
def wsX0_hand_r2 : List Cond := [Cond.initialized "java/lang/Math", Cond.code Lib.Math.min.name Lib.Math.min.code 2 (some .int)]
def wsX0_hand : List Cond := .code yX0_hand cX0_hand 7 none :: ((wsX0_hand_r1 ++ wsX0_hand_r2) ++ wsX00)
def wsX0_bury : List Cond := .code yX0_bury cX0_bury 4 none :: ([.fieldLink RX0 9 "FerryRights" "ferryCount" "I", .fieldLink RX0 20 "FerryRights" "sharesOwned" "[I", .fieldLink RX0 30 "FerryRights" "purses" "[I", .fieldLink RX0 26 "FerryRights" "alive" "[Z", .methodLink RX0 213 yX0_slot, .static yX0_slot, .initialized RX0, .code yX0_slot cX0_slot 3 (some .int)] ++ wsX00)
def wsX0_die_r1 : List Cond := [Cond.fieldLink RX0 23 "FerryRights" "personCount" "I", Cond.fieldLink RX0 39 "FerryRights" "crownPurse" "I", Cond.fieldLink RX0 30 "FerryRights" "purses" "[I", Cond.methodLink RX0 60 yX0_needPerson, Cond.instanceMethod yX0_needPerson, Cond.selects RX0 yX0_needPerson yX0_needPerson, Cond.initialized RX0, Cond.code yX0_needPerson cX0_needPerson 2 none, Cond.classLink RX0 160 "java/lang/IndexOutOfBoundsException", Cond.initialized "java/lang/IndexOutOfBoundsException", Cond.methodLink RX0 63 yX0_needAlive, Cond.instanceMethod yX0_needAlive, Cond.selects RX0 yX0_needAlive yX0_needAlive, Cond.code yX0_needAlive cX0_needAlive 2 none, Cond.classLink RX0 46 "java/lang/IllegalStateException", Cond.initialized "java/lang/IllegalStateException", Cond.fieldLink RX0 26 "FerryRights" "alive" "[Z", Cond.methodLink RX0 129 yX0_countHeirs, Cond.instanceMethod yX0_countHeirs, Cond.selects RX0 yX0_countHeirs yX0_countHeirs, Cond.code yX0_countHeirs cX0_countHeirs 2 (some .int), Cond.methodLink RX0 165 yX0_countHeirsBelow, Cond.instanceMethod yX0_countHeirsBelow, Cond.selects RX0 yX0_countHeirsBelow yX0_countHeirsBelow]
def wsX0_die_r2 : List Cond := [Cond.code yX0_countHeirsBelow cX0_countHeirsBelow 5 (some .int), Cond.methodLink RX0 132 yX0_isHeir, Cond.instanceMethod yX0_isHeir, Cond.selects RX0 yX0_isHeir yX0_isHeir, Cond.code yX0_isHeir cX0_isHeir 3 (some .boolean), Cond.fieldLink RX0 36 "FerryRights" "parents" "[I", Cond.methodLink RX0 225 yX0_hasLivingChild, Cond.instanceMethod yX0_hasLivingChild, Cond.selects RX0 yX0_hasLivingChild yX0_hasLivingChild, Cond.code yX0_hasLivingChild cX0_hasLivingChild 3 (some .boolean), Cond.methodLink RX0 136 yX0_hand, Cond.instanceMethod yX0_hand, Cond.selects RX0 yX0_hand yX0_hand, Cond.code yX0_hand cX0_hand 7 none, Cond.fieldLink RX0 9 "FerryRights" "ferryCount" "I", Cond.methodLink RX0 96 yX0_owns, Cond.instanceMethod yX0_owns, Cond.selects RX0 yX0_owns yX0_owns, Cond.code yX0_owns cX0_owns 4 (some .int), Cond.fieldLink RX0 20 "FerryRights" "sharesOwned" "[I", Cond.methodLink RX0 213 yX0_slot, Cond.static yX0_slot, Cond.code yX0_slot cX0_slot 3 (some .int), Cond.methodLink RX0 168 yX0_partOf]
def wsX0_die_r3 : List Cond := [Cond.static yX0_partOf, Cond.code yX0_partOf cX0_partOf 6 (some .int), Cond.methodLink RX0 90 yX0_addShares, Cond.instanceMethod yX0_addShares, Cond.selects RX0 yX0_addShares yX0_addShares, Cond.code yX0_addShares cX0_addShares 5 none, Cond.methodLink RX0 71 yX0_addCoins, Cond.instanceMethod yX0_addCoins, Cond.selects RX0 yX0_addCoins yX0_addCoins, Cond.code yX0_addCoins cX0_addCoins 3 none, Cond.methodLink RX0 208 Lib.Math.min.name, Cond.static Lib.Math.min.name, Cond.initialized "java/lang/Math", Cond.code Lib.Math.min.name Lib.Math.min.code 2 (some .int), Cond.methodLink RX0 139 yX0_bury, Cond.instanceMethod yX0_bury, Cond.selects RX0 yX0_bury yX0_bury, Cond.code yX0_bury cX0_bury 4 none]
def wsX0_die : List Cond := .code yX0_die cX0_die 5 (some .int) :: ((wsX0_die_r1 ++ (wsX0_die_r2 ++ wsX0_die_r3)) ++ wsX00 ++ (vx_atS RX0 164 "java/lang/IndexOutOfBoundsException" ["java/lang/RuntimeException", "java/lang/Exception"]).filter goodWord ++ (vx_atS RX0 50 "java/lang/IllegalStateException" ["java/lang/RuntimeException", "java/lang/Exception"]).filter goodWord)
def wsX0_ferries : List Cond := .code yX0_ferries cX0_ferries 1 (some .int) :: ([.fieldLink RX0 9 "FerryRights" "ferryCount" "I"] ++ wsX00)
def wsX0_toll : List Cond := .code yX0_toll cX0_toll 2 (some .int) :: ([.fieldLink RX0 13 "FerryRights" "tolls" "[I", .methodLink RX0 75 yX0_needFerry, .instanceMethod yX0_needFerry, .selects RX0 yX0_needFerry yX0_needFerry, .initialized RX0, .code yX0_needFerry cX0_needFerry 2 none, .classLink RX0 160 "java/lang/IndexOutOfBoundsException", .initialized "java/lang/IndexOutOfBoundsException", .fieldLink RX0 9 "FerryRights" "ferryCount" "I"] ++ wsX00 ++ (vx_atS RX0 164 "java/lang/IndexOutOfBoundsException" ["java/lang/RuntimeException", "java/lang/Exception"]).filter goodWord)
def wsX0_carried : List Cond := .code yX0_carried cX0_carried 2 (some .int) :: ([.fieldLink RX0 17 "FerryRights" "passengersCarried" "[I", .methodLink RX0 75 yX0_needFerry, .instanceMethod yX0_needFerry, .selects RX0 yX0_needFerry yX0_needFerry, .initialized RX0, .code yX0_needFerry cX0_needFerry 2 none, .classLink RX0 160 "java/lang/IndexOutOfBoundsException", .initialized "java/lang/IndexOutOfBoundsException", .fieldLink RX0 9 "FerryRights" "ferryCount" "I"] ++ wsX00 ++ (vx_atS RX0 164 "java/lang/IndexOutOfBoundsException" ["java/lang/RuntimeException", "java/lang/Exception"]).filter goodWord)
def wsX0_shares : List Cond := .code yX0_shares cX0_shares 4 (some .int) :: ([.methodLink RX0 75 yX0_needFerry, .instanceMethod yX0_needFerry, .selects RX0 yX0_needFerry yX0_needFerry, .initialized RX0, .code yX0_needFerry cX0_needFerry 2 none, .classLink RX0 160 "java/lang/IndexOutOfBoundsException", .initialized "java/lang/IndexOutOfBoundsException", .fieldLink RX0 9 "FerryRights" "ferryCount" "I", .methodLink RX0 78 yX0_needWatch, .static yX0_needWatch, .code yX0_needWatch cX0_needWatch 1 none, .methodLink RX0 60 yX0_needPerson, .instanceMethod yX0_needPerson, .selects RX0 yX0_needPerson yX0_needPerson, .code yX0_needPerson cX0_needPerson 2 none, .fieldLink RX0 23 "FerryRights" "personCount" "I", .methodLink RX0 96 yX0_owns, .instanceMethod yX0_owns, .selects RX0 yX0_owns yX0_owns, .code yX0_owns cX0_owns 4 (some .int), .fieldLink RX0 20 "FerryRights" "sharesOwned" "[I", .methodLink RX0 213 yX0_slot, .static yX0_slot, .code yX0_slot cX0_slot 3 (some .int)] ++ wsX00 ++ (vx_atS RX0 164 "java/lang/IndexOutOfBoundsException" ["java/lang/RuntimeException", "java/lang/Exception"]).filter goodWord)
def wsX0_crownShares : List Cond := .code yX0_crownShares cX0_crownShares 3 (some .int) :: ([.methodLink RX0 75 yX0_needFerry, .instanceMethod yX0_needFerry, .selects RX0 yX0_needFerry yX0_needFerry, .initialized RX0, .code yX0_needFerry cX0_needFerry 2 none, .classLink RX0 160 "java/lang/IndexOutOfBoundsException", .initialized "java/lang/IndexOutOfBoundsException", .fieldLink RX0 9 "FerryRights" "ferryCount" "I", .methodLink RX0 78 yX0_needWatch, .static yX0_needWatch, .code yX0_needWatch cX0_needWatch 1 none, .methodLink RX0 84 yX0_crownOwns, .instanceMethod yX0_crownOwns, .selects RX0 yX0_crownOwns yX0_crownOwns, .code yX0_crownOwns cX0_crownOwns 5 (some .int), .fieldLink RX0 23 "FerryRights" "personCount" "I", .methodLink RX0 96 yX0_owns, .instanceMethod yX0_owns, .selects RX0 yX0_owns yX0_owns, .code yX0_owns cX0_owns 4 (some .int), .fieldLink RX0 20 "FerryRights" "sharesOwned" "[I", .methodLink RX0 213 yX0_slot, .static yX0_slot, .code yX0_slot cX0_slot 3 (some .int)] ++ wsX00 ++ (vx_atS RX0 164 "java/lang/IndexOutOfBoundsException" ["java/lang/RuntimeException", "java/lang/Exception"]).filter goodWord)
def wsX0_owners : List Cond := .code yX0_owners cX0_owners 5 (some .int) :: ([.fieldLink RX0 23 "FerryRights" "personCount" "I", .methodLink RX0 75 yX0_needFerry, .instanceMethod yX0_needFerry, .selects RX0 yX0_needFerry yX0_needFerry, .initialized RX0, .code yX0_needFerry cX0_needFerry 2 none, .classLink RX0 160 "java/lang/IndexOutOfBoundsException", .initialized "java/lang/IndexOutOfBoundsException", .fieldLink RX0 9 "FerryRights" "ferryCount" "I", .methodLink RX0 78 yX0_needWatch, .static yX0_needWatch, .code yX0_needWatch cX0_needWatch 1 none, .methodLink RX0 96 yX0_owns, .instanceMethod yX0_owns, .selects RX0 yX0_owns yX0_owns, .code yX0_owns cX0_owns 4 (some .int), .fieldLink RX0 20 "FerryRights" "sharesOwned" "[I", .methodLink RX0 213 yX0_slot, .static yX0_slot, .code yX0_slot cX0_slot 3 (some .int)] ++ wsX00 ++ (vx_atS RX0 164 "java/lang/IndexOutOfBoundsException" ["java/lang/RuntimeException", "java/lang/Exception"]).filter goodWord)
def wsX0_holder : List Cond := .code yX0_holder cX0_holder 7 (some .int) :: ([.classLink RX0 46 "java/lang/IllegalStateException", .initialized "java/lang/IllegalStateException", .fieldLink RX0 23 "FerryRights" "personCount" "I", .methodLink RX0 75 yX0_needFerry, .instanceMethod yX0_needFerry, .selects RX0 yX0_needFerry yX0_needFerry, .initialized RX0, .code yX0_needFerry cX0_needFerry 2 none, .classLink RX0 160 "java/lang/IndexOutOfBoundsException", .initialized "java/lang/IndexOutOfBoundsException", .fieldLink RX0 9 "FerryRights" "ferryCount" "I", .methodLink RX0 78 yX0_needWatch, .static yX0_needWatch, .code yX0_needWatch cX0_needWatch 1 none, .methodLink RX0 96 yX0_owns, .instanceMethod yX0_owns, .selects RX0 yX0_owns yX0_owns, .code yX0_owns cX0_owns 4 (some .int), .fieldLink RX0 20 "FerryRights" "sharesOwned" "[I", .methodLink RX0 213 yX0_slot, .static yX0_slot, .code yX0_slot cX0_slot 3 (some .int)] ++ wsX00 ++ (vx_atS RX0 50 "java/lang/IllegalStateException" ["java/lang/RuntimeException", "java/lang/Exception"]).filter goodWord ++ (vx_atS RX0 164 "java/lang/IndexOutOfBoundsException" ["java/lang/RuntimeException", "java/lang/Exception"]).filter goodWord)
def wsX0_master_r1 : List Cond := [Cond.classLink RX0 46 "java/lang/IllegalStateException", Cond.initialized "java/lang/IllegalStateException", Cond.methodLink RX0 75 yX0_needFerry, Cond.instanceMethod yX0_needFerry, Cond.selects RX0 yX0_needFerry yX0_needFerry, Cond.initialized RX0, Cond.code yX0_needFerry cX0_needFerry 2 none, Cond.classLink RX0 160 "java/lang/IndexOutOfBoundsException", Cond.initialized "java/lang/IndexOutOfBoundsException", Cond.fieldLink RX0 9 "FerryRights" "ferryCount" "I", Cond.methodLink RX0 114 yX0_findMaster, Cond.instanceMethod yX0_findMaster, Cond.selects RX0 yX0_findMaster yX0_findMaster, Cond.code yX0_findMaster cX0_findMaster 3 (some .int), Cond.fieldLink RX0 23 "FerryRights" "personCount" "I", Cond.methodLink RX0 216 yX0_countSharesOfFerry, Cond.instanceMethod yX0_countSharesOfFerry, Cond.selects RX0 yX0_countSharesOfFerry yX0_countSharesOfFerry, Cond.code yX0_countSharesOfFerry cX0_countSharesOfFerry 5 (some .int), Cond.methodLink RX0 96 yX0_owns, Cond.instanceMethod yX0_owns, Cond.selects RX0 yX0_owns yX0_owns, Cond.code yX0_owns cX0_owns 4 (some .int), Cond.fieldLink RX0 20 "FerryRights" "sharesOwned" "[I"]
def wsX0_master_r2 : List Cond := [Cond.methodLink RX0 213 yX0_slot, Cond.static yX0_slot, Cond.code yX0_slot cX0_slot 3 (some .int)]
def wsX0_master : List Cond := .code yX0_master cX0_master 3 (some .int) :: ((wsX0_master_r1 ++ wsX0_master_r2) ++ wsX00 ++ (vx_atS RX0 50 "java/lang/IllegalStateException" ["java/lang/RuntimeException", "java/lang/Exception"]).filter goodWord ++ (vx_atS RX0 164 "java/lang/IndexOutOfBoundsException" ["java/lang/RuntimeException", "java/lang/Exception"]).filter goodWord)
def wsX0_hasMaster_r1 : List Cond := [Cond.methodLink RX0 75 yX0_needFerry, Cond.instanceMethod yX0_needFerry, Cond.selects RX0 yX0_needFerry yX0_needFerry, Cond.initialized RX0, Cond.code yX0_needFerry cX0_needFerry 2 none, Cond.classLink RX0 160 "java/lang/IndexOutOfBoundsException", Cond.initialized "java/lang/IndexOutOfBoundsException", Cond.fieldLink RX0 9 "FerryRights" "ferryCount" "I", Cond.methodLink RX0 114 yX0_findMaster, Cond.instanceMethod yX0_findMaster, Cond.selects RX0 yX0_findMaster yX0_findMaster, Cond.code yX0_findMaster cX0_findMaster 3 (some .int), Cond.fieldLink RX0 23 "FerryRights" "personCount" "I", Cond.methodLink RX0 216 yX0_countSharesOfFerry, Cond.instanceMethod yX0_countSharesOfFerry, Cond.selects RX0 yX0_countSharesOfFerry yX0_countSharesOfFerry, Cond.code yX0_countSharesOfFerry cX0_countSharesOfFerry 5 (some .int), Cond.methodLink RX0 96 yX0_owns, Cond.instanceMethod yX0_owns, Cond.selects RX0 yX0_owns yX0_owns, Cond.code yX0_owns cX0_owns 4 (some .int), Cond.fieldLink RX0 20 "FerryRights" "sharesOwned" "[I", Cond.methodLink RX0 213 yX0_slot, Cond.static yX0_slot]
def wsX0_hasMaster_r2 : List Cond := [Cond.code yX0_slot cX0_slot 3 (some .int)]
def wsX0_hasMaster : List Cond := .code yX0_hasMaster cX0_hasMaster 2 (some .boolean) :: ((wsX0_hasMaster_r1 ++ wsX0_hasMaster_r2) ++ wsX00 ++ (vx_atS RX0 164 "java/lang/IndexOutOfBoundsException" ["java/lang/RuntimeException", "java/lang/Exception"]).filter goodWord)
def wsX0_shareValue : List Cond := .code yX0_shareValue cX0_shareValue 3 (some .int) :: ([.methodLink RX0 75 yX0_needFerry, .instanceMethod yX0_needFerry, .selects RX0 yX0_needFerry yX0_needFerry, .initialized RX0, .code yX0_needFerry cX0_needFerry 2 none, .classLink RX0 160 "java/lang/IndexOutOfBoundsException", .initialized "java/lang/IndexOutOfBoundsException", .fieldLink RX0 9 "FerryRights" "ferryCount" "I", .methodLink RX0 78 yX0_needWatch, .static yX0_needWatch, .code yX0_needWatch cX0_needWatch 1 none, .methodLink RX0 146 yX0_worth, .instanceMethod yX0_worth, .selects RX0 yX0_worth yX0_worth, .code yX0_worth cX0_worth 3 (some .int), .fieldLink RX0 13 "FerryRights" "tolls" "[I", .fieldLink RX0 219 "FerryRights" "TRAFFIC" "[I"] ++ wsX00 ++ (vx_atS RX0 164 "java/lang/IndexOutOfBoundsException" ["java/lang/RuntimeException", "java/lang/Exception"]).filter goodWord)
def wsX0_watchAt : List Cond := .code yX0_watchAt cX0_watchAt 2 (some .int) :: ([.methodLink RX0 119 yX0_needHour, .static yX0_needHour, .initialized RX0, .code yX0_needHour cX0_needHour 1 none, .classLink RX0 160 "java/lang/IndexOutOfBoundsException", .initialized "java/lang/IndexOutOfBoundsException"] ++ (vx_atS RX0 164 "java/lang/IndexOutOfBoundsException" ["java/lang/RuntimeException", "java/lang/Exception"]).filter goodWord)
def wsX0_people : List Cond := .code yX0_people cX0_people 1 (some .int) :: ([.fieldLink RX0 23 "FerryRights" "personCount" "I"] ++ wsX00)
def wsX0_living : List Cond := .code yX0_living cX0_living 3 (some .int) :: ([.fieldLink RX0 23 "FerryRights" "personCount" "I", .fieldLink RX0 26 "FerryRights" "alive" "[Z"] ++ wsX00)
def wsX0_isAlive : List Cond := .code yX0_isAlive cX0_isAlive 2 (some .boolean) :: ([.fieldLink RX0 26 "FerryRights" "alive" "[Z", .methodLink RX0 60 yX0_needPerson, .instanceMethod yX0_needPerson, .selects RX0 yX0_needPerson yX0_needPerson, .initialized RX0, .code yX0_needPerson cX0_needPerson 2 none, .classLink RX0 160 "java/lang/IndexOutOfBoundsException", .initialized "java/lang/IndexOutOfBoundsException", .fieldLink RX0 23 "FerryRights" "personCount" "I"] ++ wsX00 ++ (vx_atS RX0 164 "java/lang/IndexOutOfBoundsException" ["java/lang/RuntimeException", "java/lang/Exception"]).filter goodWord)
def wsX0_coins : List Cond := .code yX0_coins cX0_coins 2 (some .int) :: ([.fieldLink RX0 30 "FerryRights" "purses" "[I", .methodLink RX0 60 yX0_needPerson, .instanceMethod yX0_needPerson, .selects RX0 yX0_needPerson yX0_needPerson, .initialized RX0, .code yX0_needPerson cX0_needPerson 2 none, .classLink RX0 160 "java/lang/IndexOutOfBoundsException", .initialized "java/lang/IndexOutOfBoundsException", .fieldLink RX0 23 "FerryRights" "personCount" "I"] ++ wsX00 ++ (vx_atS RX0 164 "java/lang/IndexOutOfBoundsException" ["java/lang/RuntimeException", "java/lang/Exception"]).filter goodWord)
def wsX0_earned : List Cond := .code yX0_earned cX0_earned 2 (some .int) :: ([.fieldLink RX0 33 "FerryRights" "fares" "[I", .methodLink RX0 60 yX0_needPerson, .instanceMethod yX0_needPerson, .selects RX0 yX0_needPerson yX0_needPerson, .initialized RX0, .code yX0_needPerson cX0_needPerson 2 none, .classLink RX0 160 "java/lang/IndexOutOfBoundsException", .initialized "java/lang/IndexOutOfBoundsException", .fieldLink RX0 23 "FerryRights" "personCount" "I"] ++ wsX00 ++ (vx_atS RX0 164 "java/lang/IndexOutOfBoundsException" ["java/lang/RuntimeException", "java/lang/Exception"]).filter goodWord)
def wsX0_countAllShares : List Cond := .code yX0_countAllShares cX0_countAllShares 4 (some .int) :: ([.fieldLink RX0 9 "FerryRights" "ferryCount" "I", .methodLink RX0 216 yX0_countSharesOfFerry, .instanceMethod yX0_countSharesOfFerry, .selects RX0 yX0_countSharesOfFerry yX0_countSharesOfFerry, .initialized RX0, .code yX0_countSharesOfFerry cX0_countSharesOfFerry 5 (some .int), .methodLink RX0 96 yX0_owns, .instanceMethod yX0_owns, .selects RX0 yX0_owns yX0_owns, .code yX0_owns cX0_owns 4 (some .int), .fieldLink RX0 20 "FerryRights" "sharesOwned" "[I", .methodLink RX0 213 yX0_slot, .static yX0_slot, .code yX0_slot cX0_slot 3 (some .int)] ++ wsX00)
def wsX0_allShares_r1 : List Cond := [Cond.methodLink RX0 60 yX0_needPerson, Cond.instanceMethod yX0_needPerson, Cond.selects RX0 yX0_needPerson yX0_needPerson, Cond.initialized RX0, Cond.code yX0_needPerson cX0_needPerson 2 none, Cond.classLink RX0 160 "java/lang/IndexOutOfBoundsException", Cond.initialized "java/lang/IndexOutOfBoundsException", Cond.fieldLink RX0 23 "FerryRights" "personCount" "I", Cond.methodLink RX0 149 yX0_countAllShares, Cond.instanceMethod yX0_countAllShares, Cond.selects RX0 yX0_countAllShares yX0_countAllShares, Cond.code yX0_countAllShares cX0_countAllShares 4 (some .int), Cond.fieldLink RX0 9 "FerryRights" "ferryCount" "I", Cond.methodLink RX0 216 yX0_countSharesOfFerry, Cond.instanceMethod yX0_countSharesOfFerry, Cond.selects RX0 yX0_countSharesOfFerry yX0_countSharesOfFerry, Cond.code yX0_countSharesOfFerry cX0_countSharesOfFerry 5 (some .int), Cond.methodLink RX0 96 yX0_owns, Cond.instanceMethod yX0_owns, Cond.selects RX0 yX0_owns yX0_owns, Cond.code yX0_owns cX0_owns 4 (some .int), Cond.fieldLink RX0 20 "FerryRights" "sharesOwned" "[I", Cond.methodLink RX0 213 yX0_slot, Cond.static yX0_slot]
def wsX0_allShares_r2 : List Cond := [Cond.code yX0_slot cX0_slot 3 (some .int)]
def wsX0_allShares : List Cond := .code yX0_allShares cX0_allShares 2 (some .int) :: ((wsX0_allShares_r1 ++ wsX0_allShares_r2) ++ wsX00 ++ (vx_atS RX0 164 "java/lang/IndexOutOfBoundsException" ["java/lang/RuntimeException", "java/lang/Exception"]).filter goodWord)
def wsX0_hasParent : List Cond := .code yX0_hasParent cX0_hasParent 2 (some .boolean) :: ([.fieldLink RX0 36 "FerryRights" "parents" "[I", .methodLink RX0 60 yX0_needPerson, .instanceMethod yX0_needPerson, .selects RX0 yX0_needPerson yX0_needPerson, .initialized RX0, .code yX0_needPerson cX0_needPerson 2 none, .classLink RX0 160 "java/lang/IndexOutOfBoundsException", .initialized "java/lang/IndexOutOfBoundsException", .fieldLink RX0 23 "FerryRights" "personCount" "I"] ++ wsX00 ++ (vx_atS RX0 164 "java/lang/IndexOutOfBoundsException" ["java/lang/RuntimeException", "java/lang/Exception"]).filter goodWord)
def wsX0_parent : List Cond := .code yX0_parent cX0_parent 2 (some .int) :: ([.classLink RX0 46 "java/lang/IllegalStateException", .initialized "java/lang/IllegalStateException", .fieldLink RX0 36 "FerryRights" "parents" "[I", .methodLink RX0 60 yX0_needPerson, .instanceMethod yX0_needPerson, .selects RX0 yX0_needPerson yX0_needPerson, .initialized RX0, .code yX0_needPerson cX0_needPerson 2 none, .classLink RX0 160 "java/lang/IndexOutOfBoundsException", .initialized "java/lang/IndexOutOfBoundsException", .fieldLink RX0 23 "FerryRights" "personCount" "I"] ++ wsX00 ++ (vx_atS RX0 50 "java/lang/IllegalStateException" ["java/lang/RuntimeException", "java/lang/Exception"]).filter goodWord ++ (vx_atS RX0 164 "java/lang/IndexOutOfBoundsException" ["java/lang/RuntimeException", "java/lang/Exception"]).filter goodWord)
def wsX0_countChildren : List Cond := .code yX0_countChildren cX0_countChildren 4 (some .int) :: ([.fieldLink RX0 23 "FerryRights" "personCount" "I", .fieldLink RX0 36 "FerryRights" "parents" "[I"] ++ wsX00)
def wsX0_children : List Cond := .code yX0_children cX0_children 2 (some .int) :: ([.methodLink RX0 60 yX0_needPerson, .instanceMethod yX0_needPerson, .selects RX0 yX0_needPerson yX0_needPerson, .initialized RX0, .code yX0_needPerson cX0_needPerson 2 none, .classLink RX0 160 "java/lang/IndexOutOfBoundsException", .initialized "java/lang/IndexOutOfBoundsException", .fieldLink RX0 23 "FerryRights" "personCount" "I", .methodLink RX0 154 yX0_countChildren, .instanceMethod yX0_countChildren, .selects RX0 yX0_countChildren yX0_countChildren, .code yX0_countChildren cX0_countChildren 4 (some .int), .fieldLink RX0 36 "FerryRights" "parents" "[I"] ++ wsX00 ++ (vx_atS RX0 164 "java/lang/IndexOutOfBoundsException" ["java/lang/RuntimeException", "java/lang/Exception"]).filter goodWord)
def wsX0_heirs_r1 : List Cond := [Cond.methodLink RX0 60 yX0_needPerson, Cond.instanceMethod yX0_needPerson, Cond.selects RX0 yX0_needPerson yX0_needPerson, Cond.initialized RX0, Cond.code yX0_needPerson cX0_needPerson 2 none, Cond.classLink RX0 160 "java/lang/IndexOutOfBoundsException", Cond.initialized "java/lang/IndexOutOfBoundsException", Cond.fieldLink RX0 23 "FerryRights" "personCount" "I", Cond.methodLink RX0 129 yX0_countHeirs, Cond.instanceMethod yX0_countHeirs, Cond.selects RX0 yX0_countHeirs yX0_countHeirs, Cond.code yX0_countHeirs cX0_countHeirs 2 (some .int), Cond.methodLink RX0 165 yX0_countHeirsBelow, Cond.instanceMethod yX0_countHeirsBelow, Cond.selects RX0 yX0_countHeirsBelow yX0_countHeirsBelow, Cond.code yX0_countHeirsBelow cX0_countHeirsBelow 5 (some .int), Cond.methodLink RX0 132 yX0_isHeir, Cond.instanceMethod yX0_isHeir, Cond.selects RX0 yX0_isHeir yX0_isHeir, Cond.code yX0_isHeir cX0_isHeir 3 (some .boolean), Cond.fieldLink RX0 26 "FerryRights" "alive" "[Z", Cond.fieldLink RX0 36 "FerryRights" "parents" "[I", Cond.methodLink RX0 225 yX0_hasLivingChild, Cond.instanceMethod yX0_hasLivingChild]
def wsX0_heirs_r2 : List Cond := [Cond.selects RX0 yX0_hasLivingChild yX0_hasLivingChild, Cond.code yX0_hasLivingChild cX0_hasLivingChild 3 (some .boolean)]
def wsX0_heirs : List Cond := .code yX0_heirs cX0_heirs 2 (some .int) :: ((wsX0_heirs_r1 ++ wsX0_heirs_r2) ++ wsX00 ++ (vx_atS RX0 164 "java/lang/IndexOutOfBoundsException" ["java/lang/RuntimeException", "java/lang/Exception"]).filter goodWord)
def wsX0_findHeir : List Cond := .code yX0_findHeir cX0_findHeir 5 (some .int) :: ([.fieldLink RX0 23 "FerryRights" "personCount" "I", .methodLink RX0 132 yX0_isHeir, .instanceMethod yX0_isHeir, .selects RX0 yX0_isHeir yX0_isHeir, .initialized RX0, .code yX0_isHeir cX0_isHeir 3 (some .boolean), .fieldLink RX0 26 "FerryRights" "alive" "[Z", .fieldLink RX0 36 "FerryRights" "parents" "[I", .methodLink RX0 225 yX0_hasLivingChild, .instanceMethod yX0_hasLivingChild, .selects RX0 yX0_hasLivingChild yX0_hasLivingChild, .code yX0_hasLivingChild cX0_hasLivingChild 3 (some .boolean)] ++ wsX00)
def wsX0_heir : List Cond := .code yX0_heir cX0_heir 4 (some .int) :: ([.classLink RX0 160 "java/lang/IndexOutOfBoundsException", .initialized "java/lang/IndexOutOfBoundsException", .methodLink RX0 60 yX0_needPerson, .instanceMethod yX0_needPerson, .selects RX0 yX0_needPerson yX0_needPerson, .initialized RX0, .code yX0_needPerson cX0_needPerson 2 none, .fieldLink RX0 23 "FerryRights" "personCount" "I", .methodLink RX0 157 yX0_findHeir, .instanceMethod yX0_findHeir, .selects RX0 yX0_findHeir yX0_findHeir, .code yX0_findHeir cX0_findHeir 5 (some .int), .methodLink RX0 132 yX0_isHeir, .instanceMethod yX0_isHeir, .selects RX0 yX0_isHeir yX0_isHeir, .code yX0_isHeir cX0_isHeir 3 (some .boolean), .fieldLink RX0 26 "FerryRights" "alive" "[Z", .fieldLink RX0 36 "FerryRights" "parents" "[I", .methodLink RX0 225 yX0_hasLivingChild, .instanceMethod yX0_hasLivingChild, .selects RX0 yX0_hasLivingChild yX0_hasLivingChild, .code yX0_hasLivingChild cX0_hasLivingChild 3 (some .boolean)] ++ wsX00 ++ (vx_atS RX0 164 "java/lang/IndexOutOfBoundsException" ["java/lang/RuntimeException", "java/lang/Exception"]).filter goodWord)
def wsX0_crownCoins : List Cond := .code yX0_crownCoins cX0_crownCoins 1 (some .int) :: ([.fieldLink RX0 39 "FerryRights" "crownPurse" "I"] ++ wsX00)
def wsX0_price_r1 : List Cond := [Cond.methodLink RX0 60 yX0_needPerson, Cond.instanceMethod yX0_needPerson, Cond.selects RX0 yX0_needPerson yX0_needPerson, Cond.initialized RX0, Cond.code yX0_needPerson cX0_needPerson 2 none, Cond.classLink RX0 160 "java/lang/IndexOutOfBoundsException", Cond.initialized "java/lang/IndexOutOfBoundsException", Cond.fieldLink RX0 23 "FerryRights" "personCount" "I", Cond.methodLink RX0 75 yX0_needFerry, Cond.instanceMethod yX0_needFerry, Cond.selects RX0 yX0_needFerry yX0_needFerry, Cond.code yX0_needFerry cX0_needFerry 2 none, Cond.fieldLink RX0 9 "FerryRights" "ferryCount" "I", Cond.methodLink RX0 78 yX0_needWatch, Cond.static yX0_needWatch, Cond.code yX0_needWatch cX0_needWatch 1 none, Cond.methodLink RX0 111 yX0_priceOf, Cond.instanceMethod yX0_priceOf, Cond.selects RX0 yX0_priceOf yX0_priceOf, Cond.code yX0_priceOf cX0_priceOf 4 (some .int), Cond.methodLink RX0 96 yX0_owns, Cond.instanceMethod yX0_owns, Cond.selects RX0 yX0_owns yX0_owns, Cond.code yX0_owns cX0_owns 4 (some .int)]
def wsX0_price_r2 : List Cond := [Cond.fieldLink RX0 20 "FerryRights" "sharesOwned" "[I", Cond.methodLink RX0 213 yX0_slot, Cond.static yX0_slot, Cond.code yX0_slot cX0_slot 3 (some .int), Cond.methodLink RX0 146 yX0_worth, Cond.instanceMethod yX0_worth, Cond.selects RX0 yX0_worth yX0_worth, Cond.code yX0_worth cX0_worth 3 (some .int), Cond.fieldLink RX0 13 "FerryRights" "tolls" "[I", Cond.fieldLink RX0 219 "FerryRights" "TRAFFIC" "[I"]
def wsX0_price : List Cond := .code yX0_price cX0_price 4 (some .int) :: ((wsX0_price_r1 ++ wsX0_price_r2) ++ wsX00 ++ (vx_atS RX0 164 "java/lang/IndexOutOfBoundsException" ["java/lang/RuntimeException", "java/lang/Exception"]).filter goodWord)
def wsX0_canBuy_r1 : List Cond := [Cond.methodLink RX0 102 yX0_needSale, Cond.instanceMethod yX0_needSale, Cond.selects RX0 yX0_needSale yX0_needSale, Cond.initialized RX0, Cond.code yX0_needSale cX0_needSale 5 none, Cond.methodLink RX0 60 yX0_needPerson, Cond.instanceMethod yX0_needPerson, Cond.selects RX0 yX0_needPerson yX0_needPerson, Cond.code yX0_needPerson cX0_needPerson 2 none, Cond.classLink RX0 160 "java/lang/IndexOutOfBoundsException", Cond.initialized "java/lang/IndexOutOfBoundsException", Cond.fieldLink RX0 23 "FerryRights" "personCount" "I", Cond.methodLink RX0 75 yX0_needFerry, Cond.instanceMethod yX0_needFerry, Cond.selects RX0 yX0_needFerry yX0_needFerry, Cond.code yX0_needFerry cX0_needFerry 2 none, Cond.fieldLink RX0 9 "FerryRights" "ferryCount" "I", Cond.methodLink RX0 78 yX0_needWatch, Cond.static yX0_needWatch, Cond.code yX0_needWatch cX0_needWatch 1 none, Cond.methodLink RX0 105 yX0_mayBuy, Cond.instanceMethod yX0_mayBuy, Cond.selects RX0 yX0_mayBuy yX0_mayBuy, Cond.code yX0_mayBuy cX0_mayBuy 6 (some .boolean)]
def wsX0_canBuy_r2 : List Cond := [Cond.fieldLink RX0 26 "FerryRights" "alive" "[Z", Cond.fieldLink RX0 30 "FerryRights" "purses" "[I", Cond.methodLink RX0 111 yX0_priceOf, Cond.instanceMethod yX0_priceOf, Cond.selects RX0 yX0_priceOf yX0_priceOf, Cond.code yX0_priceOf cX0_priceOf 4 (some .int), Cond.methodLink RX0 96 yX0_owns, Cond.instanceMethod yX0_owns, Cond.selects RX0 yX0_owns yX0_owns, Cond.code yX0_owns cX0_owns 4 (some .int), Cond.fieldLink RX0 20 "FerryRights" "sharesOwned" "[I", Cond.methodLink RX0 213 yX0_slot, Cond.static yX0_slot, Cond.code yX0_slot cX0_slot 3 (some .int), Cond.methodLink RX0 146 yX0_worth, Cond.instanceMethod yX0_worth, Cond.selects RX0 yX0_worth yX0_worth, Cond.code yX0_worth cX0_worth 3 (some .int), Cond.fieldLink RX0 13 "FerryRights" "tolls" "[I", Cond.fieldLink RX0 219 "FerryRights" "TRAFFIC" "[I", Cond.methodLink RX0 222 yX0_otherOwnerHas, Cond.instanceMethod yX0_otherOwnerHas, Cond.selects RX0 yX0_otherOwnerHas yX0_otherOwnerHas, Cond.code yX0_otherOwnerHas cX0_otherOwnerHas 6 (some .boolean)]
def wsX0_canBuy : List Cond := .code yX0_canBuy cX0_canBuy 5 (some .boolean) :: ((wsX0_canBuy_r1 ++ wsX0_canBuy_r2) ++ wsX00 ++ (vx_atS RX0 164 "java/lang/IndexOutOfBoundsException" ["java/lang/RuntimeException", "java/lang/Exception"]).filter goodWord)
def wsX0_inheritance_r1 : List Cond := [Cond.methodLink RX0 60 yX0_needPerson, Cond.instanceMethod yX0_needPerson, Cond.selects RX0 yX0_needPerson yX0_needPerson, Cond.initialized RX0, Cond.code yX0_needPerson cX0_needPerson 2 none, Cond.classLink RX0 160 "java/lang/IndexOutOfBoundsException", Cond.initialized "java/lang/IndexOutOfBoundsException", Cond.fieldLink RX0 23 "FerryRights" "personCount" "I", Cond.methodLink RX0 75 yX0_needFerry, Cond.instanceMethod yX0_needFerry, Cond.selects RX0 yX0_needFerry yX0_needFerry, Cond.code yX0_needFerry cX0_needFerry 2 none, Cond.fieldLink RX0 9 "FerryRights" "ferryCount" "I", Cond.methodLink RX0 78 yX0_needWatch, Cond.static yX0_needWatch, Cond.code yX0_needWatch cX0_needWatch 1 none, Cond.methodLink RX0 132 yX0_isHeir, Cond.instanceMethod yX0_isHeir, Cond.selects RX0 yX0_isHeir yX0_isHeir, Cond.code yX0_isHeir cX0_isHeir 3 (some .boolean), Cond.fieldLink RX0 26 "FerryRights" "alive" "[Z", Cond.fieldLink RX0 36 "FerryRights" "parents" "[I", Cond.methodLink RX0 225 yX0_hasLivingChild, Cond.instanceMethod yX0_hasLivingChild]
def wsX0_inheritance_r2 : List Cond := [Cond.selects RX0 yX0_hasLivingChild yX0_hasLivingChild, Cond.code yX0_hasLivingChild cX0_hasLivingChild 3 (some .boolean), Cond.methodLink RX0 96 yX0_owns, Cond.instanceMethod yX0_owns, Cond.selects RX0 yX0_owns yX0_owns, Cond.code yX0_owns cX0_owns 4 (some .int), Cond.fieldLink RX0 20 "FerryRights" "sharesOwned" "[I", Cond.methodLink RX0 213 yX0_slot, Cond.static yX0_slot, Cond.code yX0_slot cX0_slot 3 (some .int), Cond.methodLink RX0 129 yX0_countHeirs, Cond.instanceMethod yX0_countHeirs, Cond.selects RX0 yX0_countHeirs yX0_countHeirs, Cond.code yX0_countHeirs cX0_countHeirs 2 (some .int), Cond.methodLink RX0 165 yX0_countHeirsBelow, Cond.instanceMethod yX0_countHeirsBelow, Cond.selects RX0 yX0_countHeirsBelow yX0_countHeirsBelow, Cond.code yX0_countHeirsBelow cX0_countHeirsBelow 5 (some .int), Cond.methodLink RX0 168 yX0_partOf, Cond.static yX0_partOf, Cond.code yX0_partOf cX0_partOf 6 (some .int)]
def wsX0_inheritance : List Cond := .code yX0_inheritance cX0_inheritance 5 (some .int) :: ((wsX0_inheritance_r1 ++ wsX0_inheritance_r2) ++ wsX00 ++ (vx_atS RX0 164 "java/lang/IndexOutOfBoundsException" ["java/lang/RuntimeException", "java/lang/Exception"]).filter goodWord)
def wsX0_fare_r1 : List Cond := [Cond.methodLink RX0 60 yX0_needPerson, Cond.instanceMethod yX0_needPerson, Cond.selects RX0 yX0_needPerson yX0_needPerson, Cond.initialized RX0, Cond.code yX0_needPerson cX0_needPerson 2 none, Cond.classLink RX0 160 "java/lang/IndexOutOfBoundsException", Cond.initialized "java/lang/IndexOutOfBoundsException", Cond.fieldLink RX0 23 "FerryRights" "personCount" "I", Cond.methodLink RX0 75 yX0_needFerry, Cond.instanceMethod yX0_needFerry, Cond.selects RX0 yX0_needFerry yX0_needFerry, Cond.code yX0_needFerry cX0_needFerry 2 none, Cond.fieldLink RX0 9 "FerryRights" "ferryCount" "I", Cond.methodLink RX0 119 yX0_needHour, Cond.static yX0_needHour, Cond.code yX0_needHour cX0_needHour 1 none, Cond.methodLink RX0 122 yX0_needPassengers, Cond.static yX0_needPassengers, Cond.code yX0_needPassengers cX0_needPassengers 1 none, Cond.classLink RX0 66 "java/lang/IllegalArgumentException", Cond.initialized "java/lang/IllegalArgumentException", Cond.methodLink RX0 125 yX0_fareOf, Cond.instanceMethod yX0_fareOf, Cond.selects RX0 yX0_fareOf yX0_fareOf]
def wsX0_fare_r2 : List Cond := [Cond.code yX0_fareOf cX0_fareOf 5 (some .int), Cond.fieldLink RX0 13 "FerryRights" "tolls" "[I", Cond.methodLink RX0 96 yX0_owns, Cond.instanceMethod yX0_owns, Cond.selects RX0 yX0_owns yX0_owns, Cond.code yX0_owns cX0_owns 4 (some .int), Cond.fieldLink RX0 20 "FerryRights" "sharesOwned" "[I", Cond.methodLink RX0 213 yX0_slot, Cond.static yX0_slot, Cond.code yX0_slot cX0_slot 3 (some .int)]
def wsX0_fare : List Cond := .code yX0_fare cX0_fare 5 (some .int) :: ((wsX0_fare_r1 ++ wsX0_fare_r2) ++ wsX00 ++ (vx_atS RX0 164 "java/lang/IndexOutOfBoundsException" ["java/lang/RuntimeException", "java/lang/Exception"]).filter goodWord ++ (vx_atS RX0 70 "java/lang/IllegalArgumentException" ["java/lang/RuntimeException", "java/lang/Exception"]).filter goodWord)
def wsX0_richest : List Cond := .code yX0_richest cX0_richest 4 (some .int) :: ([.classLink RX0 46 "java/lang/IllegalStateException", .initialized "java/lang/IllegalStateException", .fieldLink RX0 23 "FerryRights" "personCount" "I", .fieldLink RX0 26 "FerryRights" "alive" "[Z", .fieldLink RX0 30 "FerryRights" "purses" "[I"] ++ wsX00 ++ (vx_atS RX0 50 "java/lang/IllegalStateException" ["java/lang/RuntimeException", "java/lang/Exception"]).filter goodWord)
def wsX0_meanCoins : List Cond := .code yX0_meanCoins cX0_meanCoins 4 (some .double) :: ([.fieldLink RX0 23 "FerryRights" "personCount" "I", .fieldLink RX0 26 "FerryRights" "alive" "[Z", .fieldLink RX0 30 "FerryRights" "purses" "[I"] ++ wsX00)
def wsX0_mix : List Cond := .code yX0_mix cX0_mix 4 (some .long) :: ([.constantLong RX0 229 (31)])
def wsX0_mixFerry : List Cond := .code yX0_mixFerry cX0_mixFerry 8 (some .long) :: ([.fieldLink RX0 13 "FerryRights" "tolls" "[I", .fieldLink RX0 17 "FerryRights" "passengersCarried" "[I", .fieldLink RX0 23 "FerryRights" "personCount" "I", .methodLink RX0 175 yX0_mix, .static yX0_mix, .initialized RX0, .code yX0_mix cX0_mix 4 (some .long), .constantLong RX0 229 (31), .methodLink RX0 96 yX0_owns, .instanceMethod yX0_owns, .selects RX0 yX0_owns yX0_owns, .code yX0_owns cX0_owns 4 (some .int), .fieldLink RX0 20 "FerryRights" "sharesOwned" "[I", .methodLink RX0 213 yX0_slot, .static yX0_slot, .code yX0_slot cX0_slot 3 (some .int)] ++ wsX00)
def wsX0_mixPerson_r1 : List Cond := [Cond.fieldLink RX0 26 "FerryRights" "alive" "[Z", Cond.fieldLink RX0 30 "FerryRights" "purses" "[I", Cond.fieldLink RX0 33 "FerryRights" "fares" "[I", Cond.methodLink RX0 175 yX0_mix, Cond.static yX0_mix, Cond.initialized RX0, Cond.code yX0_mix cX0_mix 4 (some .long), Cond.constantLong RX0 229 (31), Cond.methodLink RX0 149 yX0_countAllShares, Cond.instanceMethod yX0_countAllShares, Cond.selects RX0 yX0_countAllShares yX0_countAllShares, Cond.code yX0_countAllShares cX0_countAllShares 4 (some .int), Cond.fieldLink RX0 9 "FerryRights" "ferryCount" "I", Cond.methodLink RX0 216 yX0_countSharesOfFerry, Cond.instanceMethod yX0_countSharesOfFerry, Cond.selects RX0 yX0_countSharesOfFerry yX0_countSharesOfFerry, Cond.code yX0_countSharesOfFerry cX0_countSharesOfFerry 5 (some .int), Cond.methodLink RX0 96 yX0_owns, Cond.instanceMethod yX0_owns, Cond.selects RX0 yX0_owns yX0_owns, Cond.code yX0_owns cX0_owns 4 (some .int), Cond.fieldLink RX0 20 "FerryRights" "sharesOwned" "[I", Cond.methodLink RX0 213 yX0_slot, Cond.static yX0_slot]
def wsX0_mixPerson_r2 : List Cond := [Cond.code yX0_slot cX0_slot 3 (some .int), Cond.methodLink RX0 154 yX0_countChildren, Cond.instanceMethod yX0_countChildren, Cond.selects RX0 yX0_countChildren yX0_countChildren, Cond.code yX0_countChildren cX0_countChildren 4 (some .int), Cond.fieldLink RX0 23 "FerryRights" "personCount" "I", Cond.fieldLink RX0 36 "FerryRights" "parents" "[I", Cond.methodLink RX0 129 yX0_countHeirs, Cond.instanceMethod yX0_countHeirs, Cond.selects RX0 yX0_countHeirs yX0_countHeirs, Cond.code yX0_countHeirs cX0_countHeirs 2 (some .int), Cond.methodLink RX0 165 yX0_countHeirsBelow, Cond.instanceMethod yX0_countHeirsBelow, Cond.selects RX0 yX0_countHeirsBelow yX0_countHeirsBelow, Cond.code yX0_countHeirsBelow cX0_countHeirsBelow 5 (some .int), Cond.methodLink RX0 132 yX0_isHeir, Cond.instanceMethod yX0_isHeir, Cond.selects RX0 yX0_isHeir yX0_isHeir, Cond.code yX0_isHeir cX0_isHeir 3 (some .boolean), Cond.methodLink RX0 225 yX0_hasLivingChild, Cond.instanceMethod yX0_hasLivingChild, Cond.selects RX0 yX0_hasLivingChild yX0_hasLivingChild, Cond.code yX0_hasLivingChild cX0_hasLivingChild 3 (some .boolean)]
def wsX0_mixPerson : List Cond := .code yX0_mixPerson cX0_mixPerson 6 (some .long) :: ((wsX0_mixPerson_r1 ++ wsX0_mixPerson_r2) ++ wsX00)
def wsX0_digest_r1 : List Cond := [Cond.constantLong RX0 173 (1861), Cond.fieldLink RX0 9 "FerryRights" "ferryCount" "I", Cond.fieldLink RX0 23 "FerryRights" "personCount" "I", Cond.fieldLink RX0 39 "FerryRights" "crownPurse" "I", Cond.methodLink RX0 175 yX0_mix, Cond.static yX0_mix, Cond.initialized RX0, Cond.code yX0_mix cX0_mix 4 (some .long), Cond.constantLong RX0 229 (31), Cond.methodLink RX0 179 yX0_living, Cond.instanceMethod yX0_living, Cond.selects RX0 yX0_living yX0_living, Cond.code yX0_living cX0_living 3 (some .int), Cond.fieldLink RX0 26 "FerryRights" "alive" "[Z", Cond.methodLink RX0 183 yX0_mixFerry, Cond.instanceMethod yX0_mixFerry, Cond.selects RX0 yX0_mixFerry yX0_mixFerry, Cond.code yX0_mixFerry cX0_mixFerry 8 (some .long), Cond.fieldLink RX0 13 "FerryRights" "tolls" "[I", Cond.fieldLink RX0 17 "FerryRights" "passengersCarried" "[I", Cond.methodLink RX0 96 yX0_owns, Cond.instanceMethod yX0_owns, Cond.selects RX0 yX0_owns yX0_owns, Cond.code yX0_owns cX0_owns 4 (some .int)]
def wsX0_digest_r2 : List Cond := [Cond.fieldLink RX0 20 "FerryRights" "sharesOwned" "[I", Cond.methodLink RX0 213 yX0_slot, Cond.static yX0_slot, Cond.code yX0_slot cX0_slot 3 (some .int), Cond.methodLink RX0 187 yX0_mixPerson, Cond.instanceMethod yX0_mixPerson, Cond.selects RX0 yX0_mixPerson yX0_mixPerson, Cond.code yX0_mixPerson cX0_mixPerson 6 (some .long), Cond.fieldLink RX0 30 "FerryRights" "purses" "[I", Cond.fieldLink RX0 33 "FerryRights" "fares" "[I", Cond.methodLink RX0 149 yX0_countAllShares, Cond.instanceMethod yX0_countAllShares, Cond.selects RX0 yX0_countAllShares yX0_countAllShares, Cond.code yX0_countAllShares cX0_countAllShares 4 (some .int), Cond.methodLink RX0 216 yX0_countSharesOfFerry, Cond.instanceMethod yX0_countSharesOfFerry, Cond.selects RX0 yX0_countSharesOfFerry yX0_countSharesOfFerry, Cond.code yX0_countSharesOfFerry cX0_countSharesOfFerry 5 (some .int), Cond.methodLink RX0 154 yX0_countChildren, Cond.instanceMethod yX0_countChildren, Cond.selects RX0 yX0_countChildren yX0_countChildren, Cond.code yX0_countChildren cX0_countChildren 4 (some .int), Cond.fieldLink RX0 36 "FerryRights" "parents" "[I", Cond.methodLink RX0 129 yX0_countHeirs]
def wsX0_digest_r3 : List Cond := [Cond.instanceMethod yX0_countHeirs, Cond.selects RX0 yX0_countHeirs yX0_countHeirs, Cond.code yX0_countHeirs cX0_countHeirs 2 (some .int), Cond.methodLink RX0 165 yX0_countHeirsBelow, Cond.instanceMethod yX0_countHeirsBelow, Cond.selects RX0 yX0_countHeirsBelow yX0_countHeirsBelow, Cond.code yX0_countHeirsBelow cX0_countHeirsBelow 5 (some .int), Cond.methodLink RX0 132 yX0_isHeir, Cond.instanceMethod yX0_isHeir, Cond.selects RX0 yX0_isHeir yX0_isHeir, Cond.code yX0_isHeir cX0_isHeir 3 (some .boolean), Cond.methodLink RX0 225 yX0_hasLivingChild, Cond.instanceMethod yX0_hasLivingChild, Cond.selects RX0 yX0_hasLivingChild yX0_hasLivingChild, Cond.code yX0_hasLivingChild cX0_hasLivingChild 3 (some .boolean)]
def wsX0_digest : List Cond := .code yX0_digest cX0_digest 4 (some .long) :: ((wsX0_digest_r1 ++ (wsX0_digest_r2 ++ wsX0_digest_r3)) ++ wsX00)
def wsX1_init : List Cond := .code yX1_init cX1_init 1 none :: ([.methodLink RX1 1 objectInit, .instanceMethod objectInit, .code objectInit ⟨#[0xb1]⟩ 1 none, .arrayClass .int, .fieldLink RX1 9 "FerryRightsModel" "toll" "[I", .fieldLink RX1 13 "FerryRightsModel" "carried" "[I", .fieldLink RX1 16 "FerryRightsModel" "owns" "[I", .fieldLink RX1 19 "FerryRightsModel" "coins" "[I", .fieldLink RX1 22 "FerryRightsModel" "earned" "[I", .fieldLink RX1 25 "FerryRightsModel" "parent" "[I", .arrayClass .boolean, .fieldLink RX1 28 "FerryRightsModel" "isDead" "[Z", .fieldLink RX1 32 "FerryRightsModel" "heir" "[I"] ++ wsX10)
def wsX1_thrown : List Cond := .code yX1_thrown cX1_thrown 1 (some .int) :: ([.fieldLink RX1 35 "FerryRightsModel" "thrown" "I"] ++ wsX10)
def wsX1_no : List Cond := .code yX1_no cX1_no 2 (some .int) :: ([.fieldLink RX1 35 "FerryRightsModel" "thrown" "I"] ++ wsX10)
def wsX1_isNot : List Cond := .code yX1_isNot cX1_isNot 2 (some .boolean) :: ([.fieldLink RX1 35 "FerryRightsModel" "thrown" "I"] ++ wsX10)
def wsX1_isIn : List Cond := .code yX1_isIn cX1_isIn 3 (some .boolean) :: ([])
def wsX1_isFerry : List Cond := .code yX1_isFerry cX1_isFerry 2 (some .boolean) :: ([.fieldLink RX1 39 "FerryRightsModel" "ferries" "I", .methodLink RX1 42 yX1_isIn, .static yX1_isIn, .initialized RX1, .code yX1_isIn cX1_isIn 3 (some .boolean)] ++ wsX10)
def wsX1_isWatch : List Cond := .code yX1_isWatch cX1_isWatch 3 (some .boolean) :: ([.methodLink RX1 46 yX1_isFerry, .instanceMethod yX1_isFerry, .selects RX1 yX1_isFerry yX1_isFerry, .initialized RX1, .code yX1_isFerry cX1_isFerry 2 (some .boolean), .fieldLink RX1 39 "FerryRightsModel" "ferries" "I", .methodLink RX1 42 yX1_isIn, .static yX1_isIn, .code yX1_isIn cX1_isIn 3 (some .boolean)] ++ wsX10)
def wsX1_isPerson : List Cond := .code yX1_isPerson cX1_isPerson 2 (some .boolean) :: ([.fieldLink RX1 50 "FerryRightsModel" "people" "I", .methodLink RX1 42 yX1_isIn, .static yX1_isIn, .initialized RX1, .code yX1_isIn cX1_isIn 3 (some .boolean)] ++ wsX10)
def wsX1_at : List Cond := .code yX1_at cX1_at 3 (some .int) :: ([])
def wsX1_crown : List Cond := .code yX1_crown cX1_crown 5 (some .int) :: ([.fieldLink RX1 50 "FerryRightsModel" "people" "I", .fieldLink RX1 16 "FerryRightsModel" "owns" "[I", .methodLink RX1 53 yX1_at, .static yX1_at, .initialized RX1, .code yX1_at cX1_at 3 (some .int)] ++ wsX10)
def wsX1_worth : List Cond := .code yX1_worth cX1_worth 3 (some .int) :: ([.fieldLink RX1 9 "FerryRightsModel" "toll" "[I", .fieldLink RX1 57 "FerryRightsModel" "TRAFFIC" "[I"] ++ wsX10)
def wsX1_get : List Cond := .code yX1_get cX1_get 3 none :: ([.fieldLink RX1 19 "FerryRightsModel" "coins" "[I", .methodLink RX1 60 Lib.Math.min.name, .static Lib.Math.min.name, .initialized "java/lang/Math", .code Lib.Math.min.name Lib.Math.min.code 2 (some .int)] ++ wsX10)
def wsX1_addFerry : List Cond := .code yX1_addFerry cX1_addFerry 2 (some .int) :: ([.fieldLink RX1 35 "FerryRightsModel" "thrown" "I", .fieldLink RX1 39 "FerryRightsModel" "ferries" "I", .fieldLink RX1 9 "FerryRightsModel" "toll" "[I", .methodLink RX1 42 yX1_isIn, .static yX1_isIn, .initialized RX1, .code yX1_isIn cX1_isIn 3 (some .boolean), .methodLink RX1 66 yX1_no, .instanceMethod yX1_no, .selects RX1 yX1_no yX1_no, .code yX1_no cX1_no 2 (some .int)] ++ wsX10)
def wsX1_person : List Cond := .code yX1_person cX1_person 2 (some .int) :: ([.fieldLink RX1 25 "FerryRightsModel" "parent" "[I", .fieldLink RX1 50 "FerryRightsModel" "people" "I"] ++ wsX10)
def wsX1_addPerson : List Cond := .code yX1_addPerson cX1_addPerson 1 (some .int) :: ([.fieldLink RX1 35 "FerryRightsModel" "thrown" "I", .fieldLink RX1 50 "FerryRightsModel" "people" "I", .methodLink RX1 70 yX1_person, .instanceMethod yX1_person, .selects RX1 yX1_person yX1_person, .initialized RX1, .code yX1_person cX1_person 2 (some .int), .fieldLink RX1 25 "FerryRightsModel" "parent" "[I", .methodLink RX1 66 yX1_no, .instanceMethod yX1_no, .selects RX1 yX1_no yX1_no, .code yX1_no cX1_no 2 (some .int)] ++ wsX10)
def wsX1_addChild : List Cond := .code yX1_addChild cX1_addChild 2 (some .int) :: ([.fieldLink RX1 35 "FerryRightsModel" "thrown" "I", .fieldLink RX1 28 "FerryRightsModel" "isDead" "[Z", .fieldLink RX1 50 "FerryRightsModel" "people" "I", .methodLink RX1 73 yX1_isPerson, .instanceMethod yX1_isPerson, .selects RX1 yX1_isPerson yX1_isPerson, .initialized RX1, .code yX1_isPerson cX1_isPerson 2 (some .boolean), .methodLink RX1 42 yX1_isIn, .static yX1_isIn, .code yX1_isIn cX1_isIn 3 (some .boolean), .methodLink RX1 66 yX1_no, .instanceMethod yX1_no, .selects RX1 yX1_no yX1_no, .code yX1_no cX1_no 2 (some .int), .methodLink RX1 70 yX1_person, .instanceMethod yX1_person, .selects RX1 yX1_person yX1_person, .code yX1_person cX1_person 2 (some .int), .fieldLink RX1 25 "FerryRightsModel" "parent" "[I"] ++ wsX10)
def wsX1_pay : List Cond := .code yX1_pay cX1_pay 3 (some .int) :: ([.fieldLink RX1 35 "FerryRightsModel" "thrown" "I", .fieldLink RX1 28 "FerryRightsModel" "isDead" "[Z", .fieldLink RX1 19 "FerryRightsModel" "coins" "[I", .methodLink RX1 73 yX1_isPerson, .instanceMethod yX1_isPerson, .selects RX1 yX1_isPerson yX1_isPerson, .initialized RX1, .code yX1_isPerson cX1_isPerson 2 (some .boolean), .fieldLink RX1 50 "FerryRightsModel" "people" "I", .methodLink RX1 42 yX1_isIn, .static yX1_isIn, .code yX1_isIn cX1_isIn 3 (some .boolean), .methodLink RX1 66 yX1_no, .instanceMethod yX1_no, .selects RX1 yX1_no yX1_no, .code yX1_no cX1_no 2 (some .int), .methodLink RX1 76 yX1_get, .instanceMethod yX1_get, .selects RX1 yX1_get yX1_get, .code yX1_get cX1_get 3 none, .methodLink RX1 60 Lib.Math.min.name, .static Lib.Math.min.name, .initialized "java/lang/Math", .code Lib.Math.min.name Lib.Math.min.code 2 (some .int)] ++ wsX10)
def wsX1_grant_r1 : List Cond := [Cond.fieldLink RX1 35 "FerryRightsModel" "thrown" "I", Cond.fieldLink RX1 28 "FerryRightsModel" "isDead" "[Z", Cond.fieldLink RX1 16 "FerryRightsModel" "owns" "[I", Cond.methodLink RX1 80 yX1_isWatch, Cond.instanceMethod yX1_isWatch, Cond.selects RX1 yX1_isWatch yX1_isWatch, Cond.initialized RX1, Cond.code yX1_isWatch cX1_isWatch 3 (some .boolean), Cond.methodLink RX1 46 yX1_isFerry, Cond.instanceMethod yX1_isFerry, Cond.selects RX1 yX1_isFerry yX1_isFerry, Cond.code yX1_isFerry cX1_isFerry 2 (some .boolean), Cond.fieldLink RX1 39 "FerryRightsModel" "ferries" "I", Cond.methodLink RX1 42 yX1_isIn, Cond.static yX1_isIn, Cond.code yX1_isIn cX1_isIn 3 (some .boolean), Cond.methodLink RX1 73 yX1_isPerson, Cond.instanceMethod yX1_isPerson, Cond.selects RX1 yX1_isPerson yX1_isPerson, Cond.code yX1_isPerson cX1_isPerson 2 (some .boolean), Cond.fieldLink RX1 50 "FerryRightsModel" "people" "I", Cond.methodLink RX1 66 yX1_no, Cond.instanceMethod yX1_no, Cond.selects RX1 yX1_no yX1_no]
def wsX1_grant_r2 : List Cond := [Cond.code yX1_no cX1_no 2 (some .int), Cond.methodLink RX1 84 yX1_crown, Cond.instanceMethod yX1_crown, Cond.selects RX1 yX1_crown yX1_crown, Cond.code yX1_crown cX1_crown 5 (some .int), Cond.methodLink RX1 53 yX1_at, Cond.static yX1_at, Cond.code yX1_at cX1_at 3 (some .int)]
def wsX1_grant : List Cond := .code yX1_grant cX1_grant 5 (some .int) :: ((wsX1_grant_r1 ++ wsX1_grant_r2) ++ wsX10)
def wsX1_give_r1 : List Cond := [Cond.fieldLink RX1 35 "FerryRightsModel" "thrown" "I", Cond.fieldLink RX1 28 "FerryRightsModel" "isDead" "[Z", Cond.fieldLink RX1 16 "FerryRightsModel" "owns" "[I", Cond.methodLink RX1 73 yX1_isPerson, Cond.instanceMethod yX1_isPerson, Cond.selects RX1 yX1_isPerson yX1_isPerson, Cond.initialized RX1, Cond.code yX1_isPerson cX1_isPerson 2 (some .boolean), Cond.fieldLink RX1 50 "FerryRightsModel" "people" "I", Cond.methodLink RX1 42 yX1_isIn, Cond.static yX1_isIn, Cond.code yX1_isIn cX1_isIn 3 (some .boolean), Cond.methodLink RX1 80 yX1_isWatch, Cond.instanceMethod yX1_isWatch, Cond.selects RX1 yX1_isWatch yX1_isWatch, Cond.code yX1_isWatch cX1_isWatch 3 (some .boolean), Cond.methodLink RX1 46 yX1_isFerry, Cond.instanceMethod yX1_isFerry, Cond.selects RX1 yX1_isFerry yX1_isFerry, Cond.code yX1_isFerry cX1_isFerry 2 (some .boolean), Cond.fieldLink RX1 39 "FerryRightsModel" "ferries" "I", Cond.methodLink RX1 66 yX1_no, Cond.instanceMethod yX1_no, Cond.selects RX1 yX1_no yX1_no]
def wsX1_give_r2 : List Cond := [Cond.code yX1_no cX1_no 2 (some .int), Cond.methodLink RX1 53 yX1_at, Cond.static yX1_at, Cond.code yX1_at cX1_at 3 (some .int)]
def wsX1_give : List Cond := .code yX1_give cX1_give 6 (some .int) :: ((wsX1_give_r1 ++ wsX1_give_r2) ++ wsX10)
def wsX1_priceOf : List Cond := .code yX1_priceOf cX1_priceOf 4 (some .int) :: ([.fieldLink RX1 16 "FerryRightsModel" "owns" "[I", .methodLink RX1 53 yX1_at, .static yX1_at, .initialized RX1, .code yX1_at cX1_at 3 (some .int), .methodLink RX1 87 yX1_worth, .instanceMethod yX1_worth, .selects RX1 yX1_worth yX1_worth, .code yX1_worth cX1_worth 3 (some .int), .fieldLink RX1 9 "FerryRightsModel" "toll" "[I", .fieldLink RX1 57 "FerryRightsModel" "TRAFFIC" "[I"] ++ wsX10)
def wsX1_isOtherAhead : List Cond := .code yX1_isOtherAhead cX1_isOtherAhead 6 (some .boolean) :: ([.fieldLink RX1 50 "FerryRightsModel" "people" "I", .fieldLink RX1 16 "FerryRightsModel" "owns" "[I", .fieldLink RX1 19 "FerryRightsModel" "coins" "[I", .methodLink RX1 53 yX1_at, .static yX1_at, .initialized RX1, .code yX1_at cX1_at 3 (some .int)] ++ wsX10)
def wsX1_buys : List Cond := .code yX1_buys cX1_buys 6 (some .boolean) :: ([.fieldLink RX1 28 "FerryRightsModel" "isDead" "[Z", .fieldLink RX1 19 "FerryRightsModel" "coins" "[I", .fieldLink RX1 16 "FerryRightsModel" "owns" "[I", .methodLink RX1 90 yX1_priceOf, .instanceMethod yX1_priceOf, .selects RX1 yX1_priceOf yX1_priceOf, .initialized RX1, .code yX1_priceOf cX1_priceOf 4 (some .int), .methodLink RX1 53 yX1_at, .static yX1_at, .code yX1_at cX1_at 3 (some .int), .methodLink RX1 87 yX1_worth, .instanceMethod yX1_worth, .selects RX1 yX1_worth yX1_worth, .code yX1_worth cX1_worth 3 (some .int), .fieldLink RX1 9 "FerryRightsModel" "toll" "[I", .fieldLink RX1 57 "FerryRightsModel" "TRAFFIC" "[I", .methodLink RX1 93 yX1_isOtherAhead, .instanceMethod yX1_isOtherAhead, .selects RX1 yX1_isOtherAhead yX1_isOtherAhead, .code yX1_isOtherAhead cX1_isOtherAhead 6 (some .boolean), .fieldLink RX1 50 "FerryRightsModel" "people" "I"] ++ wsX10)
def wsX1_buy_r1 : List Cond := [Cond.fieldLink RX1 35 "FerryRightsModel" "thrown" "I", Cond.fieldLink RX1 19 "FerryRightsModel" "coins" "[I", Cond.fieldLink RX1 16 "FerryRightsModel" "owns" "[I", Cond.methodLink RX1 73 yX1_isPerson, Cond.instanceMethod yX1_isPerson, Cond.selects RX1 yX1_isPerson yX1_isPerson, Cond.initialized RX1, Cond.code yX1_isPerson cX1_isPerson 2 (some .boolean), Cond.fieldLink RX1 50 "FerryRightsModel" "people" "I", Cond.methodLink RX1 42 yX1_isIn, Cond.static yX1_isIn, Cond.code yX1_isIn cX1_isIn 3 (some .boolean), Cond.methodLink RX1 80 yX1_isWatch, Cond.instanceMethod yX1_isWatch, Cond.selects RX1 yX1_isWatch yX1_isWatch, Cond.code yX1_isWatch cX1_isWatch 3 (some .boolean), Cond.methodLink RX1 46 yX1_isFerry, Cond.instanceMethod yX1_isFerry, Cond.selects RX1 yX1_isFerry yX1_isFerry, Cond.code yX1_isFerry cX1_isFerry 2 (some .boolean), Cond.fieldLink RX1 39 "FerryRightsModel" "ferries" "I", Cond.methodLink RX1 66 yX1_no, Cond.instanceMethod yX1_no, Cond.selects RX1 yX1_no yX1_no]
def wsX1_buy_r2 : List Cond := [Cond.code yX1_no cX1_no 2 (some .int), Cond.methodLink RX1 97 yX1_buys, Cond.instanceMethod yX1_buys, Cond.selects RX1 yX1_buys yX1_buys, Cond.code yX1_buys cX1_buys 6 (some .boolean), Cond.fieldLink RX1 28 "FerryRightsModel" "isDead" "[Z", Cond.methodLink RX1 90 yX1_priceOf, Cond.instanceMethod yX1_priceOf, Cond.selects RX1 yX1_priceOf yX1_priceOf, Cond.code yX1_priceOf cX1_priceOf 4 (some .int), Cond.methodLink RX1 53 yX1_at, Cond.static yX1_at, Cond.code yX1_at cX1_at 3 (some .int), Cond.methodLink RX1 87 yX1_worth, Cond.instanceMethod yX1_worth, Cond.selects RX1 yX1_worth yX1_worth, Cond.code yX1_worth cX1_worth 3 (some .int), Cond.fieldLink RX1 9 "FerryRightsModel" "toll" "[I", Cond.fieldLink RX1 57 "FerryRightsModel" "TRAFFIC" "[I", Cond.methodLink RX1 93 yX1_isOtherAhead, Cond.instanceMethod yX1_isOtherAhead, Cond.selects RX1 yX1_isOtherAhead yX1_isOtherAhead, Cond.code yX1_isOtherAhead cX1_isOtherAhead 6 (some .boolean), Cond.methodLink RX1 76 yX1_get]
def wsX1_buy_r3 : List Cond := [Cond.instanceMethod yX1_get, Cond.selects RX1 yX1_get yX1_get, Cond.code yX1_get cX1_get 3 none, Cond.methodLink RX1 60 Lib.Math.min.name, Cond.static Lib.Math.min.name, Cond.initialized "java/lang/Math", Cond.code Lib.Math.min.name Lib.Math.min.code 2 (some .int)]
def wsX1_buy : List Cond := .code yX1_buy cX1_buy 6 (some .int) :: ((wsX1_buy_r1 ++ (wsX1_buy_r2 ++ wsX1_buy_r3)) ++ wsX10)
def wsX1_inFerry : List Cond := .code yX1_inFerry cX1_inFerry 5 (some .int) :: ([.fieldLink RX1 16 "FerryRightsModel" "owns" "[I", .methodLink RX1 53 yX1_at, .static yX1_at, .initialized RX1, .code yX1_at cX1_at 3 (some .int)] ++ wsX10)
def wsX1_masterOf : List Cond := .code yX1_masterOf cX1_masterOf 3 (some .int) :: ([.fieldLink RX1 50 "FerryRightsModel" "people" "I", .methodLink RX1 100 yX1_inFerry, .instanceMethod yX1_inFerry, .selects RX1 yX1_inFerry yX1_inFerry, .initialized RX1, .code yX1_inFerry cX1_inFerry 5 (some .int), .fieldLink RX1 16 "FerryRightsModel" "owns" "[I", .methodLink RX1 53 yX1_at, .static yX1_at, .code yX1_at cX1_at 3 (some .int)] ++ wsX10)
def wsX1_setToll_r1 : List Cond := [Cond.fieldLink RX1 35 "FerryRightsModel" "thrown" "I", Cond.fieldLink RX1 9 "FerryRightsModel" "toll" "[I", Cond.methodLink RX1 46 yX1_isFerry, Cond.instanceMethod yX1_isFerry, Cond.selects RX1 yX1_isFerry yX1_isFerry, Cond.initialized RX1, Cond.code yX1_isFerry cX1_isFerry 2 (some .boolean), Cond.fieldLink RX1 39 "FerryRightsModel" "ferries" "I", Cond.methodLink RX1 42 yX1_isIn, Cond.static yX1_isIn, Cond.code yX1_isIn cX1_isIn 3 (some .boolean), Cond.methodLink RX1 73 yX1_isPerson, Cond.instanceMethod yX1_isPerson, Cond.selects RX1 yX1_isPerson yX1_isPerson, Cond.code yX1_isPerson cX1_isPerson 2 (some .boolean), Cond.fieldLink RX1 50 "FerryRightsModel" "people" "I", Cond.methodLink RX1 66 yX1_no, Cond.instanceMethod yX1_no, Cond.selects RX1 yX1_no yX1_no, Cond.code yX1_no cX1_no 2 (some .int), Cond.methodLink RX1 103 yX1_masterOf, Cond.instanceMethod yX1_masterOf, Cond.selects RX1 yX1_masterOf yX1_masterOf, Cond.code yX1_masterOf cX1_masterOf 3 (some .int)]
def wsX1_setToll_r2 : List Cond := [Cond.methodLink RX1 100 yX1_inFerry, Cond.instanceMethod yX1_inFerry, Cond.selects RX1 yX1_inFerry yX1_inFerry, Cond.code yX1_inFerry cX1_inFerry 5 (some .int), Cond.fieldLink RX1 16 "FerryRightsModel" "owns" "[I", Cond.methodLink RX1 53 yX1_at, Cond.static yX1_at, Cond.code yX1_at cX1_at 3 (some .int)]
def wsX1_setToll : List Cond := .code yX1_setToll cX1_setToll 5 (some .int) :: ((wsX1_setToll_r1 ++ wsX1_setToll_r2) ++ wsX10)
def wsX1_part : List Cond := .code yX1_part cX1_part 5 (some .int) :: ([.fieldLink RX1 9 "FerryRightsModel" "toll" "[I", .fieldLink RX1 16 "FerryRightsModel" "owns" "[I", .methodLink RX1 53 yX1_at, .static yX1_at, .initialized RX1, .code yX1_at cX1_at 3 (some .int)] ++ wsX10)
def wsX1_carry_r1 : List Cond := [Cond.fieldLink RX1 35 "FerryRightsModel" "thrown" "I", Cond.fieldLink RX1 9 "FerryRightsModel" "toll" "[I", Cond.fieldLink RX1 50 "FerryRightsModel" "people" "I", Cond.fieldLink RX1 22 "FerryRightsModel" "earned" "[I", Cond.fieldLink RX1 13 "FerryRightsModel" "carried" "[I", Cond.fieldLink RX1 110 "FerryRightsModel" "crownCoins" "I", Cond.methodLink RX1 46 yX1_isFerry, Cond.instanceMethod yX1_isFerry, Cond.selects RX1 yX1_isFerry yX1_isFerry, Cond.initialized RX1, Cond.code yX1_isFerry cX1_isFerry 2 (some .boolean), Cond.fieldLink RX1 39 "FerryRightsModel" "ferries" "I", Cond.methodLink RX1 42 yX1_isIn, Cond.static yX1_isIn, Cond.code yX1_isIn cX1_isIn 3 (some .boolean), Cond.methodLink RX1 66 yX1_no, Cond.instanceMethod yX1_no, Cond.selects RX1 yX1_no yX1_no, Cond.code yX1_no cX1_no 2 (some .int), Cond.methodLink RX1 106 yX1_part, Cond.instanceMethod yX1_part, Cond.selects RX1 yX1_part yX1_part, Cond.code yX1_part cX1_part 5 (some .int), Cond.fieldLink RX1 16 "FerryRightsModel" "owns" "[I"]
def wsX1_carry_r2 : List Cond := [Cond.methodLink RX1 53 yX1_at, Cond.static yX1_at, Cond.code yX1_at cX1_at 3 (some .int), Cond.methodLink RX1 76 yX1_get, Cond.instanceMethod yX1_get, Cond.selects RX1 yX1_get yX1_get, Cond.code yX1_get cX1_get 3 none, Cond.fieldLink RX1 19 "FerryRightsModel" "coins" "[I", Cond.methodLink RX1 60 Lib.Math.min.name, Cond.static Lib.Math.min.name, Cond.initialized "java/lang/Math", Cond.code Lib.Math.min.name Lib.Math.min.code 2 (some .int)]
def wsX1_carry : List Cond := .code yX1_carry cX1_carry 7 (some .int) :: ((wsX1_carry_r1 ++ wsX1_carry_r2) ++ wsX10)
def wsX1_addHeir : List Cond := .code yX1_addHeir cX1_addHeir 2 none :: ([.fieldLink RX1 32 "FerryRightsModel" "heir" "[I", .fieldLink RX1 113 "FerryRightsModel" "heirs" "I"] ++ wsX10)
def wsX1_lookForHeirs : List Cond := .code yX1_lookForHeirs cX1_lookForHeirs 3 none :: ([.fieldLink RX1 113 "FerryRightsModel" "heirs" "I", .fieldLink RX1 50 "FerryRightsModel" "people" "I", .fieldLink RX1 25 "FerryRightsModel" "parent" "[I", .fieldLink RX1 28 "FerryRightsModel" "isDead" "[Z", .methodLink RX1 116 yX1_addHeir, .instanceMethod yX1_addHeir, .selects RX1 yX1_addHeir yX1_addHeir, .initialized RX1, .code yX1_addHeir cX1_addHeir 2 none, .fieldLink RX1 32 "FerryRightsModel" "heir" "[I"] ++ wsX10)
def wsX1_partOf : List Cond := .code yX1_partOf cX1_partOf 4 (some .int) :: ([.fieldLink RX1 113 "FerryRightsModel" "heirs" "I"] ++ wsX10)
def wsX1_die_r1 : List Cond := [Cond.fieldLink RX1 35 "FerryRightsModel" "thrown" "I", Cond.fieldLink RX1 28 "FerryRightsModel" "isDead" "[Z", Cond.fieldLink RX1 39 "FerryRightsModel" "ferries" "I", Cond.fieldLink RX1 16 "FerryRightsModel" "owns" "[I", Cond.fieldLink RX1 113 "FerryRightsModel" "heirs" "I", Cond.fieldLink RX1 32 "FerryRightsModel" "heir" "[I", Cond.fieldLink RX1 19 "FerryRightsModel" "coins" "[I", Cond.fieldLink RX1 110 "FerryRightsModel" "crownCoins" "I", Cond.methodLink RX1 73 yX1_isPerson, Cond.instanceMethod yX1_isPerson, Cond.selects RX1 yX1_isPerson yX1_isPerson, Cond.initialized RX1, Cond.code yX1_isPerson cX1_isPerson 2 (some .boolean), Cond.fieldLink RX1 50 "FerryRightsModel" "people" "I", Cond.methodLink RX1 42 yX1_isIn, Cond.static yX1_isIn, Cond.code yX1_isIn cX1_isIn 3 (some .boolean), Cond.methodLink RX1 66 yX1_no, Cond.instanceMethod yX1_no, Cond.selects RX1 yX1_no yX1_no, Cond.code yX1_no cX1_no 2 (some .int), Cond.methodLink RX1 120 yX1_lookForHeirs, Cond.instanceMethod yX1_lookForHeirs, Cond.selects RX1 yX1_lookForHeirs yX1_lookForHeirs]
def wsX1_die_r2 : List Cond := [Cond.code yX1_lookForHeirs cX1_lookForHeirs 3 none, Cond.fieldLink RX1 25 "FerryRightsModel" "parent" "[I", Cond.methodLink RX1 116 yX1_addHeir, Cond.instanceMethod yX1_addHeir, Cond.selects RX1 yX1_addHeir yX1_addHeir, Cond.code yX1_addHeir cX1_addHeir 2 none, Cond.methodLink RX1 123 yX1_partOf, Cond.instanceMethod yX1_partOf, Cond.selects RX1 yX1_partOf yX1_partOf, Cond.code yX1_partOf cX1_partOf 4 (some .int), Cond.methodLink RX1 76 yX1_get, Cond.instanceMethod yX1_get, Cond.selects RX1 yX1_get yX1_get, Cond.code yX1_get cX1_get 3 none, Cond.methodLink RX1 60 Lib.Math.min.name, Cond.static Lib.Math.min.name, Cond.initialized "java/lang/Math", Cond.code Lib.Math.min.name Lib.Math.min.code 2 (some .int)]
def wsX1_die : List Cond := .code yX1_die cX1_die 5 (some .int) :: ((wsX1_die_r1 ++ wsX1_die_r2) ++ wsX10)
def wsX1_ferries : List Cond := .code yX1_ferries cX1_ferries 1 (some .int) :: ([.fieldLink RX1 35 "FerryRightsModel" "thrown" "I", .fieldLink RX1 39 "FerryRightsModel" "ferries" "I"] ++ wsX10)
def wsX1_toll : List Cond := .code yX1_toll cX1_toll 2 (some .int) :: ([.fieldLink RX1 35 "FerryRightsModel" "thrown" "I", .fieldLink RX1 9 "FerryRightsModel" "toll" "[I", .methodLink RX1 46 yX1_isFerry, .instanceMethod yX1_isFerry, .selects RX1 yX1_isFerry yX1_isFerry, .initialized RX1, .code yX1_isFerry cX1_isFerry 2 (some .boolean), .fieldLink RX1 39 "FerryRightsModel" "ferries" "I", .methodLink RX1 42 yX1_isIn, .static yX1_isIn, .code yX1_isIn cX1_isIn 3 (some .boolean), .methodLink RX1 66 yX1_no, .instanceMethod yX1_no, .selects RX1 yX1_no yX1_no, .code yX1_no cX1_no 2 (some .int)] ++ wsX10)
def wsX1_carried : List Cond := .code yX1_carried cX1_carried 2 (some .int) :: ([.fieldLink RX1 35 "FerryRightsModel" "thrown" "I", .fieldLink RX1 13 "FerryRightsModel" "carried" "[I", .methodLink RX1 46 yX1_isFerry, .instanceMethod yX1_isFerry, .selects RX1 yX1_isFerry yX1_isFerry, .initialized RX1, .code yX1_isFerry cX1_isFerry 2 (some .boolean), .fieldLink RX1 39 "FerryRightsModel" "ferries" "I", .methodLink RX1 42 yX1_isIn, .static yX1_isIn, .code yX1_isIn cX1_isIn 3 (some .boolean), .methodLink RX1 66 yX1_no, .instanceMethod yX1_no, .selects RX1 yX1_no yX1_no, .code yX1_no cX1_no 2 (some .int)] ++ wsX10)
def wsX1_shares_r1 : List Cond := [Cond.fieldLink RX1 35 "FerryRightsModel" "thrown" "I", Cond.fieldLink RX1 16 "FerryRightsModel" "owns" "[I", Cond.methodLink RX1 80 yX1_isWatch, Cond.instanceMethod yX1_isWatch, Cond.selects RX1 yX1_isWatch yX1_isWatch, Cond.initialized RX1, Cond.code yX1_isWatch cX1_isWatch 3 (some .boolean), Cond.methodLink RX1 46 yX1_isFerry, Cond.instanceMethod yX1_isFerry, Cond.selects RX1 yX1_isFerry yX1_isFerry, Cond.code yX1_isFerry cX1_isFerry 2 (some .boolean), Cond.fieldLink RX1 39 "FerryRightsModel" "ferries" "I", Cond.methodLink RX1 42 yX1_isIn, Cond.static yX1_isIn, Cond.code yX1_isIn cX1_isIn 3 (some .boolean), Cond.methodLink RX1 73 yX1_isPerson, Cond.instanceMethod yX1_isPerson, Cond.selects RX1 yX1_isPerson yX1_isPerson, Cond.code yX1_isPerson cX1_isPerson 2 (some .boolean), Cond.fieldLink RX1 50 "FerryRightsModel" "people" "I", Cond.methodLink RX1 53 yX1_at, Cond.static yX1_at, Cond.code yX1_at cX1_at 3 (some .int), Cond.methodLink RX1 66 yX1_no]
def wsX1_shares_r2 : List Cond := [Cond.instanceMethod yX1_no, Cond.selects RX1 yX1_no yX1_no, Cond.code yX1_no cX1_no 2 (some .int)]
def wsX1_shares : List Cond := .code yX1_shares cX1_shares 4 (some .int) :: ((wsX1_shares_r1 ++ wsX1_shares_r2) ++ wsX10)
def wsX1_crownShares_r1 : List Cond := [Cond.fieldLink RX1 35 "FerryRightsModel" "thrown" "I", Cond.methodLink RX1 80 yX1_isWatch, Cond.instanceMethod yX1_isWatch, Cond.selects RX1 yX1_isWatch yX1_isWatch, Cond.initialized RX1, Cond.code yX1_isWatch cX1_isWatch 3 (some .boolean), Cond.methodLink RX1 46 yX1_isFerry, Cond.instanceMethod yX1_isFerry, Cond.selects RX1 yX1_isFerry yX1_isFerry, Cond.code yX1_isFerry cX1_isFerry 2 (some .boolean), Cond.fieldLink RX1 39 "FerryRightsModel" "ferries" "I", Cond.methodLink RX1 42 yX1_isIn, Cond.static yX1_isIn, Cond.code yX1_isIn cX1_isIn 3 (some .boolean), Cond.methodLink RX1 84 yX1_crown, Cond.instanceMethod yX1_crown, Cond.selects RX1 yX1_crown yX1_crown, Cond.code yX1_crown cX1_crown 5 (some .int), Cond.fieldLink RX1 50 "FerryRightsModel" "people" "I", Cond.fieldLink RX1 16 "FerryRightsModel" "owns" "[I", Cond.methodLink RX1 53 yX1_at, Cond.static yX1_at, Cond.code yX1_at cX1_at 3 (some .int), Cond.methodLink RX1 66 yX1_no]
def wsX1_crownShares_r2 : List Cond := [Cond.instanceMethod yX1_no, Cond.selects RX1 yX1_no yX1_no, Cond.code yX1_no cX1_no 2 (some .int)]
def wsX1_crownShares : List Cond := .code yX1_crownShares cX1_crownShares 3 (some .int) :: ((wsX1_crownShares_r1 ++ wsX1_crownShares_r2) ++ wsX10)
def wsX1_owners : List Cond := .code yX1_owners cX1_owners 5 (some .int) :: ([.fieldLink RX1 35 "FerryRightsModel" "thrown" "I", .fieldLink RX1 50 "FerryRightsModel" "people" "I", .fieldLink RX1 16 "FerryRightsModel" "owns" "[I", .methodLink RX1 80 yX1_isWatch, .instanceMethod yX1_isWatch, .selects RX1 yX1_isWatch yX1_isWatch, .initialized RX1, .code yX1_isWatch cX1_isWatch 3 (some .boolean), .methodLink RX1 46 yX1_isFerry, .instanceMethod yX1_isFerry, .selects RX1 yX1_isFerry yX1_isFerry, .code yX1_isFerry cX1_isFerry 2 (some .boolean), .fieldLink RX1 39 "FerryRightsModel" "ferries" "I", .methodLink RX1 42 yX1_isIn, .static yX1_isIn, .code yX1_isIn cX1_isIn 3 (some .boolean), .methodLink RX1 66 yX1_no, .instanceMethod yX1_no, .selects RX1 yX1_no yX1_no, .code yX1_no cX1_no 2 (some .int), .methodLink RX1 53 yX1_at, .static yX1_at, .code yX1_at cX1_at 3 (some .int)] ++ wsX10)
def wsX1_holder : List Cond := .code yX1_holder cX1_holder 6 (some .int) :: ([.fieldLink RX1 35 "FerryRightsModel" "thrown" "I", .fieldLink RX1 50 "FerryRightsModel" "people" "I", .fieldLink RX1 16 "FerryRightsModel" "owns" "[I", .methodLink RX1 80 yX1_isWatch, .instanceMethod yX1_isWatch, .selects RX1 yX1_isWatch yX1_isWatch, .initialized RX1, .code yX1_isWatch cX1_isWatch 3 (some .boolean), .methodLink RX1 46 yX1_isFerry, .instanceMethod yX1_isFerry, .selects RX1 yX1_isFerry yX1_isFerry, .code yX1_isFerry cX1_isFerry 2 (some .boolean), .fieldLink RX1 39 "FerryRightsModel" "ferries" "I", .methodLink RX1 42 yX1_isIn, .static yX1_isIn, .code yX1_isIn cX1_isIn 3 (some .boolean), .methodLink RX1 66 yX1_no, .instanceMethod yX1_no, .selects RX1 yX1_no yX1_no, .code yX1_no cX1_no 2 (some .int), .methodLink RX1 53 yX1_at, .static yX1_at, .code yX1_at cX1_at 3 (some .int)] ++ wsX10)
def wsX1_master_r1 : List Cond := [Cond.fieldLink RX1 35 "FerryRightsModel" "thrown" "I", Cond.methodLink RX1 46 yX1_isFerry, Cond.instanceMethod yX1_isFerry, Cond.selects RX1 yX1_isFerry yX1_isFerry, Cond.initialized RX1, Cond.code yX1_isFerry cX1_isFerry 2 (some .boolean), Cond.fieldLink RX1 39 "FerryRightsModel" "ferries" "I", Cond.methodLink RX1 42 yX1_isIn, Cond.static yX1_isIn, Cond.code yX1_isIn cX1_isIn 3 (some .boolean), Cond.methodLink RX1 66 yX1_no, Cond.instanceMethod yX1_no, Cond.selects RX1 yX1_no yX1_no, Cond.code yX1_no cX1_no 2 (some .int), Cond.methodLink RX1 103 yX1_masterOf, Cond.instanceMethod yX1_masterOf, Cond.selects RX1 yX1_masterOf yX1_masterOf, Cond.code yX1_masterOf cX1_masterOf 3 (some .int), Cond.fieldLink RX1 50 "FerryRightsModel" "people" "I", Cond.methodLink RX1 100 yX1_inFerry, Cond.instanceMethod yX1_inFerry, Cond.selects RX1 yX1_inFerry yX1_inFerry, Cond.code yX1_inFerry cX1_inFerry 5 (some .int), Cond.fieldLink RX1 16 "FerryRightsModel" "owns" "[I"]
def wsX1_master_r2 : List Cond := [Cond.methodLink RX1 53 yX1_at, Cond.static yX1_at, Cond.code yX1_at cX1_at 3 (some .int)]
def wsX1_master : List Cond := .code yX1_master cX1_master 3 (some .int) :: ((wsX1_master_r1 ++ wsX1_master_r2) ++ wsX10)
def wsX1_hasMaster_r1 : List Cond := [Cond.fieldLink RX1 35 "FerryRightsModel" "thrown" "I", Cond.methodLink RX1 46 yX1_isFerry, Cond.instanceMethod yX1_isFerry, Cond.selects RX1 yX1_isFerry yX1_isFerry, Cond.initialized RX1, Cond.code yX1_isFerry cX1_isFerry 2 (some .boolean), Cond.fieldLink RX1 39 "FerryRightsModel" "ferries" "I", Cond.methodLink RX1 42 yX1_isIn, Cond.static yX1_isIn, Cond.code yX1_isIn cX1_isIn 3 (some .boolean), Cond.methodLink RX1 103 yX1_masterOf, Cond.instanceMethod yX1_masterOf, Cond.selects RX1 yX1_masterOf yX1_masterOf, Cond.code yX1_masterOf cX1_masterOf 3 (some .int), Cond.fieldLink RX1 50 "FerryRightsModel" "people" "I", Cond.methodLink RX1 100 yX1_inFerry, Cond.instanceMethod yX1_inFerry, Cond.selects RX1 yX1_inFerry yX1_inFerry, Cond.code yX1_inFerry cX1_inFerry 5 (some .int), Cond.fieldLink RX1 16 "FerryRightsModel" "owns" "[I", Cond.methodLink RX1 53 yX1_at, Cond.static yX1_at, Cond.code yX1_at cX1_at 3 (some .int), Cond.methodLink RX1 126 yX1_isNot]
def wsX1_hasMaster_r2 : List Cond := [Cond.instanceMethod yX1_isNot, Cond.selects RX1 yX1_isNot yX1_isNot, Cond.code yX1_isNot cX1_isNot 2 (some .boolean)]
def wsX1_hasMaster : List Cond := .code yX1_hasMaster cX1_hasMaster 2 (some .boolean) :: ((wsX1_hasMaster_r1 ++ wsX1_hasMaster_r2) ++ wsX10)
def wsX1_shareValue : List Cond := .code yX1_shareValue cX1_shareValue 3 (some .int) :: ([.fieldLink RX1 35 "FerryRightsModel" "thrown" "I", .methodLink RX1 80 yX1_isWatch, .instanceMethod yX1_isWatch, .selects RX1 yX1_isWatch yX1_isWatch, .initialized RX1, .code yX1_isWatch cX1_isWatch 3 (some .boolean), .methodLink RX1 46 yX1_isFerry, .instanceMethod yX1_isFerry, .selects RX1 yX1_isFerry yX1_isFerry, .code yX1_isFerry cX1_isFerry 2 (some .boolean), .fieldLink RX1 39 "FerryRightsModel" "ferries" "I", .methodLink RX1 42 yX1_isIn, .static yX1_isIn, .code yX1_isIn cX1_isIn 3 (some .boolean), .methodLink RX1 87 yX1_worth, .instanceMethod yX1_worth, .selects RX1 yX1_worth yX1_worth, .code yX1_worth cX1_worth 3 (some .int), .fieldLink RX1 9 "FerryRightsModel" "toll" "[I", .fieldLink RX1 57 "FerryRightsModel" "TRAFFIC" "[I", .methodLink RX1 66 yX1_no, .instanceMethod yX1_no, .selects RX1 yX1_no yX1_no, .code yX1_no cX1_no 2 (some .int)] ++ wsX10)
def wsX1_watchAt : List Cond := .code yX1_watchAt cX1_watchAt 2 (some .int) :: ([.fieldLink RX1 35 "FerryRightsModel" "thrown" "I", .methodLink RX1 42 yX1_isIn, .static yX1_isIn, .initialized RX1, .code yX1_isIn cX1_isIn 3 (some .boolean), .methodLink RX1 66 yX1_no, .instanceMethod yX1_no, .selects RX1 yX1_no yX1_no, .code yX1_no cX1_no 2 (some .int)] ++ wsX10)
def wsX1_people : List Cond := .code yX1_people cX1_people 1 (some .int) :: ([.fieldLink RX1 35 "FerryRightsModel" "thrown" "I", .fieldLink RX1 50 "FerryRightsModel" "people" "I"] ++ wsX10)
def wsX1_alive : List Cond := .code yX1_alive cX1_alive 3 (some .int) :: ([.fieldLink RX1 50 "FerryRightsModel" "people" "I", .fieldLink RX1 28 "FerryRightsModel" "isDead" "[Z"] ++ wsX10)
def wsX1_living : List Cond := .code yX1_living cX1_living 1 (some .int) :: ([.fieldLink RX1 35 "FerryRightsModel" "thrown" "I", .methodLink RX1 129 yX1_alive, .instanceMethod yX1_alive, .selects RX1 yX1_alive yX1_alive, .initialized RX1, .code yX1_alive cX1_alive 3 (some .int), .fieldLink RX1 50 "FerryRightsModel" "people" "I", .fieldLink RX1 28 "FerryRightsModel" "isDead" "[Z"] ++ wsX10)
def wsX1_isAlive : List Cond := .code yX1_isAlive cX1_isAlive 2 (some .boolean) :: ([.fieldLink RX1 35 "FerryRightsModel" "thrown" "I", .fieldLink RX1 28 "FerryRightsModel" "isDead" "[Z", .methodLink RX1 73 yX1_isPerson, .instanceMethod yX1_isPerson, .selects RX1 yX1_isPerson yX1_isPerson, .initialized RX1, .code yX1_isPerson cX1_isPerson 2 (some .boolean), .fieldLink RX1 50 "FerryRightsModel" "people" "I", .methodLink RX1 42 yX1_isIn, .static yX1_isIn, .code yX1_isIn cX1_isIn 3 (some .boolean), .methodLink RX1 126 yX1_isNot, .instanceMethod yX1_isNot, .selects RX1 yX1_isNot yX1_isNot, .code yX1_isNot cX1_isNot 2 (some .boolean)] ++ wsX10)
def wsX1_coins : List Cond := .code yX1_coins cX1_coins 2 (some .int) :: ([.fieldLink RX1 35 "FerryRightsModel" "thrown" "I", .fieldLink RX1 19 "FerryRightsModel" "coins" "[I", .methodLink RX1 73 yX1_isPerson, .instanceMethod yX1_isPerson, .selects RX1 yX1_isPerson yX1_isPerson, .initialized RX1, .code yX1_isPerson cX1_isPerson 2 (some .boolean), .fieldLink RX1 50 "FerryRightsModel" "people" "I", .methodLink RX1 42 yX1_isIn, .static yX1_isIn, .code yX1_isIn cX1_isIn 3 (some .boolean), .methodLink RX1 66 yX1_no, .instanceMethod yX1_no, .selects RX1 yX1_no yX1_no, .code yX1_no cX1_no 2 (some .int)] ++ wsX10)
def wsX1_earned : List Cond := .code yX1_earned cX1_earned 2 (some .int) :: ([.fieldLink RX1 35 "FerryRightsModel" "thrown" "I", .fieldLink RX1 22 "FerryRightsModel" "earned" "[I", .methodLink RX1 73 yX1_isPerson, .instanceMethod yX1_isPerson, .selects RX1 yX1_isPerson yX1_isPerson, .initialized RX1, .code yX1_isPerson cX1_isPerson 2 (some .boolean), .fieldLink RX1 50 "FerryRightsModel" "people" "I", .methodLink RX1 42 yX1_isIn, .static yX1_isIn, .code yX1_isIn cX1_isIn 3 (some .boolean), .methodLink RX1 66 yX1_no, .instanceMethod yX1_no, .selects RX1 yX1_no yX1_no, .code yX1_no cX1_no 2 (some .int)] ++ wsX10)
def wsX1_allOf : List Cond := .code yX1_allOf cX1_allOf 4 (some .int) :: ([.fieldLink RX1 39 "FerryRightsModel" "ferries" "I", .methodLink RX1 100 yX1_inFerry, .instanceMethod yX1_inFerry, .selects RX1 yX1_inFerry yX1_inFerry, .initialized RX1, .code yX1_inFerry cX1_inFerry 5 (some .int), .fieldLink RX1 16 "FerryRightsModel" "owns" "[I", .methodLink RX1 53 yX1_at, .static yX1_at, .code yX1_at cX1_at 3 (some .int)] ++ wsX10)
def wsX1_allShares_r1 : List Cond := [Cond.fieldLink RX1 35 "FerryRightsModel" "thrown" "I", Cond.methodLink RX1 73 yX1_isPerson, Cond.instanceMethod yX1_isPerson, Cond.selects RX1 yX1_isPerson yX1_isPerson, Cond.initialized RX1, Cond.code yX1_isPerson cX1_isPerson 2 (some .boolean), Cond.fieldLink RX1 50 "FerryRightsModel" "people" "I", Cond.methodLink RX1 42 yX1_isIn, Cond.static yX1_isIn, Cond.code yX1_isIn cX1_isIn 3 (some .boolean), Cond.methodLink RX1 133 yX1_allOf, Cond.instanceMethod yX1_allOf, Cond.selects RX1 yX1_allOf yX1_allOf, Cond.code yX1_allOf cX1_allOf 4 (some .int), Cond.fieldLink RX1 39 "FerryRightsModel" "ferries" "I", Cond.methodLink RX1 100 yX1_inFerry, Cond.instanceMethod yX1_inFerry, Cond.selects RX1 yX1_inFerry yX1_inFerry, Cond.code yX1_inFerry cX1_inFerry 5 (some .int), Cond.fieldLink RX1 16 "FerryRightsModel" "owns" "[I", Cond.methodLink RX1 53 yX1_at, Cond.static yX1_at, Cond.code yX1_at cX1_at 3 (some .int), Cond.methodLink RX1 66 yX1_no]
def wsX1_allShares_r2 : List Cond := [Cond.instanceMethod yX1_no, Cond.selects RX1 yX1_no yX1_no, Cond.code yX1_no cX1_no 2 (some .int)]
def wsX1_allShares : List Cond := .code yX1_allShares cX1_allShares 2 (some .int) :: ((wsX1_allShares_r1 ++ wsX1_allShares_r2) ++ wsX10)
def wsX1_hasParent : List Cond := .code yX1_hasParent cX1_hasParent 2 (some .boolean) :: ([.fieldLink RX1 35 "FerryRightsModel" "thrown" "I", .fieldLink RX1 25 "FerryRightsModel" "parent" "[I", .methodLink RX1 73 yX1_isPerson, .instanceMethod yX1_isPerson, .selects RX1 yX1_isPerson yX1_isPerson, .initialized RX1, .code yX1_isPerson cX1_isPerson 2 (some .boolean), .fieldLink RX1 50 "FerryRightsModel" "people" "I", .methodLink RX1 42 yX1_isIn, .static yX1_isIn, .code yX1_isIn cX1_isIn 3 (some .boolean), .methodLink RX1 126 yX1_isNot, .instanceMethod yX1_isNot, .selects RX1 yX1_isNot yX1_isNot, .code yX1_isNot cX1_isNot 2 (some .boolean)] ++ wsX10)
def wsX1_parent : List Cond := .code yX1_parent cX1_parent 2 (some .int) :: ([.fieldLink RX1 35 "FerryRightsModel" "thrown" "I", .fieldLink RX1 25 "FerryRightsModel" "parent" "[I", .methodLink RX1 73 yX1_isPerson, .instanceMethod yX1_isPerson, .selects RX1 yX1_isPerson yX1_isPerson, .initialized RX1, .code yX1_isPerson cX1_isPerson 2 (some .boolean), .fieldLink RX1 50 "FerryRightsModel" "people" "I", .methodLink RX1 42 yX1_isIn, .static yX1_isIn, .code yX1_isIn cX1_isIn 3 (some .boolean), .methodLink RX1 66 yX1_no, .instanceMethod yX1_no, .selects RX1 yX1_no yX1_no, .code yX1_no cX1_no 2 (some .int)] ++ wsX10)
def wsX1_childrenOf : List Cond := .code yX1_childrenOf cX1_childrenOf 4 (some .int) :: ([.fieldLink RX1 50 "FerryRightsModel" "people" "I", .fieldLink RX1 25 "FerryRightsModel" "parent" "[I"] ++ wsX10)
def wsX1_children : List Cond := .code yX1_children cX1_children 2 (some .int) :: ([.fieldLink RX1 35 "FerryRightsModel" "thrown" "I", .methodLink RX1 73 yX1_isPerson, .instanceMethod yX1_isPerson, .selects RX1 yX1_isPerson yX1_isPerson, .initialized RX1, .code yX1_isPerson cX1_isPerson 2 (some .boolean), .fieldLink RX1 50 "FerryRightsModel" "people" "I", .methodLink RX1 42 yX1_isIn, .static yX1_isIn, .code yX1_isIn cX1_isIn 3 (some .boolean), .methodLink RX1 136 yX1_childrenOf, .instanceMethod yX1_childrenOf, .selects RX1 yX1_childrenOf yX1_childrenOf, .code yX1_childrenOf cX1_childrenOf 4 (some .int), .fieldLink RX1 25 "FerryRightsModel" "parent" "[I", .methodLink RX1 66 yX1_no, .instanceMethod yX1_no, .selects RX1 yX1_no yX1_no, .code yX1_no cX1_no 2 (some .int)] ++ wsX10)
def wsX1_heirsOf : List Cond := .code yX1_heirsOf cX1_heirsOf 2 (some .int) :: ([.fieldLink RX1 113 "FerryRightsModel" "heirs" "I", .methodLink RX1 120 yX1_lookForHeirs, .instanceMethod yX1_lookForHeirs, .selects RX1 yX1_lookForHeirs yX1_lookForHeirs, .initialized RX1, .code yX1_lookForHeirs cX1_lookForHeirs 3 none, .fieldLink RX1 50 "FerryRightsModel" "people" "I", .fieldLink RX1 25 "FerryRightsModel" "parent" "[I", .fieldLink RX1 28 "FerryRightsModel" "isDead" "[Z", .methodLink RX1 116 yX1_addHeir, .instanceMethod yX1_addHeir, .selects RX1 yX1_addHeir yX1_addHeir, .code yX1_addHeir cX1_addHeir 2 none, .fieldLink RX1 32 "FerryRightsModel" "heir" "[I"] ++ wsX10)
def wsX1_heirs_r1 : List Cond := [Cond.fieldLink RX1 35 "FerryRightsModel" "thrown" "I", Cond.methodLink RX1 73 yX1_isPerson, Cond.instanceMethod yX1_isPerson, Cond.selects RX1 yX1_isPerson yX1_isPerson, Cond.initialized RX1, Cond.code yX1_isPerson cX1_isPerson 2 (some .boolean), Cond.fieldLink RX1 50 "FerryRightsModel" "people" "I", Cond.methodLink RX1 42 yX1_isIn, Cond.static yX1_isIn, Cond.code yX1_isIn cX1_isIn 3 (some .boolean), Cond.methodLink RX1 139 yX1_heirsOf, Cond.instanceMethod yX1_heirsOf, Cond.selects RX1 yX1_heirsOf yX1_heirsOf, Cond.code yX1_heirsOf cX1_heirsOf 2 (some .int), Cond.fieldLink RX1 113 "FerryRightsModel" "heirs" "I", Cond.methodLink RX1 120 yX1_lookForHeirs, Cond.instanceMethod yX1_lookForHeirs, Cond.selects RX1 yX1_lookForHeirs yX1_lookForHeirs, Cond.code yX1_lookForHeirs cX1_lookForHeirs 3 none, Cond.fieldLink RX1 25 "FerryRightsModel" "parent" "[I", Cond.fieldLink RX1 28 "FerryRightsModel" "isDead" "[Z", Cond.methodLink RX1 116 yX1_addHeir, Cond.instanceMethod yX1_addHeir, Cond.selects RX1 yX1_addHeir yX1_addHeir]
def wsX1_heirs_r2 : List Cond := [Cond.code yX1_addHeir cX1_addHeir 2 none, Cond.fieldLink RX1 32 "FerryRightsModel" "heir" "[I", Cond.methodLink RX1 66 yX1_no, Cond.instanceMethod yX1_no, Cond.selects RX1 yX1_no yX1_no, Cond.code yX1_no cX1_no 2 (some .int)]
def wsX1_heirs : List Cond := .code yX1_heirs cX1_heirs 2 (some .int) :: ((wsX1_heirs_r1 ++ wsX1_heirs_r2) ++ wsX10)
def wsX1_heir_r1 : List Cond := [Cond.fieldLink RX1 35 "FerryRightsModel" "thrown" "I", Cond.fieldLink RX1 32 "FerryRightsModel" "heir" "[I", Cond.methodLink RX1 73 yX1_isPerson, Cond.instanceMethod yX1_isPerson, Cond.selects RX1 yX1_isPerson yX1_isPerson, Cond.initialized RX1, Cond.code yX1_isPerson cX1_isPerson 2 (some .boolean), Cond.fieldLink RX1 50 "FerryRightsModel" "people" "I", Cond.methodLink RX1 42 yX1_isIn, Cond.static yX1_isIn, Cond.code yX1_isIn cX1_isIn 3 (some .boolean), Cond.methodLink RX1 139 yX1_heirsOf, Cond.instanceMethod yX1_heirsOf, Cond.selects RX1 yX1_heirsOf yX1_heirsOf, Cond.code yX1_heirsOf cX1_heirsOf 2 (some .int), Cond.fieldLink RX1 113 "FerryRightsModel" "heirs" "I", Cond.methodLink RX1 120 yX1_lookForHeirs, Cond.instanceMethod yX1_lookForHeirs, Cond.selects RX1 yX1_lookForHeirs yX1_lookForHeirs, Cond.code yX1_lookForHeirs cX1_lookForHeirs 3 none, Cond.fieldLink RX1 25 "FerryRightsModel" "parent" "[I", Cond.fieldLink RX1 28 "FerryRightsModel" "isDead" "[Z", Cond.methodLink RX1 116 yX1_addHeir, Cond.instanceMethod yX1_addHeir]
def wsX1_heir_r2 : List Cond := [Cond.selects RX1 yX1_addHeir yX1_addHeir, Cond.code yX1_addHeir cX1_addHeir 2 none, Cond.methodLink RX1 66 yX1_no, Cond.instanceMethod yX1_no, Cond.selects RX1 yX1_no yX1_no, Cond.code yX1_no cX1_no 2 (some .int)]
def wsX1_heir : List Cond := .code yX1_heir cX1_heir 3 (some .int) :: ((wsX1_heir_r1 ++ wsX1_heir_r2) ++ wsX10)
def wsX1_crownCoins : List Cond := .code yX1_crownCoins cX1_crownCoins 1 (some .int) :: ([.fieldLink RX1 35 "FerryRightsModel" "thrown" "I", .fieldLink RX1 110 "FerryRightsModel" "crownCoins" "I"] ++ wsX10)
def wsX1_price_r1 : List Cond := [Cond.fieldLink RX1 35 "FerryRightsModel" "thrown" "I", Cond.methodLink RX1 73 yX1_isPerson, Cond.instanceMethod yX1_isPerson, Cond.selects RX1 yX1_isPerson yX1_isPerson, Cond.initialized RX1, Cond.code yX1_isPerson cX1_isPerson 2 (some .boolean), Cond.fieldLink RX1 50 "FerryRightsModel" "people" "I", Cond.methodLink RX1 42 yX1_isIn, Cond.static yX1_isIn, Cond.code yX1_isIn cX1_isIn 3 (some .boolean), Cond.methodLink RX1 80 yX1_isWatch, Cond.instanceMethod yX1_isWatch, Cond.selects RX1 yX1_isWatch yX1_isWatch, Cond.code yX1_isWatch cX1_isWatch 3 (some .boolean), Cond.methodLink RX1 46 yX1_isFerry, Cond.instanceMethod yX1_isFerry, Cond.selects RX1 yX1_isFerry yX1_isFerry, Cond.code yX1_isFerry cX1_isFerry 2 (some .boolean), Cond.fieldLink RX1 39 "FerryRightsModel" "ferries" "I", Cond.methodLink RX1 90 yX1_priceOf, Cond.instanceMethod yX1_priceOf, Cond.selects RX1 yX1_priceOf yX1_priceOf, Cond.code yX1_priceOf cX1_priceOf 4 (some .int), Cond.fieldLink RX1 16 "FerryRightsModel" "owns" "[I"]
def wsX1_price_r2 : List Cond := [Cond.methodLink RX1 53 yX1_at, Cond.static yX1_at, Cond.code yX1_at cX1_at 3 (some .int), Cond.methodLink RX1 87 yX1_worth, Cond.instanceMethod yX1_worth, Cond.selects RX1 yX1_worth yX1_worth, Cond.code yX1_worth cX1_worth 3 (some .int), Cond.fieldLink RX1 9 "FerryRightsModel" "toll" "[I", Cond.fieldLink RX1 57 "FerryRightsModel" "TRAFFIC" "[I", Cond.methodLink RX1 66 yX1_no, Cond.instanceMethod yX1_no, Cond.selects RX1 yX1_no yX1_no, Cond.code yX1_no cX1_no 2 (some .int)]
def wsX1_price : List Cond := .code yX1_price cX1_price 4 (some .int) :: ((wsX1_price_r1 ++ wsX1_price_r2) ++ wsX10)
def wsX1_canBuy_r1 : List Cond := [Cond.fieldLink RX1 35 "FerryRightsModel" "thrown" "I", Cond.methodLink RX1 73 yX1_isPerson, Cond.instanceMethod yX1_isPerson, Cond.selects RX1 yX1_isPerson yX1_isPerson, Cond.initialized RX1, Cond.code yX1_isPerson cX1_isPerson 2 (some .boolean), Cond.fieldLink RX1 50 "FerryRightsModel" "people" "I", Cond.methodLink RX1 42 yX1_isIn, Cond.static yX1_isIn, Cond.code yX1_isIn cX1_isIn 3 (some .boolean), Cond.methodLink RX1 80 yX1_isWatch, Cond.instanceMethod yX1_isWatch, Cond.selects RX1 yX1_isWatch yX1_isWatch, Cond.code yX1_isWatch cX1_isWatch 3 (some .boolean), Cond.methodLink RX1 46 yX1_isFerry, Cond.instanceMethod yX1_isFerry, Cond.selects RX1 yX1_isFerry yX1_isFerry, Cond.code yX1_isFerry cX1_isFerry 2 (some .boolean), Cond.fieldLink RX1 39 "FerryRightsModel" "ferries" "I", Cond.methodLink RX1 97 yX1_buys, Cond.instanceMethod yX1_buys, Cond.selects RX1 yX1_buys yX1_buys, Cond.code yX1_buys cX1_buys 6 (some .boolean), Cond.fieldLink RX1 28 "FerryRightsModel" "isDead" "[Z"]
def wsX1_canBuy_r2 : List Cond := [Cond.fieldLink RX1 19 "FerryRightsModel" "coins" "[I", Cond.fieldLink RX1 16 "FerryRightsModel" "owns" "[I", Cond.methodLink RX1 90 yX1_priceOf, Cond.instanceMethod yX1_priceOf, Cond.selects RX1 yX1_priceOf yX1_priceOf, Cond.code yX1_priceOf cX1_priceOf 4 (some .int), Cond.methodLink RX1 53 yX1_at, Cond.static yX1_at, Cond.code yX1_at cX1_at 3 (some .int), Cond.methodLink RX1 87 yX1_worth, Cond.instanceMethod yX1_worth, Cond.selects RX1 yX1_worth yX1_worth, Cond.code yX1_worth cX1_worth 3 (some .int), Cond.fieldLink RX1 9 "FerryRightsModel" "toll" "[I", Cond.fieldLink RX1 57 "FerryRightsModel" "TRAFFIC" "[I", Cond.methodLink RX1 93 yX1_isOtherAhead, Cond.instanceMethod yX1_isOtherAhead, Cond.selects RX1 yX1_isOtherAhead yX1_isOtherAhead, Cond.code yX1_isOtherAhead cX1_isOtherAhead 6 (some .boolean), Cond.methodLink RX1 126 yX1_isNot, Cond.instanceMethod yX1_isNot, Cond.selects RX1 yX1_isNot yX1_isNot, Cond.code yX1_isNot cX1_isNot 2 (some .boolean)]
def wsX1_canBuy : List Cond := .code yX1_canBuy cX1_canBuy 5 (some .boolean) :: ((wsX1_canBuy_r1 ++ wsX1_canBuy_r2) ++ wsX10)
def wsX1_inheritance_r1 : List Cond := [Cond.fieldLink RX1 35 "FerryRightsModel" "thrown" "I", Cond.fieldLink RX1 113 "FerryRightsModel" "heirs" "I", Cond.fieldLink RX1 32 "FerryRightsModel" "heir" "[I", Cond.fieldLink RX1 16 "FerryRightsModel" "owns" "[I", Cond.methodLink RX1 73 yX1_isPerson, Cond.instanceMethod yX1_isPerson, Cond.selects RX1 yX1_isPerson yX1_isPerson, Cond.initialized RX1, Cond.code yX1_isPerson cX1_isPerson 2 (some .boolean), Cond.fieldLink RX1 50 "FerryRightsModel" "people" "I", Cond.methodLink RX1 42 yX1_isIn, Cond.static yX1_isIn, Cond.code yX1_isIn cX1_isIn 3 (some .boolean), Cond.methodLink RX1 80 yX1_isWatch, Cond.instanceMethod yX1_isWatch, Cond.selects RX1 yX1_isWatch yX1_isWatch, Cond.code yX1_isWatch cX1_isWatch 3 (some .boolean), Cond.methodLink RX1 46 yX1_isFerry, Cond.instanceMethod yX1_isFerry, Cond.selects RX1 yX1_isFerry yX1_isFerry, Cond.code yX1_isFerry cX1_isFerry 2 (some .boolean), Cond.fieldLink RX1 39 "FerryRightsModel" "ferries" "I", Cond.methodLink RX1 66 yX1_no, Cond.instanceMethod yX1_no]
def wsX1_inheritance_r2 : List Cond := [Cond.selects RX1 yX1_no yX1_no, Cond.code yX1_no cX1_no 2 (some .int), Cond.methodLink RX1 120 yX1_lookForHeirs, Cond.instanceMethod yX1_lookForHeirs, Cond.selects RX1 yX1_lookForHeirs yX1_lookForHeirs, Cond.code yX1_lookForHeirs cX1_lookForHeirs 3 none, Cond.fieldLink RX1 25 "FerryRightsModel" "parent" "[I", Cond.fieldLink RX1 28 "FerryRightsModel" "isDead" "[Z", Cond.methodLink RX1 116 yX1_addHeir, Cond.instanceMethod yX1_addHeir, Cond.selects RX1 yX1_addHeir yX1_addHeir, Cond.code yX1_addHeir cX1_addHeir 2 none, Cond.methodLink RX1 53 yX1_at, Cond.static yX1_at, Cond.code yX1_at cX1_at 3 (some .int), Cond.methodLink RX1 123 yX1_partOf, Cond.instanceMethod yX1_partOf, Cond.selects RX1 yX1_partOf yX1_partOf, Cond.code yX1_partOf cX1_partOf 4 (some .int)]
def wsX1_inheritance : List Cond := .code yX1_inheritance cX1_inheritance 6 (some .int) :: ((wsX1_inheritance_r1 ++ wsX1_inheritance_r2) ++ wsX10)
def wsX1_fare_r1 : List Cond := [Cond.fieldLink RX1 35 "FerryRightsModel" "thrown" "I", Cond.methodLink RX1 73 yX1_isPerson, Cond.instanceMethod yX1_isPerson, Cond.selects RX1 yX1_isPerson yX1_isPerson, Cond.initialized RX1, Cond.code yX1_isPerson cX1_isPerson 2 (some .boolean), Cond.fieldLink RX1 50 "FerryRightsModel" "people" "I", Cond.methodLink RX1 42 yX1_isIn, Cond.static yX1_isIn, Cond.code yX1_isIn cX1_isIn 3 (some .boolean), Cond.methodLink RX1 46 yX1_isFerry, Cond.instanceMethod yX1_isFerry, Cond.selects RX1 yX1_isFerry yX1_isFerry, Cond.code yX1_isFerry cX1_isFerry 2 (some .boolean), Cond.fieldLink RX1 39 "FerryRightsModel" "ferries" "I", Cond.methodLink RX1 66 yX1_no, Cond.instanceMethod yX1_no, Cond.selects RX1 yX1_no yX1_no, Cond.code yX1_no cX1_no 2 (some .int), Cond.methodLink RX1 106 yX1_part, Cond.instanceMethod yX1_part, Cond.selects RX1 yX1_part yX1_part, Cond.code yX1_part cX1_part 5 (some .int), Cond.fieldLink RX1 9 "FerryRightsModel" "toll" "[I"]
def wsX1_fare_r2 : List Cond := [Cond.fieldLink RX1 16 "FerryRightsModel" "owns" "[I", Cond.methodLink RX1 53 yX1_at, Cond.static yX1_at, Cond.code yX1_at cX1_at 3 (some .int)]
def wsX1_fare : List Cond := .code yX1_fare cX1_fare 5 (some .int) :: ((wsX1_fare_r1 ++ wsX1_fare_r2) ++ wsX10)
def wsX1_richest : List Cond := .code yX1_richest cX1_richest 3 (some .int) :: ([.fieldLink RX1 35 "FerryRightsModel" "thrown" "I", .fieldLink RX1 50 "FerryRightsModel" "people" "I", .fieldLink RX1 28 "FerryRightsModel" "isDead" "[Z", .fieldLink RX1 19 "FerryRightsModel" "coins" "[I", .methodLink RX1 66 yX1_no, .instanceMethod yX1_no, .selects RX1 yX1_no yX1_no, .initialized RX1, .code yX1_no cX1_no 2 (some .int)] ++ wsX10)
def wsX1_meanCoins : List Cond := .code yX1_meanCoins cX1_meanCoins 3 (some .double) :: ([.fieldLink RX1 35 "FerryRightsModel" "thrown" "I", .fieldLink RX1 50 "FerryRightsModel" "people" "I", .fieldLink RX1 19 "FerryRightsModel" "coins" "[I", .methodLink RX1 129 yX1_alive, .instanceMethod yX1_alive, .selects RX1 yX1_alive yX1_alive, .initialized RX1, .code yX1_alive cX1_alive 3 (some .int), .fieldLink RX1 28 "FerryRightsModel" "isDead" "[Z"] ++ wsX10)
def wsX1_digest_r1 : List Cond := [Cond.fieldLink RX1 35 "FerryRightsModel" "thrown" "I", Cond.constantLong RX1 142 (1861), Cond.constantLong RX1 144 (31), Cond.fieldLink RX1 39 "FerryRightsModel" "ferries" "I", Cond.fieldLink RX1 50 "FerryRightsModel" "people" "I", Cond.fieldLink RX1 110 "FerryRightsModel" "crownCoins" "I", Cond.fieldLink RX1 9 "FerryRightsModel" "toll" "[I", Cond.fieldLink RX1 13 "FerryRightsModel" "carried" "[I", Cond.fieldLink RX1 16 "FerryRightsModel" "owns" "[I", Cond.fieldLink RX1 28 "FerryRightsModel" "isDead" "[Z", Cond.fieldLink RX1 19 "FerryRightsModel" "coins" "[I", Cond.fieldLink RX1 22 "FerryRightsModel" "earned" "[I", Cond.methodLink RX1 129 yX1_alive, Cond.instanceMethod yX1_alive, Cond.selects RX1 yX1_alive yX1_alive, Cond.initialized RX1, Cond.code yX1_alive cX1_alive 3 (some .int), Cond.methodLink RX1 53 yX1_at, Cond.static yX1_at, Cond.code yX1_at cX1_at 3 (some .int), Cond.methodLink RX1 133 yX1_allOf, Cond.instanceMethod yX1_allOf, Cond.selects RX1 yX1_allOf yX1_allOf, Cond.code yX1_allOf cX1_allOf 4 (some .int)]
def wsX1_digest_r2 : List Cond := [Cond.methodLink RX1 100 yX1_inFerry, Cond.instanceMethod yX1_inFerry, Cond.selects RX1 yX1_inFerry yX1_inFerry, Cond.code yX1_inFerry cX1_inFerry 5 (some .int), Cond.methodLink RX1 136 yX1_childrenOf, Cond.instanceMethod yX1_childrenOf, Cond.selects RX1 yX1_childrenOf yX1_childrenOf, Cond.code yX1_childrenOf cX1_childrenOf 4 (some .int), Cond.fieldLink RX1 25 "FerryRightsModel" "parent" "[I", Cond.methodLink RX1 139 yX1_heirsOf, Cond.instanceMethod yX1_heirsOf, Cond.selects RX1 yX1_heirsOf yX1_heirsOf, Cond.code yX1_heirsOf cX1_heirsOf 2 (some .int), Cond.fieldLink RX1 113 "FerryRightsModel" "heirs" "I", Cond.methodLink RX1 120 yX1_lookForHeirs, Cond.instanceMethod yX1_lookForHeirs, Cond.selects RX1 yX1_lookForHeirs yX1_lookForHeirs, Cond.code yX1_lookForHeirs cX1_lookForHeirs 3 none, Cond.methodLink RX1 116 yX1_addHeir, Cond.instanceMethod yX1_addHeir, Cond.selects RX1 yX1_addHeir yX1_addHeir, Cond.code yX1_addHeir cX1_addHeir 2 none, Cond.fieldLink RX1 32 "FerryRightsModel" "heir" "[I"]
def wsX1_digest : List Cond := .code yX1_digest cX1_digest 6 (some .long) :: ((wsX1_digest_r1 ++ wsX1_digest_r2) ++ wsX10)
def wsJ9_min_7cf53 : List Cond := .code yJ9_min_7cf53 cJ9_min_7cf53 2 (some .int) :: ([])
def wsL_addFerry : List Cond := .codeWith yL_addFerry cL_addFerry 4 (some .int) [(0, 9, 12, 13), (0, 9, 15, 15)] :: ([.classLink RL 13 "java/lang/IllegalArgumentException", .classLink RL 15 "java/lang/IllegalStateException", .methodLink RL 7 yX0_addFerry, .instanceMethod yX0_addFerry, .selects RX0 yX0_addFerry yX0_addFerry, .initialized RX0, .code yX0_addFerry cX0_addFerry 3 (some .int), .classLink RX0 46 "java/lang/IllegalStateException", .initialized "java/lang/IllegalStateException", .fieldLink RX0 9 "FerryRights" "ferryCount" "I", .fieldLink RX0 13 "FerryRights" "tolls" "[I", .methodLink RX0 42 yX0_needToll, .static yX0_needToll, .code yX0_needToll cX0_needToll 1 none, .classLink RX0 66 "java/lang/IllegalArgumentException", .initialized "java/lang/IllegalArgumentException"] ++ wsX00 ++ (vx_atS RX0 50 "java/lang/IllegalStateException" ["java/lang/RuntimeException", "java/lang/Exception"]).filter goodWord ++ (vx_atS RX0 70 "java/lang/IllegalArgumentException" ["java/lang/RuntimeException", "java/lang/Exception"]).filter goodWord)
def wsL_addPerson : List Cond := .codeWith yL_addPerson cL_addPerson 3 (some .int) [(0, 8, 11, 15)] :: ([.classLink RL 15 "java/lang/IllegalStateException", .methodLink RL 17 yX0_addPerson, .instanceMethod yX0_addPerson, .selects RX0 yX0_addPerson yX0_addPerson, .initialized RX0, .code yX0_addPerson cX0_addPerson 1 (some .int), .methodLink RX0 53 yX0_needRoomForPerson, .instanceMethod yX0_needRoomForPerson, .selects RX0 yX0_needRoomForPerson yX0_needRoomForPerson, .code yX0_needRoomForPerson cX0_needRoomForPerson 1 none, .classLink RX0 46 "java/lang/IllegalStateException", .initialized "java/lang/IllegalStateException", .fieldLink RX0 23 "FerryRights" "personCount" "I", .methodLink RX0 56 yX0_settle, .instanceMethod yX0_settle, .selects RX0 yX0_settle yX0_settle, .code yX0_settle cX0_settle 3 (some .int), .fieldLink RX0 26 "FerryRights" "alive" "[Z", .fieldLink RX0 36 "FerryRights" "parents" "[I"] ++ wsX00 ++ (vx_atS RX0 50 "java/lang/IllegalStateException" ["java/lang/RuntimeException", "java/lang/Exception"]).filter goodWord)
def wsL_addChild_r1 : List Cond := [Cond.classLink RL 24 "java/lang/IndexOutOfBoundsException", Cond.classLink RL 15 "java/lang/IllegalStateException", Cond.methodLink RL 21 yX0_addChild, Cond.instanceMethod yX0_addChild, Cond.selects RX0 yX0_addChild yX0_addChild, Cond.initialized RX0, Cond.code yX0_addChild cX0_addChild 2 (some .int), Cond.methodLink RX0 60 yX0_needPerson, Cond.instanceMethod yX0_needPerson, Cond.selects RX0 yX0_needPerson yX0_needPerson, Cond.code yX0_needPerson cX0_needPerson 2 none, Cond.classLink RX0 160 "java/lang/IndexOutOfBoundsException", Cond.initialized "java/lang/IndexOutOfBoundsException", Cond.fieldLink RX0 23 "FerryRights" "personCount" "I", Cond.methodLink RX0 63 yX0_needAlive, Cond.instanceMethod yX0_needAlive, Cond.selects RX0 yX0_needAlive yX0_needAlive, Cond.code yX0_needAlive cX0_needAlive 2 none, Cond.classLink RX0 46 "java/lang/IllegalStateException", Cond.initialized "java/lang/IllegalStateException", Cond.fieldLink RX0 26 "FerryRights" "alive" "[Z", Cond.methodLink RX0 53 yX0_needRoomForPerson, Cond.instanceMethod yX0_needRoomForPerson, Cond.selects RX0 yX0_needRoomForPerson yX0_needRoomForPerson]
def wsL_addChild_r2 : List Cond := [Cond.code yX0_needRoomForPerson cX0_needRoomForPerson 1 none, Cond.methodLink RX0 56 yX0_settle, Cond.instanceMethod yX0_settle, Cond.selects RX0 yX0_settle yX0_settle, Cond.code yX0_settle cX0_settle 3 (some .int), Cond.fieldLink RX0 36 "FerryRights" "parents" "[I"]
def wsL_addChild : List Cond := .codeWith yL_addChild cL_addChild 4 (some .int) [(0, 9, 12, 24), (0, 9, 15, 15)] :: ((wsL_addChild_r1 ++ wsL_addChild_r2) ++ wsX00 ++ (vx_atS RX0 164 "java/lang/IndexOutOfBoundsException" ["java/lang/RuntimeException", "java/lang/Exception"]).filter goodWord ++ (vx_atS RX0 50 "java/lang/IllegalStateException" ["java/lang/RuntimeException", "java/lang/Exception"]).filter goodWord)
def wsL_pay_r1 : List Cond := [Cond.classLink RL 24 "java/lang/IndexOutOfBoundsException", Cond.classLink RL 13 "java/lang/IllegalArgumentException", Cond.classLink RL 15 "java/lang/IllegalStateException", Cond.methodLink RL 26 yX0_pay, Cond.instanceMethod yX0_pay, Cond.selects RX0 yX0_pay yX0_pay, Cond.initialized RX0, Cond.code yX0_pay cX0_pay 3 (some .int), Cond.classLink RX0 66 "java/lang/IllegalArgumentException", Cond.initialized "java/lang/IllegalArgumentException", Cond.fieldLink RX0 30 "FerryRights" "purses" "[I", Cond.methodLink RX0 60 yX0_needPerson, Cond.instanceMethod yX0_needPerson, Cond.selects RX0 yX0_needPerson yX0_needPerson, Cond.code yX0_needPerson cX0_needPerson 2 none, Cond.classLink RX0 160 "java/lang/IndexOutOfBoundsException", Cond.initialized "java/lang/IndexOutOfBoundsException", Cond.fieldLink RX0 23 "FerryRights" "personCount" "I", Cond.methodLink RX0 63 yX0_needAlive, Cond.instanceMethod yX0_needAlive, Cond.selects RX0 yX0_needAlive yX0_needAlive, Cond.code yX0_needAlive cX0_needAlive 2 none, Cond.classLink RX0 46 "java/lang/IllegalStateException", Cond.initialized "java/lang/IllegalStateException"]
def wsL_pay_r2 : List Cond := [Cond.fieldLink RX0 26 "FerryRights" "alive" "[Z", Cond.methodLink RX0 71 yX0_addCoins, Cond.instanceMethod yX0_addCoins, Cond.selects RX0 yX0_addCoins yX0_addCoins, Cond.code yX0_addCoins cX0_addCoins 3 none, Cond.methodLink RX0 208 Lib.Math.min.name, Cond.static Lib.Math.min.name, Cond.initialized "java/lang/Math", Cond.code Lib.Math.min.name Lib.Math.min.code 2 (some .int)]
def wsL_pay : List Cond := .codeWith yL_pay cL_pay 5 (some .int) [(0, 10, 13, 24), (0, 10, 17, 13), (0, 10, 21, 15)] :: ((wsL_pay_r1 ++ wsL_pay_r2) ++ wsX00 ++ (vx_atS RX0 70 "java/lang/IllegalArgumentException" ["java/lang/RuntimeException", "java/lang/Exception"]).filter goodWord ++ (vx_atS RX0 164 "java/lang/IndexOutOfBoundsException" ["java/lang/RuntimeException", "java/lang/Exception"]).filter goodWord ++ (vx_atS RX0 50 "java/lang/IllegalStateException" ["java/lang/RuntimeException", "java/lang/Exception"]).filter goodWord)
def wsL_grant_r1 : List Cond := [Cond.classLink RL 24 "java/lang/IndexOutOfBoundsException", Cond.classLink RL 13 "java/lang/IllegalArgumentException", Cond.classLink RL 15 "java/lang/IllegalStateException", Cond.methodLink RL 30 yX0_grant, Cond.instanceMethod yX0_grant, Cond.selects RX0 yX0_grant yX0_grant, Cond.initialized RX0, Cond.code yX0_grant cX0_grant 5 (some .int), Cond.classLink RX0 46 "java/lang/IllegalStateException", Cond.initialized "java/lang/IllegalStateException", Cond.methodLink RX0 75 yX0_needFerry, Cond.instanceMethod yX0_needFerry, Cond.selects RX0 yX0_needFerry yX0_needFerry, Cond.code yX0_needFerry cX0_needFerry 2 none, Cond.classLink RX0 160 "java/lang/IndexOutOfBoundsException", Cond.initialized "java/lang/IndexOutOfBoundsException", Cond.fieldLink RX0 9 "FerryRights" "ferryCount" "I", Cond.methodLink RX0 78 yX0_needWatch, Cond.static yX0_needWatch, Cond.code yX0_needWatch cX0_needWatch 1 none, Cond.methodLink RX0 60 yX0_needPerson, Cond.instanceMethod yX0_needPerson, Cond.selects RX0 yX0_needPerson yX0_needPerson, Cond.code yX0_needPerson cX0_needPerson 2 none]
def wsL_grant_r2 : List Cond := [Cond.fieldLink RX0 23 "FerryRights" "personCount" "I", Cond.methodLink RX0 81 yX0_needShares, Cond.static yX0_needShares, Cond.code yX0_needShares cX0_needShares 1 none, Cond.classLink RX0 66 "java/lang/IllegalArgumentException", Cond.initialized "java/lang/IllegalArgumentException", Cond.methodLink RX0 63 yX0_needAlive, Cond.instanceMethod yX0_needAlive, Cond.selects RX0 yX0_needAlive yX0_needAlive, Cond.code yX0_needAlive cX0_needAlive 2 none, Cond.fieldLink RX0 26 "FerryRights" "alive" "[Z", Cond.methodLink RX0 84 yX0_crownOwns, Cond.instanceMethod yX0_crownOwns, Cond.selects RX0 yX0_crownOwns yX0_crownOwns, Cond.code yX0_crownOwns cX0_crownOwns 5 (some .int), Cond.methodLink RX0 96 yX0_owns, Cond.instanceMethod yX0_owns, Cond.selects RX0 yX0_owns yX0_owns, Cond.code yX0_owns cX0_owns 4 (some .int), Cond.fieldLink RX0 20 "FerryRights" "sharesOwned" "[I", Cond.methodLink RX0 213 yX0_slot, Cond.static yX0_slot, Cond.code yX0_slot cX0_slot 3 (some .int), Cond.methodLink RX0 90 yX0_addShares]
def wsL_grant_r3 : List Cond := [Cond.instanceMethod yX0_addShares, Cond.selects RX0 yX0_addShares yX0_addShares, Cond.code yX0_addShares cX0_addShares 5 none]
def wsL_grant : List Cond := .codeWith yL_grant cL_grant 7 (some .int) [(0, 14, 17, 24), (0, 14, 21, 13), (0, 14, 25, 15)] :: ((wsL_grant_r1 ++ (wsL_grant_r2 ++ wsL_grant_r3)) ++ wsX00 ++ (vx_atS RX0 50 "java/lang/IllegalStateException" ["java/lang/RuntimeException", "java/lang/Exception"]).filter goodWord ++ (vx_atS RX0 164 "java/lang/IndexOutOfBoundsException" ["java/lang/RuntimeException", "java/lang/Exception"]).filter goodWord ++ (vx_atS RX0 70 "java/lang/IllegalArgumentException" ["java/lang/RuntimeException", "java/lang/Exception"]).filter goodWord)
def wsL_give_r1 : List Cond := [Cond.classLink RL 24 "java/lang/IndexOutOfBoundsException", Cond.classLink RL 13 "java/lang/IllegalArgumentException", Cond.classLink RL 15 "java/lang/IllegalStateException", Cond.methodLink RL 34 yX0_give, Cond.instanceMethod yX0_give, Cond.selects RX0 yX0_give yX0_give, Cond.initialized RX0, Cond.code yX0_give cX0_give 6 (some .int), Cond.classLink RX0 66 "java/lang/IllegalArgumentException", Cond.initialized "java/lang/IllegalArgumentException", Cond.classLink RX0 46 "java/lang/IllegalStateException", Cond.initialized "java/lang/IllegalStateException", Cond.methodLink RX0 60 yX0_needPerson, Cond.instanceMethod yX0_needPerson, Cond.selects RX0 yX0_needPerson yX0_needPerson, Cond.code yX0_needPerson cX0_needPerson 2 none, Cond.classLink RX0 160 "java/lang/IndexOutOfBoundsException", Cond.initialized "java/lang/IndexOutOfBoundsException", Cond.fieldLink RX0 23 "FerryRights" "personCount" "I", Cond.methodLink RX0 75 yX0_needFerry, Cond.instanceMethod yX0_needFerry, Cond.selects RX0 yX0_needFerry yX0_needFerry, Cond.code yX0_needFerry cX0_needFerry 2 none, Cond.fieldLink RX0 9 "FerryRights" "ferryCount" "I"]
def wsL_give_r2 : List Cond := [Cond.methodLink RX0 78 yX0_needWatch, Cond.static yX0_needWatch, Cond.code yX0_needWatch cX0_needWatch 1 none, Cond.methodLink RX0 81 yX0_needShares, Cond.static yX0_needShares, Cond.code yX0_needShares cX0_needShares 1 none, Cond.methodLink RX0 63 yX0_needAlive, Cond.instanceMethod yX0_needAlive, Cond.selects RX0 yX0_needAlive yX0_needAlive, Cond.code yX0_needAlive cX0_needAlive 2 none, Cond.fieldLink RX0 26 "FerryRights" "alive" "[Z", Cond.methodLink RX0 96 yX0_owns, Cond.instanceMethod yX0_owns, Cond.selects RX0 yX0_owns yX0_owns, Cond.code yX0_owns cX0_owns 4 (some .int), Cond.fieldLink RX0 20 "FerryRights" "sharesOwned" "[I", Cond.methodLink RX0 213 yX0_slot, Cond.static yX0_slot, Cond.code yX0_slot cX0_slot 3 (some .int), Cond.methodLink RX0 90 yX0_addShares, Cond.instanceMethod yX0_addShares, Cond.selects RX0 yX0_addShares yX0_addShares, Cond.code yX0_addShares cX0_addShares 5 none]
def wsL_give : List Cond := .codeWith yL_give cL_give 8 (some .int) [(0, 16, 19, 24), (0, 16, 23, 13), (0, 16, 27, 15)] :: ((wsL_give_r1 ++ wsL_give_r2) ++ wsX00 ++ (vx_atS RX0 70 "java/lang/IllegalArgumentException" ["java/lang/RuntimeException", "java/lang/Exception"]).filter goodWord ++ (vx_atS RX0 50 "java/lang/IllegalStateException" ["java/lang/RuntimeException", "java/lang/Exception"]).filter goodWord ++ (vx_atS RX0 164 "java/lang/IndexOutOfBoundsException" ["java/lang/RuntimeException", "java/lang/Exception"]).filter goodWord)
def wsL_buy_r1 : List Cond := [Cond.classLink RL 24 "java/lang/IndexOutOfBoundsException", Cond.classLink RL 15 "java/lang/IllegalStateException", Cond.methodLink RL 38 yX0_buy, Cond.instanceMethod yX0_buy, Cond.selects RX0 yX0_buy yX0_buy, Cond.initialized RX0, Cond.code yX0_buy cX0_buy 7 (some .int), Cond.classLink RX0 46 "java/lang/IllegalStateException", Cond.initialized "java/lang/IllegalStateException", Cond.fieldLink RX0 30 "FerryRights" "purses" "[I", Cond.methodLink RX0 102 yX0_needSale, Cond.instanceMethod yX0_needSale, Cond.selects RX0 yX0_needSale yX0_needSale, Cond.code yX0_needSale cX0_needSale 5 none, Cond.methodLink RX0 60 yX0_needPerson, Cond.instanceMethod yX0_needPerson, Cond.selects RX0 yX0_needPerson yX0_needPerson, Cond.code yX0_needPerson cX0_needPerson 2 none, Cond.classLink RX0 160 "java/lang/IndexOutOfBoundsException", Cond.initialized "java/lang/IndexOutOfBoundsException", Cond.fieldLink RX0 23 "FerryRights" "personCount" "I", Cond.methodLink RX0 75 yX0_needFerry, Cond.instanceMethod yX0_needFerry, Cond.selects RX0 yX0_needFerry yX0_needFerry]
def wsL_buy_r2 : List Cond := [Cond.code yX0_needFerry cX0_needFerry 2 none, Cond.fieldLink RX0 9 "FerryRights" "ferryCount" "I", Cond.methodLink RX0 78 yX0_needWatch, Cond.static yX0_needWatch, Cond.code yX0_needWatch cX0_needWatch 1 none, Cond.methodLink RX0 105 yX0_mayBuy, Cond.instanceMethod yX0_mayBuy, Cond.selects RX0 yX0_mayBuy yX0_mayBuy, Cond.code yX0_mayBuy cX0_mayBuy 6 (some .boolean), Cond.fieldLink RX0 26 "FerryRights" "alive" "[Z", Cond.methodLink RX0 111 yX0_priceOf, Cond.instanceMethod yX0_priceOf, Cond.selects RX0 yX0_priceOf yX0_priceOf, Cond.code yX0_priceOf cX0_priceOf 4 (some .int), Cond.methodLink RX0 96 yX0_owns, Cond.instanceMethod yX0_owns, Cond.selects RX0 yX0_owns yX0_owns, Cond.code yX0_owns cX0_owns 4 (some .int), Cond.fieldLink RX0 20 "FerryRights" "sharesOwned" "[I", Cond.methodLink RX0 213 yX0_slot, Cond.static yX0_slot, Cond.code yX0_slot cX0_slot 3 (some .int), Cond.methodLink RX0 146 yX0_worth, Cond.instanceMethod yX0_worth]
def wsL_buy_r3 : List Cond := [Cond.selects RX0 yX0_worth yX0_worth, Cond.code yX0_worth cX0_worth 3 (some .int), Cond.fieldLink RX0 13 "FerryRights" "tolls" "[I", Cond.fieldLink RX0 219 "FerryRights" "TRAFFIC" "[I", Cond.methodLink RX0 222 yX0_otherOwnerHas, Cond.instanceMethod yX0_otherOwnerHas, Cond.selects RX0 yX0_otherOwnerHas yX0_otherOwnerHas, Cond.code yX0_otherOwnerHas cX0_otherOwnerHas 6 (some .boolean), Cond.methodLink RX0 71 yX0_addCoins, Cond.instanceMethod yX0_addCoins, Cond.selects RX0 yX0_addCoins yX0_addCoins, Cond.code yX0_addCoins cX0_addCoins 3 none, Cond.methodLink RX0 208 Lib.Math.min.name, Cond.static Lib.Math.min.name, Cond.initialized "java/lang/Math", Cond.code Lib.Math.min.name Lib.Math.min.code 2 (some .int), Cond.methodLink RX0 90 yX0_addShares, Cond.instanceMethod yX0_addShares, Cond.selects RX0 yX0_addShares yX0_addShares, Cond.code yX0_addShares cX0_addShares 5 none]
def wsL_buy : List Cond := .codeWith yL_buy cL_buy 7 (some .int) [(0, 14, 17, 24), (0, 14, 21, 15)] :: ((wsL_buy_r1 ++ (wsL_buy_r2 ++ wsL_buy_r3)) ++ wsX00 ++ (vx_atS RX0 50 "java/lang/IllegalStateException" ["java/lang/RuntimeException", "java/lang/Exception"]).filter goodWord ++ (vx_atS RX0 164 "java/lang/IndexOutOfBoundsException" ["java/lang/RuntimeException", "java/lang/Exception"]).filter goodWord)
def wsL_setToll_r1 : List Cond := [Cond.classLink RL 24 "java/lang/IndexOutOfBoundsException", Cond.classLink RL 13 "java/lang/IllegalArgumentException", Cond.classLink RL 15 "java/lang/IllegalStateException", Cond.methodLink RL 41 yX0_setToll, Cond.instanceMethod yX0_setToll, Cond.selects RX0 yX0_setToll yX0_setToll, Cond.initialized RX0, Cond.code yX0_setToll cX0_setToll 5 (some .int), Cond.classLink RX0 46 "java/lang/IllegalStateException", Cond.initialized "java/lang/IllegalStateException", Cond.fieldLink RX0 13 "FerryRights" "tolls" "[I", Cond.methodLink RX0 75 yX0_needFerry, Cond.instanceMethod yX0_needFerry, Cond.selects RX0 yX0_needFerry yX0_needFerry, Cond.code yX0_needFerry cX0_needFerry 2 none, Cond.classLink RX0 160 "java/lang/IndexOutOfBoundsException", Cond.initialized "java/lang/IndexOutOfBoundsException", Cond.fieldLink RX0 9 "FerryRights" "ferryCount" "I", Cond.methodLink RX0 60 yX0_needPerson, Cond.instanceMethod yX0_needPerson, Cond.selects RX0 yX0_needPerson yX0_needPerson, Cond.code yX0_needPerson cX0_needPerson 2 none, Cond.fieldLink RX0 23 "FerryRights" "personCount" "I", Cond.methodLink RX0 42 yX0_needToll]
def wsL_setToll_r2 : List Cond := [Cond.static yX0_needToll, Cond.code yX0_needToll cX0_needToll 1 none, Cond.classLink RX0 66 "java/lang/IllegalArgumentException", Cond.initialized "java/lang/IllegalArgumentException", Cond.methodLink RX0 114 yX0_findMaster, Cond.instanceMethod yX0_findMaster, Cond.selects RX0 yX0_findMaster yX0_findMaster, Cond.code yX0_findMaster cX0_findMaster 3 (some .int), Cond.methodLink RX0 216 yX0_countSharesOfFerry, Cond.instanceMethod yX0_countSharesOfFerry, Cond.selects RX0 yX0_countSharesOfFerry yX0_countSharesOfFerry, Cond.code yX0_countSharesOfFerry cX0_countSharesOfFerry 5 (some .int), Cond.methodLink RX0 96 yX0_owns, Cond.instanceMethod yX0_owns, Cond.selects RX0 yX0_owns yX0_owns, Cond.code yX0_owns cX0_owns 4 (some .int), Cond.fieldLink RX0 20 "FerryRights" "sharesOwned" "[I", Cond.methodLink RX0 213 yX0_slot, Cond.static yX0_slot, Cond.code yX0_slot cX0_slot 3 (some .int)]
def wsL_setToll : List Cond := .codeWith yL_setToll cL_setToll 6 (some .int) [(0, 12, 15, 24), (0, 12, 19, 13), (0, 12, 23, 15)] :: ((wsL_setToll_r1 ++ wsL_setToll_r2) ++ wsX00 ++ (vx_atS RX0 50 "java/lang/IllegalStateException" ["java/lang/RuntimeException", "java/lang/Exception"]).filter goodWord ++ (vx_atS RX0 164 "java/lang/IndexOutOfBoundsException" ["java/lang/RuntimeException", "java/lang/Exception"]).filter goodWord ++ (vx_atS RX0 70 "java/lang/IllegalArgumentException" ["java/lang/RuntimeException", "java/lang/Exception"]).filter goodWord)
def wsL_carry_r1 : List Cond := [Cond.classLink RL 24 "java/lang/IndexOutOfBoundsException", Cond.classLink RL 13 "java/lang/IllegalArgumentException", Cond.methodLink RL 45 yX0_carry, Cond.instanceMethod yX0_carry, Cond.selects RX0 yX0_carry yX0_carry, Cond.initialized RX0, Cond.code yX0_carry cX0_carry 8 (some .int), Cond.fieldLink RX0 13 "FerryRights" "tolls" "[I", Cond.fieldLink RX0 23 "FerryRights" "personCount" "I", Cond.fieldLink RX0 33 "FerryRights" "fares" "[I", Cond.fieldLink RX0 39 "FerryRights" "crownPurse" "I", Cond.fieldLink RX0 17 "FerryRights" "passengersCarried" "[I", Cond.methodLink RX0 75 yX0_needFerry, Cond.instanceMethod yX0_needFerry, Cond.selects RX0 yX0_needFerry yX0_needFerry, Cond.code yX0_needFerry cX0_needFerry 2 none, Cond.classLink RX0 160 "java/lang/IndexOutOfBoundsException", Cond.initialized "java/lang/IndexOutOfBoundsException", Cond.fieldLink RX0 9 "FerryRights" "ferryCount" "I", Cond.methodLink RX0 119 yX0_needHour, Cond.static yX0_needHour, Cond.code yX0_needHour cX0_needHour 1 none, Cond.methodLink RX0 122 yX0_needPassengers, Cond.static yX0_needPassengers]
def wsL_carry_r2 : List Cond := [Cond.code yX0_needPassengers cX0_needPassengers 1 none, Cond.classLink RX0 66 "java/lang/IllegalArgumentException", Cond.initialized "java/lang/IllegalArgumentException", Cond.methodLink RX0 125 yX0_fareOf, Cond.instanceMethod yX0_fareOf, Cond.selects RX0 yX0_fareOf yX0_fareOf, Cond.code yX0_fareOf cX0_fareOf 5 (some .int), Cond.methodLink RX0 96 yX0_owns, Cond.instanceMethod yX0_owns, Cond.selects RX0 yX0_owns yX0_owns, Cond.code yX0_owns cX0_owns 4 (some .int), Cond.fieldLink RX0 20 "FerryRights" "sharesOwned" "[I", Cond.methodLink RX0 213 yX0_slot, Cond.static yX0_slot, Cond.code yX0_slot cX0_slot 3 (some .int), Cond.methodLink RX0 71 yX0_addCoins, Cond.instanceMethod yX0_addCoins, Cond.selects RX0 yX0_addCoins yX0_addCoins, Cond.code yX0_addCoins cX0_addCoins 3 none, Cond.fieldLink RX0 30 "FerryRights" "purses" "[I", Cond.methodLink RX0 208 Lib.Math.min.name, Cond.static Lib.Math.min.name, Cond.initialized "java/lang/Math", Cond.code Lib.Math.min.name Lib.Math.min.code 2 (some .int)]
def wsL_carry : List Cond := .codeWith yL_carry cL_carry 6 (some .int) [(0, 12, 15, 24), (0, 12, 19, 13)] :: ((wsL_carry_r1 ++ wsL_carry_r2) ++ wsX00 ++ (vx_atS RX0 164 "java/lang/IndexOutOfBoundsException" ["java/lang/RuntimeException", "java/lang/Exception"]).filter goodWord ++ (vx_atS RX0 70 "java/lang/IllegalArgumentException" ["java/lang/RuntimeException", "java/lang/Exception"]).filter goodWord)
def wsL_die_r1 : List Cond := [Cond.classLink RL 24 "java/lang/IndexOutOfBoundsException", Cond.classLink RL 15 "java/lang/IllegalStateException", Cond.methodLink RL 48 yX0_die, Cond.instanceMethod yX0_die, Cond.selects RX0 yX0_die yX0_die, Cond.initialized RX0, Cond.code yX0_die cX0_die 5 (some .int), Cond.fieldLink RX0 23 "FerryRights" "personCount" "I", Cond.fieldLink RX0 39 "FerryRights" "crownPurse" "I", Cond.fieldLink RX0 30 "FerryRights" "purses" "[I", Cond.methodLink RX0 60 yX0_needPerson, Cond.instanceMethod yX0_needPerson, Cond.selects RX0 yX0_needPerson yX0_needPerson, Cond.code yX0_needPerson cX0_needPerson 2 none, Cond.classLink RX0 160 "java/lang/IndexOutOfBoundsException", Cond.initialized "java/lang/IndexOutOfBoundsException", Cond.methodLink RX0 63 yX0_needAlive, Cond.instanceMethod yX0_needAlive, Cond.selects RX0 yX0_needAlive yX0_needAlive, Cond.code yX0_needAlive cX0_needAlive 2 none, Cond.classLink RX0 46 "java/lang/IllegalStateException", Cond.initialized "java/lang/IllegalStateException", Cond.fieldLink RX0 26 "FerryRights" "alive" "[Z", Cond.methodLink RX0 129 yX0_countHeirs]
def wsL_die_r2 : List Cond := [Cond.instanceMethod yX0_countHeirs, Cond.selects RX0 yX0_countHeirs yX0_countHeirs, Cond.code yX0_countHeirs cX0_countHeirs 2 (some .int), Cond.methodLink RX0 165 yX0_countHeirsBelow, Cond.instanceMethod yX0_countHeirsBelow, Cond.selects RX0 yX0_countHeirsBelow yX0_countHeirsBelow, Cond.code yX0_countHeirsBelow cX0_countHeirsBelow 5 (some .int), Cond.methodLink RX0 132 yX0_isHeir, Cond.instanceMethod yX0_isHeir, Cond.selects RX0 yX0_isHeir yX0_isHeir, Cond.code yX0_isHeir cX0_isHeir 3 (some .boolean), Cond.fieldLink RX0 36 "FerryRights" "parents" "[I", Cond.methodLink RX0 225 yX0_hasLivingChild, Cond.instanceMethod yX0_hasLivingChild, Cond.selects RX0 yX0_hasLivingChild yX0_hasLivingChild, Cond.code yX0_hasLivingChild cX0_hasLivingChild 3 (some .boolean), Cond.methodLink RX0 136 yX0_hand, Cond.instanceMethod yX0_hand, Cond.selects RX0 yX0_hand yX0_hand, Cond.code yX0_hand cX0_hand 7 none, Cond.fieldLink RX0 9 "FerryRights" "ferryCount" "I", Cond.methodLink RX0 96 yX0_owns, Cond.instanceMethod yX0_owns, Cond.selects RX0 yX0_owns yX0_owns]
def wsL_die_r3 : List Cond := [Cond.code yX0_owns cX0_owns 4 (some .int), Cond.fieldLink RX0 20 "FerryRights" "sharesOwned" "[I", Cond.methodLink RX0 213 yX0_slot, Cond.static yX0_slot, Cond.code yX0_slot cX0_slot 3 (some .int), Cond.methodLink RX0 168 yX0_partOf, Cond.static yX0_partOf, Cond.code yX0_partOf cX0_partOf 6 (some .int), Cond.methodLink RX0 90 yX0_addShares, Cond.instanceMethod yX0_addShares, Cond.selects RX0 yX0_addShares yX0_addShares, Cond.code yX0_addShares cX0_addShares 5 none, Cond.methodLink RX0 71 yX0_addCoins, Cond.instanceMethod yX0_addCoins, Cond.selects RX0 yX0_addCoins yX0_addCoins, Cond.code yX0_addCoins cX0_addCoins 3 none, Cond.methodLink RX0 208 Lib.Math.min.name, Cond.static Lib.Math.min.name, Cond.initialized "java/lang/Math", Cond.code Lib.Math.min.name Lib.Math.min.code 2 (some .int), Cond.methodLink RX0 139 yX0_bury, Cond.instanceMethod yX0_bury, Cond.selects RX0 yX0_bury yX0_bury, Cond.code yX0_bury cX0_bury 4 none]
def wsL_die : List Cond := .codeWith yL_die cL_die 4 (some .int) [(0, 9, 12, 24), (0, 9, 15, 15)] :: ((wsL_die_r1 ++ (wsL_die_r2 ++ wsL_die_r3)) ++ wsX00 ++ (vx_atS RX0 164 "java/lang/IndexOutOfBoundsException" ["java/lang/RuntimeException", "java/lang/Exception"]).filter goodWord ++ (vx_atS RX0 50 "java/lang/IllegalStateException" ["java/lang/RuntimeException", "java/lang/Exception"]).filter goodWord)
def wsL_toll : List Cond := .codeWith yL_toll cL_toll 4 (some .int) [(0, 9, 12, 24)] :: ([.classLink RL 24 "java/lang/IndexOutOfBoundsException", .methodLink RL 51 yX0_toll, .instanceMethod yX0_toll, .selects RX0 yX0_toll yX0_toll, .initialized RX0, .code yX0_toll cX0_toll 2 (some .int), .fieldLink RX0 13 "FerryRights" "tolls" "[I", .methodLink RX0 75 yX0_needFerry, .instanceMethod yX0_needFerry, .selects RX0 yX0_needFerry yX0_needFerry, .code yX0_needFerry cX0_needFerry 2 none, .classLink RX0 160 "java/lang/IndexOutOfBoundsException", .initialized "java/lang/IndexOutOfBoundsException", .fieldLink RX0 9 "FerryRights" "ferryCount" "I"] ++ wsX00 ++ (vx_atS RX0 164 "java/lang/IndexOutOfBoundsException" ["java/lang/RuntimeException", "java/lang/Exception"]).filter goodWord)
def wsL_carried : List Cond := .codeWith yL_carried cL_carried 4 (some .int) [(0, 9, 12, 24)] :: ([.classLink RL 24 "java/lang/IndexOutOfBoundsException", .methodLink RL 54 yX0_carried, .instanceMethod yX0_carried, .selects RX0 yX0_carried yX0_carried, .initialized RX0, .code yX0_carried cX0_carried 2 (some .int), .fieldLink RX0 17 "FerryRights" "passengersCarried" "[I", .methodLink RX0 75 yX0_needFerry, .instanceMethod yX0_needFerry, .selects RX0 yX0_needFerry yX0_needFerry, .code yX0_needFerry cX0_needFerry 2 none, .classLink RX0 160 "java/lang/IndexOutOfBoundsException", .initialized "java/lang/IndexOutOfBoundsException", .fieldLink RX0 9 "FerryRights" "ferryCount" "I"] ++ wsX00 ++ (vx_atS RX0 164 "java/lang/IndexOutOfBoundsException" ["java/lang/RuntimeException", "java/lang/Exception"]).filter goodWord)
def wsL_shares_r1 : List Cond := [Cond.classLink RL 24 "java/lang/IndexOutOfBoundsException", Cond.methodLink RL 57 yX0_shares, Cond.instanceMethod yX0_shares, Cond.selects RX0 yX0_shares yX0_shares, Cond.initialized RX0, Cond.code yX0_shares cX0_shares 4 (some .int), Cond.methodLink RX0 75 yX0_needFerry, Cond.instanceMethod yX0_needFerry, Cond.selects RX0 yX0_needFerry yX0_needFerry, Cond.code yX0_needFerry cX0_needFerry 2 none, Cond.classLink RX0 160 "java/lang/IndexOutOfBoundsException", Cond.initialized "java/lang/IndexOutOfBoundsException", Cond.fieldLink RX0 9 "FerryRights" "ferryCount" "I", Cond.methodLink RX0 78 yX0_needWatch, Cond.static yX0_needWatch, Cond.code yX0_needWatch cX0_needWatch 1 none, Cond.methodLink RX0 60 yX0_needPerson, Cond.instanceMethod yX0_needPerson, Cond.selects RX0 yX0_needPerson yX0_needPerson, Cond.code yX0_needPerson cX0_needPerson 2 none, Cond.fieldLink RX0 23 "FerryRights" "personCount" "I", Cond.methodLink RX0 96 yX0_owns, Cond.instanceMethod yX0_owns, Cond.selects RX0 yX0_owns yX0_owns]
def wsL_shares_r2 : List Cond := [Cond.code yX0_owns cX0_owns 4 (some .int), Cond.fieldLink RX0 20 "FerryRights" "sharesOwned" "[I", Cond.methodLink RX0 213 yX0_slot, Cond.static yX0_slot, Cond.code yX0_slot cX0_slot 3 (some .int)]
def wsL_shares : List Cond := .codeWith yL_shares cL_shares 6 (some .int) [(0, 12, 15, 24)] :: ((wsL_shares_r1 ++ wsL_shares_r2) ++ wsX00 ++ (vx_atS RX0 164 "java/lang/IndexOutOfBoundsException" ["java/lang/RuntimeException", "java/lang/Exception"]).filter goodWord)
def wsL_crownShares_r1 : List Cond := [Cond.classLink RL 24 "java/lang/IndexOutOfBoundsException", Cond.methodLink RL 60 yX0_crownShares, Cond.instanceMethod yX0_crownShares, Cond.selects RX0 yX0_crownShares yX0_crownShares, Cond.initialized RX0, Cond.code yX0_crownShares cX0_crownShares 3 (some .int), Cond.methodLink RX0 75 yX0_needFerry, Cond.instanceMethod yX0_needFerry, Cond.selects RX0 yX0_needFerry yX0_needFerry, Cond.code yX0_needFerry cX0_needFerry 2 none, Cond.classLink RX0 160 "java/lang/IndexOutOfBoundsException", Cond.initialized "java/lang/IndexOutOfBoundsException", Cond.fieldLink RX0 9 "FerryRights" "ferryCount" "I", Cond.methodLink RX0 78 yX0_needWatch, Cond.static yX0_needWatch, Cond.code yX0_needWatch cX0_needWatch 1 none, Cond.methodLink RX0 84 yX0_crownOwns, Cond.instanceMethod yX0_crownOwns, Cond.selects RX0 yX0_crownOwns yX0_crownOwns, Cond.code yX0_crownOwns cX0_crownOwns 5 (some .int), Cond.fieldLink RX0 23 "FerryRights" "personCount" "I", Cond.methodLink RX0 96 yX0_owns, Cond.instanceMethod yX0_owns, Cond.selects RX0 yX0_owns yX0_owns]
def wsL_crownShares_r2 : List Cond := [Cond.code yX0_owns cX0_owns 4 (some .int), Cond.fieldLink RX0 20 "FerryRights" "sharesOwned" "[I", Cond.methodLink RX0 213 yX0_slot, Cond.static yX0_slot, Cond.code yX0_slot cX0_slot 3 (some .int)]
def wsL_crownShares : List Cond := .codeWith yL_crownShares cL_crownShares 5 (some .int) [(0, 10, 13, 24)] :: ((wsL_crownShares_r1 ++ wsL_crownShares_r2) ++ wsX00 ++ (vx_atS RX0 164 "java/lang/IndexOutOfBoundsException" ["java/lang/RuntimeException", "java/lang/Exception"]).filter goodWord)
def wsL_owners_r1 : List Cond := [Cond.classLink RL 24 "java/lang/IndexOutOfBoundsException", Cond.methodLink RL 63 yX0_owners, Cond.instanceMethod yX0_owners, Cond.selects RX0 yX0_owners yX0_owners, Cond.initialized RX0, Cond.code yX0_owners cX0_owners 5 (some .int), Cond.fieldLink RX0 23 "FerryRights" "personCount" "I", Cond.methodLink RX0 75 yX0_needFerry, Cond.instanceMethod yX0_needFerry, Cond.selects RX0 yX0_needFerry yX0_needFerry, Cond.code yX0_needFerry cX0_needFerry 2 none, Cond.classLink RX0 160 "java/lang/IndexOutOfBoundsException", Cond.initialized "java/lang/IndexOutOfBoundsException", Cond.fieldLink RX0 9 "FerryRights" "ferryCount" "I", Cond.methodLink RX0 78 yX0_needWatch, Cond.static yX0_needWatch, Cond.code yX0_needWatch cX0_needWatch 1 none, Cond.methodLink RX0 96 yX0_owns, Cond.instanceMethod yX0_owns, Cond.selects RX0 yX0_owns yX0_owns, Cond.code yX0_owns cX0_owns 4 (some .int), Cond.fieldLink RX0 20 "FerryRights" "sharesOwned" "[I", Cond.methodLink RX0 213 yX0_slot, Cond.static yX0_slot]
def wsL_owners_r2 : List Cond := [Cond.code yX0_slot cX0_slot 3 (some .int)]
def wsL_owners : List Cond := .codeWith yL_owners cL_owners 5 (some .int) [(0, 10, 13, 24)] :: ((wsL_owners_r1 ++ wsL_owners_r2) ++ wsX00 ++ (vx_atS RX0 164 "java/lang/IndexOutOfBoundsException" ["java/lang/RuntimeException", "java/lang/Exception"]).filter goodWord)
def wsL_holder_r1 : List Cond := [Cond.classLink RL 24 "java/lang/IndexOutOfBoundsException", Cond.classLink RL 15 "java/lang/IllegalStateException", Cond.methodLink RL 66 yX0_holder, Cond.instanceMethod yX0_holder, Cond.selects RX0 yX0_holder yX0_holder, Cond.initialized RX0, Cond.code yX0_holder cX0_holder 7 (some .int), Cond.classLink RX0 46 "java/lang/IllegalStateException", Cond.initialized "java/lang/IllegalStateException", Cond.fieldLink RX0 23 "FerryRights" "personCount" "I", Cond.methodLink RX0 75 yX0_needFerry, Cond.instanceMethod yX0_needFerry, Cond.selects RX0 yX0_needFerry yX0_needFerry, Cond.code yX0_needFerry cX0_needFerry 2 none, Cond.classLink RX0 160 "java/lang/IndexOutOfBoundsException", Cond.initialized "java/lang/IndexOutOfBoundsException", Cond.fieldLink RX0 9 "FerryRights" "ferryCount" "I", Cond.methodLink RX0 78 yX0_needWatch, Cond.static yX0_needWatch, Cond.code yX0_needWatch cX0_needWatch 1 none, Cond.methodLink RX0 96 yX0_owns, Cond.instanceMethod yX0_owns, Cond.selects RX0 yX0_owns yX0_owns, Cond.code yX0_owns cX0_owns 4 (some .int)]
def wsL_holder_r2 : List Cond := [Cond.fieldLink RX0 20 "FerryRights" "sharesOwned" "[I", Cond.methodLink RX0 213 yX0_slot, Cond.static yX0_slot, Cond.code yX0_slot cX0_slot 3 (some .int)]
def wsL_holder : List Cond := .codeWith yL_holder cL_holder 5 (some .int) [(0, 10, 13, 24), (0, 10, 17, 15)] :: ((wsL_holder_r1 ++ wsL_holder_r2) ++ wsX00 ++ (vx_atS RX0 50 "java/lang/IllegalStateException" ["java/lang/RuntimeException", "java/lang/Exception"]).filter goodWord ++ (vx_atS RX0 164 "java/lang/IndexOutOfBoundsException" ["java/lang/RuntimeException", "java/lang/Exception"]).filter goodWord)
def wsL_master_r1 : List Cond := [Cond.classLink RL 24 "java/lang/IndexOutOfBoundsException", Cond.classLink RL 15 "java/lang/IllegalStateException", Cond.methodLink RL 69 yX0_master, Cond.instanceMethod yX0_master, Cond.selects RX0 yX0_master yX0_master, Cond.initialized RX0, Cond.code yX0_master cX0_master 3 (some .int), Cond.classLink RX0 46 "java/lang/IllegalStateException", Cond.initialized "java/lang/IllegalStateException", Cond.methodLink RX0 75 yX0_needFerry, Cond.instanceMethod yX0_needFerry, Cond.selects RX0 yX0_needFerry yX0_needFerry, Cond.code yX0_needFerry cX0_needFerry 2 none, Cond.classLink RX0 160 "java/lang/IndexOutOfBoundsException", Cond.initialized "java/lang/IndexOutOfBoundsException", Cond.fieldLink RX0 9 "FerryRights" "ferryCount" "I", Cond.methodLink RX0 114 yX0_findMaster, Cond.instanceMethod yX0_findMaster, Cond.selects RX0 yX0_findMaster yX0_findMaster, Cond.code yX0_findMaster cX0_findMaster 3 (some .int), Cond.fieldLink RX0 23 "FerryRights" "personCount" "I", Cond.methodLink RX0 216 yX0_countSharesOfFerry, Cond.instanceMethod yX0_countSharesOfFerry, Cond.selects RX0 yX0_countSharesOfFerry yX0_countSharesOfFerry]
def wsL_master_r2 : List Cond := [Cond.code yX0_countSharesOfFerry cX0_countSharesOfFerry 5 (some .int), Cond.methodLink RX0 96 yX0_owns, Cond.instanceMethod yX0_owns, Cond.selects RX0 yX0_owns yX0_owns, Cond.code yX0_owns cX0_owns 4 (some .int), Cond.fieldLink RX0 20 "FerryRights" "sharesOwned" "[I", Cond.methodLink RX0 213 yX0_slot, Cond.static yX0_slot, Cond.code yX0_slot cX0_slot 3 (some .int)]
def wsL_master : List Cond := .codeWith yL_master cL_master 4 (some .int) [(0, 9, 12, 24), (0, 9, 15, 15)] :: ((wsL_master_r1 ++ wsL_master_r2) ++ wsX00 ++ (vx_atS RX0 50 "java/lang/IllegalStateException" ["java/lang/RuntimeException", "java/lang/Exception"]).filter goodWord ++ (vx_atS RX0 164 "java/lang/IndexOutOfBoundsException" ["java/lang/RuntimeException", "java/lang/Exception"]).filter goodWord)
def wsL_hasMaster_r1 : List Cond := [Cond.classLink RL 24 "java/lang/IndexOutOfBoundsException", Cond.methodLink RL 72 yX0_hasMaster, Cond.instanceMethod yX0_hasMaster, Cond.selects RX0 yX0_hasMaster yX0_hasMaster, Cond.initialized RX0, Cond.code yX0_hasMaster cX0_hasMaster 2 (some .boolean), Cond.methodLink RX0 75 yX0_needFerry, Cond.instanceMethod yX0_needFerry, Cond.selects RX0 yX0_needFerry yX0_needFerry, Cond.code yX0_needFerry cX0_needFerry 2 none, Cond.classLink RX0 160 "java/lang/IndexOutOfBoundsException", Cond.initialized "java/lang/IndexOutOfBoundsException", Cond.fieldLink RX0 9 "FerryRights" "ferryCount" "I", Cond.methodLink RX0 114 yX0_findMaster, Cond.instanceMethod yX0_findMaster, Cond.selects RX0 yX0_findMaster yX0_findMaster, Cond.code yX0_findMaster cX0_findMaster 3 (some .int), Cond.fieldLink RX0 23 "FerryRights" "personCount" "I", Cond.methodLink RX0 216 yX0_countSharesOfFerry, Cond.instanceMethod yX0_countSharesOfFerry, Cond.selects RX0 yX0_countSharesOfFerry yX0_countSharesOfFerry, Cond.code yX0_countSharesOfFerry cX0_countSharesOfFerry 5 (some .int), Cond.methodLink RX0 96 yX0_owns, Cond.instanceMethod yX0_owns]
def wsL_hasMaster_r2 : List Cond := [Cond.selects RX0 yX0_owns yX0_owns, Cond.code yX0_owns cX0_owns 4 (some .int), Cond.fieldLink RX0 20 "FerryRights" "sharesOwned" "[I", Cond.methodLink RX0 213 yX0_slot, Cond.static yX0_slot, Cond.code yX0_slot cX0_slot 3 (some .int)]
def wsL_hasMaster : List Cond := .codeWith yL_hasMaster cL_hasMaster 4 (some .int) [(0, 16, 19, 24)] :: ((wsL_hasMaster_r1 ++ wsL_hasMaster_r2) ++ wsX00 ++ (vx_atS RX0 164 "java/lang/IndexOutOfBoundsException" ["java/lang/RuntimeException", "java/lang/Exception"]).filter goodWord)
def wsL_shareValue : List Cond := .codeWith yL_shareValue cL_shareValue 5 (some .int) [(0, 10, 13, 24)] :: ([.classLink RL 24 "java/lang/IndexOutOfBoundsException", .methodLink RL 76 yX0_shareValue, .instanceMethod yX0_shareValue, .selects RX0 yX0_shareValue yX0_shareValue, .initialized RX0, .code yX0_shareValue cX0_shareValue 3 (some .int), .methodLink RX0 75 yX0_needFerry, .instanceMethod yX0_needFerry, .selects RX0 yX0_needFerry yX0_needFerry, .code yX0_needFerry cX0_needFerry 2 none, .classLink RX0 160 "java/lang/IndexOutOfBoundsException", .initialized "java/lang/IndexOutOfBoundsException", .fieldLink RX0 9 "FerryRights" "ferryCount" "I", .methodLink RX0 78 yX0_needWatch, .static yX0_needWatch, .code yX0_needWatch cX0_needWatch 1 none, .methodLink RX0 146 yX0_worth, .instanceMethod yX0_worth, .selects RX0 yX0_worth yX0_worth, .code yX0_worth cX0_worth 3 (some .int), .fieldLink RX0 13 "FerryRights" "tolls" "[I", .fieldLink RX0 219 "FerryRights" "TRAFFIC" "[I"] ++ wsX00 ++ (vx_atS RX0 164 "java/lang/IndexOutOfBoundsException" ["java/lang/RuntimeException", "java/lang/Exception"]).filter goodWord)
def wsL_watchAt : List Cond := .codeWith yL_watchAt cL_watchAt 4 (some .int) [(0, 9, 12, 24)] :: ([.classLink RL 24 "java/lang/IndexOutOfBoundsException", .methodLink RL 79 yX0_watchAt, .instanceMethod yX0_watchAt, .selects RX0 yX0_watchAt yX0_watchAt, .initialized RX0, .code yX0_watchAt cX0_watchAt 2 (some .int), .methodLink RX0 119 yX0_needHour, .static yX0_needHour, .code yX0_needHour cX0_needHour 1 none, .classLink RX0 160 "java/lang/IndexOutOfBoundsException", .initialized "java/lang/IndexOutOfBoundsException"] ++ (vx_atS RX0 164 "java/lang/IndexOutOfBoundsException" ["java/lang/RuntimeException", "java/lang/Exception"]).filter goodWord)
def wsL_isAlive : List Cond := .codeWith yL_isAlive cL_isAlive 4 (some .int) [(0, 16, 19, 24)] :: ([.classLink RL 24 "java/lang/IndexOutOfBoundsException", .methodLink RL 82 yX0_isAlive, .instanceMethod yX0_isAlive, .selects RX0 yX0_isAlive yX0_isAlive, .initialized RX0, .code yX0_isAlive cX0_isAlive 2 (some .boolean), .fieldLink RX0 26 "FerryRights" "alive" "[Z", .methodLink RX0 60 yX0_needPerson, .instanceMethod yX0_needPerson, .selects RX0 yX0_needPerson yX0_needPerson, .code yX0_needPerson cX0_needPerson 2 none, .classLink RX0 160 "java/lang/IndexOutOfBoundsException", .initialized "java/lang/IndexOutOfBoundsException", .fieldLink RX0 23 "FerryRights" "personCount" "I"] ++ wsX00 ++ (vx_atS RX0 164 "java/lang/IndexOutOfBoundsException" ["java/lang/RuntimeException", "java/lang/Exception"]).filter goodWord)
def wsL_coins : List Cond := .codeWith yL_coins cL_coins 4 (some .int) [(0, 9, 12, 24)] :: ([.classLink RL 24 "java/lang/IndexOutOfBoundsException", .methodLink RL 85 yX0_coins, .instanceMethod yX0_coins, .selects RX0 yX0_coins yX0_coins, .initialized RX0, .code yX0_coins cX0_coins 2 (some .int), .fieldLink RX0 30 "FerryRights" "purses" "[I", .methodLink RX0 60 yX0_needPerson, .instanceMethod yX0_needPerson, .selects RX0 yX0_needPerson yX0_needPerson, .code yX0_needPerson cX0_needPerson 2 none, .classLink RX0 160 "java/lang/IndexOutOfBoundsException", .initialized "java/lang/IndexOutOfBoundsException", .fieldLink RX0 23 "FerryRights" "personCount" "I"] ++ wsX00 ++ (vx_atS RX0 164 "java/lang/IndexOutOfBoundsException" ["java/lang/RuntimeException", "java/lang/Exception"]).filter goodWord)
def wsL_earned : List Cond := .codeWith yL_earned cL_earned 4 (some .int) [(0, 9, 12, 24)] :: ([.classLink RL 24 "java/lang/IndexOutOfBoundsException", .methodLink RL 88 yX0_earned, .instanceMethod yX0_earned, .selects RX0 yX0_earned yX0_earned, .initialized RX0, .code yX0_earned cX0_earned 2 (some .int), .fieldLink RX0 33 "FerryRights" "fares" "[I", .methodLink RX0 60 yX0_needPerson, .instanceMethod yX0_needPerson, .selects RX0 yX0_needPerson yX0_needPerson, .code yX0_needPerson cX0_needPerson 2 none, .classLink RX0 160 "java/lang/IndexOutOfBoundsException", .initialized "java/lang/IndexOutOfBoundsException", .fieldLink RX0 23 "FerryRights" "personCount" "I"] ++ wsX00 ++ (vx_atS RX0 164 "java/lang/IndexOutOfBoundsException" ["java/lang/RuntimeException", "java/lang/Exception"]).filter goodWord)
def wsL_allShares_r1 : List Cond := [Cond.classLink RL 24 "java/lang/IndexOutOfBoundsException", Cond.methodLink RL 91 yX0_allShares, Cond.instanceMethod yX0_allShares, Cond.selects RX0 yX0_allShares yX0_allShares, Cond.initialized RX0, Cond.code yX0_allShares cX0_allShares 2 (some .int), Cond.methodLink RX0 60 yX0_needPerson, Cond.instanceMethod yX0_needPerson, Cond.selects RX0 yX0_needPerson yX0_needPerson, Cond.code yX0_needPerson cX0_needPerson 2 none, Cond.classLink RX0 160 "java/lang/IndexOutOfBoundsException", Cond.initialized "java/lang/IndexOutOfBoundsException", Cond.fieldLink RX0 23 "FerryRights" "personCount" "I", Cond.methodLink RX0 149 yX0_countAllShares, Cond.instanceMethod yX0_countAllShares, Cond.selects RX0 yX0_countAllShares yX0_countAllShares, Cond.code yX0_countAllShares cX0_countAllShares 4 (some .int), Cond.fieldLink RX0 9 "FerryRights" "ferryCount" "I", Cond.methodLink RX0 216 yX0_countSharesOfFerry, Cond.instanceMethod yX0_countSharesOfFerry, Cond.selects RX0 yX0_countSharesOfFerry yX0_countSharesOfFerry, Cond.code yX0_countSharesOfFerry cX0_countSharesOfFerry 5 (some .int), Cond.methodLink RX0 96 yX0_owns, Cond.instanceMethod yX0_owns]
def wsL_allShares_r2 : List Cond := [Cond.selects RX0 yX0_owns yX0_owns, Cond.code yX0_owns cX0_owns 4 (some .int), Cond.fieldLink RX0 20 "FerryRights" "sharesOwned" "[I", Cond.methodLink RX0 213 yX0_slot, Cond.static yX0_slot, Cond.code yX0_slot cX0_slot 3 (some .int)]
def wsL_allShares : List Cond := .codeWith yL_allShares cL_allShares 4 (some .int) [(0, 9, 12, 24)] :: ((wsL_allShares_r1 ++ wsL_allShares_r2) ++ wsX00 ++ (vx_atS RX0 164 "java/lang/IndexOutOfBoundsException" ["java/lang/RuntimeException", "java/lang/Exception"]).filter goodWord)
def wsL_hasParent : List Cond := .codeWith yL_hasParent cL_hasParent 4 (some .int) [(0, 16, 19, 24)] :: ([.classLink RL 24 "java/lang/IndexOutOfBoundsException", .methodLink RL 94 yX0_hasParent, .instanceMethod yX0_hasParent, .selects RX0 yX0_hasParent yX0_hasParent, .initialized RX0, .code yX0_hasParent cX0_hasParent 2 (some .boolean), .fieldLink RX0 36 "FerryRights" "parents" "[I", .methodLink RX0 60 yX0_needPerson, .instanceMethod yX0_needPerson, .selects RX0 yX0_needPerson yX0_needPerson, .code yX0_needPerson cX0_needPerson 2 none, .classLink RX0 160 "java/lang/IndexOutOfBoundsException", .initialized "java/lang/IndexOutOfBoundsException", .fieldLink RX0 23 "FerryRights" "personCount" "I"] ++ wsX00 ++ (vx_atS RX0 164 "java/lang/IndexOutOfBoundsException" ["java/lang/RuntimeException", "java/lang/Exception"]).filter goodWord)
def wsL_parent : List Cond := .codeWith yL_parent cL_parent 4 (some .int) [(0, 9, 12, 24), (0, 9, 15, 15)] :: ([.classLink RL 24 "java/lang/IndexOutOfBoundsException", .classLink RL 15 "java/lang/IllegalStateException", .methodLink RL 97 yX0_parent, .instanceMethod yX0_parent, .selects RX0 yX0_parent yX0_parent, .initialized RX0, .code yX0_parent cX0_parent 2 (some .int), .classLink RX0 46 "java/lang/IllegalStateException", .initialized "java/lang/IllegalStateException", .fieldLink RX0 36 "FerryRights" "parents" "[I", .methodLink RX0 60 yX0_needPerson, .instanceMethod yX0_needPerson, .selects RX0 yX0_needPerson yX0_needPerson, .code yX0_needPerson cX0_needPerson 2 none, .classLink RX0 160 "java/lang/IndexOutOfBoundsException", .initialized "java/lang/IndexOutOfBoundsException", .fieldLink RX0 23 "FerryRights" "personCount" "I"] ++ wsX00 ++ (vx_atS RX0 50 "java/lang/IllegalStateException" ["java/lang/RuntimeException", "java/lang/Exception"]).filter goodWord ++ (vx_atS RX0 164 "java/lang/IndexOutOfBoundsException" ["java/lang/RuntimeException", "java/lang/Exception"]).filter goodWord)
def wsL_children : List Cond := .codeWith yL_children cL_children 4 (some .int) [(0, 9, 12, 24)] :: ([.classLink RL 24 "java/lang/IndexOutOfBoundsException", .methodLink RL 100 yX0_children, .instanceMethod yX0_children, .selects RX0 yX0_children yX0_children, .initialized RX0, .code yX0_children cX0_children 2 (some .int), .methodLink RX0 60 yX0_needPerson, .instanceMethod yX0_needPerson, .selects RX0 yX0_needPerson yX0_needPerson, .code yX0_needPerson cX0_needPerson 2 none, .classLink RX0 160 "java/lang/IndexOutOfBoundsException", .initialized "java/lang/IndexOutOfBoundsException", .fieldLink RX0 23 "FerryRights" "personCount" "I", .methodLink RX0 154 yX0_countChildren, .instanceMethod yX0_countChildren, .selects RX0 yX0_countChildren yX0_countChildren, .code yX0_countChildren cX0_countChildren 4 (some .int), .fieldLink RX0 36 "FerryRights" "parents" "[I"] ++ wsX00 ++ (vx_atS RX0 164 "java/lang/IndexOutOfBoundsException" ["java/lang/RuntimeException", "java/lang/Exception"]).filter goodWord)
def wsL_heirs_r1 : List Cond := [Cond.classLink RL 24 "java/lang/IndexOutOfBoundsException", Cond.methodLink RL 103 yX0_heirs, Cond.instanceMethod yX0_heirs, Cond.selects RX0 yX0_heirs yX0_heirs, Cond.initialized RX0, Cond.code yX0_heirs cX0_heirs 2 (some .int), Cond.methodLink RX0 60 yX0_needPerson, Cond.instanceMethod yX0_needPerson, Cond.selects RX0 yX0_needPerson yX0_needPerson, Cond.code yX0_needPerson cX0_needPerson 2 none, Cond.classLink RX0 160 "java/lang/IndexOutOfBoundsException", Cond.initialized "java/lang/IndexOutOfBoundsException", Cond.fieldLink RX0 23 "FerryRights" "personCount" "I", Cond.methodLink RX0 129 yX0_countHeirs, Cond.instanceMethod yX0_countHeirs, Cond.selects RX0 yX0_countHeirs yX0_countHeirs, Cond.code yX0_countHeirs cX0_countHeirs 2 (some .int), Cond.methodLink RX0 165 yX0_countHeirsBelow, Cond.instanceMethod yX0_countHeirsBelow, Cond.selects RX0 yX0_countHeirsBelow yX0_countHeirsBelow, Cond.code yX0_countHeirsBelow cX0_countHeirsBelow 5 (some .int), Cond.methodLink RX0 132 yX0_isHeir, Cond.instanceMethod yX0_isHeir, Cond.selects RX0 yX0_isHeir yX0_isHeir]
def wsL_heirs_r2 : List Cond := [Cond.code yX0_isHeir cX0_isHeir 3 (some .boolean), Cond.fieldLink RX0 26 "FerryRights" "alive" "[Z", Cond.fieldLink RX0 36 "FerryRights" "parents" "[I", Cond.methodLink RX0 225 yX0_hasLivingChild, Cond.instanceMethod yX0_hasLivingChild, Cond.selects RX0 yX0_hasLivingChild yX0_hasLivingChild, Cond.code yX0_hasLivingChild cX0_hasLivingChild 3 (some .boolean)]
def wsL_heirs : List Cond := .codeWith yL_heirs cL_heirs 4 (some .int) [(0, 9, 12, 24)] :: ((wsL_heirs_r1 ++ wsL_heirs_r2) ++ wsX00 ++ (vx_atS RX0 164 "java/lang/IndexOutOfBoundsException" ["java/lang/RuntimeException", "java/lang/Exception"]).filter goodWord)
def wsL_heir_r1 : List Cond := [Cond.classLink RL 24 "java/lang/IndexOutOfBoundsException", Cond.methodLink RL 106 yX0_heir, Cond.instanceMethod yX0_heir, Cond.selects RX0 yX0_heir yX0_heir, Cond.initialized RX0, Cond.code yX0_heir cX0_heir 4 (some .int), Cond.classLink RX0 160 "java/lang/IndexOutOfBoundsException", Cond.initialized "java/lang/IndexOutOfBoundsException", Cond.methodLink RX0 60 yX0_needPerson, Cond.instanceMethod yX0_needPerson, Cond.selects RX0 yX0_needPerson yX0_needPerson, Cond.code yX0_needPerson cX0_needPerson 2 none, Cond.fieldLink RX0 23 "FerryRights" "personCount" "I", Cond.methodLink RX0 157 yX0_findHeir, Cond.instanceMethod yX0_findHeir, Cond.selects RX0 yX0_findHeir yX0_findHeir, Cond.code yX0_findHeir cX0_findHeir 5 (some .int), Cond.methodLink RX0 132 yX0_isHeir, Cond.instanceMethod yX0_isHeir, Cond.selects RX0 yX0_isHeir yX0_isHeir, Cond.code yX0_isHeir cX0_isHeir 3 (some .boolean), Cond.fieldLink RX0 26 "FerryRights" "alive" "[Z", Cond.fieldLink RX0 36 "FerryRights" "parents" "[I", Cond.methodLink RX0 225 yX0_hasLivingChild]
def wsL_heir_r2 : List Cond := [Cond.instanceMethod yX0_hasLivingChild, Cond.selects RX0 yX0_hasLivingChild yX0_hasLivingChild, Cond.code yX0_hasLivingChild cX0_hasLivingChild 3 (some .boolean)]
def wsL_heir : List Cond := .codeWith yL_heir cL_heir 5 (some .int) [(0, 10, 13, 24)] :: ((wsL_heir_r1 ++ wsL_heir_r2) ++ wsX00 ++ (vx_atS RX0 164 "java/lang/IndexOutOfBoundsException" ["java/lang/RuntimeException", "java/lang/Exception"]).filter goodWord)
def wsL_price_r1 : List Cond := [Cond.classLink RL 24 "java/lang/IndexOutOfBoundsException", Cond.methodLink RL 109 yX0_price, Cond.instanceMethod yX0_price, Cond.selects RX0 yX0_price yX0_price, Cond.initialized RX0, Cond.code yX0_price cX0_price 4 (some .int), Cond.methodLink RX0 60 yX0_needPerson, Cond.instanceMethod yX0_needPerson, Cond.selects RX0 yX0_needPerson yX0_needPerson, Cond.code yX0_needPerson cX0_needPerson 2 none, Cond.classLink RX0 160 "java/lang/IndexOutOfBoundsException", Cond.initialized "java/lang/IndexOutOfBoundsException", Cond.fieldLink RX0 23 "FerryRights" "personCount" "I", Cond.methodLink RX0 75 yX0_needFerry, Cond.instanceMethod yX0_needFerry, Cond.selects RX0 yX0_needFerry yX0_needFerry, Cond.code yX0_needFerry cX0_needFerry 2 none, Cond.fieldLink RX0 9 "FerryRights" "ferryCount" "I", Cond.methodLink RX0 78 yX0_needWatch, Cond.static yX0_needWatch, Cond.code yX0_needWatch cX0_needWatch 1 none, Cond.methodLink RX0 111 yX0_priceOf, Cond.instanceMethod yX0_priceOf, Cond.selects RX0 yX0_priceOf yX0_priceOf]
def wsL_price_r2 : List Cond := [Cond.code yX0_priceOf cX0_priceOf 4 (some .int), Cond.methodLink RX0 96 yX0_owns, Cond.instanceMethod yX0_owns, Cond.selects RX0 yX0_owns yX0_owns, Cond.code yX0_owns cX0_owns 4 (some .int), Cond.fieldLink RX0 20 "FerryRights" "sharesOwned" "[I", Cond.methodLink RX0 213 yX0_slot, Cond.static yX0_slot, Cond.code yX0_slot cX0_slot 3 (some .int), Cond.methodLink RX0 146 yX0_worth, Cond.instanceMethod yX0_worth, Cond.selects RX0 yX0_worth yX0_worth, Cond.code yX0_worth cX0_worth 3 (some .int), Cond.fieldLink RX0 13 "FerryRights" "tolls" "[I", Cond.fieldLink RX0 219 "FerryRights" "TRAFFIC" "[I"]
def wsL_price : List Cond := .codeWith yL_price cL_price 6 (some .int) [(0, 12, 15, 24)] :: ((wsL_price_r1 ++ wsL_price_r2) ++ wsX00 ++ (vx_atS RX0 164 "java/lang/IndexOutOfBoundsException" ["java/lang/RuntimeException", "java/lang/Exception"]).filter goodWord)
def wsL_canBuy_r1 : List Cond := [Cond.classLink RL 24 "java/lang/IndexOutOfBoundsException", Cond.methodLink RL 112 yX0_canBuy, Cond.instanceMethod yX0_canBuy, Cond.selects RX0 yX0_canBuy yX0_canBuy, Cond.initialized RX0, Cond.code yX0_canBuy cX0_canBuy 5 (some .boolean), Cond.methodLink RX0 102 yX0_needSale, Cond.instanceMethod yX0_needSale, Cond.selects RX0 yX0_needSale yX0_needSale, Cond.code yX0_needSale cX0_needSale 5 none, Cond.methodLink RX0 60 yX0_needPerson, Cond.instanceMethod yX0_needPerson, Cond.selects RX0 yX0_needPerson yX0_needPerson, Cond.code yX0_needPerson cX0_needPerson 2 none, Cond.classLink RX0 160 "java/lang/IndexOutOfBoundsException", Cond.initialized "java/lang/IndexOutOfBoundsException", Cond.fieldLink RX0 23 "FerryRights" "personCount" "I", Cond.methodLink RX0 75 yX0_needFerry, Cond.instanceMethod yX0_needFerry, Cond.selects RX0 yX0_needFerry yX0_needFerry, Cond.code yX0_needFerry cX0_needFerry 2 none, Cond.fieldLink RX0 9 "FerryRights" "ferryCount" "I", Cond.methodLink RX0 78 yX0_needWatch, Cond.static yX0_needWatch]
def wsL_canBuy_r2 : List Cond := [Cond.code yX0_needWatch cX0_needWatch 1 none, Cond.methodLink RX0 105 yX0_mayBuy, Cond.instanceMethod yX0_mayBuy, Cond.selects RX0 yX0_mayBuy yX0_mayBuy, Cond.code yX0_mayBuy cX0_mayBuy 6 (some .boolean), Cond.fieldLink RX0 26 "FerryRights" "alive" "[Z", Cond.fieldLink RX0 30 "FerryRights" "purses" "[I", Cond.methodLink RX0 111 yX0_priceOf, Cond.instanceMethod yX0_priceOf, Cond.selects RX0 yX0_priceOf yX0_priceOf, Cond.code yX0_priceOf cX0_priceOf 4 (some .int), Cond.methodLink RX0 96 yX0_owns, Cond.instanceMethod yX0_owns, Cond.selects RX0 yX0_owns yX0_owns, Cond.code yX0_owns cX0_owns 4 (some .int), Cond.fieldLink RX0 20 "FerryRights" "sharesOwned" "[I", Cond.methodLink RX0 213 yX0_slot, Cond.static yX0_slot, Cond.code yX0_slot cX0_slot 3 (some .int), Cond.methodLink RX0 146 yX0_worth, Cond.instanceMethod yX0_worth, Cond.selects RX0 yX0_worth yX0_worth, Cond.code yX0_worth cX0_worth 3 (some .int), Cond.fieldLink RX0 13 "FerryRights" "tolls" "[I"]
def wsL_canBuy_r3 : List Cond := [Cond.fieldLink RX0 219 "FerryRights" "TRAFFIC" "[I", Cond.methodLink RX0 222 yX0_otherOwnerHas, Cond.instanceMethod yX0_otherOwnerHas, Cond.selects RX0 yX0_otherOwnerHas yX0_otherOwnerHas, Cond.code yX0_otherOwnerHas cX0_otherOwnerHas 6 (some .boolean)]
def wsL_canBuy : List Cond := .codeWith yL_canBuy cL_canBuy 7 (some .int) [(0, 21, 24, 24)] :: ((wsL_canBuy_r1 ++ (wsL_canBuy_r2 ++ wsL_canBuy_r3)) ++ wsX00 ++ (vx_atS RX0 164 "java/lang/IndexOutOfBoundsException" ["java/lang/RuntimeException", "java/lang/Exception"]).filter goodWord)
def wsL_inheritance_r1 : List Cond := [Cond.classLink RL 24 "java/lang/IndexOutOfBoundsException", Cond.methodLink RL 116 yX0_inheritance, Cond.instanceMethod yX0_inheritance, Cond.selects RX0 yX0_inheritance yX0_inheritance, Cond.initialized RX0, Cond.code yX0_inheritance cX0_inheritance 5 (some .int), Cond.methodLink RX0 60 yX0_needPerson, Cond.instanceMethod yX0_needPerson, Cond.selects RX0 yX0_needPerson yX0_needPerson, Cond.code yX0_needPerson cX0_needPerson 2 none, Cond.classLink RX0 160 "java/lang/IndexOutOfBoundsException", Cond.initialized "java/lang/IndexOutOfBoundsException", Cond.fieldLink RX0 23 "FerryRights" "personCount" "I", Cond.methodLink RX0 75 yX0_needFerry, Cond.instanceMethod yX0_needFerry, Cond.selects RX0 yX0_needFerry yX0_needFerry, Cond.code yX0_needFerry cX0_needFerry 2 none, Cond.fieldLink RX0 9 "FerryRights" "ferryCount" "I", Cond.methodLink RX0 78 yX0_needWatch, Cond.static yX0_needWatch, Cond.code yX0_needWatch cX0_needWatch 1 none, Cond.methodLink RX0 132 yX0_isHeir, Cond.instanceMethod yX0_isHeir, Cond.selects RX0 yX0_isHeir yX0_isHeir]
def wsL_inheritance_r2 : List Cond := [Cond.code yX0_isHeir cX0_isHeir 3 (some .boolean), Cond.fieldLink RX0 26 "FerryRights" "alive" "[Z", Cond.fieldLink RX0 36 "FerryRights" "parents" "[I", Cond.methodLink RX0 225 yX0_hasLivingChild, Cond.instanceMethod yX0_hasLivingChild, Cond.selects RX0 yX0_hasLivingChild yX0_hasLivingChild, Cond.code yX0_hasLivingChild cX0_hasLivingChild 3 (some .boolean), Cond.methodLink RX0 96 yX0_owns, Cond.instanceMethod yX0_owns, Cond.selects RX0 yX0_owns yX0_owns, Cond.code yX0_owns cX0_owns 4 (some .int), Cond.fieldLink RX0 20 "FerryRights" "sharesOwned" "[I", Cond.methodLink RX0 213 yX0_slot, Cond.static yX0_slot, Cond.code yX0_slot cX0_slot 3 (some .int), Cond.methodLink RX0 129 yX0_countHeirs, Cond.instanceMethod yX0_countHeirs, Cond.selects RX0 yX0_countHeirs yX0_countHeirs, Cond.code yX0_countHeirs cX0_countHeirs 2 (some .int), Cond.methodLink RX0 165 yX0_countHeirsBelow, Cond.instanceMethod yX0_countHeirsBelow, Cond.selects RX0 yX0_countHeirsBelow yX0_countHeirsBelow, Cond.code yX0_countHeirsBelow cX0_countHeirsBelow 5 (some .int), Cond.methodLink RX0 168 yX0_partOf]
def wsL_inheritance_r3 : List Cond := [Cond.static yX0_partOf, Cond.code yX0_partOf cX0_partOf 6 (some .int)]
def wsL_inheritance : List Cond := .codeWith yL_inheritance cL_inheritance 7 (some .int) [(0, 14, 17, 24)] :: ((wsL_inheritance_r1 ++ (wsL_inheritance_r2 ++ wsL_inheritance_r3)) ++ wsX00 ++ (vx_atS RX0 164 "java/lang/IndexOutOfBoundsException" ["java/lang/RuntimeException", "java/lang/Exception"]).filter goodWord)
def wsL_fare_r1 : List Cond := [Cond.classLink RL 24 "java/lang/IndexOutOfBoundsException", Cond.classLink RL 13 "java/lang/IllegalArgumentException", Cond.methodLink RL 119 yX0_fare, Cond.instanceMethod yX0_fare, Cond.selects RX0 yX0_fare yX0_fare, Cond.initialized RX0, Cond.code yX0_fare cX0_fare 5 (some .int), Cond.methodLink RX0 60 yX0_needPerson, Cond.instanceMethod yX0_needPerson, Cond.selects RX0 yX0_needPerson yX0_needPerson, Cond.code yX0_needPerson cX0_needPerson 2 none, Cond.classLink RX0 160 "java/lang/IndexOutOfBoundsException", Cond.initialized "java/lang/IndexOutOfBoundsException", Cond.fieldLink RX0 23 "FerryRights" "personCount" "I", Cond.methodLink RX0 75 yX0_needFerry, Cond.instanceMethod yX0_needFerry, Cond.selects RX0 yX0_needFerry yX0_needFerry, Cond.code yX0_needFerry cX0_needFerry 2 none, Cond.fieldLink RX0 9 "FerryRights" "ferryCount" "I", Cond.methodLink RX0 119 yX0_needHour, Cond.static yX0_needHour, Cond.code yX0_needHour cX0_needHour 1 none, Cond.methodLink RX0 122 yX0_needPassengers, Cond.static yX0_needPassengers]
def wsL_fare_r2 : List Cond := [Cond.code yX0_needPassengers cX0_needPassengers 1 none, Cond.classLink RX0 66 "java/lang/IllegalArgumentException", Cond.initialized "java/lang/IllegalArgumentException", Cond.methodLink RX0 125 yX0_fareOf, Cond.instanceMethod yX0_fareOf, Cond.selects RX0 yX0_fareOf yX0_fareOf, Cond.code yX0_fareOf cX0_fareOf 5 (some .int), Cond.fieldLink RX0 13 "FerryRights" "tolls" "[I", Cond.methodLink RX0 96 yX0_owns, Cond.instanceMethod yX0_owns, Cond.selects RX0 yX0_owns yX0_owns, Cond.code yX0_owns cX0_owns 4 (some .int), Cond.fieldLink RX0 20 "FerryRights" "sharesOwned" "[I", Cond.methodLink RX0 213 yX0_slot, Cond.static yX0_slot, Cond.code yX0_slot cX0_slot 3 (some .int)]
def wsL_fare : List Cond := .codeWith yL_fare cL_fare 7 (some .int) [(0, 14, 17, 24), (0, 14, 21, 13)] :: ((wsL_fare_r1 ++ wsL_fare_r2) ++ wsX00 ++ (vx_atS RX0 164 "java/lang/IndexOutOfBoundsException" ["java/lang/RuntimeException", "java/lang/Exception"]).filter goodWord ++ (vx_atS RX0 70 "java/lang/IllegalArgumentException" ["java/lang/RuntimeException", "java/lang/Exception"]).filter goodWord)
def wsL_richest : List Cond := .codeWith yL_richest cL_richest 3 (some .int) [(0, 8, 11, 15)] :: ([.classLink RL 15 "java/lang/IllegalStateException", .methodLink RL 122 yX0_richest, .instanceMethod yX0_richest, .selects RX0 yX0_richest yX0_richest, .initialized RX0, .code yX0_richest cX0_richest 4 (some .int), .classLink RX0 46 "java/lang/IllegalStateException", .initialized "java/lang/IllegalStateException", .fieldLink RX0 23 "FerryRights" "personCount" "I", .fieldLink RX0 26 "FerryRights" "alive" "[Z", .fieldLink RX0 30 "FerryRights" "purses" "[I"] ++ wsX00 ++ (vx_atS RX0 50 "java/lang/IllegalStateException" ["java/lang/RuntimeException", "java/lang/Exception"]).filter goodWord)
def wsL_law0_r1 : List Cond := [Cond.classLink RL 8 RX0, Cond.instantiable RX0 10, Cond.initialized RX0, Cond.classLink RL 126 RX1, Cond.instantiable RX1 13, Cond.initialized RX1, Cond.arrayClass .long, Cond.methodLink RL 125 yX0_init, Cond.instanceMethod yX0_init, Cond.code yX0_init cX0_init 1 none, Cond.methodLink RX0 3 objectInit, Cond.instanceMethod objectInit, Cond.code objectInit ⟨#[0xb1]⟩ 1 none, Cond.fieldLink RX0 9 "FerryRights" "ferryCount" "I", Cond.arrayClass .int, Cond.fieldLink RX0 13 "FerryRights" "tolls" "[I", Cond.fieldLink RX0 17 "FerryRights" "passengersCarried" "[I", Cond.fieldLink RX0 20 "FerryRights" "sharesOwned" "[I", Cond.fieldLink RX0 23 "FerryRights" "personCount" "I", Cond.arrayClass .boolean, Cond.fieldLink RX0 26 "FerryRights" "alive" "[Z", Cond.fieldLink RX0 30 "FerryRights" "purses" "[I", Cond.fieldLink RX0 33 "FerryRights" "fares" "[I", Cond.fieldLink RX0 36 "FerryRights" "parents" "[I"]
def wsL_law0_r2 : List Cond := [Cond.fieldLink RX0 39 "FerryRights" "crownPurse" "I", Cond.methodLink RL 128 yX1_init, Cond.instanceMethod yX1_init, Cond.code yX1_init cX1_init 1 none, Cond.methodLink RX1 1 objectInit, Cond.fieldLink RX1 9 "FerryRightsModel" "toll" "[I", Cond.fieldLink RX1 13 "FerryRightsModel" "carried" "[I", Cond.fieldLink RX1 16 "FerryRightsModel" "owns" "[I", Cond.fieldLink RX1 19 "FerryRightsModel" "coins" "[I", Cond.fieldLink RX1 22 "FerryRightsModel" "earned" "[I", Cond.fieldLink RX1 25 "FerryRightsModel" "parent" "[I", Cond.fieldLink RX1 28 "FerryRightsModel" "isDead" "[Z", Cond.fieldLink RX1 32 "FerryRightsModel" "heir" "[I", Cond.methodLink RL 129 yL_addFerry, Cond.static yL_addFerry, Cond.initialized RL, Cond.codeWith yL_addFerry cL_addFerry 4 (some .int) [(0, 9, 12, 13), (0, 9, 15, 15)], Cond.classLink RL 13 "java/lang/IllegalArgumentException", Cond.classLink RL 15 "java/lang/IllegalStateException", Cond.methodLink RL 7 yX0_addFerry, Cond.instanceMethod yX0_addFerry, Cond.selects RX0 yX0_addFerry yX0_addFerry, Cond.code yX0_addFerry cX0_addFerry 3 (some .int), Cond.classLink RX0 46 "java/lang/IllegalStateException"]
def wsL_law0_r3 : List Cond := [Cond.initialized "java/lang/IllegalStateException", Cond.methodLink RX0 42 yX0_needToll, Cond.static yX0_needToll, Cond.code yX0_needToll cX0_needToll 1 none, Cond.classLink RX0 66 "java/lang/IllegalArgumentException", Cond.initialized "java/lang/IllegalArgumentException", Cond.methodLink RL 134 yX1_addFerry, Cond.instanceMethod yX1_addFerry, Cond.selects RX1 yX1_addFerry yX1_addFerry, Cond.code yX1_addFerry cX1_addFerry 2 (some .int), Cond.fieldLink RX1 35 "FerryRightsModel" "thrown" "I", Cond.fieldLink RX1 39 "FerryRightsModel" "ferries" "I", Cond.methodLink RX1 42 yX1_isIn, Cond.static yX1_isIn, Cond.code yX1_isIn cX1_isIn 3 (some .boolean), Cond.methodLink RX1 66 yX1_no, Cond.instanceMethod yX1_no, Cond.selects RX1 yX1_no yX1_no, Cond.code yX1_no cX1_no 2 (some .int), Cond.methodLink RL 135 yX1_thrown, Cond.instanceMethod yX1_thrown, Cond.selects RX1 yX1_thrown yX1_thrown, Cond.code yX1_thrown cX1_thrown 1 (some .int), Cond.methodLink RL 138 yL_addPerson]
def wsL_law0_r4 : List Cond := [Cond.static yL_addPerson, Cond.codeWith yL_addPerson cL_addPerson 3 (some .int) [(0, 8, 11, 15)], Cond.methodLink RL 17 yX0_addPerson, Cond.instanceMethod yX0_addPerson, Cond.selects RX0 yX0_addPerson yX0_addPerson, Cond.code yX0_addPerson cX0_addPerson 1 (some .int), Cond.methodLink RX0 53 yX0_needRoomForPerson, Cond.instanceMethod yX0_needRoomForPerson, Cond.selects RX0 yX0_needRoomForPerson yX0_needRoomForPerson, Cond.code yX0_needRoomForPerson cX0_needRoomForPerson 1 none, Cond.methodLink RX0 56 yX0_settle, Cond.instanceMethod yX0_settle, Cond.selects RX0 yX0_settle yX0_settle, Cond.code yX0_settle cX0_settle 3 (some .int), Cond.methodLink RL 141 yX1_addPerson, Cond.instanceMethod yX1_addPerson, Cond.selects RX1 yX1_addPerson yX1_addPerson, Cond.code yX1_addPerson cX1_addPerson 1 (some .int), Cond.fieldLink RX1 50 "FerryRightsModel" "people" "I", Cond.methodLink RX1 70 yX1_person, Cond.instanceMethod yX1_person, Cond.selects RX1 yX1_person yX1_person, Cond.code yX1_person cX1_person 2 (some .int), Cond.methodLink RL 142 yL_addChild]
def wsL_law0_r5 : List Cond := [Cond.static yL_addChild, Cond.codeWith yL_addChild cL_addChild 4 (some .int) [(0, 9, 12, 24), (0, 9, 15, 15)], Cond.classLink RL 24 "java/lang/IndexOutOfBoundsException", Cond.methodLink RL 21 yX0_addChild, Cond.instanceMethod yX0_addChild, Cond.selects RX0 yX0_addChild yX0_addChild, Cond.code yX0_addChild cX0_addChild 2 (some .int), Cond.methodLink RX0 60 yX0_needPerson, Cond.instanceMethod yX0_needPerson, Cond.selects RX0 yX0_needPerson yX0_needPerson, Cond.code yX0_needPerson cX0_needPerson 2 none, Cond.classLink RX0 160 "java/lang/IndexOutOfBoundsException", Cond.initialized "java/lang/IndexOutOfBoundsException", Cond.methodLink RX0 63 yX0_needAlive, Cond.instanceMethod yX0_needAlive, Cond.selects RX0 yX0_needAlive yX0_needAlive, Cond.code yX0_needAlive cX0_needAlive 2 none, Cond.methodLink RL 144 yX1_addChild, Cond.instanceMethod yX1_addChild, Cond.selects RX1 yX1_addChild yX1_addChild, Cond.code yX1_addChild cX1_addChild 2 (some .int), Cond.methodLink RX1 73 yX1_isPerson, Cond.instanceMethod yX1_isPerson, Cond.selects RX1 yX1_isPerson yX1_isPerson]
def wsL_law0_r6 : List Cond := [Cond.code yX1_isPerson cX1_isPerson 2 (some .boolean), Cond.methodLink RL 145 yL_pay, Cond.static yL_pay, Cond.codeWith yL_pay cL_pay 5 (some .int) [(0, 10, 13, 24), (0, 10, 17, 13), (0, 10, 21, 15)], Cond.methodLink RL 26 yX0_pay, Cond.instanceMethod yX0_pay, Cond.selects RX0 yX0_pay yX0_pay, Cond.code yX0_pay cX0_pay 3 (some .int), Cond.methodLink RX0 71 yX0_addCoins, Cond.instanceMethod yX0_addCoins, Cond.selects RX0 yX0_addCoins yX0_addCoins, Cond.code yX0_addCoins cX0_addCoins 3 none, Cond.methodLink RX0 208 Lib.Math.min.name, Cond.static Lib.Math.min.name, Cond.initialized "java/lang/Math", Cond.code Lib.Math.min.name Lib.Math.min.code 2 (some .int), Cond.methodLink RL 148 yX1_pay, Cond.instanceMethod yX1_pay, Cond.selects RX1 yX1_pay yX1_pay, Cond.code yX1_pay cX1_pay 3 (some .int), Cond.methodLink RX1 76 yX1_get, Cond.instanceMethod yX1_get, Cond.selects RX1 yX1_get yX1_get, Cond.code yX1_get cX1_get 3 none]
def wsL_law0_r7 : List Cond := [Cond.methodLink RX1 60 Lib.Math.min.name, Cond.methodLink RL 149 yL_grant, Cond.static yL_grant, Cond.codeWith yL_grant cL_grant 7 (some .int) [(0, 14, 17, 24), (0, 14, 21, 13), (0, 14, 25, 15)], Cond.methodLink RL 30 yX0_grant, Cond.instanceMethod yX0_grant, Cond.selects RX0 yX0_grant yX0_grant, Cond.code yX0_grant cX0_grant 5 (some .int), Cond.methodLink RX0 75 yX0_needFerry, Cond.instanceMethod yX0_needFerry, Cond.selects RX0 yX0_needFerry yX0_needFerry, Cond.code yX0_needFerry cX0_needFerry 2 none, Cond.methodLink RX0 78 yX0_needWatch, Cond.static yX0_needWatch, Cond.code yX0_needWatch cX0_needWatch 1 none, Cond.methodLink RX0 81 yX0_needShares, Cond.static yX0_needShares, Cond.code yX0_needShares cX0_needShares 1 none, Cond.methodLink RX0 84 yX0_crownOwns, Cond.instanceMethod yX0_crownOwns, Cond.selects RX0 yX0_crownOwns yX0_crownOwns, Cond.code yX0_crownOwns cX0_crownOwns 5 (some .int), Cond.methodLink RX0 96 yX0_owns, Cond.instanceMethod yX0_owns]
def wsL_law0_r8 : List Cond := [Cond.selects RX0 yX0_owns yX0_owns, Cond.code yX0_owns cX0_owns 4 (some .int), Cond.methodLink RX0 213 yX0_slot, Cond.static yX0_slot, Cond.code yX0_slot cX0_slot 3 (some .int), Cond.methodLink RX0 90 yX0_addShares, Cond.instanceMethod yX0_addShares, Cond.selects RX0 yX0_addShares yX0_addShares, Cond.code yX0_addShares cX0_addShares 5 none, Cond.methodLink RL 152 yX1_grant, Cond.instanceMethod yX1_grant, Cond.selects RX1 yX1_grant yX1_grant, Cond.code yX1_grant cX1_grant 5 (some .int), Cond.methodLink RX1 80 yX1_isWatch, Cond.instanceMethod yX1_isWatch, Cond.selects RX1 yX1_isWatch yX1_isWatch, Cond.code yX1_isWatch cX1_isWatch 3 (some .boolean), Cond.methodLink RX1 46 yX1_isFerry, Cond.instanceMethod yX1_isFerry, Cond.selects RX1 yX1_isFerry yX1_isFerry, Cond.code yX1_isFerry cX1_isFerry 2 (some .boolean), Cond.methodLink RX1 84 yX1_crown, Cond.instanceMethod yX1_crown, Cond.selects RX1 yX1_crown yX1_crown]
def wsL_law0_r9 : List Cond := [Cond.code yX1_crown cX1_crown 5 (some .int), Cond.methodLink RX1 53 yX1_at, Cond.static yX1_at, Cond.code yX1_at cX1_at 3 (some .int), Cond.methodLink RL 153 yL_give, Cond.static yL_give, Cond.codeWith yL_give cL_give 8 (some .int) [(0, 16, 19, 24), (0, 16, 23, 13), (0, 16, 27, 15)], Cond.methodLink RL 34 yX0_give, Cond.instanceMethod yX0_give, Cond.selects RX0 yX0_give yX0_give, Cond.code yX0_give cX0_give 6 (some .int), Cond.methodLink RL 156 yX1_give, Cond.instanceMethod yX1_give, Cond.selects RX1 yX1_give yX1_give, Cond.code yX1_give cX1_give 6 (some .int), Cond.methodLink RL 157 yL_buy, Cond.static yL_buy, Cond.codeWith yL_buy cL_buy 7 (some .int) [(0, 14, 17, 24), (0, 14, 21, 15)], Cond.methodLink RL 38 yX0_buy, Cond.instanceMethod yX0_buy, Cond.selects RX0 yX0_buy yX0_buy, Cond.code yX0_buy cX0_buy 7 (some .int), Cond.methodLink RX0 102 yX0_needSale, Cond.instanceMethod yX0_needSale]
def wsL_law0_r10 : List Cond := [Cond.selects RX0 yX0_needSale yX0_needSale, Cond.code yX0_needSale cX0_needSale 5 none, Cond.methodLink RX0 105 yX0_mayBuy, Cond.instanceMethod yX0_mayBuy, Cond.selects RX0 yX0_mayBuy yX0_mayBuy, Cond.code yX0_mayBuy cX0_mayBuy 6 (some .boolean), Cond.methodLink RX0 111 yX0_priceOf, Cond.instanceMethod yX0_priceOf, Cond.selects RX0 yX0_priceOf yX0_priceOf, Cond.code yX0_priceOf cX0_priceOf 4 (some .int), Cond.methodLink RX0 146 yX0_worth, Cond.instanceMethod yX0_worth, Cond.selects RX0 yX0_worth yX0_worth, Cond.code yX0_worth cX0_worth 3 (some .int), Cond.fieldLink RX0 219 "FerryRights" "TRAFFIC" "[I", Cond.methodLink RX0 222 yX0_otherOwnerHas, Cond.instanceMethod yX0_otherOwnerHas, Cond.selects RX0 yX0_otherOwnerHas yX0_otherOwnerHas, Cond.code yX0_otherOwnerHas cX0_otherOwnerHas 6 (some .boolean), Cond.methodLink RL 159 yX1_buy, Cond.instanceMethod yX1_buy, Cond.selects RX1 yX1_buy yX1_buy, Cond.code yX1_buy cX1_buy 6 (some .int), Cond.methodLink RX1 97 yX1_buys]
def wsL_law0_r11 : List Cond := [Cond.instanceMethod yX1_buys, Cond.selects RX1 yX1_buys yX1_buys, Cond.code yX1_buys cX1_buys 6 (some .boolean), Cond.methodLink RX1 90 yX1_priceOf, Cond.instanceMethod yX1_priceOf, Cond.selects RX1 yX1_priceOf yX1_priceOf, Cond.code yX1_priceOf cX1_priceOf 4 (some .int), Cond.methodLink RX1 87 yX1_worth, Cond.instanceMethod yX1_worth, Cond.selects RX1 yX1_worth yX1_worth, Cond.code yX1_worth cX1_worth 3 (some .int), Cond.fieldLink RX1 57 "FerryRightsModel" "TRAFFIC" "[I", Cond.methodLink RX1 93 yX1_isOtherAhead, Cond.instanceMethod yX1_isOtherAhead, Cond.selects RX1 yX1_isOtherAhead yX1_isOtherAhead, Cond.code yX1_isOtherAhead cX1_isOtherAhead 6 (some .boolean), Cond.methodLink RL 160 yL_setToll, Cond.static yL_setToll, Cond.codeWith yL_setToll cL_setToll 6 (some .int) [(0, 12, 15, 24), (0, 12, 19, 13), (0, 12, 23, 15)], Cond.methodLink RL 41 yX0_setToll, Cond.instanceMethod yX0_setToll, Cond.selects RX0 yX0_setToll yX0_setToll, Cond.code yX0_setToll cX0_setToll 5 (some .int), Cond.methodLink RX0 114 yX0_findMaster]
def wsL_law0_r12 : List Cond := [Cond.instanceMethod yX0_findMaster, Cond.selects RX0 yX0_findMaster yX0_findMaster, Cond.code yX0_findMaster cX0_findMaster 3 (some .int), Cond.methodLink RX0 216 yX0_countSharesOfFerry, Cond.instanceMethod yX0_countSharesOfFerry, Cond.selects RX0 yX0_countSharesOfFerry yX0_countSharesOfFerry, Cond.code yX0_countSharesOfFerry cX0_countSharesOfFerry 5 (some .int), Cond.methodLink RL 163 yX1_setToll, Cond.instanceMethod yX1_setToll, Cond.selects RX1 yX1_setToll yX1_setToll, Cond.code yX1_setToll cX1_setToll 5 (some .int), Cond.methodLink RX1 103 yX1_masterOf, Cond.instanceMethod yX1_masterOf, Cond.selects RX1 yX1_masterOf yX1_masterOf, Cond.code yX1_masterOf cX1_masterOf 3 (some .int), Cond.methodLink RX1 100 yX1_inFerry, Cond.instanceMethod yX1_inFerry, Cond.selects RX1 yX1_inFerry yX1_inFerry, Cond.code yX1_inFerry cX1_inFerry 5 (some .int), Cond.methodLink RL 164 yL_carry, Cond.static yL_carry, Cond.codeWith yL_carry cL_carry 6 (some .int) [(0, 12, 15, 24), (0, 12, 19, 13)], Cond.methodLink RL 45 yX0_carry, Cond.instanceMethod yX0_carry]
def wsL_law0_r13 : List Cond := [Cond.selects RX0 yX0_carry yX0_carry, Cond.code yX0_carry cX0_carry 8 (some .int), Cond.methodLink RX0 119 yX0_needHour, Cond.static yX0_needHour, Cond.code yX0_needHour cX0_needHour 1 none, Cond.methodLink RX0 122 yX0_needPassengers, Cond.static yX0_needPassengers, Cond.code yX0_needPassengers cX0_needPassengers 1 none, Cond.methodLink RX0 125 yX0_fareOf, Cond.instanceMethod yX0_fareOf, Cond.selects RX0 yX0_fareOf yX0_fareOf, Cond.code yX0_fareOf cX0_fareOf 5 (some .int), Cond.methodLink RL 166 yX1_carry, Cond.instanceMethod yX1_carry, Cond.selects RX1 yX1_carry yX1_carry, Cond.code yX1_carry cX1_carry 7 (some .int), Cond.fieldLink RX1 110 "FerryRightsModel" "crownCoins" "I", Cond.methodLink RX1 106 yX1_part, Cond.instanceMethod yX1_part, Cond.selects RX1 yX1_part yX1_part, Cond.code yX1_part cX1_part 5 (some .int), Cond.methodLink RL 167 yL_die, Cond.static yL_die, Cond.codeWith yL_die cL_die 4 (some .int) [(0, 9, 12, 24), (0, 9, 15, 15)]]
def wsL_law0_r14 : List Cond := [Cond.methodLink RL 48 yX0_die, Cond.instanceMethod yX0_die, Cond.selects RX0 yX0_die yX0_die, Cond.code yX0_die cX0_die 5 (some .int), Cond.methodLink RX0 129 yX0_countHeirs, Cond.instanceMethod yX0_countHeirs, Cond.selects RX0 yX0_countHeirs yX0_countHeirs, Cond.code yX0_countHeirs cX0_countHeirs 2 (some .int), Cond.methodLink RX0 165 yX0_countHeirsBelow, Cond.instanceMethod yX0_countHeirsBelow, Cond.selects RX0 yX0_countHeirsBelow yX0_countHeirsBelow, Cond.code yX0_countHeirsBelow cX0_countHeirsBelow 5 (some .int), Cond.methodLink RX0 132 yX0_isHeir, Cond.instanceMethod yX0_isHeir, Cond.selects RX0 yX0_isHeir yX0_isHeir, Cond.code yX0_isHeir cX0_isHeir 3 (some .boolean), Cond.methodLink RX0 225 yX0_hasLivingChild, Cond.instanceMethod yX0_hasLivingChild, Cond.selects RX0 yX0_hasLivingChild yX0_hasLivingChild, Cond.code yX0_hasLivingChild cX0_hasLivingChild 3 (some .boolean), Cond.methodLink RX0 136 yX0_hand, Cond.instanceMethod yX0_hand, Cond.selects RX0 yX0_hand yX0_hand, Cond.code yX0_hand cX0_hand 7 none]
def wsL_law0_r15 : List Cond := [Cond.methodLink RX0 168 yX0_partOf, Cond.static yX0_partOf, Cond.code yX0_partOf cX0_partOf 6 (some .int), Cond.methodLink RX0 139 yX0_bury, Cond.instanceMethod yX0_bury, Cond.selects RX0 yX0_bury yX0_bury, Cond.code yX0_bury cX0_bury 4 none, Cond.methodLink RL 169 yX1_die, Cond.instanceMethod yX1_die, Cond.selects RX1 yX1_die yX1_die, Cond.code yX1_die cX1_die 5 (some .int), Cond.fieldLink RX1 113 "FerryRightsModel" "heirs" "I", Cond.methodLink RX1 120 yX1_lookForHeirs, Cond.instanceMethod yX1_lookForHeirs, Cond.selects RX1 yX1_lookForHeirs yX1_lookForHeirs, Cond.code yX1_lookForHeirs cX1_lookForHeirs 3 none, Cond.methodLink RX1 116 yX1_addHeir, Cond.instanceMethod yX1_addHeir, Cond.selects RX1 yX1_addHeir yX1_addHeir, Cond.code yX1_addHeir cX1_addHeir 2 none, Cond.methodLink RX1 123 yX1_partOf, Cond.instanceMethod yX1_partOf, Cond.selects RX1 yX1_partOf yX1_partOf, Cond.code yX1_partOf cX1_partOf 4 (some .int)]
def wsL_law0_r16 : List Cond := [Cond.methodLink RL 170 yX0_ferries, Cond.instanceMethod yX0_ferries, Cond.selects RX0 yX0_ferries yX0_ferries, Cond.code yX0_ferries cX0_ferries 1 (some .int), Cond.methodLink RL 173 yX1_ferries, Cond.instanceMethod yX1_ferries, Cond.selects RX1 yX1_ferries yX1_ferries, Cond.code yX1_ferries cX1_ferries 1 (some .int), Cond.methodLink RL 174 yL_toll, Cond.static yL_toll, Cond.codeWith yL_toll cL_toll 4 (some .int) [(0, 9, 12, 24)], Cond.methodLink RL 51 yX0_toll, Cond.instanceMethod yX0_toll, Cond.selects RX0 yX0_toll yX0_toll, Cond.code yX0_toll cX0_toll 2 (some .int), Cond.methodLink RL 176 yX1_toll, Cond.instanceMethod yX1_toll, Cond.selects RX1 yX1_toll yX1_toll, Cond.code yX1_toll cX1_toll 2 (some .int), Cond.methodLink RL 177 yL_carried, Cond.static yL_carried, Cond.codeWith yL_carried cL_carried 4 (some .int) [(0, 9, 12, 24)], Cond.methodLink RL 54 yX0_carried, Cond.instanceMethod yX0_carried]
def wsL_law0_r17 : List Cond := [Cond.selects RX0 yX0_carried yX0_carried, Cond.code yX0_carried cX0_carried 2 (some .int), Cond.methodLink RL 179 yX1_carried, Cond.instanceMethod yX1_carried, Cond.selects RX1 yX1_carried yX1_carried, Cond.code yX1_carried cX1_carried 2 (some .int), Cond.methodLink RL 180 yL_shares, Cond.static yL_shares, Cond.codeWith yL_shares cL_shares 6 (some .int) [(0, 12, 15, 24)], Cond.methodLink RL 57 yX0_shares, Cond.instanceMethod yX0_shares, Cond.selects RX0 yX0_shares yX0_shares, Cond.code yX0_shares cX0_shares 4 (some .int), Cond.methodLink RL 182 yX1_shares, Cond.instanceMethod yX1_shares, Cond.selects RX1 yX1_shares yX1_shares, Cond.code yX1_shares cX1_shares 4 (some .int), Cond.methodLink RL 183 yL_crownShares, Cond.static yL_crownShares, Cond.codeWith yL_crownShares cL_crownShares 5 (some .int) [(0, 10, 13, 24)], Cond.methodLink RL 60 yX0_crownShares, Cond.instanceMethod yX0_crownShares, Cond.selects RX0 yX0_crownShares yX0_crownShares, Cond.code yX0_crownShares cX0_crownShares 3 (some .int)]
def wsL_law0_r18 : List Cond := [Cond.methodLink RL 185 yX1_crownShares, Cond.instanceMethod yX1_crownShares, Cond.selects RX1 yX1_crownShares yX1_crownShares, Cond.code yX1_crownShares cX1_crownShares 3 (some .int), Cond.methodLink RL 186 yL_owners, Cond.static yL_owners, Cond.codeWith yL_owners cL_owners 5 (some .int) [(0, 10, 13, 24)], Cond.methodLink RL 63 yX0_owners, Cond.instanceMethod yX0_owners, Cond.selects RX0 yX0_owners yX0_owners, Cond.code yX0_owners cX0_owners 5 (some .int), Cond.methodLink RL 188 yX1_owners, Cond.instanceMethod yX1_owners, Cond.selects RX1 yX1_owners yX1_owners, Cond.code yX1_owners cX1_owners 5 (some .int), Cond.methodLink RL 189 yL_holder, Cond.static yL_holder, Cond.codeWith yL_holder cL_holder 5 (some .int) [(0, 10, 13, 24), (0, 10, 17, 15)], Cond.methodLink RL 66 yX0_holder, Cond.instanceMethod yX0_holder, Cond.selects RX0 yX0_holder yX0_holder, Cond.code yX0_holder cX0_holder 7 (some .int), Cond.methodLink RL 191 yX1_holder, Cond.instanceMethod yX1_holder]
def wsL_law0_r19 : List Cond := [Cond.selects RX1 yX1_holder yX1_holder, Cond.code yX1_holder cX1_holder 6 (some .int), Cond.methodLink RL 192 yL_master, Cond.static yL_master, Cond.codeWith yL_master cL_master 4 (some .int) [(0, 9, 12, 24), (0, 9, 15, 15)], Cond.methodLink RL 69 yX0_master, Cond.instanceMethod yX0_master, Cond.selects RX0 yX0_master yX0_master, Cond.code yX0_master cX0_master 3 (some .int), Cond.methodLink RL 194 yX1_master, Cond.instanceMethod yX1_master, Cond.selects RX1 yX1_master yX1_master, Cond.code yX1_master cX1_master 3 (some .int), Cond.methodLink RL 195 yL_hasMaster, Cond.static yL_hasMaster, Cond.codeWith yL_hasMaster cL_hasMaster 4 (some .int) [(0, 16, 19, 24)], Cond.methodLink RL 72 yX0_hasMaster, Cond.instanceMethod yX0_hasMaster, Cond.selects RX0 yX0_hasMaster yX0_hasMaster, Cond.code yX0_hasMaster cX0_hasMaster 2 (some .boolean), Cond.methodLink RL 197 yX1_hasMaster, Cond.instanceMethod yX1_hasMaster, Cond.selects RX1 yX1_hasMaster yX1_hasMaster, Cond.code yX1_hasMaster cX1_hasMaster 2 (some .boolean)]
def wsL_law0_r20 : List Cond := [Cond.methodLink RX1 126 yX1_isNot, Cond.instanceMethod yX1_isNot, Cond.selects RX1 yX1_isNot yX1_isNot, Cond.code yX1_isNot cX1_isNot 2 (some .boolean), Cond.methodLink RL 198 yL_shareValue, Cond.static yL_shareValue, Cond.codeWith yL_shareValue cL_shareValue 5 (some .int) [(0, 10, 13, 24)], Cond.methodLink RL 76 yX0_shareValue, Cond.instanceMethod yX0_shareValue, Cond.selects RX0 yX0_shareValue yX0_shareValue, Cond.code yX0_shareValue cX0_shareValue 3 (some .int), Cond.methodLink RL 200 yX1_shareValue, Cond.instanceMethod yX1_shareValue, Cond.selects RX1 yX1_shareValue yX1_shareValue, Cond.code yX1_shareValue cX1_shareValue 3 (some .int), Cond.methodLink RL 201 yL_watchAt, Cond.static yL_watchAt, Cond.codeWith yL_watchAt cL_watchAt 4 (some .int) [(0, 9, 12, 24)], Cond.methodLink RL 79 yX0_watchAt, Cond.instanceMethod yX0_watchAt, Cond.selects RX0 yX0_watchAt yX0_watchAt, Cond.code yX0_watchAt cX0_watchAt 2 (some .int), Cond.methodLink RL 203 yX1_watchAt, Cond.instanceMethod yX1_watchAt]
def wsL_law0_r21 : List Cond := [Cond.selects RX1 yX1_watchAt yX1_watchAt, Cond.code yX1_watchAt cX1_watchAt 2 (some .int), Cond.methodLink RL 204 yX0_people, Cond.instanceMethod yX0_people, Cond.selects RX0 yX0_people yX0_people, Cond.code yX0_people cX0_people 1 (some .int), Cond.methodLink RL 207 yX1_people, Cond.instanceMethod yX1_people, Cond.selects RX1 yX1_people yX1_people, Cond.code yX1_people cX1_people 1 (some .int), Cond.methodLink RL 208 yX0_living, Cond.instanceMethod yX0_living, Cond.selects RX0 yX0_living yX0_living, Cond.code yX0_living cX0_living 3 (some .int), Cond.methodLink RL 211 yX1_living, Cond.instanceMethod yX1_living, Cond.selects RX1 yX1_living yX1_living, Cond.code yX1_living cX1_living 1 (some .int), Cond.methodLink RX1 129 yX1_alive, Cond.instanceMethod yX1_alive, Cond.selects RX1 yX1_alive yX1_alive, Cond.code yX1_alive cX1_alive 3 (some .int), Cond.methodLink RL 212 yL_isAlive, Cond.static yL_isAlive]
def wsL_law0_r22 : List Cond := [Cond.codeWith yL_isAlive cL_isAlive 4 (some .int) [(0, 16, 19, 24)], Cond.methodLink RL 82 yX0_isAlive, Cond.instanceMethod yX0_isAlive, Cond.selects RX0 yX0_isAlive yX0_isAlive, Cond.code yX0_isAlive cX0_isAlive 2 (some .boolean), Cond.methodLink RL 214 yX1_isAlive, Cond.instanceMethod yX1_isAlive, Cond.selects RX1 yX1_isAlive yX1_isAlive, Cond.code yX1_isAlive cX1_isAlive 2 (some .boolean), Cond.methodLink RL 215 yL_coins, Cond.static yL_coins, Cond.codeWith yL_coins cL_coins 4 (some .int) [(0, 9, 12, 24)], Cond.methodLink RL 85 yX0_coins, Cond.instanceMethod yX0_coins, Cond.selects RX0 yX0_coins yX0_coins, Cond.code yX0_coins cX0_coins 2 (some .int), Cond.methodLink RL 217 yX1_coins, Cond.instanceMethod yX1_coins, Cond.selects RX1 yX1_coins yX1_coins, Cond.code yX1_coins cX1_coins 2 (some .int), Cond.methodLink RL 218 yL_earned, Cond.static yL_earned, Cond.codeWith yL_earned cL_earned 4 (some .int) [(0, 9, 12, 24)], Cond.methodLink RL 88 yX0_earned]
def wsL_law0_r23 : List Cond := [Cond.instanceMethod yX0_earned, Cond.selects RX0 yX0_earned yX0_earned, Cond.code yX0_earned cX0_earned 2 (some .int), Cond.methodLink RL 220 yX1_earned, Cond.instanceMethod yX1_earned, Cond.selects RX1 yX1_earned yX1_earned, Cond.code yX1_earned cX1_earned 2 (some .int), Cond.methodLink RL 221 yL_allShares, Cond.static yL_allShares, Cond.codeWith yL_allShares cL_allShares 4 (some .int) [(0, 9, 12, 24)], Cond.methodLink RL 91 yX0_allShares, Cond.instanceMethod yX0_allShares, Cond.selects RX0 yX0_allShares yX0_allShares, Cond.code yX0_allShares cX0_allShares 2 (some .int), Cond.methodLink RX0 149 yX0_countAllShares, Cond.instanceMethod yX0_countAllShares, Cond.selects RX0 yX0_countAllShares yX0_countAllShares, Cond.code yX0_countAllShares cX0_countAllShares 4 (some .int), Cond.methodLink RL 223 yX1_allShares, Cond.instanceMethod yX1_allShares, Cond.selects RX1 yX1_allShares yX1_allShares, Cond.code yX1_allShares cX1_allShares 2 (some .int), Cond.methodLink RX1 133 yX1_allOf, Cond.instanceMethod yX1_allOf]
def wsL_law0_r24 : List Cond := [Cond.selects RX1 yX1_allOf yX1_allOf, Cond.code yX1_allOf cX1_allOf 4 (some .int), Cond.methodLink RL 224 yL_hasParent, Cond.static yL_hasParent, Cond.codeWith yL_hasParent cL_hasParent 4 (some .int) [(0, 16, 19, 24)], Cond.methodLink RL 94 yX0_hasParent, Cond.instanceMethod yX0_hasParent, Cond.selects RX0 yX0_hasParent yX0_hasParent, Cond.code yX0_hasParent cX0_hasParent 2 (some .boolean), Cond.methodLink RL 226 yX1_hasParent, Cond.instanceMethod yX1_hasParent, Cond.selects RX1 yX1_hasParent yX1_hasParent, Cond.code yX1_hasParent cX1_hasParent 2 (some .boolean), Cond.methodLink RL 227 yL_parent, Cond.static yL_parent, Cond.codeWith yL_parent cL_parent 4 (some .int) [(0, 9, 12, 24), (0, 9, 15, 15)], Cond.methodLink RL 97 yX0_parent, Cond.instanceMethod yX0_parent, Cond.selects RX0 yX0_parent yX0_parent, Cond.code yX0_parent cX0_parent 2 (some .int), Cond.methodLink RL 229 yX1_parent, Cond.instanceMethod yX1_parent, Cond.selects RX1 yX1_parent yX1_parent, Cond.code yX1_parent cX1_parent 2 (some .int)]
def wsL_law0_r25 : List Cond := [Cond.methodLink RL 230 yL_children, Cond.static yL_children, Cond.codeWith yL_children cL_children 4 (some .int) [(0, 9, 12, 24)], Cond.methodLink RL 100 yX0_children, Cond.instanceMethod yX0_children, Cond.selects RX0 yX0_children yX0_children, Cond.code yX0_children cX0_children 2 (some .int), Cond.methodLink RX0 154 yX0_countChildren, Cond.instanceMethod yX0_countChildren, Cond.selects RX0 yX0_countChildren yX0_countChildren, Cond.code yX0_countChildren cX0_countChildren 4 (some .int), Cond.methodLink RL 232 yX1_children, Cond.instanceMethod yX1_children, Cond.selects RX1 yX1_children yX1_children, Cond.code yX1_children cX1_children 2 (some .int), Cond.methodLink RX1 136 yX1_childrenOf, Cond.instanceMethod yX1_childrenOf, Cond.selects RX1 yX1_childrenOf yX1_childrenOf, Cond.code yX1_childrenOf cX1_childrenOf 4 (some .int), Cond.methodLink RL 233 yL_heirs, Cond.static yL_heirs, Cond.codeWith yL_heirs cL_heirs 4 (some .int) [(0, 9, 12, 24)], Cond.methodLink RL 103 yX0_heirs, Cond.instanceMethod yX0_heirs]
def wsL_law0_r26 : List Cond := [Cond.selects RX0 yX0_heirs yX0_heirs, Cond.code yX0_heirs cX0_heirs 2 (some .int), Cond.methodLink RL 235 yX1_heirs, Cond.instanceMethod yX1_heirs, Cond.selects RX1 yX1_heirs yX1_heirs, Cond.code yX1_heirs cX1_heirs 2 (some .int), Cond.methodLink RX1 139 yX1_heirsOf, Cond.instanceMethod yX1_heirsOf, Cond.selects RX1 yX1_heirsOf yX1_heirsOf, Cond.code yX1_heirsOf cX1_heirsOf 2 (some .int), Cond.methodLink RL 236 yL_heir, Cond.static yL_heir, Cond.codeWith yL_heir cL_heir 5 (some .int) [(0, 10, 13, 24)], Cond.methodLink RL 106 yX0_heir, Cond.instanceMethod yX0_heir, Cond.selects RX0 yX0_heir yX0_heir, Cond.code yX0_heir cX0_heir 4 (some .int), Cond.methodLink RX0 157 yX0_findHeir, Cond.instanceMethod yX0_findHeir, Cond.selects RX0 yX0_findHeir yX0_findHeir, Cond.code yX0_findHeir cX0_findHeir 5 (some .int), Cond.methodLink RL 238 yX1_heir, Cond.instanceMethod yX1_heir, Cond.selects RX1 yX1_heir yX1_heir]
def wsL_law0_r27 : List Cond := [Cond.code yX1_heir cX1_heir 3 (some .int), Cond.methodLink RL 239 yX0_crownCoins, Cond.instanceMethod yX0_crownCoins, Cond.selects RX0 yX0_crownCoins yX0_crownCoins, Cond.code yX0_crownCoins cX0_crownCoins 1 (some .int), Cond.methodLink RL 242 yX1_crownCoins, Cond.instanceMethod yX1_crownCoins, Cond.selects RX1 yX1_crownCoins yX1_crownCoins, Cond.code yX1_crownCoins cX1_crownCoins 1 (some .int), Cond.methodLink RL 243 yL_price, Cond.static yL_price, Cond.codeWith yL_price cL_price 6 (some .int) [(0, 12, 15, 24)], Cond.methodLink RL 109 yX0_price, Cond.instanceMethod yX0_price, Cond.selects RX0 yX0_price yX0_price, Cond.code yX0_price cX0_price 4 (some .int), Cond.methodLink RL 245 yX1_price, Cond.instanceMethod yX1_price, Cond.selects RX1 yX1_price yX1_price, Cond.code yX1_price cX1_price 4 (some .int), Cond.methodLink RL 246 yL_canBuy, Cond.static yL_canBuy, Cond.codeWith yL_canBuy cL_canBuy 7 (some .int) [(0, 21, 24, 24)], Cond.methodLink RL 112 yX0_canBuy]
def wsL_law0_r28 : List Cond := [Cond.instanceMethod yX0_canBuy, Cond.selects RX0 yX0_canBuy yX0_canBuy, Cond.code yX0_canBuy cX0_canBuy 5 (some .boolean), Cond.methodLink RL 248 yX1_canBuy, Cond.instanceMethod yX1_canBuy, Cond.selects RX1 yX1_canBuy yX1_canBuy, Cond.code yX1_canBuy cX1_canBuy 5 (some .boolean), Cond.methodLink RL 249 yL_inheritance, Cond.static yL_inheritance, Cond.codeWith yL_inheritance cL_inheritance 7 (some .int) [(0, 14, 17, 24)], Cond.methodLink RL 116 yX0_inheritance, Cond.instanceMethod yX0_inheritance, Cond.selects RX0 yX0_inheritance yX0_inheritance, Cond.code yX0_inheritance cX0_inheritance 5 (some .int), Cond.methodLink RL 251 yX1_inheritance, Cond.instanceMethod yX1_inheritance, Cond.selects RX1 yX1_inheritance yX1_inheritance, Cond.code yX1_inheritance cX1_inheritance 6 (some .int), Cond.methodLink RL 252 yL_fare, Cond.static yL_fare, Cond.codeWith yL_fare cL_fare 7 (some .int) [(0, 14, 17, 24), (0, 14, 21, 13)], Cond.methodLink RL 119 yX0_fare, Cond.instanceMethod yX0_fare, Cond.selects RX0 yX0_fare yX0_fare]
def wsL_law0_r29 : List Cond := [Cond.code yX0_fare cX0_fare 5 (some .int), Cond.methodLink RL 254 yX1_fare, Cond.instanceMethod yX1_fare, Cond.selects RX1 yX1_fare yX1_fare, Cond.code yX1_fare cX1_fare 5 (some .int), Cond.methodLink RL 255 yL_richest, Cond.static yL_richest, Cond.codeWith yL_richest cL_richest 3 (some .int) [(0, 8, 11, 15)], Cond.methodLink RL 122 yX0_richest, Cond.instanceMethod yX0_richest, Cond.selects RX0 yX0_richest yX0_richest, Cond.code yX0_richest cX0_richest 4 (some .int), Cond.methodLink RL 257 yX1_richest, Cond.instanceMethod yX1_richest, Cond.selects RX1 yX1_richest yX1_richest, Cond.code yX1_richest cX1_richest 3 (some .int), Cond.methodLink RL 258 yX0_meanCoins, Cond.instanceMethod yX0_meanCoins, Cond.selects RX0 yX0_meanCoins yX0_meanCoins, Cond.code yX0_meanCoins cX0_meanCoins 4 (some .double), Cond.methodLink RL 262 yX1_meanCoins, Cond.instanceMethod yX1_meanCoins, Cond.selects RX1 yX1_meanCoins yX1_meanCoins, Cond.code yX1_meanCoins cX1_meanCoins 3 (some .double)]
def wsL_law0_r30 : List Cond := [Cond.methodLink RL 263 yX0_digest, Cond.instanceMethod yX0_digest, Cond.selects RX0 yX0_digest yX0_digest, Cond.code yX0_digest cX0_digest 4 (some .long), Cond.constantLong RX0 173 (1861), Cond.methodLink RX0 175 yX0_mix, Cond.static yX0_mix, Cond.code yX0_mix cX0_mix 4 (some .long), Cond.constantLong RX0 229 (31), Cond.methodLink RX0 179 yX0_living, Cond.methodLink RX0 183 yX0_mixFerry, Cond.instanceMethod yX0_mixFerry, Cond.selects RX0 yX0_mixFerry yX0_mixFerry, Cond.code yX0_mixFerry cX0_mixFerry 8 (some .long), Cond.methodLink RX0 187 yX0_mixPerson, Cond.instanceMethod yX0_mixPerson, Cond.selects RX0 yX0_mixPerson yX0_mixPerson, Cond.code yX0_mixPerson cX0_mixPerson 6 (some .long), Cond.methodLink RL 267 yX1_digest, Cond.instanceMethod yX1_digest, Cond.selects RX1 yX1_digest yX1_digest, Cond.code yX1_digest cX1_digest 6 (some .long), Cond.constantLong RX1 142 (1861), Cond.constantLong RX1 144 (31)]
def wsL_law0 : List Cond := (wsL_law0_r1 ++ (wsL_law0_r2 ++ (wsL_law0_r3 ++ (wsL_law0_r4 ++ (wsL_law0_r5 ++ (wsL_law0_r6 ++ (wsL_law0_r7 ++ (wsL_law0_r8 ++ (wsL_law0_r9 ++ (wsL_law0_r10 ++ (wsL_law0_r11 ++ (wsL_law0_r12 ++ (wsL_law0_r13 ++ (wsL_law0_r14 ++ (wsL_law0_r15 ++ (wsL_law0_r16 ++ (wsL_law0_r17 ++ (wsL_law0_r18 ++ (wsL_law0_r19 ++ (wsL_law0_r20 ++ (wsL_law0_r21 ++ (wsL_law0_r22 ++ (wsL_law0_r23 ++ (wsL_law0_r24 ++ (wsL_law0_r25 ++ (wsL_law0_r26 ++ (wsL_law0_r27 ++ (wsL_law0_r28 ++ (wsL_law0_r29 ++ wsL_law0_r30))))))))))))))))))))))))))))) ++ wsX00 ++ wsX10 ++ ([] : List Cond)
def wsL_law : List Cond := wsL_law0 ++ (vx_atS RX0 50 "java/lang/IllegalStateException" ["java/lang/RuntimeException", "java/lang/Exception"]).filter goodWord ++ (vx_atS RX0 70 "java/lang/IllegalArgumentException" ["java/lang/RuntimeException", "java/lang/Exception"]).filter goodWord ++ (vx_atS RX0 164 "java/lang/IndexOutOfBoundsException" ["java/lang/RuntimeException", "java/lang/Exception"]).filter goodWord
set_option maxRecDepth 20000 in
theorem wsL_law_in0 : ∀ w ∈ wsL_law0, w ∈ lw_tbl := fun w h => (goodIn_p wsL_law0 [65, 68, 633, 183, 186, 682, 685, 689, 678, 277, 281, 286, 693, 697, 294, 298, 318, 701, 705, 326, 331, 334, 709, 713, 341, 345, 349, 353, 358, 139, 142, 363, 718, 722, 726, 730, 733, 370, 737, 379, 383, 387, 391, 395, 401, 741, 745, 749, 753, 759, 409, 413, 154, 763, 767, 771, 421, 424, 428, 433, 775, 779, 440, 162, 166, 170, 174, 444, 447, 451, 783, 787, 791, 795, 105, 799, 458, 803, 465, 807, 472, 811, 479, 815, 486, 819, 493, 823, 501, 827, 509, 831, 835, 516, 839, 523, 843, 109, 847, 113, 851, 855, 530, 859, 537, 863, 544, 867, 551, 150, 871, 875, 558, 879, 565, 883, 573, 158, 887, 891, 580, 895, 899, 587, 591, 903, 117, 907, 599, 911, 606, 915, 613, 919, 620, 923, 627, 927, 121, 931, 125, 129, 135, 146, 935] (by decide +kernel) (by decide +kernel) w h).1
theorem wsL_law_x0 : ∀ w ∈ (vx_atS RX0 50 "java/lang/IllegalStateException" ["java/lang/RuntimeException", "java/lang/Exception"]).filter goodWord, w ∈ lw_tbl := by decide +kernel
theorem wsL_law_x1 : ∀ w ∈ (vx_atS RX0 70 "java/lang/IllegalArgumentException" ["java/lang/RuntimeException", "java/lang/Exception"]).filter goodWord, w ∈ lw_tbl := by decide +kernel
theorem wsL_law_x2 : ∀ w ∈ (vx_atS RX0 164 "java/lang/IndexOutOfBoundsException" ["java/lang/RuntimeException", "java/lang/Exception"]).filter goodWord, w ∈ lw_tbl := by decide +kernel
theorem wsL_law_in : ∀ w ∈ wsL_law, w ∈ lw_tbl := fun w h => (List.mem_append.mp h).elim (fun h => (List.mem_append.mp h).elim (fun h => (List.mem_append.mp h).elim (fun h => wsL_law_in0 w h) (fun h => wsL_law_x0 w h)) (fun h => wsL_law_x1 w h)) (fun h => wsL_law_x2 w h)
theorem inlX0 : ∀ w ∈ wsX00, w ∈ wsL_law := fun _ h => List.mem_append_left _ (List.mem_append_left _ (List.mem_append_left _ (List.mem_append_left _ (List.mem_append_left _ (List.mem_append_right _ h)))))
theorem inX0 : ∀ w ∈ wsX00, w ∈ lw_tbl := fun w h => wsL_law_in w (inlX0 w h)
theorem inlX1 : ∀ w ∈ wsX10, w ∈ wsL_law := fun _ h => List.mem_append_left _ (List.mem_append_left _ (List.mem_append_left _ (List.mem_append_left _ (List.mem_append_right _ h))))
theorem inX1 : ∀ w ∈ wsX10, w ∈ lw_tbl := fun w h => wsL_law_in w (inlX1 w h)
theorem inJ9 : ∀ w ∈ wsJ90, w ∈ lw_tbl := by decide +kernel
theorem inJ0 : ∀ w ∈ wsJ00, w ∈ lw_tbl := by decide +kernel
theorem dX0_init_0 : decode cX0_init 0 = .ok (.aload_n 0, 1) := by decide +kernel
theorem dX0_init_1 : decode cX0_init 1 = .ok (.invokespecial 3, 3) := by decide +kernel
theorem dX0_init_4 : decode cX0_init 4 = .ok (.aload_n 0, 1) := by decide +kernel
theorem dX0_init_5 : decode cX0_init 5 = .ok (.iconst 0, 1) := by decide +kernel
theorem dX0_init_6 : decode cX0_init 6 = .ok (.putfield 9, 3) := by decide +kernel
theorem dX0_init_9 : decode cX0_init 9 = .ok (.aload_n 0, 1) := by decide +kernel
theorem dX0_init_10 : decode cX0_init 10 = .ok (.bipush 6, 2) := by decide +kernel
theorem dX0_init_12 : decode cX0_init 12 = .ok (.newarray .int, 2) := by decide +kernel
theorem dX0_init_14 : decode cX0_init 14 = .ok (.putfield 13, 3) := by decide +kernel
theorem dX0_init_17 : decode cX0_init 17 = .ok (.aload_n 0, 1) := by decide +kernel
theorem dX0_init_18 : decode cX0_init 18 = .ok (.bipush 6, 2) := by decide +kernel
theorem dX0_init_20 : decode cX0_init 20 = .ok (.newarray .int, 2) := by decide +kernel
theorem dX0_init_22 : decode cX0_init 22 = .ok (.putfield 17, 3) := by decide +kernel
theorem dX0_init_25 : decode cX0_init 25 = .ok (.aload_n 0, 1) := by decide +kernel
theorem dX0_init_26 : decode cX0_init 26 = .ok (.sipush 288, 3) := by decide +kernel
theorem dX0_init_29 : decode cX0_init 29 = .ok (.newarray .int, 2) := by decide +kernel
theorem dX0_init_31 : decode cX0_init 31 = .ok (.putfield 20, 3) := by decide +kernel
theorem dX0_init_34 : decode cX0_init 34 = .ok (.aload_n 0, 1) := by decide +kernel
theorem dX0_init_35 : decode cX0_init 35 = .ok (.iconst 0, 1) := by decide +kernel
theorem dX0_init_36 : decode cX0_init 36 = .ok (.putfield 23, 3) := by decide +kernel
theorem dX0_init_39 : decode cX0_init 39 = .ok (.aload_n 0, 1) := by decide +kernel
theorem dX0_init_40 : decode cX0_init 40 = .ok (.bipush 12, 2) := by decide +kernel
theorem dX0_init_42 : decode cX0_init 42 = .ok (.newarray .boolean, 2) := by decide +kernel
theorem dX0_init_44 : decode cX0_init 44 = .ok (.putfield 26, 3) := by decide +kernel
theorem dX0_init_47 : decode cX0_init 47 = .ok (.aload_n 0, 1) := by decide +kernel
theorem dX0_init_48 : decode cX0_init 48 = .ok (.bipush 12, 2) := by decide +kernel
theorem dX0_init_50 : decode cX0_init 50 = .ok (.newarray .int, 2) := by decide +kernel
theorem dX0_init_52 : decode cX0_init 52 = .ok (.putfield 30, 3) := by decide +kernel
theorem dX0_init_55 : decode cX0_init 55 = .ok (.aload_n 0, 1) := by decide +kernel
theorem dX0_init_56 : decode cX0_init 56 = .ok (.bipush 12, 2) := by decide +kernel
theorem dX0_init_58 : decode cX0_init 58 = .ok (.newarray .int, 2) := by decide +kernel
theorem dX0_init_60 : decode cX0_init 60 = .ok (.putfield 33, 3) := by decide +kernel
theorem dX0_init_63 : decode cX0_init 63 = .ok (.aload_n 0, 1) := by decide +kernel
theorem dX0_init_64 : decode cX0_init 64 = .ok (.bipush 12, 2) := by decide +kernel
theorem dX0_init_66 : decode cX0_init 66 = .ok (.newarray .int, 2) := by decide +kernel
theorem dX0_init_68 : decode cX0_init 68 = .ok (.putfield 36, 3) := by decide +kernel
theorem dX0_init_71 : decode cX0_init 71 = .ok (.aload_n 0, 1) := by decide +kernel
theorem dX0_init_72 : decode cX0_init 72 = .ok (.iconst 0, 1) := by decide +kernel
theorem dX0_init_73 : decode cX0_init 73 = .ok (.putfield 39, 3) := by decide +kernel
theorem dX0_init_76 : decode cX0_init 76 = .ok (.return_, 1) := by decide +kernel
set_option maxRecDepth 20000 in
theorem ggX0_addFerry_X0_needToll : GoodIn wsX0_addFerry wsX0_needToll := goodIn_ca (goodIn_r _ [8, 9, 10] (by decide +kernel) (by decide +kernel)) (goodIn_sub (fun _ h => List.mem_cons_of_mem _ (List.mem_append_right _ h)) (by decide +kernel))
set_option maxRecDepth 20000 in
theorem gX0_addFerry_X0_needToll : GoodIn wsX0_addFerry (va_wsS RX0 42 yX0_needToll wsX0_needToll) := goodIn_app (goodIn_of _ (by decide +kernel)) ggX0_addFerry_X0_needToll
theorem dX0_addFerry_0 : decode cX0_addFerry 0 = .ok (.iload_n 1, 1) := by decide +kernel
theorem dX0_addFerry_1 : decode cX0_addFerry 1 = .ok (.invokestatic 42, 3) := by decide +kernel
theorem dX0_addFerry_4 : decode cX0_addFerry 4 = .ok (.aload_n 0, 1) := by decide +kernel
theorem dX0_addFerry_5 : decode cX0_addFerry 5 = .ok (.getfield 9, 3) := by decide +kernel
theorem dX0_addFerry_8 : decode cX0_addFerry 8 = .ok (.bipush 6, 2) := by decide +kernel
theorem dX0_addFerry_10 : decode cX0_addFerry 10 = .ok (.if_icmp .lt 13, 3) := by decide +kernel
theorem dX0_addFerry_13 : decode cX0_addFerry 13 = .ok (.new 46, 3) := by decide +kernel
theorem dX0_addFerry_16 : decode cX0_addFerry 16 = .ok (.dup, 1) := by decide +kernel
theorem dX0_addFerry_17 : decode cX0_addFerry 17 = .ok (.ldc 48, 2) := by decide +kernel
theorem dX0_addFerry_19 : decode cX0_addFerry 19 = .ok (.invokespecial 50, 3) := by decide +kernel
theorem dX0_addFerry_22 : decode cX0_addFerry 22 = .ok (.athrow, 1) := by decide +kernel
theorem dX0_addFerry_23 : decode cX0_addFerry 23 = .ok (.aload_n 0, 1) := by decide +kernel
theorem dX0_addFerry_24 : decode cX0_addFerry 24 = .ok (.getfield 9, 3) := by decide +kernel
theorem dX0_addFerry_27 : decode cX0_addFerry 27 = .ok (.istore_n 2, 1) := by decide +kernel
theorem dX0_addFerry_28 : decode cX0_addFerry 28 = .ok (.aload_n 0, 1) := by decide +kernel
theorem dX0_addFerry_29 : decode cX0_addFerry 29 = .ok (.getfield 13, 3) := by decide +kernel
theorem dX0_addFerry_32 : decode cX0_addFerry 32 = .ok (.iload_n 2, 1) := by decide +kernel
theorem dX0_addFerry_33 : decode cX0_addFerry 33 = .ok (.iload_n 1, 1) := by decide +kernel
theorem dX0_addFerry_34 : decode cX0_addFerry 34 = .ok (.iastore, 1) := by decide +kernel
theorem dX0_addFerry_35 : decode cX0_addFerry 35 = .ok (.aload_n 0, 1) := by decide +kernel
theorem dX0_addFerry_36 : decode cX0_addFerry 36 = .ok (.iload_n 2, 1) := by decide +kernel
theorem dX0_addFerry_37 : decode cX0_addFerry 37 = .ok (.iconst 1, 1) := by decide +kernel
theorem dX0_addFerry_38 : decode cX0_addFerry 38 = .ok (.iadd, 1) := by decide +kernel
theorem dX0_addFerry_39 : decode cX0_addFerry 39 = .ok (.putfield 9, 3) := by decide +kernel
theorem dX0_addFerry_42 : decode cX0_addFerry 42 = .ok (.iload_n 2, 1) := by decide +kernel
theorem dX0_addFerry_43 : decode cX0_addFerry 43 = .ok (.ireturn, 1) := by decide +kernel
set_option maxRecDepth 20000 in
theorem ggX0_addPerson_X0_needRoomForPerson : GoodIn wsX0_addPerson wsX0_needRoomForPerson := goodIn_ca (goodIn_r _ [5, 6, 7, 8, 15, 16, 17, 18, 19, 20, 21, 22, 23, 24] (by decide +kernel) (by decide +kernel)) (goodIn_sub (fun _ h => List.mem_cons_of_mem _ (List.mem_append_right _ h)) (by decide +kernel))
set_option maxRecDepth 20000 in
theorem gX0_addPerson_X0_needRoomForPerson : GoodIn wsX0_addPerson (wsV RX0 53 RX0 yX0_needRoomForPerson wsX0_needRoomForPerson) := goodIn_app (goodIn_of _ (by decide +kernel)) ggX0_addPerson_X0_needRoomForPerson
set_option maxRecDepth 20000 in
theorem ggX0_addPerson_X0_settle : GoodIn wsX0_addPerson wsX0_settle := goodIn_r _ [12, 8, 13, 14, 15, 16, 17, 18, 19, 20, 21, 22, 23, 24] (by decide +kernel) (by decide +kernel)
set_option maxRecDepth 20000 in
theorem gX0_addPerson_X0_settle : GoodIn wsX0_addPerson (wsV RX0 56 RX0 yX0_settle wsX0_settle) := goodIn_app (goodIn_of _ (by decide +kernel)) ggX0_addPerson_X0_settle
theorem dX0_addPerson_0 : decode cX0_addPerson 0 = .ok (.aload_n 0, 1) := by decide +kernel
theorem dX0_addPerson_1 : decode cX0_addPerson 1 = .ok (.invokevirtual 53, 3) := by decide +kernel
theorem dX0_addPerson_4 : decode cX0_addPerson 4 = .ok (.aload_n 0, 1) := by decide +kernel
theorem dX0_addPerson_5 : decode cX0_addPerson 5 = .ok (.iconst (-1), 1) := by decide +kernel
theorem dX0_addPerson_6 : decode cX0_addPerson 6 = .ok (.invokevirtual 56, 3) := by decide +kernel
theorem dX0_addPerson_9 : decode cX0_addPerson 9 = .ok (.ireturn, 1) := by decide +kernel
set_option maxRecDepth 20000 in
theorem ggX0_addChild_X0_needPerson : GoodIn wsX0_addChild wsX0_needPerson := goodIn_ca (goodIn_r _ [5, 6, 7, 8, 25, 26, 27, 28, 29, 30, 31, 32, 33, 34] (by decide +kernel) (by decide +kernel)) (goodIn_sub (fun _ h => List.mem_cons_of_mem _ (List.mem_append_left _ (List.mem_append_right _ h))) (by decide +kernel))
set_option maxRecDepth 20000 in
theorem gX0_addChild_X0_needPerson : GoodIn wsX0_addChild (wsV RX0 60 RX0 yX0_needPerson wsX0_needPerson) := goodIn_app (goodIn_of _ (by decide +kernel)) ggX0_addChild_X0_needPerson
set_option maxRecDepth 20000 in
theorem ggX0_addChild_X0_needAlive : GoodIn wsX0_addChild wsX0_needAlive := goodIn_ca (goodIn_r _ [12, 13, 14, 15, 25, 26, 27, 28, 29, 30, 31, 32, 33, 34] (by decide +kernel) (by decide +kernel)) (goodIn_sub (fun _ h => List.mem_cons_of_mem _ (List.mem_append_right _ h)) (by decide +kernel))
set_option maxRecDepth 20000 in
theorem gX0_addChild_X0_needAlive : GoodIn wsX0_addChild (wsV RX0 63 RX0 yX0_needAlive wsX0_needAlive) := goodIn_app (goodIn_of _ (by decide +kernel)) ggX0_addChild_X0_needAlive
set_option maxRecDepth 20000 in
theorem ggX0_addChild_X0_needRoomForPerson : GoodIn wsX0_addChild wsX0_needRoomForPerson := goodIn_ca (goodIn_r _ [19, 13, 14, 8, 25, 26, 27, 28, 29, 30, 31, 32, 33, 34] (by decide +kernel) (by decide +kernel)) (goodIn_sub (fun _ h => List.mem_cons_of_mem _ (List.mem_append_right _ h)) (by decide +kernel))
set_option maxRecDepth 20000 in
theorem gX0_addChild_X0_needRoomForPerson : GoodIn wsX0_addChild (wsV RX0 53 RX0 yX0_needRoomForPerson wsX0_needRoomForPerson) := goodIn_app (goodIn_of _ (by decide +kernel)) ggX0_addChild_X0_needRoomForPerson
set_option maxRecDepth 20000 in
theorem ggX0_addChild_X0_settle : GoodIn wsX0_addChild wsX0_settle := goodIn_r _ [23, 8, 15, 24, 25, 26, 27, 28, 29, 30, 31, 32, 33, 34] (by decide +kernel) (by decide +kernel)
set_option maxRecDepth 20000 in
theorem gX0_addChild_X0_settle : GoodIn wsX0_addChild (wsV RX0 56 RX0 yX0_settle wsX0_settle) := goodIn_app (goodIn_of _ (by decide +kernel)) ggX0_addChild_X0_settle
theorem dX0_addChild_0 : decode cX0_addChild 0 = .ok (.aload_n 0, 1) := by decide +kernel
theorem dX0_addChild_1 : decode cX0_addChild 1 = .ok (.iload_n 1, 1) := by decide +kernel
theorem dX0_addChild_2 : decode cX0_addChild 2 = .ok (.invokevirtual 60, 3) := by decide +kernel
theorem dX0_addChild_5 : decode cX0_addChild 5 = .ok (.aload_n 0, 1) := by decide +kernel
theorem dX0_addChild_6 : decode cX0_addChild 6 = .ok (.iload_n 1, 1) := by decide +kernel
theorem dX0_addChild_7 : decode cX0_addChild 7 = .ok (.invokevirtual 63, 3) := by decide +kernel
theorem dX0_addChild_10 : decode cX0_addChild 10 = .ok (.aload_n 0, 1) := by decide +kernel
theorem dX0_addChild_11 : decode cX0_addChild 11 = .ok (.invokevirtual 53, 3) := by decide +kernel
theorem dX0_addChild_14 : decode cX0_addChild 14 = .ok (.aload_n 0, 1) := by decide +kernel
theorem dX0_addChild_15 : decode cX0_addChild 15 = .ok (.iload_n 1, 1) := by decide +kernel
theorem dX0_addChild_16 : decode cX0_addChild 16 = .ok (.invokevirtual 56, 3) := by decide +kernel
theorem dX0_addChild_19 : decode cX0_addChild 19 = .ok (.ireturn, 1) := by decide +kernel
set_option maxRecDepth 20000 in
theorem ggX0_pay_X0_needPerson : GoodIn wsX0_pay wsX0_needPerson := goodIn_ca (goodIn_r _ [8, 9, 10, 11, 27, 28, 29, 30, 31, 32, 33, 34, 35, 36] (by decide +kernel) (by decide +kernel)) (goodIn_sub (fun _ h => List.mem_cons_of_mem _ (List.mem_append_left _ (List.mem_append_right _ h))) (by decide +kernel))
set_option maxRecDepth 20000 in
theorem gX0_pay_X0_needPerson : GoodIn wsX0_pay (wsV RX0 60 RX0 yX0_needPerson wsX0_needPerson) := goodIn_app (goodIn_of _ (by decide +kernel)) ggX0_pay_X0_needPerson
set_option maxRecDepth 20000 in
theorem ggX0_pay_X0_needAlive : GoodIn wsX0_pay wsX0_needAlive := goodIn_ca (goodIn_r _ [15, 16, 17, 18, 27, 28, 29, 30, 31, 32, 33, 34, 35, 36] (by decide +kernel) (by decide +kernel)) (goodIn_sub (fun _ h => List.mem_cons_of_mem _ (List.mem_append_right _ h)) (by decide +kernel))
set_option maxRecDepth 20000 in
theorem gX0_pay_X0_needAlive : GoodIn wsX0_pay (wsV RX0 63 RX0 yX0_needAlive wsX0_needAlive) := goodIn_app (goodIn_of _ (by decide +kernel)) ggX0_pay_X0_needAlive
set_option maxRecDepth 20000 in
theorem ggX0_pay_X0_addCoins : GoodIn wsX0_pay wsX0_addCoins := goodIn_r _ [22, 3, 23, 24, 25, 26, 27, 28, 29, 30, 31, 32, 33, 34, 35, 36] (by decide +kernel) (by decide +kernel)
set_option maxRecDepth 20000 in
theorem gX0_pay_X0_addCoins : GoodIn wsX0_pay (wsV RX0 71 RX0 yX0_addCoins wsX0_addCoins) := goodIn_app (goodIn_of _ (by decide +kernel)) ggX0_pay_X0_addCoins
theorem dX0_pay_0 : decode cX0_pay 0 = .ok (.aload_n 0, 1) := by decide +kernel
theorem dX0_pay_1 : decode cX0_pay 1 = .ok (.iload_n 1, 1) := by decide +kernel
theorem dX0_pay_2 : decode cX0_pay 2 = .ok (.invokevirtual 60, 3) := by decide +kernel
theorem dX0_pay_5 : decode cX0_pay 5 = .ok (.iload_n 2, 1) := by decide +kernel
theorem dX0_pay_6 : decode cX0_pay 6 = .ok (.iconst 1, 1) := by decide +kernel
theorem dX0_pay_7 : decode cX0_pay 7 = .ok (.if_icmp .lt 10, 3) := by decide +kernel
theorem dX0_pay_10 : decode cX0_pay 10 = .ok (.iload_n 2, 1) := by decide +kernel
theorem dX0_pay_11 : decode cX0_pay 11 = .ok (.sipush 9999, 3) := by decide +kernel
theorem dX0_pay_14 : decode cX0_pay 14 = .ok (.if_icmp .le 13, 3) := by decide +kernel
theorem dX0_pay_17 : decode cX0_pay 17 = .ok (.new 66, 3) := by decide +kernel
theorem dX0_pay_20 : decode cX0_pay 20 = .ok (.dup, 1) := by decide +kernel
theorem dX0_pay_21 : decode cX0_pay 21 = .ok (.ldc 68, 2) := by decide +kernel
theorem dX0_pay_23 : decode cX0_pay 23 = .ok (.invokespecial 70, 3) := by decide +kernel
theorem dX0_pay_26 : decode cX0_pay 26 = .ok (.athrow, 1) := by decide +kernel
theorem dX0_pay_27 : decode cX0_pay 27 = .ok (.aload_n 0, 1) := by decide +kernel
theorem dX0_pay_28 : decode cX0_pay 28 = .ok (.iload_n 1, 1) := by decide +kernel
theorem dX0_pay_29 : decode cX0_pay 29 = .ok (.invokevirtual 63, 3) := by decide +kernel
theorem dX0_pay_32 : decode cX0_pay 32 = .ok (.aload_n 0, 1) := by decide +kernel
theorem dX0_pay_33 : decode cX0_pay 33 = .ok (.iload_n 1, 1) := by decide +kernel
theorem dX0_pay_34 : decode cX0_pay 34 = .ok (.iload_n 2, 1) := by decide +kernel
theorem dX0_pay_35 : decode cX0_pay 35 = .ok (.invokevirtual 71, 3) := by decide +kernel
theorem dX0_pay_38 : decode cX0_pay 38 = .ok (.aload_n 0, 1) := by decide +kernel
theorem dX0_pay_39 : decode cX0_pay 39 = .ok (.getfield 30, 3) := by decide +kernel
theorem dX0_pay_42 : decode cX0_pay 42 = .ok (.iload_n 1, 1) := by decide +kernel
theorem dX0_pay_43 : decode cX0_pay 43 = .ok (.iaload, 1) := by decide +kernel
theorem dX0_pay_44 : decode cX0_pay 44 = .ok (.ireturn, 1) := by decide +kernel
set_option maxRecDepth 20000 in
theorem ggX0_grant_X0_needFerry : GoodIn wsX0_grant wsX0_needFerry := goodIn_ca (goodIn_r _ [7, 8, 9, 10, 45, 46, 47, 48, 49, 50, 51, 52, 53, 54] (by decide +kernel) (by decide +kernel)) (goodIn_sub (fun _ h => List.mem_cons_of_mem _ (List.mem_append_left _ (List.mem_append_right _ h))) (by decide +kernel))
set_option maxRecDepth 20000 in
theorem gX0_grant_X0_needFerry : GoodIn wsX0_grant (wsV RX0 75 RX0 yX0_needFerry wsX0_needFerry) := goodIn_app (goodIn_of _ (by decide +kernel)) ggX0_grant_X0_needFerry
set_option maxRecDepth 20000 in
theorem ggX0_grant_X0_needWatch : GoodIn wsX0_grant wsX0_needWatch := goodIn_ca (goodIn_r _ [13, 8, 9] (by decide +kernel) (by decide +kernel)) (goodIn_sub (fun _ h => List.mem_cons_of_mem _ (List.mem_append_left _ (List.mem_append_right _ h))) (by decide +kernel))
set_option maxRecDepth 20000 in
theorem gX0_grant_X0_needWatch : GoodIn wsX0_grant (va_wsS RX0 78 yX0_needWatch wsX0_needWatch) := goodIn_app (goodIn_of _ (by decide +kernel)) ggX0_grant_X0_needWatch
set_option maxRecDepth 20000 in
theorem ggX0_grant_X0_needPerson : GoodIn wsX0_grant wsX0_needPerson := goodIn_ca (goodIn_r _ [17, 8, 9, 18, 45, 46, 47, 48, 49, 50, 51, 52, 53, 54] (by decide +kernel) (by decide +kernel)) (goodIn_sub (fun _ h => List.mem_cons_of_mem _ (List.mem_append_left _ (List.mem_append_right _ h))) (by decide +kernel))
set_option maxRecDepth 20000 in
theorem gX0_grant_X0_needPerson : GoodIn wsX0_grant (wsV RX0 60 RX0 yX0_needPerson wsX0_needPerson) := goodIn_app (goodIn_of _ (by decide +kernel)) ggX0_grant_X0_needPerson
set_option maxRecDepth 20000 in
theorem ggX0_grant_X0_needShares : GoodIn wsX0_grant wsX0_needShares := goodIn_ca (goodIn_r _ [21, 22, 23] (by decide +kernel) (by decide +kernel)) (goodIn_sub (fun _ h => List.mem_cons_of_mem _ (List.mem_append_right _ h)) (by decide +kernel))
set_option maxRecDepth 20000 in
theorem gX0_grant_X0_needShares : GoodIn wsX0_grant (va_wsS RX0 81 yX0_needShares wsX0_needShares) := goodIn_app (goodIn_of _ (by decide +kernel)) ggX0_grant_X0_needShares
set_option maxRecDepth 20000 in
theorem ggX0_grant_X0_needAlive : GoodIn wsX0_grant wsX0_needAlive := goodIn_ca (goodIn_r _ [27, 1, 2, 28, 45, 46, 47, 48, 49, 50, 51, 52, 53, 54] (by decide +kernel) (by decide +kernel)) (goodIn_sub (fun _ h => List.mem_cons_of_mem _ (List.mem_append_left _ (List.mem_append_left _ (List.mem_append_right _ h)))) (by decide +kernel))
set_option maxRecDepth 20000 in
theorem gX0_grant_X0_needAlive : GoodIn wsX0_grant (wsV RX0 63 RX0 yX0_needAlive wsX0_needAlive) := goodIn_app (goodIn_of _ (by decide +kernel)) ggX0_grant_X0_needAlive
set_option maxRecDepth 20000 in
theorem ggX0_grant_X0_crownOwns : GoodIn wsX0_grant wsX0_crownOwns := goodIn_r _ [32, 18, 33, 34, 35, 6, 36, 37, 38, 39, 40, 45, 46, 47, 48, 49, 50, 51, 52, 53, 54] (by decide +kernel) (by decide +kernel)
set_option maxRecDepth 20000 in
theorem gX0_grant_X0_crownOwns : GoodIn wsX0_grant (wsV RX0 84 RX0 yX0_crownOwns wsX0_crownOwns) := goodIn_app (goodIn_of _ (by decide +kernel)) ggX0_grant_X0_crownOwns
set_option maxRecDepth 20000 in
theorem ggX0_grant_X0_addShares : GoodIn wsX0_grant wsX0_addShares := goodIn_r _ [44, 37, 38, 39, 6, 40, 45, 46, 47, 48, 49, 50, 51, 52, 53, 54] (by decide +kernel) (by decide +kernel)
set_option maxRecDepth 20000 in
theorem gX0_grant_X0_addShares : GoodIn wsX0_grant (wsV RX0 90 RX0 yX0_addShares wsX0_addShares) := goodIn_app (goodIn_of _ (by decide +kernel)) ggX0_grant_X0_addShares
theorem dX0_grant_0 : decode cX0_grant 0 = .ok (.aload_n 0, 1) := by decide +kernel
theorem dX0_grant_1 : decode cX0_grant 1 = .ok (.iload_n 1, 1) := by decide +kernel
theorem dX0_grant_2 : decode cX0_grant 2 = .ok (.invokevirtual 75, 3) := by decide +kernel
theorem dX0_grant_5 : decode cX0_grant 5 = .ok (.iload_n 2, 1) := by decide +kernel
theorem dX0_grant_6 : decode cX0_grant 6 = .ok (.invokestatic 78, 3) := by decide +kernel
theorem dX0_grant_9 : decode cX0_grant 9 = .ok (.aload_n 0, 1) := by decide +kernel
theorem dX0_grant_10 : decode cX0_grant 10 = .ok (.iload_n 3, 1) := by decide +kernel
theorem dX0_grant_11 : decode cX0_grant 11 = .ok (.invokevirtual 60, 3) := by decide +kernel
theorem dX0_grant_14 : decode cX0_grant 14 = .ok (.iload 4, 2) := by decide +kernel
theorem dX0_grant_16 : decode cX0_grant 16 = .ok (.invokestatic 81, 3) := by decide +kernel
theorem dX0_grant_19 : decode cX0_grant 19 = .ok (.aload_n 0, 1) := by decide +kernel
theorem dX0_grant_20 : decode cX0_grant 20 = .ok (.iload_n 3, 1) := by decide +kernel
theorem dX0_grant_21 : decode cX0_grant 21 = .ok (.invokevirtual 63, 3) := by decide +kernel
theorem dX0_grant_24 : decode cX0_grant 24 = .ok (.aload_n 0, 1) := by decide +kernel
theorem dX0_grant_25 : decode cX0_grant 25 = .ok (.iload_n 1, 1) := by decide +kernel
theorem dX0_grant_26 : decode cX0_grant 26 = .ok (.iload_n 2, 1) := by decide +kernel
theorem dX0_grant_27 : decode cX0_grant 27 = .ok (.invokevirtual 84, 3) := by decide +kernel
theorem dX0_grant_30 : decode cX0_grant 30 = .ok (.iload 4, 2) := by decide +kernel
theorem dX0_grant_32 : decode cX0_grant 32 = .ok (.if_icmp .ge 13, 3) := by decide +kernel
theorem dX0_grant_35 : decode cX0_grant 35 = .ok (.new 46, 3) := by decide +kernel
theorem dX0_grant_38 : decode cX0_grant 38 = .ok (.dup, 1) := by decide +kernel
theorem dX0_grant_39 : decode cX0_grant 39 = .ok (.ldc 88, 2) := by decide +kernel
theorem dX0_grant_41 : decode cX0_grant 41 = .ok (.invokespecial 50, 3) := by decide +kernel
theorem dX0_grant_44 : decode cX0_grant 44 = .ok (.athrow, 1) := by decide +kernel
theorem dX0_grant_45 : decode cX0_grant 45 = .ok (.aload_n 0, 1) := by decide +kernel
theorem dX0_grant_46 : decode cX0_grant 46 = .ok (.iload_n 1, 1) := by decide +kernel
theorem dX0_grant_47 : decode cX0_grant 47 = .ok (.iload_n 2, 1) := by decide +kernel
theorem dX0_grant_48 : decode cX0_grant 48 = .ok (.iload_n 3, 1) := by decide +kernel
theorem dX0_grant_49 : decode cX0_grant 49 = .ok (.iload 4, 2) := by decide +kernel
theorem dX0_grant_51 : decode cX0_grant 51 = .ok (.invokevirtual 90, 3) := by decide +kernel
theorem dX0_grant_54 : decode cX0_grant 54 = .ok (.aload_n 0, 1) := by decide +kernel
theorem dX0_grant_55 : decode cX0_grant 55 = .ok (.iload_n 1, 1) := by decide +kernel
theorem dX0_grant_56 : decode cX0_grant 56 = .ok (.iload_n 2, 1) := by decide +kernel
theorem dX0_grant_57 : decode cX0_grant 57 = .ok (.invokevirtual 84, 3) := by decide +kernel
theorem dX0_grant_60 : decode cX0_grant 60 = .ok (.ireturn, 1) := by decide +kernel
set_option maxRecDepth 20000 in
theorem ggX0_give_X0_needPerson : GoodIn wsX0_give wsX0_needPerson := goodIn_ca (goodIn_r _ [9, 10, 11, 12, 41, 42, 43, 44, 45, 46, 47, 48, 49, 50] (by decide +kernel) (by decide +kernel)) (goodIn_sub (fun _ h => List.mem_cons_of_mem _ (List.mem_append_right _ h)) (by decide +kernel))
set_option maxRecDepth 20000 in
theorem gX0_give_X0_needPerson : GoodIn wsX0_give (wsV RX0 60 RX0 yX0_needPerson wsX0_needPerson) := goodIn_app (goodIn_of _ (by decide +kernel)) ggX0_give_X0_needPerson
set_option maxRecDepth 20000 in
theorem ggX0_give_X0_needFerry : GoodIn wsX0_give wsX0_needFerry := goodIn_ca (goodIn_r _ [16, 10, 11, 17, 41, 42, 43, 44, 45, 46, 47, 48, 49, 50] (by decide +kernel) (by decide +kernel)) (goodIn_sub (fun _ h => List.mem_cons_of_mem _ (List.mem_append_right _ h)) (by decide +kernel))
set_option maxRecDepth 20000 in
theorem gX0_give_X0_needFerry : GoodIn wsX0_give (wsV RX0 75 RX0 yX0_needFerry wsX0_needFerry) := goodIn_app (goodIn_of _ (by decide +kernel)) ggX0_give_X0_needFerry
set_option maxRecDepth 20000 in
theorem ggX0_give_X0_needWatch : GoodIn wsX0_give wsX0_needWatch := goodIn_ca (goodIn_r _ [20, 10, 11] (by decide +kernel) (by decide +kernel)) (goodIn_sub (fun _ h => List.mem_cons_of_mem _ (List.mem_append_right _ h)) (by decide +kernel))
set_option maxRecDepth 20000 in
theorem gX0_give_X0_needWatch : GoodIn wsX0_give (va_wsS RX0 78 yX0_needWatch wsX0_needWatch) := goodIn_app (goodIn_of _ (by decide +kernel)) ggX0_give_X0_needWatch
set_option maxRecDepth 20000 in
theorem ggX0_give_X0_needShares : GoodIn wsX0_give wsX0_needShares := goodIn_ca (goodIn_r _ [23, 1, 2] (by decide +kernel) (by decide +kernel)) (goodIn_sub (fun _ h => List.mem_cons_of_mem _ (List.mem_append_left _ (List.mem_append_left _ (List.mem_append_right _ h)))) (by decide +kernel))
set_option maxRecDepth 20000 in
theorem gX0_give_X0_needShares : GoodIn wsX0_give (va_wsS RX0 81 yX0_needShares wsX0_needShares) := goodIn_app (goodIn_of _ (by decide +kernel)) ggX0_give_X0_needShares
set_option maxRecDepth 20000 in
theorem ggX0_give_X0_needAlive : GoodIn wsX0_give wsX0_needAlive := goodIn_ca (goodIn_r _ [27, 3, 4, 28, 41, 42, 43, 44, 45, 46, 47, 48, 49, 50] (by decide +kernel) (by decide +kernel)) (goodIn_sub (fun _ h => List.mem_cons_of_mem _ (List.mem_append_left _ (List.mem_append_right _ h))) (by decide +kernel))
set_option maxRecDepth 20000 in
theorem gX0_give_X0_needAlive : GoodIn wsX0_give (wsV RX0 63 RX0 yX0_needAlive wsX0_needAlive) := goodIn_app (goodIn_of _ (by decide +kernel)) ggX0_give_X0_needAlive
set_option maxRecDepth 20000 in
theorem ggX0_give_X0_owns : GoodIn wsX0_give wsX0_owns := goodIn_r _ [32, 33, 34, 35, 8, 36, 41, 42, 43, 44, 45, 46, 47, 48, 49, 50] (by decide +kernel) (by decide +kernel)
set_option maxRecDepth 20000 in
theorem gX0_give_X0_owns : GoodIn wsX0_give (wsV RX0 96 RX0 yX0_owns wsX0_owns) := goodIn_app (goodIn_of _ (by decide +kernel)) ggX0_give_X0_owns
set_option maxRecDepth 20000 in
theorem ggX0_give_X0_addShares : GoodIn wsX0_give wsX0_addShares := goodIn_r _ [40, 33, 34, 35, 8, 36, 41, 42, 43, 44, 45, 46, 47, 48, 49, 50] (by decide +kernel) (by decide +kernel)
set_option maxRecDepth 20000 in
theorem gX0_give_X0_addShares : GoodIn wsX0_give (wsV RX0 90 RX0 yX0_addShares wsX0_addShares) := goodIn_app (goodIn_of _ (by decide +kernel)) ggX0_give_X0_addShares
theorem dX0_give_0 : decode cX0_give 0 = .ok (.aload_n 0, 1) := by decide +kernel
theorem dX0_give_1 : decode cX0_give 1 = .ok (.iload_n 1, 1) := by decide +kernel
theorem dX0_give_2 : decode cX0_give 2 = .ok (.invokevirtual 60, 3) := by decide +kernel
theorem dX0_give_5 : decode cX0_give 5 = .ok (.aload_n 0, 1) := by decide +kernel
theorem dX0_give_6 : decode cX0_give 6 = .ok (.iload_n 2, 1) := by decide +kernel
theorem dX0_give_7 : decode cX0_give 7 = .ok (.invokevirtual 60, 3) := by decide +kernel
theorem dX0_give_10 : decode cX0_give 10 = .ok (.aload_n 0, 1) := by decide +kernel
theorem dX0_give_11 : decode cX0_give 11 = .ok (.iload_n 3, 1) := by decide +kernel
theorem dX0_give_12 : decode cX0_give 12 = .ok (.invokevirtual 75, 3) := by decide +kernel
theorem dX0_give_15 : decode cX0_give 15 = .ok (.iload 4, 2) := by decide +kernel
theorem dX0_give_17 : decode cX0_give 17 = .ok (.invokestatic 78, 3) := by decide +kernel
theorem dX0_give_20 : decode cX0_give 20 = .ok (.iload 5, 2) := by decide +kernel
theorem dX0_give_22 : decode cX0_give 22 = .ok (.invokestatic 81, 3) := by decide +kernel
theorem dX0_give_25 : decode cX0_give 25 = .ok (.iload_n 1, 1) := by decide +kernel
theorem dX0_give_26 : decode cX0_give 26 = .ok (.iload_n 2, 1) := by decide +kernel
theorem dX0_give_27 : decode cX0_give 27 = .ok (.if_icmp .ne 13, 3) := by decide +kernel
theorem dX0_give_30 : decode cX0_give 30 = .ok (.new 66, 3) := by decide +kernel
theorem dX0_give_33 : decode cX0_give 33 = .ok (.dup, 1) := by decide +kernel
theorem dX0_give_34 : decode cX0_give 34 = .ok (.ldc 94, 2) := by decide +kernel
theorem dX0_give_36 : decode cX0_give 36 = .ok (.invokespecial 70, 3) := by decide +kernel
theorem dX0_give_39 : decode cX0_give 39 = .ok (.athrow, 1) := by decide +kernel
theorem dX0_give_40 : decode cX0_give 40 = .ok (.aload_n 0, 1) := by decide +kernel
theorem dX0_give_41 : decode cX0_give 41 = .ok (.iload_n 2, 1) := by decide +kernel
theorem dX0_give_42 : decode cX0_give 42 = .ok (.invokevirtual 63, 3) := by decide +kernel
theorem dX0_give_45 : decode cX0_give 45 = .ok (.aload_n 0, 1) := by decide +kernel
theorem dX0_give_46 : decode cX0_give 46 = .ok (.iload_n 3, 1) := by decide +kernel
theorem dX0_give_47 : decode cX0_give 47 = .ok (.iload 4, 2) := by decide +kernel
theorem dX0_give_49 : decode cX0_give 49 = .ok (.iload_n 1, 1) := by decide +kernel
theorem dX0_give_50 : decode cX0_give 50 = .ok (.invokevirtual 96, 3) := by decide +kernel
theorem dX0_give_53 : decode cX0_give 53 = .ok (.iload 5, 2) := by decide +kernel
theorem dX0_give_55 : decode cX0_give 55 = .ok (.if_icmp .ge 13, 3) := by decide +kernel
theorem dX0_give_58 : decode cX0_give 58 = .ok (.new 46, 3) := by decide +kernel
theorem dX0_give_61 : decode cX0_give 61 = .ok (.dup, 1) := by decide +kernel
theorem dX0_give_62 : decode cX0_give 62 = .ok (.ldc 100, 2) := by decide +kernel
theorem dX0_give_64 : decode cX0_give 64 = .ok (.invokespecial 50, 3) := by decide +kernel
theorem dX0_give_67 : decode cX0_give 67 = .ok (.athrow, 1) := by decide +kernel
theorem dX0_give_68 : decode cX0_give 68 = .ok (.aload_n 0, 1) := by decide +kernel
theorem dX0_give_69 : decode cX0_give 69 = .ok (.iload_n 3, 1) := by decide +kernel
theorem dX0_give_70 : decode cX0_give 70 = .ok (.iload 4, 2) := by decide +kernel
theorem dX0_give_72 : decode cX0_give 72 = .ok (.iload_n 1, 1) := by decide +kernel
theorem dX0_give_73 : decode cX0_give 73 = .ok (.iload 5, 2) := by decide +kernel
theorem dX0_give_75 : decode cX0_give 75 = .ok (.ineg, 1) := by decide +kernel
theorem dX0_give_76 : decode cX0_give 76 = .ok (.invokevirtual 90, 3) := by decide +kernel
theorem dX0_give_79 : decode cX0_give 79 = .ok (.aload_n 0, 1) := by decide +kernel
theorem dX0_give_80 : decode cX0_give 80 = .ok (.iload_n 3, 1) := by decide +kernel
theorem dX0_give_81 : decode cX0_give 81 = .ok (.iload 4, 2) := by decide +kernel
theorem dX0_give_83 : decode cX0_give 83 = .ok (.iload_n 2, 1) := by decide +kernel
theorem dX0_give_84 : decode cX0_give 84 = .ok (.iload 5, 2) := by decide +kernel
theorem dX0_give_86 : decode cX0_give 86 = .ok (.invokevirtual 90, 3) := by decide +kernel
theorem dX0_give_89 : decode cX0_give 89 = .ok (.aload_n 0, 1) := by decide +kernel
theorem dX0_give_90 : decode cX0_give 90 = .ok (.iload_n 3, 1) := by decide +kernel
theorem dX0_give_91 : decode cX0_give 91 = .ok (.iload 4, 2) := by decide +kernel
theorem dX0_give_93 : decode cX0_give 93 = .ok (.iload_n 2, 1) := by decide +kernel
theorem dX0_give_94 : decode cX0_give 94 = .ok (.invokevirtual 96, 3) := by decide +kernel
theorem dX0_give_97 : decode cX0_give 97 = .ok (.ireturn, 1) := by decide +kernel
set_option maxRecDepth 20000 in
theorem ggX0_buy_X0_needSale : GoodIn wsX0_buy wsX0_needSale := goodIn_ca (goodIn_r _ [8, 9, 10, 11, 7, 12, 13, 14, 15, 16, 17, 18, 19, 20, 21, 22, 23, 63, 64, 65, 66, 67, 68, 69, 70, 71, 72] (by decide +kernel) (by decide +kernel)) (goodIn_sub (fun _ h => List.mem_cons_of_mem _ (List.mem_append_right _ h)) (by decide +kernel))
set_option maxRecDepth 20000 in
theorem gX0_buy_X0_needSale : GoodIn wsX0_buy (wsV RX0 102 RX0 yX0_needSale wsX0_needSale) := goodIn_app (goodIn_of _ (by decide +kernel)) ggX0_buy_X0_needSale
set_option maxRecDepth 20000 in
theorem ggX0_buy_X0_mayBuy : GoodIn wsX0_buy wsX0_mayBuy := goodIn_r _ [27, 28, 3, 29, 30, 31, 7, 32, 33, 34, 35, 36, 37, 38, 39, 40, 41, 42, 43, 44, 45, 46, 47, 48, 49, 50, 15, 63, 64, 65, 66, 67, 68, 69, 70, 71, 72] (by decide +kernel) (by decide +kernel)
set_option maxRecDepth 20000 in
theorem gX0_buy_X0_mayBuy : GoodIn wsX0_buy (wsV RX0 105 RX0 yX0_mayBuy wsX0_mayBuy) := goodIn_app (goodIn_of _ (by decide +kernel)) ggX0_buy_X0_mayBuy
set_option maxRecDepth 20000 in
theorem ggX0_buy_X0_priceOf : GoodIn wsX0_buy wsX0_priceOf := goodIn_r _ [32, 33, 34, 35, 7, 36, 37, 38, 39, 40, 41, 42, 43, 44, 45, 46, 63, 64, 65, 66, 67, 68, 69, 70, 71, 72] (by decide +kernel) (by decide +kernel)
set_option maxRecDepth 20000 in
theorem gX0_buy_X0_priceOf : GoodIn wsX0_buy (wsV RX0 111 RX0 yX0_priceOf wsX0_priceOf) := goodIn_app (goodIn_of _ (by decide +kernel)) ggX0_buy_X0_priceOf
set_option maxRecDepth 20000 in
theorem ggX0_buy_X0_owns : GoodIn wsX0_buy wsX0_owns := goodIn_r _ [36, 37, 38, 39, 7, 40, 63, 64, 65, 66, 67, 68, 69, 70, 71, 72] (by decide +kernel) (by decide +kernel)
set_option maxRecDepth 20000 in
theorem gX0_buy_X0_owns : GoodIn wsX0_buy (wsV RX0 96 RX0 yX0_owns wsX0_owns) := goodIn_app (goodIn_of _ (by decide +kernel)) ggX0_buy_X0_owns
set_option maxRecDepth 20000 in
theorem ggX0_buy_X0_addCoins : GoodIn wsX0_buy wsX0_addCoins := goodIn_r _ [54, 3, 55, 56, 57, 58, 63, 64, 65, 66, 67, 68, 69, 70, 71, 72] (by decide +kernel) (by decide +kernel)
set_option maxRecDepth 20000 in
theorem gX0_buy_X0_addCoins : GoodIn wsX0_buy (wsV RX0 71 RX0 yX0_addCoins wsX0_addCoins) := goodIn_app (goodIn_of _ (by decide +kernel)) ggX0_buy_X0_addCoins
set_option maxRecDepth 20000 in
theorem ggX0_buy_X0_addShares : GoodIn wsX0_buy wsX0_addShares := goodIn_r _ [62, 37, 38, 39, 7, 40, 63, 64, 65, 66, 67, 68, 69, 70, 71, 72] (by decide +kernel) (by decide +kernel)
set_option maxRecDepth 20000 in
theorem gX0_buy_X0_addShares : GoodIn wsX0_buy (wsV RX0 90 RX0 yX0_addShares wsX0_addShares) := goodIn_app (goodIn_of _ (by decide +kernel)) ggX0_buy_X0_addShares
theorem dX0_buy_0 : decode cX0_buy 0 = .ok (.aload_n 0, 1) := by decide +kernel
theorem dX0_buy_1 : decode cX0_buy 1 = .ok (.iload_n 1, 1) := by decide +kernel
theorem dX0_buy_2 : decode cX0_buy 2 = .ok (.iload_n 2, 1) := by decide +kernel
theorem dX0_buy_3 : decode cX0_buy 3 = .ok (.iload_n 3, 1) := by decide +kernel
theorem dX0_buy_4 : decode cX0_buy 4 = .ok (.iload 4, 2) := by decide +kernel
theorem dX0_buy_6 : decode cX0_buy 6 = .ok (.invokevirtual 102, 3) := by decide +kernel
theorem dX0_buy_9 : decode cX0_buy 9 = .ok (.aload_n 0, 1) := by decide +kernel
theorem dX0_buy_10 : decode cX0_buy 10 = .ok (.iload_n 1, 1) := by decide +kernel
theorem dX0_buy_11 : decode cX0_buy 11 = .ok (.iload_n 2, 1) := by decide +kernel
theorem dX0_buy_12 : decode cX0_buy 12 = .ok (.iload_n 3, 1) := by decide +kernel
theorem dX0_buy_13 : decode cX0_buy 13 = .ok (.iload 4, 2) := by decide +kernel
theorem dX0_buy_15 : decode cX0_buy 15 = .ok (.invokevirtual 105, 3) := by decide +kernel
theorem dX0_buy_18 : decode cX0_buy 18 = .ok (.ifCond .ne 13, 3) := by decide +kernel
theorem dX0_buy_21 : decode cX0_buy 21 = .ok (.new 46, 3) := by decide +kernel
theorem dX0_buy_24 : decode cX0_buy 24 = .ok (.dup, 1) := by decide +kernel
theorem dX0_buy_25 : decode cX0_buy 25 = .ok (.ldc 109, 2) := by decide +kernel
theorem dX0_buy_27 : decode cX0_buy 27 = .ok (.invokespecial 50, 3) := by decide +kernel
theorem dX0_buy_30 : decode cX0_buy 30 = .ok (.athrow, 1) := by decide +kernel
theorem dX0_buy_31 : decode cX0_buy 31 = .ok (.aload_n 0, 1) := by decide +kernel
theorem dX0_buy_32 : decode cX0_buy 32 = .ok (.iload_n 2, 1) := by decide +kernel
theorem dX0_buy_33 : decode cX0_buy 33 = .ok (.iload_n 3, 1) := by decide +kernel
theorem dX0_buy_34 : decode cX0_buy 34 = .ok (.iload 4, 2) := by decide +kernel
theorem dX0_buy_36 : decode cX0_buy 36 = .ok (.invokevirtual 111, 3) := by decide +kernel
theorem dX0_buy_39 : decode cX0_buy 39 = .ok (.istore 5, 2) := by decide +kernel
theorem dX0_buy_41 : decode cX0_buy 41 = .ok (.aload_n 0, 1) := by decide +kernel
theorem dX0_buy_42 : decode cX0_buy 42 = .ok (.iload_n 3, 1) := by decide +kernel
theorem dX0_buy_43 : decode cX0_buy 43 = .ok (.iload 4, 2) := by decide +kernel
theorem dX0_buy_45 : decode cX0_buy 45 = .ok (.iload_n 2, 1) := by decide +kernel
theorem dX0_buy_46 : decode cX0_buy 46 = .ok (.invokevirtual 96, 3) := by decide +kernel
theorem dX0_buy_49 : decode cX0_buy 49 = .ok (.istore 6, 2) := by decide +kernel
theorem dX0_buy_51 : decode cX0_buy 51 = .ok (.aload_n 0, 1) := by decide +kernel
theorem dX0_buy_52 : decode cX0_buy 52 = .ok (.getfield 30, 3) := by decide +kernel
theorem dX0_buy_55 : decode cX0_buy 55 = .ok (.iload_n 1, 1) := by decide +kernel
theorem dX0_buy_56 : decode cX0_buy 56 = .ok (.dup2, 1) := by decide +kernel
theorem dX0_buy_57 : decode cX0_buy 57 = .ok (.iaload, 1) := by decide +kernel
theorem dX0_buy_58 : decode cX0_buy 58 = .ok (.iload 5, 2) := by decide +kernel
theorem dX0_buy_60 : decode cX0_buy 60 = .ok (.isub, 1) := by decide +kernel
theorem dX0_buy_61 : decode cX0_buy 61 = .ok (.iastore, 1) := by decide +kernel
theorem dX0_buy_62 : decode cX0_buy 62 = .ok (.aload_n 0, 1) := by decide +kernel
theorem dX0_buy_63 : decode cX0_buy 63 = .ok (.iload_n 2, 1) := by decide +kernel
theorem dX0_buy_64 : decode cX0_buy 64 = .ok (.iload 5, 2) := by decide +kernel
theorem dX0_buy_66 : decode cX0_buy 66 = .ok (.invokevirtual 71, 3) := by decide +kernel
theorem dX0_buy_69 : decode cX0_buy 69 = .ok (.aload_n 0, 1) := by decide +kernel
theorem dX0_buy_70 : decode cX0_buy 70 = .ok (.iload_n 3, 1) := by decide +kernel
theorem dX0_buy_71 : decode cX0_buy 71 = .ok (.iload 4, 2) := by decide +kernel
theorem dX0_buy_73 : decode cX0_buy 73 = .ok (.iload_n 2, 1) := by decide +kernel
theorem dX0_buy_74 : decode cX0_buy 74 = .ok (.iload 6, 2) := by decide +kernel
theorem dX0_buy_76 : decode cX0_buy 76 = .ok (.ineg, 1) := by decide +kernel
theorem dX0_buy_77 : decode cX0_buy 77 = .ok (.invokevirtual 90, 3) := by decide +kernel
theorem dX0_buy_80 : decode cX0_buy 80 = .ok (.aload_n 0, 1) := by decide +kernel
theorem dX0_buy_81 : decode cX0_buy 81 = .ok (.iload_n 3, 1) := by decide +kernel
theorem dX0_buy_82 : decode cX0_buy 82 = .ok (.iload 4, 2) := by decide +kernel
theorem dX0_buy_84 : decode cX0_buy 84 = .ok (.iload_n 1, 1) := by decide +kernel
theorem dX0_buy_85 : decode cX0_buy 85 = .ok (.iload 6, 2) := by decide +kernel
theorem dX0_buy_87 : decode cX0_buy 87 = .ok (.invokevirtual 90, 3) := by decide +kernel
theorem dX0_buy_90 : decode cX0_buy 90 = .ok (.iload 5, 2) := by decide +kernel
theorem dX0_buy_92 : decode cX0_buy 92 = .ok (.ireturn, 1) := by decide +kernel
set_option maxRecDepth 20000 in
theorem ggX0_setToll_X0_needFerry : GoodIn wsX0_setToll wsX0_needFerry := goodIn_ca (goodIn_r _ [8, 9, 10, 11, 38, 39, 40, 41, 42, 43, 44, 45, 46, 47] (by decide +kernel) (by decide +kernel)) (goodIn_sub (fun _ h => List.mem_cons_of_mem _ (List.mem_append_left _ (List.mem_append_right _ h))) (by decide +kernel))
set_option maxRecDepth 20000 in
theorem gX0_setToll_X0_needFerry : GoodIn wsX0_setToll (wsV RX0 75 RX0 yX0_needFerry wsX0_needFerry) := goodIn_app (goodIn_of _ (by decide +kernel)) ggX0_setToll_X0_needFerry
set_option maxRecDepth 20000 in
theorem ggX0_setToll_X0_needPerson : GoodIn wsX0_setToll wsX0_needPerson := goodIn_ca (goodIn_r _ [15, 9, 10, 16, 38, 39, 40, 41, 42, 43, 44, 45, 46, 47] (by decide +kernel) (by decide +kernel)) (goodIn_sub (fun _ h => List.mem_cons_of_mem _ (List.mem_append_left _ (List.mem_append_right _ h))) (by decide +kernel))
set_option maxRecDepth 20000 in
theorem gX0_setToll_X0_needPerson : GoodIn wsX0_setToll (wsV RX0 60 RX0 yX0_needPerson wsX0_needPerson) := goodIn_app (goodIn_of _ (by decide +kernel)) ggX0_setToll_X0_needPerson
set_option maxRecDepth 20000 in
theorem ggX0_setToll_X0_needToll : GoodIn wsX0_setToll wsX0_needToll := goodIn_ca (goodIn_r _ [19, 20, 21] (by decide +kernel) (by decide +kernel)) (goodIn_sub (fun _ h => List.mem_cons_of_mem _ (List.mem_append_right _ h)) (by decide +kernel))
set_option maxRecDepth 20000 in
theorem gX0_setToll_X0_needToll : GoodIn wsX0_setToll (va_wsS RX0 42 yX0_needToll wsX0_needToll) := goodIn_app (goodIn_of _ (by decide +kernel)) ggX0_setToll_X0_needToll
set_option maxRecDepth 20000 in
theorem ggX0_setToll_X0_findMaster : GoodIn wsX0_setToll wsX0_findMaster := goodIn_r _ [25, 16, 26, 27, 28, 7, 29, 30, 31, 32, 33, 34, 35, 36, 37, 38, 39, 40, 41, 42, 43, 44, 45, 46, 47] (by decide +kernel) (by decide +kernel)
set_option maxRecDepth 20000 in
theorem gX0_setToll_X0_findMaster : GoodIn wsX0_setToll (wsV RX0 114 RX0 yX0_findMaster wsX0_findMaster) := goodIn_app (goodIn_of _ (by decide +kernel)) ggX0_setToll_X0_findMaster
theorem dX0_setToll_0 : decode cX0_setToll 0 = .ok (.aload_n 0, 1) := by decide +kernel
theorem dX0_setToll_1 : decode cX0_setToll 1 = .ok (.iload_n 1, 1) := by decide +kernel
theorem dX0_setToll_2 : decode cX0_setToll 2 = .ok (.invokevirtual 75, 3) := by decide +kernel
theorem dX0_setToll_5 : decode cX0_setToll 5 = .ok (.aload_n 0, 1) := by decide +kernel
theorem dX0_setToll_6 : decode cX0_setToll 6 = .ok (.iload_n 2, 1) := by decide +kernel
theorem dX0_setToll_7 : decode cX0_setToll 7 = .ok (.invokevirtual 60, 3) := by decide +kernel
theorem dX0_setToll_10 : decode cX0_setToll 10 = .ok (.iload_n 3, 1) := by decide +kernel
theorem dX0_setToll_11 : decode cX0_setToll 11 = .ok (.invokestatic 42, 3) := by decide +kernel
theorem dX0_setToll_14 : decode cX0_setToll 14 = .ok (.aload_n 0, 1) := by decide +kernel
theorem dX0_setToll_15 : decode cX0_setToll 15 = .ok (.iload_n 1, 1) := by decide +kernel
theorem dX0_setToll_16 : decode cX0_setToll 16 = .ok (.invokevirtual 114, 3) := by decide +kernel
theorem dX0_setToll_19 : decode cX0_setToll 19 = .ok (.iload_n 2, 1) := by decide +kernel
theorem dX0_setToll_20 : decode cX0_setToll 20 = .ok (.if_icmp .eq 13, 3) := by decide +kernel
theorem dX0_setToll_23 : decode cX0_setToll 23 = .ok (.new 46, 3) := by decide +kernel
theorem dX0_setToll_26 : decode cX0_setToll 26 = .ok (.dup, 1) := by decide +kernel
theorem dX0_setToll_27 : decode cX0_setToll 27 = .ok (.ldc 117, 2) := by decide +kernel
theorem dX0_setToll_29 : decode cX0_setToll 29 = .ok (.invokespecial 50, 3) := by decide +kernel
theorem dX0_setToll_32 : decode cX0_setToll 32 = .ok (.athrow, 1) := by decide +kernel
theorem dX0_setToll_33 : decode cX0_setToll 33 = .ok (.aload_n 0, 1) := by decide +kernel
theorem dX0_setToll_34 : decode cX0_setToll 34 = .ok (.getfield 13, 3) := by decide +kernel
theorem dX0_setToll_37 : decode cX0_setToll 37 = .ok (.iload_n 1, 1) := by decide +kernel
theorem dX0_setToll_38 : decode cX0_setToll 38 = .ok (.iaload, 1) := by decide +kernel
theorem dX0_setToll_39 : decode cX0_setToll 39 = .ok (.istore 4, 2) := by decide +kernel
theorem dX0_setToll_41 : decode cX0_setToll 41 = .ok (.aload_n 0, 1) := by decide +kernel
theorem dX0_setToll_42 : decode cX0_setToll 42 = .ok (.getfield 13, 3) := by decide +kernel
theorem dX0_setToll_45 : decode cX0_setToll 45 = .ok (.iload_n 1, 1) := by decide +kernel
theorem dX0_setToll_46 : decode cX0_setToll 46 = .ok (.iload_n 3, 1) := by decide +kernel
theorem dX0_setToll_47 : decode cX0_setToll 47 = .ok (.iastore, 1) := by decide +kernel
theorem dX0_setToll_48 : decode cX0_setToll 48 = .ok (.iload 4, 2) := by decide +kernel
theorem dX0_setToll_50 : decode cX0_setToll 50 = .ok (.ireturn, 1) := by decide +kernel
set_option maxRecDepth 20000 in
theorem ggX0_carry_X0_needFerry : GoodIn wsX0_carry wsX0_needFerry := goodIn_ca (goodIn_r _ [10, 11, 12, 13, 43, 44, 45, 46, 47, 48, 49, 50, 51, 52] (by decide +kernel) (by decide +kernel)) (goodIn_sub (fun _ h => List.mem_cons_of_mem _ (List.mem_append_left _ (List.mem_append_right _ h))) (by decide +kernel))
set_option maxRecDepth 20000 in
theorem gX0_carry_X0_needFerry : GoodIn wsX0_carry (wsV RX0 75 RX0 yX0_needFerry wsX0_needFerry) := goodIn_app (goodIn_of _ (by decide +kernel)) ggX0_carry_X0_needFerry
set_option maxRecDepth 20000 in
theorem ggX0_carry_X0_needHour : GoodIn wsX0_carry wsX0_needHour := goodIn_ca (goodIn_r _ [16, 11, 12] (by decide +kernel) (by decide +kernel)) (goodIn_sub (fun _ h => List.mem_cons_of_mem _ (List.mem_append_left _ (List.mem_append_right _ h))) (by decide +kernel))
set_option maxRecDepth 20000 in
theorem gX0_carry_X0_needHour : GoodIn wsX0_carry (va_wsS RX0 119 yX0_needHour wsX0_needHour) := goodIn_app (goodIn_of _ (by decide +kernel)) ggX0_carry_X0_needHour
set_option maxRecDepth 20000 in
theorem ggX0_carry_X0_needPassengers : GoodIn wsX0_carry wsX0_needPassengers := goodIn_ca (goodIn_r _ [19, 20, 21] (by decide +kernel) (by decide +kernel)) (goodIn_sub (fun _ h => List.mem_cons_of_mem _ (List.mem_append_right _ h)) (by decide +kernel))
set_option maxRecDepth 20000 in
theorem gX0_carry_X0_needPassengers : GoodIn wsX0_carry (va_wsS RX0 122 yX0_needPassengers wsX0_needPassengers) := goodIn_app (goodIn_of _ (by decide +kernel)) ggX0_carry_X0_needPassengers
set_option maxRecDepth 20000 in
theorem ggX0_carry_X0_fareOf : GoodIn wsX0_carry wsX0_fareOf := goodIn_r _ [25, 1, 26, 27, 28, 9, 29, 30, 31, 32, 33, 43, 44, 45, 46, 47, 48, 49, 50, 51, 52] (by decide +kernel) (by decide +kernel)
set_option maxRecDepth 20000 in
theorem gX0_carry_X0_fareOf : GoodIn wsX0_carry (wsV RX0 125 RX0 yX0_fareOf wsX0_fareOf) := goodIn_app (goodIn_of _ (by decide +kernel)) ggX0_carry_X0_fareOf
set_option maxRecDepth 20000 in
theorem ggX0_carry_X0_addCoins : GoodIn wsX0_carry wsX0_addCoins := goodIn_r _ [37, 38, 39, 40, 41, 42, 43, 44, 45, 46, 47, 48, 49, 50, 51, 52] (by decide +kernel) (by decide +kernel)
set_option maxRecDepth 20000 in
theorem gX0_carry_X0_addCoins : GoodIn wsX0_carry (wsV RX0 71 RX0 yX0_addCoins wsX0_addCoins) := goodIn_app (goodIn_of _ (by decide +kernel)) ggX0_carry_X0_addCoins
theorem dX0_carry_0 : decode cX0_carry 0 = .ok (.aload_n 0, 1) := by decide +kernel
theorem dX0_carry_1 : decode cX0_carry 1 = .ok (.iload_n 1, 1) := by decide +kernel
theorem dX0_carry_2 : decode cX0_carry 2 = .ok (.invokevirtual 75, 3) := by decide +kernel
theorem dX0_carry_5 : decode cX0_carry 5 = .ok (.iload_n 2, 1) := by decide +kernel
theorem dX0_carry_6 : decode cX0_carry 6 = .ok (.invokestatic 119, 3) := by decide +kernel
theorem dX0_carry_9 : decode cX0_carry 9 = .ok (.iload_n 3, 1) := by decide +kernel
theorem dX0_carry_10 : decode cX0_carry 10 = .ok (.invokestatic 122, 3) := by decide +kernel
theorem dX0_carry_13 : decode cX0_carry 13 = .ok (.iload_n 2, 1) := by decide +kernel
theorem dX0_carry_14 : decode cX0_carry 14 = .ok (.bipush 6, 2) := by decide +kernel
theorem dX0_carry_16 : decode cX0_carry 16 = .ok (.idiv, 1) := by decide +kernel
theorem dX0_carry_17 : decode cX0_carry 17 = .ok (.istore 4, 2) := by decide +kernel
theorem dX0_carry_19 : decode cX0_carry 19 = .ok (.aload_n 0, 1) := by decide +kernel
theorem dX0_carry_20 : decode cX0_carry 20 = .ok (.getfield 13, 3) := by decide +kernel
theorem dX0_carry_23 : decode cX0_carry 23 = .ok (.iload_n 1, 1) := by decide +kernel
theorem dX0_carry_24 : decode cX0_carry 24 = .ok (.iaload, 1) := by decide +kernel
theorem dX0_carry_25 : decode cX0_carry 25 = .ok (.iload_n 3, 1) := by decide +kernel
theorem dX0_carry_26 : decode cX0_carry 26 = .ok (.imul, 1) := by decide +kernel
theorem dX0_carry_27 : decode cX0_carry 27 = .ok (.istore 5, 2) := by decide +kernel
theorem dX0_carry_29 : decode cX0_carry 29 = .ok (.iconst 0, 1) := by decide +kernel
theorem dX0_carry_30 : decode cX0_carry 30 = .ok (.istore 6, 2) := by decide +kernel
theorem dX0_carry_32 : decode cX0_carry 32 = .ok (.iload 6, 2) := by decide +kernel
theorem dX0_carry_34 : decode cX0_carry 34 = .ok (.aload_n 0, 1) := by decide +kernel
theorem dX0_carry_35 : decode cX0_carry 35 = .ok (.getfield 23, 3) := by decide +kernel
theorem dX0_carry_38 : decode cX0_carry 38 = .ok (.if_icmp .ge 48, 3) := by decide +kernel
theorem dX0_carry_41 : decode cX0_carry 41 = .ok (.aload_n 0, 1) := by decide +kernel
theorem dX0_carry_42 : decode cX0_carry 42 = .ok (.iload 6, 2) := by decide +kernel
theorem dX0_carry_44 : decode cX0_carry 44 = .ok (.iload_n 1, 1) := by decide +kernel
theorem dX0_carry_45 : decode cX0_carry 45 = .ok (.iload 4, 2) := by decide +kernel
theorem dX0_carry_47 : decode cX0_carry 47 = .ok (.iload_n 3, 1) := by decide +kernel
theorem dX0_carry_48 : decode cX0_carry 48 = .ok (.invokevirtual 125, 3) := by decide +kernel
theorem dX0_carry_51 : decode cX0_carry 51 = .ok (.istore 7, 2) := by decide +kernel
theorem dX0_carry_53 : decode cX0_carry 53 = .ok (.aload_n 0, 1) := by decide +kernel
theorem dX0_carry_54 : decode cX0_carry 54 = .ok (.getfield 33, 3) := by decide +kernel
theorem dX0_carry_57 : decode cX0_carry 57 = .ok (.iload 6, 2) := by decide +kernel
theorem dX0_carry_59 : decode cX0_carry 59 = .ok (.dup2, 1) := by decide +kernel
theorem dX0_carry_60 : decode cX0_carry 60 = .ok (.iaload, 1) := by decide +kernel
theorem dX0_carry_61 : decode cX0_carry 61 = .ok (.iload 7, 2) := by decide +kernel
theorem dX0_carry_63 : decode cX0_carry 63 = .ok (.iadd, 1) := by decide +kernel
theorem dX0_carry_64 : decode cX0_carry 64 = .ok (.iastore, 1) := by decide +kernel
theorem dX0_carry_65 : decode cX0_carry 65 = .ok (.aload_n 0, 1) := by decide +kernel
theorem dX0_carry_66 : decode cX0_carry 66 = .ok (.iload 6, 2) := by decide +kernel
theorem dX0_carry_68 : decode cX0_carry 68 = .ok (.iload 7, 2) := by decide +kernel
theorem dX0_carry_70 : decode cX0_carry 70 = .ok (.invokevirtual 71, 3) := by decide +kernel
theorem dX0_carry_73 : decode cX0_carry 73 = .ok (.iload 5, 2) := by decide +kernel
theorem dX0_carry_75 : decode cX0_carry 75 = .ok (.iload 7, 2) := by decide +kernel
theorem dX0_carry_77 : decode cX0_carry 77 = .ok (.isub, 1) := by decide +kernel
theorem dX0_carry_78 : decode cX0_carry 78 = .ok (.istore 5, 2) := by decide +kernel
theorem dX0_carry_80 : decode cX0_carry 80 = .ok (.iinc 6 1, 3) := by decide +kernel
theorem dX0_carry_83 : decode cX0_carry 83 = .ok (.goto (-51), 3) := by decide +kernel
theorem dX0_carry_86 : decode cX0_carry 86 = .ok (.aload_n 0, 1) := by decide +kernel
theorem dX0_carry_87 : decode cX0_carry 87 = .ok (.dup, 1) := by decide +kernel
theorem dX0_carry_88 : decode cX0_carry 88 = .ok (.getfield 39, 3) := by decide +kernel
theorem dX0_carry_91 : decode cX0_carry 91 = .ok (.iload 5, 2) := by decide +kernel
theorem dX0_carry_93 : decode cX0_carry 93 = .ok (.iadd, 1) := by decide +kernel
theorem dX0_carry_94 : decode cX0_carry 94 = .ok (.putfield 39, 3) := by decide +kernel
theorem dX0_carry_97 : decode cX0_carry 97 = .ok (.aload_n 0, 1) := by decide +kernel
theorem dX0_carry_98 : decode cX0_carry 98 = .ok (.getfield 17, 3) := by decide +kernel
theorem dX0_carry_101 : decode cX0_carry 101 = .ok (.iload_n 1, 1) := by decide +kernel
theorem dX0_carry_102 : decode cX0_carry 102 = .ok (.dup2, 1) := by decide +kernel
theorem dX0_carry_103 : decode cX0_carry 103 = .ok (.iaload, 1) := by decide +kernel
theorem dX0_carry_104 : decode cX0_carry 104 = .ok (.iload_n 3, 1) := by decide +kernel
theorem dX0_carry_105 : decode cX0_carry 105 = .ok (.iadd, 1) := by decide +kernel
theorem dX0_carry_106 : decode cX0_carry 106 = .ok (.iastore, 1) := by decide +kernel
theorem dX0_carry_107 : decode cX0_carry 107 = .ok (.iload 5, 2) := by decide +kernel
theorem dX0_carry_109 : decode cX0_carry 109 = .ok (.ireturn, 1) := by decide +kernel
set_option maxRecDepth 20000 in
theorem ggX0_die_X0_needPerson : GoodIn wsX0_die wsX0_needPerson := goodIn_ca (goodIn_r _ [8, 9, 10, 1, 67, 68, 69, 70, 71, 72, 73, 74, 75, 76] (by decide +kernel) (by decide +kernel)) (goodIn_sub (fun _ h => List.mem_cons_of_mem _ (List.mem_append_left _ (List.mem_append_right _ h))) (by decide +kernel))
set_option maxRecDepth 20000 in
theorem gX0_die_X0_needPerson : GoodIn wsX0_die (wsV RX0 60 RX0 yX0_needPerson wsX0_needPerson) := goodIn_app (goodIn_of _ (by decide +kernel)) ggX0_die_X0_needPerson
set_option maxRecDepth 20000 in
theorem ggX0_die_X0_needAlive : GoodIn wsX0_die wsX0_needAlive := goodIn_ca (goodIn_r _ [14, 15, 16, 17, 67, 68, 69, 70, 71, 72, 73, 74, 75, 76] (by decide +kernel) (by decide +kernel)) (goodIn_sub (fun _ h => List.mem_cons_of_mem _ (List.mem_append_right _ h)) (by decide +kernel))
set_option maxRecDepth 20000 in
theorem gX0_die_X0_needAlive : GoodIn wsX0_die (wsV RX0 63 RX0 yX0_needAlive wsX0_needAlive) := goodIn_app (goodIn_of _ (by decide +kernel)) ggX0_die_X0_needAlive
set_option maxRecDepth 20000 in
theorem ggX0_die_X0_countHeirs : GoodIn wsX0_die wsX0_countHeirs := goodIn_r _ [21, 1, 22, 23, 24, 7, 25, 26, 27, 28, 29, 17, 30, 31, 32, 33, 34, 67, 68, 69, 70, 71, 72, 73, 74, 75, 76] (by decide +kernel) (by decide +kernel)
set_option maxRecDepth 20000 in
theorem gX0_die_X0_countHeirs : GoodIn wsX0_die (wsV RX0 129 RX0 yX0_countHeirs wsX0_countHeirs) := goodIn_app (goodIn_of _ (by decide +kernel)) ggX0_die_X0_countHeirs
set_option maxRecDepth 20000 in
theorem ggX0_die_X0_isHeir : GoodIn wsX0_die wsX0_isHeir := goodIn_r _ [29, 17, 30, 31, 32, 33, 7, 34, 1, 67, 68, 69, 70, 71, 72, 73, 74, 75, 76] (by decide +kernel) (by decide +kernel)
set_option maxRecDepth 20000 in
theorem gX0_die_X0_isHeir : GoodIn wsX0_die (wsV RX0 132 RX0 yX0_isHeir wsX0_isHeir) := goodIn_app (goodIn_of _ (by decide +kernel)) ggX0_die_X0_isHeir
set_option maxRecDepth 20000 in
theorem ggX0_die_X0_hand : GoodIn wsX0_die wsX0_hand := goodIn_r _ [38, 39, 3, 40, 41, 42, 7, 43, 44, 45, 46, 47, 48, 49, 50, 51, 52, 53, 54, 55, 56, 57, 58, 59, 60, 61, 62, 67, 68, 69, 70, 71, 72, 73, 74, 75, 76] (by decide +kernel) (by decide +kernel)
set_option maxRecDepth 20000 in
theorem gX0_die_X0_hand : GoodIn wsX0_die (wsV RX0 136 RX0 yX0_hand wsX0_hand) := goodIn_app (goodIn_of _ (by decide +kernel)) ggX0_die_X0_hand
set_option maxRecDepth 20000 in
theorem ggX0_die_X0_bury : GoodIn wsX0_die wsX0_bury := goodIn_r _ [66, 39, 44, 3, 17, 45, 46, 7, 47, 67, 68, 69, 70, 71, 72, 73, 74, 75, 76] (by decide +kernel) (by decide +kernel)
set_option maxRecDepth 20000 in
theorem gX0_die_X0_bury : GoodIn wsX0_die (wsV RX0 139 RX0 yX0_bury wsX0_bury) := goodIn_app (goodIn_of _ (by decide +kernel)) ggX0_die_X0_bury
theorem dX0_die_0 : decode cX0_die 0 = .ok (.aload_n 0, 1) := by decide +kernel
theorem dX0_die_1 : decode cX0_die 1 = .ok (.iload_n 1, 1) := by decide +kernel
theorem dX0_die_2 : decode cX0_die 2 = .ok (.invokevirtual 60, 3) := by decide +kernel
theorem dX0_die_5 : decode cX0_die 5 = .ok (.aload_n 0, 1) := by decide +kernel
theorem dX0_die_6 : decode cX0_die 6 = .ok (.iload_n 1, 1) := by decide +kernel
theorem dX0_die_7 : decode cX0_die 7 = .ok (.invokevirtual 63, 3) := by decide +kernel
theorem dX0_die_10 : decode cX0_die 10 = .ok (.aload_n 0, 1) := by decide +kernel
theorem dX0_die_11 : decode cX0_die 11 = .ok (.iload_n 1, 1) := by decide +kernel
theorem dX0_die_12 : decode cX0_die 12 = .ok (.invokevirtual 129, 3) := by decide +kernel
theorem dX0_die_15 : decode cX0_die 15 = .ok (.istore_n 2, 1) := by decide +kernel
theorem dX0_die_16 : decode cX0_die 16 = .ok (.iconst 0, 1) := by decide +kernel
theorem dX0_die_17 : decode cX0_die 17 = .ok (.istore_n 3, 1) := by decide +kernel
theorem dX0_die_18 : decode cX0_die 18 = .ok (.iconst 0, 1) := by decide +kernel
theorem dX0_die_19 : decode cX0_die 19 = .ok (.istore 4, 2) := by decide +kernel
theorem dX0_die_21 : decode cX0_die 21 = .ok (.iload 4, 2) := by decide +kernel
theorem dX0_die_23 : decode cX0_die 23 = .ok (.aload_n 0, 1) := by decide +kernel
theorem dX0_die_24 : decode cX0_die 24 = .ok (.getfield 23, 3) := by decide +kernel
theorem dX0_die_27 : decode cX0_die 27 = .ok (.if_icmp .ge 31, 3) := by decide +kernel
theorem dX0_die_30 : decode cX0_die 30 = .ok (.aload_n 0, 1) := by decide +kernel
theorem dX0_die_31 : decode cX0_die 31 = .ok (.iload 4, 2) := by decide +kernel
theorem dX0_die_33 : decode cX0_die 33 = .ok (.iload_n 1, 1) := by decide +kernel
theorem dX0_die_34 : decode cX0_die 34 = .ok (.invokevirtual 132, 3) := by decide +kernel
theorem dX0_die_37 : decode cX0_die 37 = .ok (.ifCond .eq 15, 3) := by decide +kernel
theorem dX0_die_40 : decode cX0_die 40 = .ok (.aload_n 0, 1) := by decide +kernel
theorem dX0_die_41 : decode cX0_die 41 = .ok (.iload_n 1, 1) := by decide +kernel
theorem dX0_die_42 : decode cX0_die 42 = .ok (.iload 4, 2) := by decide +kernel
theorem dX0_die_44 : decode cX0_die 44 = .ok (.iload_n 2, 1) := by decide +kernel
theorem dX0_die_45 : decode cX0_die 45 = .ok (.iload_n 3, 1) := by decide +kernel
theorem dX0_die_46 : decode cX0_die 46 = .ok (.invokevirtual 136, 3) := by decide +kernel
theorem dX0_die_49 : decode cX0_die 49 = .ok (.iinc 3 1, 3) := by decide +kernel
theorem dX0_die_52 : decode cX0_die 52 = .ok (.iinc 4 1, 3) := by decide +kernel
theorem dX0_die_55 : decode cX0_die 55 = .ok (.goto (-34), 3) := by decide +kernel
theorem dX0_die_58 : decode cX0_die 58 = .ok (.iload_n 2, 1) := by decide +kernel
theorem dX0_die_59 : decode cX0_die 59 = .ok (.ifCond .ne 18, 3) := by decide +kernel
theorem dX0_die_62 : decode cX0_die 62 = .ok (.aload_n 0, 1) := by decide +kernel
theorem dX0_die_63 : decode cX0_die 63 = .ok (.dup, 1) := by decide +kernel
theorem dX0_die_64 : decode cX0_die 64 = .ok (.getfield 39, 3) := by decide +kernel
theorem dX0_die_67 : decode cX0_die 67 = .ok (.aload_n 0, 1) := by decide +kernel
theorem dX0_die_68 : decode cX0_die 68 = .ok (.getfield 30, 3) := by decide +kernel
theorem dX0_die_71 : decode cX0_die 71 = .ok (.iload_n 1, 1) := by decide +kernel
theorem dX0_die_72 : decode cX0_die 72 = .ok (.iaload, 1) := by decide +kernel
theorem dX0_die_73 : decode cX0_die 73 = .ok (.iadd, 1) := by decide +kernel
theorem dX0_die_74 : decode cX0_die 74 = .ok (.putfield 39, 3) := by decide +kernel
theorem dX0_die_77 : decode cX0_die 77 = .ok (.aload_n 0, 1) := by decide +kernel
theorem dX0_die_78 : decode cX0_die 78 = .ok (.iload_n 1, 1) := by decide +kernel
theorem dX0_die_79 : decode cX0_die 79 = .ok (.invokevirtual 139, 3) := by decide +kernel
theorem dX0_die_82 : decode cX0_die 82 = .ok (.iload_n 2, 1) := by decide +kernel
theorem dX0_die_83 : decode cX0_die 83 = .ok (.ireturn, 1) := by decide +kernel
theorem dX0_ferries_0 : decode cX0_ferries 0 = .ok (.aload_n 0, 1) := by decide +kernel
theorem dX0_ferries_1 : decode cX0_ferries 1 = .ok (.getfield 9, 3) := by decide +kernel
theorem dX0_ferries_4 : decode cX0_ferries 4 = .ok (.ireturn, 1) := by decide +kernel
set_option maxRecDepth 20000 in
theorem ggX0_toll_X0_needFerry : GoodIn wsX0_toll wsX0_needFerry := goodIn_ca (goodIn_r _ [6, 7, 8, 9, 10, 11, 12, 13, 14, 15, 16, 17, 18, 19] (by decide +kernel) (by decide +kernel)) (goodIn_sub (fun _ h => List.mem_cons_of_mem _ (List.mem_append_right _ h)) (by decide +kernel))
set_option maxRecDepth 20000 in
theorem gX0_toll_X0_needFerry : GoodIn wsX0_toll (wsV RX0 75 RX0 yX0_needFerry wsX0_needFerry) := goodIn_app (goodIn_of _ (by decide +kernel)) ggX0_toll_X0_needFerry
theorem dX0_toll_0 : decode cX0_toll 0 = .ok (.aload_n 0, 1) := by decide +kernel
theorem dX0_toll_1 : decode cX0_toll 1 = .ok (.iload_n 1, 1) := by decide +kernel
theorem dX0_toll_2 : decode cX0_toll 2 = .ok (.invokevirtual 75, 3) := by decide +kernel
theorem dX0_toll_5 : decode cX0_toll 5 = .ok (.aload_n 0, 1) := by decide +kernel
theorem dX0_toll_6 : decode cX0_toll 6 = .ok (.getfield 13, 3) := by decide +kernel
theorem dX0_toll_9 : decode cX0_toll 9 = .ok (.iload_n 1, 1) := by decide +kernel
theorem dX0_toll_10 : decode cX0_toll 10 = .ok (.iaload, 1) := by decide +kernel
theorem dX0_toll_11 : decode cX0_toll 11 = .ok (.ireturn, 1) := by decide +kernel
set_option maxRecDepth 20000 in
theorem ggX0_carried_X0_needFerry : GoodIn wsX0_carried wsX0_needFerry := goodIn_ca (goodIn_r _ [6, 7, 8, 9, 10, 11, 12, 13, 14, 15, 16, 17, 18, 19] (by decide +kernel) (by decide +kernel)) (goodIn_sub (fun _ h => List.mem_cons_of_mem _ (List.mem_append_right _ h)) (by decide +kernel))
set_option maxRecDepth 20000 in
theorem gX0_carried_X0_needFerry : GoodIn wsX0_carried (wsV RX0 75 RX0 yX0_needFerry wsX0_needFerry) := goodIn_app (goodIn_of _ (by decide +kernel)) ggX0_carried_X0_needFerry
theorem dX0_carried_0 : decode cX0_carried 0 = .ok (.aload_n 0, 1) := by decide +kernel
theorem dX0_carried_1 : decode cX0_carried 1 = .ok (.iload_n 1, 1) := by decide +kernel
theorem dX0_carried_2 : decode cX0_carried 2 = .ok (.invokevirtual 75, 3) := by decide +kernel
theorem dX0_carried_5 : decode cX0_carried 5 = .ok (.aload_n 0, 1) := by decide +kernel
theorem dX0_carried_6 : decode cX0_carried 6 = .ok (.getfield 17, 3) := by decide +kernel
theorem dX0_carried_9 : decode cX0_carried 9 = .ok (.iload_n 1, 1) := by decide +kernel
theorem dX0_carried_10 : decode cX0_carried 10 = .ok (.iaload, 1) := by decide +kernel
theorem dX0_carried_11 : decode cX0_carried 11 = .ok (.ireturn, 1) := by decide +kernel
set_option maxRecDepth 20000 in
theorem ggX0_shares_X0_needFerry : GoodIn wsX0_shares wsX0_needFerry := goodIn_ca (goodIn_r _ [5, 6, 7, 8, 25, 26, 27, 28, 29, 30, 31, 32, 33, 34] (by decide +kernel) (by decide +kernel)) (goodIn_sub (fun _ h => List.mem_cons_of_mem _ (List.mem_append_right _ h)) (by decide +kernel))
set_option maxRecDepth 20000 in
theorem gX0_shares_X0_needFerry : GoodIn wsX0_shares (wsV RX0 75 RX0 yX0_needFerry wsX0_needFerry) := goodIn_app (goodIn_of _ (by decide +kernel)) ggX0_shares_X0_needFerry
set_option maxRecDepth 20000 in
theorem ggX0_shares_X0_needWatch : GoodIn wsX0_shares wsX0_needWatch := goodIn_ca (goodIn_r _ [11, 6, 7] (by decide +kernel) (by decide +kernel)) (goodIn_sub (fun _ h => List.mem_cons_of_mem _ (List.mem_append_right _ h)) (by decide +kernel))
set_option maxRecDepth 20000 in
theorem gX0_shares_X0_needWatch : GoodIn wsX0_shares (va_wsS RX0 78 yX0_needWatch wsX0_needWatch) := goodIn_app (goodIn_of _ (by decide +kernel)) ggX0_shares_X0_needWatch
set_option maxRecDepth 20000 in
theorem ggX0_shares_X0_needPerson : GoodIn wsX0_shares wsX0_needPerson := goodIn_ca (goodIn_r _ [15, 6, 7, 16, 25, 26, 27, 28, 29, 30, 31, 32, 33, 34] (by decide +kernel) (by decide +kernel)) (goodIn_sub (fun _ h => List.mem_cons_of_mem _ (List.mem_append_right _ h)) (by decide +kernel))
set_option maxRecDepth 20000 in
theorem gX0_shares_X0_needPerson : GoodIn wsX0_shares (wsV RX0 60 RX0 yX0_needPerson wsX0_needPerson) := goodIn_app (goodIn_of _ (by decide +kernel)) ggX0_shares_X0_needPerson
set_option maxRecDepth 20000 in
theorem ggX0_shares_X0_owns : GoodIn wsX0_shares wsX0_owns := goodIn_r _ [20, 21, 22, 23, 4, 24, 25, 26, 27, 28, 29, 30, 31, 32, 33, 34] (by decide +kernel) (by decide +kernel)
set_option maxRecDepth 20000 in
theorem gX0_shares_X0_owns : GoodIn wsX0_shares (wsV RX0 96 RX0 yX0_owns wsX0_owns) := goodIn_app (goodIn_of _ (by decide +kernel)) ggX0_shares_X0_owns
theorem dX0_shares_0 : decode cX0_shares 0 = .ok (.aload_n 0, 1) := by decide +kernel
theorem dX0_shares_1 : decode cX0_shares 1 = .ok (.iload_n 1, 1) := by decide +kernel
theorem dX0_shares_2 : decode cX0_shares 2 = .ok (.invokevirtual 75, 3) := by decide +kernel
theorem dX0_shares_5 : decode cX0_shares 5 = .ok (.iload_n 2, 1) := by decide +kernel
theorem dX0_shares_6 : decode cX0_shares 6 = .ok (.invokestatic 78, 3) := by decide +kernel
theorem dX0_shares_9 : decode cX0_shares 9 = .ok (.aload_n 0, 1) := by decide +kernel
theorem dX0_shares_10 : decode cX0_shares 10 = .ok (.iload_n 3, 1) := by decide +kernel
theorem dX0_shares_11 : decode cX0_shares 11 = .ok (.invokevirtual 60, 3) := by decide +kernel
theorem dX0_shares_14 : decode cX0_shares 14 = .ok (.aload_n 0, 1) := by decide +kernel
theorem dX0_shares_15 : decode cX0_shares 15 = .ok (.iload_n 1, 1) := by decide +kernel
theorem dX0_shares_16 : decode cX0_shares 16 = .ok (.iload_n 2, 1) := by decide +kernel
theorem dX0_shares_17 : decode cX0_shares 17 = .ok (.iload_n 3, 1) := by decide +kernel
theorem dX0_shares_18 : decode cX0_shares 18 = .ok (.invokevirtual 96, 3) := by decide +kernel
theorem dX0_shares_21 : decode cX0_shares 21 = .ok (.ireturn, 1) := by decide +kernel
set_option maxRecDepth 20000 in
theorem ggX0_crownShares_X0_needFerry : GoodIn wsX0_crownShares wsX0_needFerry := goodIn_ca (goodIn_r _ [5, 6, 7, 8, 25, 26, 27, 28, 29, 30, 31, 32, 33, 34] (by decide +kernel) (by decide +kernel)) (goodIn_sub (fun _ h => List.mem_cons_of_mem _ (List.mem_append_right _ h)) (by decide +kernel))
set_option maxRecDepth 20000 in
theorem gX0_crownShares_X0_needFerry : GoodIn wsX0_crownShares (wsV RX0 75 RX0 yX0_needFerry wsX0_needFerry) := goodIn_app (goodIn_of _ (by decide +kernel)) ggX0_crownShares_X0_needFerry
set_option maxRecDepth 20000 in
theorem ggX0_crownShares_X0_needWatch : GoodIn wsX0_crownShares wsX0_needWatch := goodIn_ca (goodIn_r _ [11, 6, 7] (by decide +kernel) (by decide +kernel)) (goodIn_sub (fun _ h => List.mem_cons_of_mem _ (List.mem_append_right _ h)) (by decide +kernel))
set_option maxRecDepth 20000 in
theorem gX0_crownShares_X0_needWatch : GoodIn wsX0_crownShares (va_wsS RX0 78 yX0_needWatch wsX0_needWatch) := goodIn_app (goodIn_of _ (by decide +kernel)) ggX0_crownShares_X0_needWatch
set_option maxRecDepth 20000 in
theorem ggX0_crownShares_X0_crownOwns : GoodIn wsX0_crownShares wsX0_crownOwns := goodIn_r _ [15, 16, 17, 18, 19, 4, 20, 21, 22, 23, 24, 25, 26, 27, 28, 29, 30, 31, 32, 33, 34] (by decide +kernel) (by decide +kernel)
set_option maxRecDepth 20000 in
theorem gX0_crownShares_X0_crownOwns : GoodIn wsX0_crownShares (wsV RX0 84 RX0 yX0_crownOwns wsX0_crownOwns) := goodIn_app (goodIn_of _ (by decide +kernel)) ggX0_crownShares_X0_crownOwns
theorem dX0_crownShares_0 : decode cX0_crownShares 0 = .ok (.aload_n 0, 1) := by decide +kernel
theorem dX0_crownShares_1 : decode cX0_crownShares 1 = .ok (.iload_n 1, 1) := by decide +kernel
theorem dX0_crownShares_2 : decode cX0_crownShares 2 = .ok (.invokevirtual 75, 3) := by decide +kernel
theorem dX0_crownShares_5 : decode cX0_crownShares 5 = .ok (.iload_n 2, 1) := by decide +kernel
theorem dX0_crownShares_6 : decode cX0_crownShares 6 = .ok (.invokestatic 78, 3) := by decide +kernel
theorem dX0_crownShares_9 : decode cX0_crownShares 9 = .ok (.aload_n 0, 1) := by decide +kernel
theorem dX0_crownShares_10 : decode cX0_crownShares 10 = .ok (.iload_n 1, 1) := by decide +kernel
theorem dX0_crownShares_11 : decode cX0_crownShares 11 = .ok (.iload_n 2, 1) := by decide +kernel
theorem dX0_crownShares_12 : decode cX0_crownShares 12 = .ok (.invokevirtual 84, 3) := by decide +kernel
theorem dX0_crownShares_15 : decode cX0_crownShares 15 = .ok (.ireturn, 1) := by decide +kernel
set_option maxRecDepth 20000 in
theorem ggX0_owners_X0_needFerry : GoodIn wsX0_owners wsX0_needFerry := goodIn_ca (goodIn_r _ [6, 7, 8, 9, 21, 22, 23, 24, 25, 26, 27, 28, 29, 30] (by decide +kernel) (by decide +kernel)) (goodIn_sub (fun _ h => List.mem_cons_of_mem _ (List.mem_append_right _ h)) (by decide +kernel))
set_option maxRecDepth 20000 in
theorem gX0_owners_X0_needFerry : GoodIn wsX0_owners (wsV RX0 75 RX0 yX0_needFerry wsX0_needFerry) := goodIn_app (goodIn_of _ (by decide +kernel)) ggX0_owners_X0_needFerry
set_option maxRecDepth 20000 in
theorem ggX0_owners_X0_needWatch : GoodIn wsX0_owners wsX0_needWatch := goodIn_ca (goodIn_r _ [12, 7, 8] (by decide +kernel) (by decide +kernel)) (goodIn_sub (fun _ h => List.mem_cons_of_mem _ (List.mem_append_right _ h)) (by decide +kernel))
set_option maxRecDepth 20000 in
theorem gX0_owners_X0_needWatch : GoodIn wsX0_owners (va_wsS RX0 78 yX0_needWatch wsX0_needWatch) := goodIn_app (goodIn_of _ (by decide +kernel)) ggX0_owners_X0_needWatch
set_option maxRecDepth 20000 in
theorem ggX0_owners_X0_owns : GoodIn wsX0_owners wsX0_owns := goodIn_r _ [16, 17, 18, 19, 5, 20, 21, 22, 23, 24, 25, 26, 27, 28, 29, 30] (by decide +kernel) (by decide +kernel)
set_option maxRecDepth 20000 in
theorem gX0_owners_X0_owns : GoodIn wsX0_owners (wsV RX0 96 RX0 yX0_owns wsX0_owns) := goodIn_app (goodIn_of _ (by decide +kernel)) ggX0_owners_X0_owns
theorem dX0_owners_0 : decode cX0_owners 0 = .ok (.aload_n 0, 1) := by decide +kernel
theorem dX0_owners_1 : decode cX0_owners 1 = .ok (.iload_n 1, 1) := by decide +kernel
theorem dX0_owners_2 : decode cX0_owners 2 = .ok (.invokevirtual 75, 3) := by decide +kernel
theorem dX0_owners_5 : decode cX0_owners 5 = .ok (.iload_n 2, 1) := by decide +kernel
theorem dX0_owners_6 : decode cX0_owners 6 = .ok (.invokestatic 78, 3) := by decide +kernel
theorem dX0_owners_9 : decode cX0_owners 9 = .ok (.iconst 0, 1) := by decide +kernel
theorem dX0_owners_10 : decode cX0_owners 10 = .ok (.istore_n 3, 1) := by decide +kernel
theorem dX0_owners_11 : decode cX0_owners 11 = .ok (.iconst 0, 1) := by decide +kernel
theorem dX0_owners_12 : decode cX0_owners 12 = .ok (.istore 4, 2) := by decide +kernel
theorem dX0_owners_14 : decode cX0_owners 14 = .ok (.iload 4, 2) := by decide +kernel
theorem dX0_owners_16 : decode cX0_owners 16 = .ok (.aload_n 0, 1) := by decide +kernel
theorem dX0_owners_17 : decode cX0_owners 17 = .ok (.getfield 23, 3) := by decide +kernel
theorem dX0_owners_20 : decode cX0_owners 20 = .ok (.if_icmp .ge 23, 3) := by decide +kernel
theorem dX0_owners_23 : decode cX0_owners 23 = .ok (.aload_n 0, 1) := by decide +kernel
theorem dX0_owners_24 : decode cX0_owners 24 = .ok (.iload_n 1, 1) := by decide +kernel
theorem dX0_owners_25 : decode cX0_owners 25 = .ok (.iload_n 2, 1) := by decide +kernel
theorem dX0_owners_26 : decode cX0_owners 26 = .ok (.iload 4, 2) := by decide +kernel
theorem dX0_owners_28 : decode cX0_owners 28 = .ok (.invokevirtual 96, 3) := by decide +kernel
theorem dX0_owners_31 : decode cX0_owners 31 = .ok (.ifCond .le 6, 3) := by decide +kernel
theorem dX0_owners_34 : decode cX0_owners 34 = .ok (.iinc 3 1, 3) := by decide +kernel
theorem dX0_owners_37 : decode cX0_owners 37 = .ok (.iinc 4 1, 3) := by decide +kernel
theorem dX0_owners_40 : decode cX0_owners 40 = .ok (.goto (-26), 3) := by decide +kernel
theorem dX0_owners_43 : decode cX0_owners 43 = .ok (.iload_n 3, 1) := by decide +kernel
theorem dX0_owners_44 : decode cX0_owners 44 = .ok (.ireturn, 1) := by decide +kernel
set_option maxRecDepth 20000 in
theorem ggX0_holder_X0_needFerry : GoodIn wsX0_holder wsX0_needFerry := goodIn_ca (goodIn_r _ [8, 9, 10, 11, 23, 24, 25, 26, 27, 28, 29, 30, 31, 32] (by decide +kernel) (by decide +kernel)) (goodIn_sub (fun _ h => List.mem_cons_of_mem _ (List.mem_append_right _ h)) (by decide +kernel))
set_option maxRecDepth 20000 in
theorem gX0_holder_X0_needFerry : GoodIn wsX0_holder (wsV RX0 75 RX0 yX0_needFerry wsX0_needFerry) := goodIn_app (goodIn_of _ (by decide +kernel)) ggX0_holder_X0_needFerry
set_option maxRecDepth 20000 in
theorem ggX0_holder_X0_needWatch : GoodIn wsX0_holder wsX0_needWatch := goodIn_ca (goodIn_r _ [14, 9, 10] (by decide +kernel) (by decide +kernel)) (goodIn_sub (fun _ h => List.mem_cons_of_mem _ (List.mem_append_right _ h)) (by decide +kernel))
set_option maxRecDepth 20000 in
theorem gX0_holder_X0_needWatch : GoodIn wsX0_holder (va_wsS RX0 78 yX0_needWatch wsX0_needWatch) := goodIn_app (goodIn_of _ (by decide +kernel)) ggX0_holder_X0_needWatch
set_option maxRecDepth 20000 in
theorem ggX0_holder_X0_owns : GoodIn wsX0_holder wsX0_owns := goodIn_r _ [18, 19, 20, 21, 7, 22, 23, 24, 25, 26, 27, 28, 29, 30, 31, 32] (by decide +kernel) (by decide +kernel)
set_option maxRecDepth 20000 in
theorem gX0_holder_X0_owns : GoodIn wsX0_holder (wsV RX0 96 RX0 yX0_owns wsX0_owns) := goodIn_app (goodIn_of _ (by decide +kernel)) ggX0_holder_X0_owns
theorem dX0_holder_0 : decode cX0_holder 0 = .ok (.aload_n 0, 1) := by decide +kernel
theorem dX0_holder_1 : decode cX0_holder 1 = .ok (.iload_n 1, 1) := by decide +kernel
theorem dX0_holder_2 : decode cX0_holder 2 = .ok (.invokevirtual 75, 3) := by decide +kernel
theorem dX0_holder_5 : decode cX0_holder 5 = .ok (.iload_n 2, 1) := by decide +kernel
theorem dX0_holder_6 : decode cX0_holder 6 = .ok (.invokestatic 78, 3) := by decide +kernel
theorem dX0_holder_9 : decode cX0_holder 9 = .ok (.iconst (-1), 1) := by decide +kernel
theorem dX0_holder_10 : decode cX0_holder 10 = .ok (.istore_n 3, 1) := by decide +kernel
theorem dX0_holder_11 : decode cX0_holder 11 = .ok (.iconst 0, 1) := by decide +kernel
theorem dX0_holder_12 : decode cX0_holder 12 = .ok (.istore 4, 2) := by decide +kernel
theorem dX0_holder_14 : decode cX0_holder 14 = .ok (.iconst 0, 1) := by decide +kernel
theorem dX0_holder_15 : decode cX0_holder 15 = .ok (.istore 5, 2) := by decide +kernel
theorem dX0_holder_17 : decode cX0_holder 17 = .ok (.iload 5, 2) := by decide +kernel
theorem dX0_holder_19 : decode cX0_holder 19 = .ok (.aload_n 0, 1) := by decide +kernel
theorem dX0_holder_20 : decode cX0_holder 20 = .ok (.getfield 23, 3) := by decide +kernel
theorem dX0_holder_23 : decode cX0_holder 23 = .ok (.if_icmp .ge 33, 3) := by decide +kernel
theorem dX0_holder_26 : decode cX0_holder 26 = .ok (.aload_n 0, 1) := by decide +kernel
theorem dX0_holder_27 : decode cX0_holder 27 = .ok (.iload_n 1, 1) := by decide +kernel
theorem dX0_holder_28 : decode cX0_holder 28 = .ok (.iload_n 2, 1) := by decide +kernel
theorem dX0_holder_29 : decode cX0_holder 29 = .ok (.iload 5, 2) := by decide +kernel
theorem dX0_holder_31 : decode cX0_holder 31 = .ok (.invokevirtual 96, 3) := by decide +kernel
theorem dX0_holder_34 : decode cX0_holder 34 = .ok (.istore 6, 2) := by decide +kernel
theorem dX0_holder_36 : decode cX0_holder 36 = .ok (.iload 6, 2) := by decide +kernel
theorem dX0_holder_38 : decode cX0_holder 38 = .ok (.iload 4, 2) := by decide +kernel
theorem dX0_holder_40 : decode cX0_holder 40 = .ok (.if_icmp .le 10, 3) := by decide +kernel
theorem dX0_holder_43 : decode cX0_holder 43 = .ok (.iload 5, 2) := by decide +kernel
theorem dX0_holder_45 : decode cX0_holder 45 = .ok (.istore_n 3, 1) := by decide +kernel
theorem dX0_holder_46 : decode cX0_holder 46 = .ok (.iload 6, 2) := by decide +kernel
theorem dX0_holder_48 : decode cX0_holder 48 = .ok (.istore 4, 2) := by decide +kernel
theorem dX0_holder_50 : decode cX0_holder 50 = .ok (.iinc 5 1, 3) := by decide +kernel
theorem dX0_holder_53 : decode cX0_holder 53 = .ok (.goto (-36), 3) := by decide +kernel
theorem dX0_holder_56 : decode cX0_holder 56 = .ok (.iload_n 3, 1) := by decide +kernel
theorem dX0_holder_57 : decode cX0_holder 57 = .ok (.iconst (-1), 1) := by decide +kernel
theorem dX0_holder_58 : decode cX0_holder 58 = .ok (.if_icmp .ne 13, 3) := by decide +kernel
theorem dX0_holder_61 : decode cX0_holder 61 = .ok (.new 46, 3) := by decide +kernel
theorem dX0_holder_64 : decode cX0_holder 64 = .ok (.dup, 1) := by decide +kernel
theorem dX0_holder_65 : decode cX0_holder 65 = .ok (.ldc 142, 2) := by decide +kernel
theorem dX0_holder_67 : decode cX0_holder 67 = .ok (.invokespecial 50, 3) := by decide +kernel
theorem dX0_holder_70 : decode cX0_holder 70 = .ok (.athrow, 1) := by decide +kernel
theorem dX0_holder_71 : decode cX0_holder 71 = .ok (.iload_n 3, 1) := by decide +kernel
theorem dX0_holder_72 : decode cX0_holder 72 = .ok (.ireturn, 1) := by decide +kernel
set_option maxRecDepth 20000 in
theorem ggX0_master_X0_needFerry : GoodIn wsX0_master wsX0_needFerry := goodIn_ca (goodIn_r _ [7, 8, 9, 10, 28, 29, 30, 31, 32, 33, 34, 35, 36, 37] (by decide +kernel) (by decide +kernel)) (goodIn_sub (fun _ h => List.mem_cons_of_mem _ (List.mem_append_right _ h)) (by decide +kernel))
set_option maxRecDepth 20000 in
theorem gX0_master_X0_needFerry : GoodIn wsX0_master (wsV RX0 75 RX0 yX0_needFerry wsX0_needFerry) := goodIn_app (goodIn_of _ (by decide +kernel)) ggX0_master_X0_needFerry
set_option maxRecDepth 20000 in
theorem ggX0_master_X0_findMaster : GoodIn wsX0_master wsX0_findMaster := goodIn_r _ [14, 15, 16, 17, 18, 6, 19, 20, 21, 22, 23, 24, 25, 26, 27, 28, 29, 30, 31, 32, 33, 34, 35, 36, 37] (by decide +kernel) (by decide +kernel)
set_option maxRecDepth 20000 in
theorem gX0_master_X0_findMaster : GoodIn wsX0_master (wsV RX0 114 RX0 yX0_findMaster wsX0_findMaster) := goodIn_app (goodIn_of _ (by decide +kernel)) ggX0_master_X0_findMaster
theorem dX0_master_0 : decode cX0_master 0 = .ok (.aload_n 0, 1) := by decide +kernel
theorem dX0_master_1 : decode cX0_master 1 = .ok (.iload_n 1, 1) := by decide +kernel
theorem dX0_master_2 : decode cX0_master 2 = .ok (.invokevirtual 75, 3) := by decide +kernel
theorem dX0_master_5 : decode cX0_master 5 = .ok (.aload_n 0, 1) := by decide +kernel
theorem dX0_master_6 : decode cX0_master 6 = .ok (.iload_n 1, 1) := by decide +kernel
theorem dX0_master_7 : decode cX0_master 7 = .ok (.invokevirtual 114, 3) := by decide +kernel
theorem dX0_master_10 : decode cX0_master 10 = .ok (.istore_n 2, 1) := by decide +kernel
theorem dX0_master_11 : decode cX0_master 11 = .ok (.iload_n 2, 1) := by decide +kernel
theorem dX0_master_12 : decode cX0_master 12 = .ok (.iconst (-1), 1) := by decide +kernel
theorem dX0_master_13 : decode cX0_master 13 = .ok (.if_icmp .ne 13, 3) := by decide +kernel
theorem dX0_master_16 : decode cX0_master 16 = .ok (.new 46, 3) := by decide +kernel
theorem dX0_master_19 : decode cX0_master 19 = .ok (.dup, 1) := by decide +kernel
theorem dX0_master_20 : decode cX0_master 20 = .ok (.ldc 144, 2) := by decide +kernel
theorem dX0_master_22 : decode cX0_master 22 = .ok (.invokespecial 50, 3) := by decide +kernel
theorem dX0_master_25 : decode cX0_master 25 = .ok (.athrow, 1) := by decide +kernel
theorem dX0_master_26 : decode cX0_master 26 = .ok (.iload_n 2, 1) := by decide +kernel
theorem dX0_master_27 : decode cX0_master 27 = .ok (.ireturn, 1) := by decide +kernel
set_option maxRecDepth 20000 in
theorem ggX0_hasMaster_X0_needFerry : GoodIn wsX0_hasMaster wsX0_needFerry := goodIn_ca (goodIn_r _ [5, 6, 7, 8, 26, 27, 28, 29, 30, 31, 32, 33, 34, 35] (by decide +kernel) (by decide +kernel)) (goodIn_sub (fun _ h => List.mem_cons_of_mem _ (List.mem_append_right _ h)) (by decide +kernel))
set_option maxRecDepth 20000 in
theorem gX0_hasMaster_X0_needFerry : GoodIn wsX0_hasMaster (wsV RX0 75 RX0 yX0_needFerry wsX0_needFerry) := goodIn_app (goodIn_of _ (by decide +kernel)) ggX0_hasMaster_X0_needFerry
set_option maxRecDepth 20000 in
theorem ggX0_hasMaster_X0_findMaster : GoodIn wsX0_hasMaster wsX0_findMaster := goodIn_r _ [12, 13, 14, 15, 16, 4, 17, 18, 19, 20, 21, 22, 23, 24, 25, 26, 27, 28, 29, 30, 31, 32, 33, 34, 35] (by decide +kernel) (by decide +kernel)
set_option maxRecDepth 20000 in
theorem gX0_hasMaster_X0_findMaster : GoodIn wsX0_hasMaster (wsV RX0 114 RX0 yX0_findMaster wsX0_findMaster) := goodIn_app (goodIn_of _ (by decide +kernel)) ggX0_hasMaster_X0_findMaster
theorem dX0_hasMaster_0 : decode cX0_hasMaster 0 = .ok (.aload_n 0, 1) := by decide +kernel
theorem dX0_hasMaster_1 : decode cX0_hasMaster 1 = .ok (.iload_n 1, 1) := by decide +kernel
theorem dX0_hasMaster_2 : decode cX0_hasMaster 2 = .ok (.invokevirtual 75, 3) := by decide +kernel
theorem dX0_hasMaster_5 : decode cX0_hasMaster 5 = .ok (.aload_n 0, 1) := by decide +kernel
theorem dX0_hasMaster_6 : decode cX0_hasMaster 6 = .ok (.iload_n 1, 1) := by decide +kernel
theorem dX0_hasMaster_7 : decode cX0_hasMaster 7 = .ok (.invokevirtual 114, 3) := by decide +kernel
theorem dX0_hasMaster_10 : decode cX0_hasMaster 10 = .ok (.iconst (-1), 1) := by decide +kernel
theorem dX0_hasMaster_11 : decode cX0_hasMaster 11 = .ok (.if_icmp .eq 7, 3) := by decide +kernel
theorem dX0_hasMaster_14 : decode cX0_hasMaster 14 = .ok (.iconst 1, 1) := by decide +kernel
theorem dX0_hasMaster_15 : decode cX0_hasMaster 15 = .ok (.goto 4, 3) := by decide +kernel
theorem dX0_hasMaster_18 : decode cX0_hasMaster 18 = .ok (.iconst 0, 1) := by decide +kernel
theorem dX0_hasMaster_19 : decode cX0_hasMaster 19 = .ok (.ireturn, 1) := by decide +kernel
set_option maxRecDepth 20000 in
theorem ggX0_shareValue_X0_needFerry : GoodIn wsX0_shareValue wsX0_needFerry := goodIn_ca (goodIn_r _ [5, 6, 7, 8, 18, 19, 20, 21, 22, 23, 24, 25, 26, 27] (by decide +kernel) (by decide +kernel)) (goodIn_sub (fun _ h => List.mem_cons_of_mem _ (List.mem_append_right _ h)) (by decide +kernel))
set_option maxRecDepth 20000 in
theorem gX0_shareValue_X0_needFerry : GoodIn wsX0_shareValue (wsV RX0 75 RX0 yX0_needFerry wsX0_needFerry) := goodIn_app (goodIn_of _ (by decide +kernel)) ggX0_shareValue_X0_needFerry
set_option maxRecDepth 20000 in
theorem ggX0_shareValue_X0_needWatch : GoodIn wsX0_shareValue wsX0_needWatch := goodIn_ca (goodIn_r _ [11, 6, 7] (by decide +kernel) (by decide +kernel)) (goodIn_sub (fun _ h => List.mem_cons_of_mem _ (List.mem_append_right _ h)) (by decide +kernel))
set_option maxRecDepth 20000 in
theorem gX0_shareValue_X0_needWatch : GoodIn wsX0_shareValue (va_wsS RX0 78 yX0_needWatch wsX0_needWatch) := goodIn_app (goodIn_of _ (by decide +kernel)) ggX0_shareValue_X0_needWatch
set_option maxRecDepth 20000 in
theorem ggX0_shareValue_X0_worth : GoodIn wsX0_shareValue wsX0_worth := goodIn_r _ [15, 16, 17, 18, 19, 20, 21, 22, 23, 24, 25, 26, 27] (by decide +kernel) (by decide +kernel)
set_option maxRecDepth 20000 in
theorem gX0_shareValue_X0_worth : GoodIn wsX0_shareValue (wsV RX0 146 RX0 yX0_worth wsX0_worth) := goodIn_app (goodIn_of _ (by decide +kernel)) ggX0_shareValue_X0_worth
theorem dX0_shareValue_0 : decode cX0_shareValue 0 = .ok (.aload_n 0, 1) := by decide +kernel
theorem dX0_shareValue_1 : decode cX0_shareValue 1 = .ok (.iload_n 1, 1) := by decide +kernel
theorem dX0_shareValue_2 : decode cX0_shareValue 2 = .ok (.invokevirtual 75, 3) := by decide +kernel
theorem dX0_shareValue_5 : decode cX0_shareValue 5 = .ok (.iload_n 2, 1) := by decide +kernel
theorem dX0_shareValue_6 : decode cX0_shareValue 6 = .ok (.invokestatic 78, 3) := by decide +kernel
theorem dX0_shareValue_9 : decode cX0_shareValue 9 = .ok (.aload_n 0, 1) := by decide +kernel
theorem dX0_shareValue_10 : decode cX0_shareValue 10 = .ok (.iload_n 1, 1) := by decide +kernel
theorem dX0_shareValue_11 : decode cX0_shareValue 11 = .ok (.iload_n 2, 1) := by decide +kernel
theorem dX0_shareValue_12 : decode cX0_shareValue 12 = .ok (.invokevirtual 146, 3) := by decide +kernel
theorem dX0_shareValue_15 : decode cX0_shareValue 15 = .ok (.ireturn, 1) := by decide +kernel
set_option maxRecDepth 20000 in
theorem ggX0_watchAt_X0_needHour : GoodIn wsX0_watchAt wsX0_needHour := goodIn_ca (goodIn_r _ [4, 5, 6] (by decide +kernel) (by decide +kernel)) (goodIn_sub (fun _ h => List.mem_cons_of_mem _ (List.mem_append_right _ h)) (by decide +kernel))
set_option maxRecDepth 20000 in
theorem gX0_watchAt_X0_needHour : GoodIn wsX0_watchAt (va_wsS RX0 119 yX0_needHour wsX0_needHour) := goodIn_app (goodIn_of _ (by decide +kernel)) ggX0_watchAt_X0_needHour
theorem dX0_watchAt_0 : decode cX0_watchAt 0 = .ok (.iload_n 1, 1) := by decide +kernel
theorem dX0_watchAt_1 : decode cX0_watchAt 1 = .ok (.invokestatic 119, 3) := by decide +kernel
theorem dX0_watchAt_4 : decode cX0_watchAt 4 = .ok (.iload_n 1, 1) := by decide +kernel
theorem dX0_watchAt_5 : decode cX0_watchAt 5 = .ok (.bipush 6, 2) := by decide +kernel
theorem dX0_watchAt_7 : decode cX0_watchAt 7 = .ok (.idiv, 1) := by decide +kernel
theorem dX0_watchAt_8 : decode cX0_watchAt 8 = .ok (.ireturn, 1) := by decide +kernel
theorem dX0_people_0 : decode cX0_people 0 = .ok (.aload_n 0, 1) := by decide +kernel
theorem dX0_people_1 : decode cX0_people 1 = .ok (.getfield 23, 3) := by decide +kernel
theorem dX0_people_4 : decode cX0_people 4 = .ok (.ireturn, 1) := by decide +kernel
theorem dX0_living_0 : decode cX0_living 0 = .ok (.iconst 0, 1) := by decide +kernel
theorem dX0_living_1 : decode cX0_living 1 = .ok (.istore_n 1, 1) := by decide +kernel
theorem dX0_living_2 : decode cX0_living 2 = .ok (.iconst 0, 1) := by decide +kernel
theorem dX0_living_3 : decode cX0_living 3 = .ok (.istore_n 2, 1) := by decide +kernel
theorem dX0_living_4 : decode cX0_living 4 = .ok (.iload_n 2, 1) := by decide +kernel
theorem dX0_living_5 : decode cX0_living 5 = .ok (.aload_n 0, 1) := by decide +kernel
theorem dX0_living_6 : decode cX0_living 6 = .ok (.getfield 23, 3) := by decide +kernel
theorem dX0_living_9 : decode cX0_living 9 = .ok (.if_icmp .ge 21, 3) := by decide +kernel
theorem dX0_living_12 : decode cX0_living 12 = .ok (.aload_n 0, 1) := by decide +kernel
theorem dX0_living_13 : decode cX0_living 13 = .ok (.getfield 26, 3) := by decide +kernel
theorem dX0_living_16 : decode cX0_living 16 = .ok (.iload_n 2, 1) := by decide +kernel
theorem dX0_living_17 : decode cX0_living 17 = .ok (.baload, 1) := by decide +kernel
theorem dX0_living_18 : decode cX0_living 18 = .ok (.ifCond .eq 6, 3) := by decide +kernel
theorem dX0_living_21 : decode cX0_living 21 = .ok (.iinc 1 1, 3) := by decide +kernel
theorem dX0_living_24 : decode cX0_living 24 = .ok (.iinc 2 1, 3) := by decide +kernel
theorem dX0_living_27 : decode cX0_living 27 = .ok (.goto (-23), 3) := by decide +kernel
theorem dX0_living_30 : decode cX0_living 30 = .ok (.iload_n 1, 1) := by decide +kernel
theorem dX0_living_31 : decode cX0_living 31 = .ok (.ireturn, 1) := by decide +kernel
set_option maxRecDepth 20000 in
theorem ggX0_isAlive_X0_needPerson : GoodIn wsX0_isAlive wsX0_needPerson := goodIn_ca (goodIn_r _ [6, 7, 8, 9, 10, 11, 12, 13, 14, 15, 16, 17, 18, 19] (by decide +kernel) (by decide +kernel)) (goodIn_sub (fun _ h => List.mem_cons_of_mem _ (List.mem_append_right _ h)) (by decide +kernel))
set_option maxRecDepth 20000 in
theorem gX0_isAlive_X0_needPerson : GoodIn wsX0_isAlive (wsV RX0 60 RX0 yX0_needPerson wsX0_needPerson) := goodIn_app (goodIn_of _ (by decide +kernel)) ggX0_isAlive_X0_needPerson
theorem dX0_isAlive_0 : decode cX0_isAlive 0 = .ok (.aload_n 0, 1) := by decide +kernel
theorem dX0_isAlive_1 : decode cX0_isAlive 1 = .ok (.iload_n 1, 1) := by decide +kernel
theorem dX0_isAlive_2 : decode cX0_isAlive 2 = .ok (.invokevirtual 60, 3) := by decide +kernel
theorem dX0_isAlive_5 : decode cX0_isAlive 5 = .ok (.aload_n 0, 1) := by decide +kernel
theorem dX0_isAlive_6 : decode cX0_isAlive 6 = .ok (.getfield 26, 3) := by decide +kernel
theorem dX0_isAlive_9 : decode cX0_isAlive 9 = .ok (.iload_n 1, 1) := by decide +kernel
theorem dX0_isAlive_10 : decode cX0_isAlive 10 = .ok (.baload, 1) := by decide +kernel
theorem dX0_isAlive_11 : decode cX0_isAlive 11 = .ok (.ireturn, 1) := by decide +kernel
set_option maxRecDepth 20000 in
theorem ggX0_coins_X0_needPerson : GoodIn wsX0_coins wsX0_needPerson := goodIn_ca (goodIn_r _ [6, 7, 8, 9, 10, 11, 12, 13, 14, 15, 16, 17, 18, 19] (by decide +kernel) (by decide +kernel)) (goodIn_sub (fun _ h => List.mem_cons_of_mem _ (List.mem_append_right _ h)) (by decide +kernel))
set_option maxRecDepth 20000 in
theorem gX0_coins_X0_needPerson : GoodIn wsX0_coins (wsV RX0 60 RX0 yX0_needPerson wsX0_needPerson) := goodIn_app (goodIn_of _ (by decide +kernel)) ggX0_coins_X0_needPerson
theorem dX0_coins_0 : decode cX0_coins 0 = .ok (.aload_n 0, 1) := by decide +kernel
theorem dX0_coins_1 : decode cX0_coins 1 = .ok (.iload_n 1, 1) := by decide +kernel
theorem dX0_coins_2 : decode cX0_coins 2 = .ok (.invokevirtual 60, 3) := by decide +kernel
theorem dX0_coins_5 : decode cX0_coins 5 = .ok (.aload_n 0, 1) := by decide +kernel
theorem dX0_coins_6 : decode cX0_coins 6 = .ok (.getfield 30, 3) := by decide +kernel
theorem dX0_coins_9 : decode cX0_coins 9 = .ok (.iload_n 1, 1) := by decide +kernel
theorem dX0_coins_10 : decode cX0_coins 10 = .ok (.iaload, 1) := by decide +kernel
theorem dX0_coins_11 : decode cX0_coins 11 = .ok (.ireturn, 1) := by decide +kernel
set_option maxRecDepth 20000 in
theorem ggX0_earned_X0_needPerson : GoodIn wsX0_earned wsX0_needPerson := goodIn_ca (goodIn_r _ [6, 7, 8, 9, 10, 11, 12, 13, 14, 15, 16, 17, 18, 19] (by decide +kernel) (by decide +kernel)) (goodIn_sub (fun _ h => List.mem_cons_of_mem _ (List.mem_append_right _ h)) (by decide +kernel))
set_option maxRecDepth 20000 in
theorem gX0_earned_X0_needPerson : GoodIn wsX0_earned (wsV RX0 60 RX0 yX0_needPerson wsX0_needPerson) := goodIn_app (goodIn_of _ (by decide +kernel)) ggX0_earned_X0_needPerson
theorem dX0_earned_0 : decode cX0_earned 0 = .ok (.aload_n 0, 1) := by decide +kernel
theorem dX0_earned_1 : decode cX0_earned 1 = .ok (.iload_n 1, 1) := by decide +kernel
theorem dX0_earned_2 : decode cX0_earned 2 = .ok (.invokevirtual 60, 3) := by decide +kernel
theorem dX0_earned_5 : decode cX0_earned 5 = .ok (.aload_n 0, 1) := by decide +kernel
theorem dX0_earned_6 : decode cX0_earned 6 = .ok (.getfield 33, 3) := by decide +kernel
theorem dX0_earned_9 : decode cX0_earned 9 = .ok (.iload_n 1, 1) := by decide +kernel
theorem dX0_earned_10 : decode cX0_earned 10 = .ok (.iaload, 1) := by decide +kernel
theorem dX0_earned_11 : decode cX0_earned 11 = .ok (.ireturn, 1) := by decide +kernel
set_option maxRecDepth 20000 in
theorem ggX0_allShares_X0_needPerson : GoodIn wsX0_allShares wsX0_needPerson := goodIn_ca (goodIn_r _ [5, 6, 7, 8, 26, 27, 28, 29, 30, 31, 32, 33, 34, 35] (by decide +kernel) (by decide +kernel)) (goodIn_sub (fun _ h => List.mem_cons_of_mem _ (List.mem_append_right _ h)) (by decide +kernel))
set_option maxRecDepth 20000 in
theorem gX0_allShares_X0_needPerson : GoodIn wsX0_allShares (wsV RX0 60 RX0 yX0_needPerson wsX0_needPerson) := goodIn_app (goodIn_of _ (by decide +kernel)) ggX0_allShares_X0_needPerson
set_option maxRecDepth 20000 in
theorem ggX0_allShares_X0_countAllShares : GoodIn wsX0_allShares wsX0_countAllShares := goodIn_r _ [12, 13, 14, 15, 16, 4, 17, 18, 19, 20, 21, 22, 23, 24, 25, 26, 27, 28, 29, 30, 31, 32, 33, 34, 35] (by decide +kernel) (by decide +kernel)
set_option maxRecDepth 20000 in
theorem gX0_allShares_X0_countAllShares : GoodIn wsX0_allShares (wsV RX0 149 RX0 yX0_countAllShares wsX0_countAllShares) := goodIn_app (goodIn_of _ (by decide +kernel)) ggX0_allShares_X0_countAllShares
theorem dX0_allShares_0 : decode cX0_allShares 0 = .ok (.aload_n 0, 1) := by decide +kernel
theorem dX0_allShares_1 : decode cX0_allShares 1 = .ok (.iload_n 1, 1) := by decide +kernel
theorem dX0_allShares_2 : decode cX0_allShares 2 = .ok (.invokevirtual 60, 3) := by decide +kernel
theorem dX0_allShares_5 : decode cX0_allShares 5 = .ok (.aload_n 0, 1) := by decide +kernel
theorem dX0_allShares_6 : decode cX0_allShares 6 = .ok (.iload_n 1, 1) := by decide +kernel
theorem dX0_allShares_7 : decode cX0_allShares 7 = .ok (.invokevirtual 149, 3) := by decide +kernel
theorem dX0_allShares_10 : decode cX0_allShares 10 = .ok (.ireturn, 1) := by decide +kernel
set_option maxRecDepth 20000 in
theorem ggX0_hasParent_X0_needPerson : GoodIn wsX0_hasParent wsX0_needPerson := goodIn_ca (goodIn_r _ [6, 7, 8, 9, 10, 11, 12, 13, 14, 15, 16, 17, 18, 19] (by decide +kernel) (by decide +kernel)) (goodIn_sub (fun _ h => List.mem_cons_of_mem _ (List.mem_append_right _ h)) (by decide +kernel))
set_option maxRecDepth 20000 in
theorem gX0_hasParent_X0_needPerson : GoodIn wsX0_hasParent (wsV RX0 60 RX0 yX0_needPerson wsX0_needPerson) := goodIn_app (goodIn_of _ (by decide +kernel)) ggX0_hasParent_X0_needPerson
theorem dX0_hasParent_0 : decode cX0_hasParent 0 = .ok (.aload_n 0, 1) := by decide +kernel
theorem dX0_hasParent_1 : decode cX0_hasParent 1 = .ok (.iload_n 1, 1) := by decide +kernel
theorem dX0_hasParent_2 : decode cX0_hasParent 2 = .ok (.invokevirtual 60, 3) := by decide +kernel
theorem dX0_hasParent_5 : decode cX0_hasParent 5 = .ok (.aload_n 0, 1) := by decide +kernel
theorem dX0_hasParent_6 : decode cX0_hasParent 6 = .ok (.getfield 36, 3) := by decide +kernel
theorem dX0_hasParent_9 : decode cX0_hasParent 9 = .ok (.iload_n 1, 1) := by decide +kernel
theorem dX0_hasParent_10 : decode cX0_hasParent 10 = .ok (.iaload, 1) := by decide +kernel
theorem dX0_hasParent_11 : decode cX0_hasParent 11 = .ok (.iconst (-1), 1) := by decide +kernel
theorem dX0_hasParent_12 : decode cX0_hasParent 12 = .ok (.if_icmp .eq 7, 3) := by decide +kernel
theorem dX0_hasParent_15 : decode cX0_hasParent 15 = .ok (.iconst 1, 1) := by decide +kernel
theorem dX0_hasParent_16 : decode cX0_hasParent 16 = .ok (.goto 4, 3) := by decide +kernel
theorem dX0_hasParent_19 : decode cX0_hasParent 19 = .ok (.iconst 0, 1) := by decide +kernel
theorem dX0_hasParent_20 : decode cX0_hasParent 20 = .ok (.ireturn, 1) := by decide +kernel
set_option maxRecDepth 20000 in
theorem ggX0_parent_X0_needPerson : GoodIn wsX0_parent wsX0_needPerson := goodIn_ca (goodIn_r _ [8, 9, 10, 11, 12, 13, 14, 15, 16, 17, 18, 19, 20, 21] (by decide +kernel) (by decide +kernel)) (goodIn_sub (fun _ h => List.mem_cons_of_mem _ (List.mem_append_right _ h)) (by decide +kernel))
set_option maxRecDepth 20000 in
theorem gX0_parent_X0_needPerson : GoodIn wsX0_parent (wsV RX0 60 RX0 yX0_needPerson wsX0_needPerson) := goodIn_app (goodIn_of _ (by decide +kernel)) ggX0_parent_X0_needPerson
theorem dX0_parent_0 : decode cX0_parent 0 = .ok (.aload_n 0, 1) := by decide +kernel
theorem dX0_parent_1 : decode cX0_parent 1 = .ok (.iload_n 1, 1) := by decide +kernel
theorem dX0_parent_2 : decode cX0_parent 2 = .ok (.invokevirtual 60, 3) := by decide +kernel
theorem dX0_parent_5 : decode cX0_parent 5 = .ok (.aload_n 0, 1) := by decide +kernel
theorem dX0_parent_6 : decode cX0_parent 6 = .ok (.getfield 36, 3) := by decide +kernel
theorem dX0_parent_9 : decode cX0_parent 9 = .ok (.iload_n 1, 1) := by decide +kernel
theorem dX0_parent_10 : decode cX0_parent 10 = .ok (.iaload, 1) := by decide +kernel
theorem dX0_parent_11 : decode cX0_parent 11 = .ok (.iconst (-1), 1) := by decide +kernel
theorem dX0_parent_12 : decode cX0_parent 12 = .ok (.if_icmp .ne 13, 3) := by decide +kernel
theorem dX0_parent_15 : decode cX0_parent 15 = .ok (.new 46, 3) := by decide +kernel
theorem dX0_parent_18 : decode cX0_parent 18 = .ok (.dup, 1) := by decide +kernel
theorem dX0_parent_19 : decode cX0_parent 19 = .ok (.ldc 152, 2) := by decide +kernel
theorem dX0_parent_21 : decode cX0_parent 21 = .ok (.invokespecial 50, 3) := by decide +kernel
theorem dX0_parent_24 : decode cX0_parent 24 = .ok (.athrow, 1) := by decide +kernel
theorem dX0_parent_25 : decode cX0_parent 25 = .ok (.aload_n 0, 1) := by decide +kernel
theorem dX0_parent_26 : decode cX0_parent 26 = .ok (.getfield 36, 3) := by decide +kernel
theorem dX0_parent_29 : decode cX0_parent 29 = .ok (.iload_n 1, 1) := by decide +kernel
theorem dX0_parent_30 : decode cX0_parent 30 = .ok (.iaload, 1) := by decide +kernel
theorem dX0_parent_31 : decode cX0_parent 31 = .ok (.ireturn, 1) := by decide +kernel
set_option maxRecDepth 20000 in
theorem ggX0_children_X0_needPerson : GoodIn wsX0_children wsX0_needPerson := goodIn_ca (goodIn_r _ [5, 6, 7, 8, 14, 15, 16, 17, 18, 19, 20, 21, 22, 23] (by decide +kernel) (by decide +kernel)) (goodIn_sub (fun _ h => List.mem_cons_of_mem _ (List.mem_append_right _ h)) (by decide +kernel))
set_option maxRecDepth 20000 in
theorem gX0_children_X0_needPerson : GoodIn wsX0_children (wsV RX0 60 RX0 yX0_needPerson wsX0_needPerson) := goodIn_app (goodIn_of _ (by decide +kernel)) ggX0_children_X0_needPerson
set_option maxRecDepth 20000 in
theorem ggX0_children_X0_countChildren : GoodIn wsX0_children wsX0_countChildren := goodIn_r _ [12, 8, 13, 14, 15, 16, 17, 18, 19, 20, 21, 22, 23] (by decide +kernel) (by decide +kernel)
set_option maxRecDepth 20000 in
theorem gX0_children_X0_countChildren : GoodIn wsX0_children (wsV RX0 154 RX0 yX0_countChildren wsX0_countChildren) := goodIn_app (goodIn_of _ (by decide +kernel)) ggX0_children_X0_countChildren
theorem dX0_children_0 : decode cX0_children 0 = .ok (.aload_n 0, 1) := by decide +kernel
theorem dX0_children_1 : decode cX0_children 1 = .ok (.iload_n 1, 1) := by decide +kernel
theorem dX0_children_2 : decode cX0_children 2 = .ok (.invokevirtual 60, 3) := by decide +kernel
theorem dX0_children_5 : decode cX0_children 5 = .ok (.aload_n 0, 1) := by decide +kernel
theorem dX0_children_6 : decode cX0_children 6 = .ok (.iload_n 1, 1) := by decide +kernel
theorem dX0_children_7 : decode cX0_children 7 = .ok (.invokevirtual 154, 3) := by decide +kernel
theorem dX0_children_10 : decode cX0_children 10 = .ok (.ireturn, 1) := by decide +kernel
set_option maxRecDepth 20000 in
theorem ggX0_heirs_X0_needPerson : GoodIn wsX0_heirs wsX0_needPerson := goodIn_ca (goodIn_r _ [5, 6, 7, 8, 27, 28, 29, 30, 31, 32, 33, 34, 35, 36] (by decide +kernel) (by decide +kernel)) (goodIn_sub (fun _ h => List.mem_cons_of_mem _ (List.mem_append_right _ h)) (by decide +kernel))
set_option maxRecDepth 20000 in
theorem gX0_heirs_X0_needPerson : GoodIn wsX0_heirs (wsV RX0 60 RX0 yX0_needPerson wsX0_needPerson) := goodIn_app (goodIn_of _ (by decide +kernel)) ggX0_heirs_X0_needPerson
set_option maxRecDepth 20000 in
theorem ggX0_heirs_X0_countHeirs : GoodIn wsX0_heirs wsX0_countHeirs := goodIn_r _ [12, 8, 13, 14, 15, 4, 16, 17, 18, 19, 20, 21, 22, 23, 24, 25, 26, 27, 28, 29, 30, 31, 32, 33, 34, 35, 36] (by decide +kernel) (by decide +kernel)
set_option maxRecDepth 20000 in
theorem gX0_heirs_X0_countHeirs : GoodIn wsX0_heirs (wsV RX0 129 RX0 yX0_countHeirs wsX0_countHeirs) := goodIn_app (goodIn_of _ (by decide +kernel)) ggX0_heirs_X0_countHeirs
theorem dX0_heirs_0 : decode cX0_heirs 0 = .ok (.aload_n 0, 1) := by decide +kernel
theorem dX0_heirs_1 : decode cX0_heirs 1 = .ok (.iload_n 1, 1) := by decide +kernel
theorem dX0_heirs_2 : decode cX0_heirs 2 = .ok (.invokevirtual 60, 3) := by decide +kernel
theorem dX0_heirs_5 : decode cX0_heirs 5 = .ok (.aload_n 0, 1) := by decide +kernel
theorem dX0_heirs_6 : decode cX0_heirs 6 = .ok (.iload_n 1, 1) := by decide +kernel
theorem dX0_heirs_7 : decode cX0_heirs 7 = .ok (.invokevirtual 129, 3) := by decide +kernel
theorem dX0_heirs_10 : decode cX0_heirs 10 = .ok (.ireturn, 1) := by decide +kernel
set_option maxRecDepth 20000 in
theorem ggX0_heir_X0_needPerson : GoodIn wsX0_heir wsX0_needPerson := goodIn_ca (goodIn_r _ [7, 1, 2, 8, 23, 24, 25, 26, 27, 28, 29, 30, 31, 32] (by decide +kernel) (by decide +kernel)) (goodIn_sub (fun _ h => List.mem_cons_of_mem _ (List.mem_append_right _ h)) (by decide +kernel))
set_option maxRecDepth 20000 in
theorem gX0_heir_X0_needPerson : GoodIn wsX0_heir (wsV RX0 60 RX0 yX0_needPerson wsX0_needPerson) := goodIn_app (goodIn_of _ (by decide +kernel)) ggX0_heir_X0_needPerson
set_option maxRecDepth 20000 in
theorem ggX0_heir_X0_findHeir : GoodIn wsX0_heir wsX0_findHeir := goodIn_r _ [12, 8, 13, 14, 15, 6, 16, 17, 18, 19, 20, 21, 22, 23, 24, 25, 26, 27, 28, 29, 30, 31, 32] (by decide +kernel) (by decide +kernel)
set_option maxRecDepth 20000 in
theorem gX0_heir_X0_findHeir : GoodIn wsX0_heir (wsV RX0 157 RX0 yX0_findHeir wsX0_findHeir) := goodIn_app (goodIn_of _ (by decide +kernel)) ggX0_heir_X0_findHeir
theorem dX0_heir_0 : decode cX0_heir 0 = .ok (.aload_n 0, 1) := by decide +kernel
theorem dX0_heir_1 : decode cX0_heir 1 = .ok (.iload_n 1, 1) := by decide +kernel
theorem dX0_heir_2 : decode cX0_heir 2 = .ok (.invokevirtual 60, 3) := by decide +kernel
theorem dX0_heir_5 : decode cX0_heir 5 = .ok (.aload_n 0, 1) := by decide +kernel
theorem dX0_heir_6 : decode cX0_heir 6 = .ok (.iload_n 1, 1) := by decide +kernel
theorem dX0_heir_7 : decode cX0_heir 7 = .ok (.iload_n 2, 1) := by decide +kernel
theorem dX0_heir_8 : decode cX0_heir 8 = .ok (.invokevirtual 157, 3) := by decide +kernel
theorem dX0_heir_11 : decode cX0_heir 11 = .ok (.istore_n 3, 1) := by decide +kernel
theorem dX0_heir_12 : decode cX0_heir 12 = .ok (.iload_n 3, 1) := by decide +kernel
theorem dX0_heir_13 : decode cX0_heir 13 = .ok (.iconst (-1), 1) := by decide +kernel
theorem dX0_heir_14 : decode cX0_heir 14 = .ok (.if_icmp .ne 13, 3) := by decide +kernel
theorem dX0_heir_17 : decode cX0_heir 17 = .ok (.new 160, 3) := by decide +kernel
theorem dX0_heir_20 : decode cX0_heir 20 = .ok (.dup, 1) := by decide +kernel
theorem dX0_heir_21 : decode cX0_heir 21 = .ok (.ldc 162, 2) := by decide +kernel
theorem dX0_heir_23 : decode cX0_heir 23 = .ok (.invokespecial 164, 3) := by decide +kernel
theorem dX0_heir_26 : decode cX0_heir 26 = .ok (.athrow, 1) := by decide +kernel
theorem dX0_heir_27 : decode cX0_heir 27 = .ok (.iload_n 3, 1) := by decide +kernel
theorem dX0_heir_28 : decode cX0_heir 28 = .ok (.ireturn, 1) := by decide +kernel
theorem dX0_crownCoins_0 : decode cX0_crownCoins 0 = .ok (.aload_n 0, 1) := by decide +kernel
theorem dX0_crownCoins_1 : decode cX0_crownCoins 1 = .ok (.getfield 39, 3) := by decide +kernel
theorem dX0_crownCoins_4 : decode cX0_crownCoins 4 = .ok (.ireturn, 1) := by decide +kernel
set_option maxRecDepth 20000 in
theorem ggX0_price_X0_needPerson : GoodIn wsX0_price wsX0_needPerson := goodIn_ca (goodIn_r _ [5, 6, 7, 8, 35, 36, 37, 38, 39, 40, 41, 42, 43, 44] (by decide +kernel) (by decide +kernel)) (goodIn_sub (fun _ h => List.mem_cons_of_mem _ (List.mem_append_right _ h)) (by decide +kernel))
set_option maxRecDepth 20000 in
theorem gX0_price_X0_needPerson : GoodIn wsX0_price (wsV RX0 60 RX0 yX0_needPerson wsX0_needPerson) := goodIn_app (goodIn_of _ (by decide +kernel)) ggX0_price_X0_needPerson
set_option maxRecDepth 20000 in
theorem ggX0_price_X0_needFerry : GoodIn wsX0_price wsX0_needFerry := goodIn_ca (goodIn_r _ [12, 6, 7, 13, 35, 36, 37, 38, 39, 40, 41, 42, 43, 44] (by decide +kernel) (by decide +kernel)) (goodIn_sub (fun _ h => List.mem_cons_of_mem _ (List.mem_append_right _ h)) (by decide +kernel))
set_option maxRecDepth 20000 in
theorem gX0_price_X0_needFerry : GoodIn wsX0_price (wsV RX0 75 RX0 yX0_needFerry wsX0_needFerry) := goodIn_app (goodIn_of _ (by decide +kernel)) ggX0_price_X0_needFerry
set_option maxRecDepth 20000 in
theorem ggX0_price_X0_needWatch : GoodIn wsX0_price wsX0_needWatch := goodIn_ca (goodIn_r _ [16, 6, 7] (by decide +kernel) (by decide +kernel)) (goodIn_sub (fun _ h => List.mem_cons_of_mem _ (List.mem_append_right _ h)) (by decide +kernel))
set_option maxRecDepth 20000 in
theorem gX0_price_X0_needWatch : GoodIn wsX0_price (va_wsS RX0 78 yX0_needWatch wsX0_needWatch) := goodIn_app (goodIn_of _ (by decide +kernel)) ggX0_price_X0_needWatch
set_option maxRecDepth 20000 in
theorem ggX0_price_X0_priceOf : GoodIn wsX0_price wsX0_priceOf := goodIn_r _ [20, 21, 22, 23, 4, 24, 25, 26, 27, 28, 29, 30, 31, 32, 33, 34, 35, 36, 37, 38, 39, 40, 41, 42, 43, 44] (by decide +kernel) (by decide +kernel)
set_option maxRecDepth 20000 in
theorem gX0_price_X0_priceOf : GoodIn wsX0_price (wsV RX0 111 RX0 yX0_priceOf wsX0_priceOf) := goodIn_app (goodIn_of _ (by decide +kernel)) ggX0_price_X0_priceOf
theorem dX0_price_0 : decode cX0_price 0 = .ok (.aload_n 0, 1) := by decide +kernel
theorem dX0_price_1 : decode cX0_price 1 = .ok (.iload_n 1, 1) := by decide +kernel
theorem dX0_price_2 : decode cX0_price 2 = .ok (.invokevirtual 60, 3) := by decide +kernel
theorem dX0_price_5 : decode cX0_price 5 = .ok (.aload_n 0, 1) := by decide +kernel
theorem dX0_price_6 : decode cX0_price 6 = .ok (.iload_n 2, 1) := by decide +kernel
theorem dX0_price_7 : decode cX0_price 7 = .ok (.invokevirtual 75, 3) := by decide +kernel
theorem dX0_price_10 : decode cX0_price 10 = .ok (.iload_n 3, 1) := by decide +kernel
theorem dX0_price_11 : decode cX0_price 11 = .ok (.invokestatic 78, 3) := by decide +kernel
theorem dX0_price_14 : decode cX0_price 14 = .ok (.aload_n 0, 1) := by decide +kernel
theorem dX0_price_15 : decode cX0_price 15 = .ok (.iload_n 1, 1) := by decide +kernel
theorem dX0_price_16 : decode cX0_price 16 = .ok (.iload_n 2, 1) := by decide +kernel
theorem dX0_price_17 : decode cX0_price 17 = .ok (.iload_n 3, 1) := by decide +kernel
theorem dX0_price_18 : decode cX0_price 18 = .ok (.invokevirtual 111, 3) := by decide +kernel
theorem dX0_price_21 : decode cX0_price 21 = .ok (.ireturn, 1) := by decide +kernel
set_option maxRecDepth 20000 in
theorem ggX0_canBuy_X0_needSale : GoodIn wsX0_canBuy wsX0_needSale := goodIn_ca (goodIn_r _ [5, 6, 7, 8, 4, 9, 10, 11, 12, 13, 14, 15, 16, 17, 18, 19, 20, 49, 50, 51, 52, 53, 54, 55, 56, 57, 58] (by decide +kernel) (by decide +kernel)) (goodIn_sub (fun _ h => List.mem_cons_of_mem _ (List.mem_append_right _ h)) (by decide +kernel))
set_option maxRecDepth 20000 in
theorem gX0_canBuy_X0_needSale : GoodIn wsX0_canBuy (wsV RX0 102 RX0 yX0_needSale wsX0_needSale) := goodIn_app (goodIn_of _ (by decide +kernel)) ggX0_canBuy_X0_needSale
set_option maxRecDepth 20000 in
theorem ggX0_canBuy_X0_mayBuy : GoodIn wsX0_canBuy wsX0_mayBuy := goodIn_r _ [24, 25, 26, 27, 28, 29, 4, 30, 31, 32, 33, 34, 35, 36, 37, 38, 39, 40, 41, 42, 43, 44, 45, 46, 47, 48, 12, 49, 50, 51, 52, 53, 54, 55, 56, 57, 58] (by decide +kernel) (by decide +kernel)
set_option maxRecDepth 20000 in
theorem gX0_canBuy_X0_mayBuy : GoodIn wsX0_canBuy (wsV RX0 105 RX0 yX0_mayBuy wsX0_mayBuy) := goodIn_app (goodIn_of _ (by decide +kernel)) ggX0_canBuy_X0_mayBuy
theorem dX0_canBuy_0 : decode cX0_canBuy 0 = .ok (.aload_n 0, 1) := by decide +kernel
theorem dX0_canBuy_1 : decode cX0_canBuy 1 = .ok (.iload_n 1, 1) := by decide +kernel
theorem dX0_canBuy_2 : decode cX0_canBuy 2 = .ok (.iload_n 2, 1) := by decide +kernel
theorem dX0_canBuy_3 : decode cX0_canBuy 3 = .ok (.iload_n 3, 1) := by decide +kernel
theorem dX0_canBuy_4 : decode cX0_canBuy 4 = .ok (.iload 4, 2) := by decide +kernel
theorem dX0_canBuy_6 : decode cX0_canBuy 6 = .ok (.invokevirtual 102, 3) := by decide +kernel
theorem dX0_canBuy_9 : decode cX0_canBuy 9 = .ok (.aload_n 0, 1) := by decide +kernel
theorem dX0_canBuy_10 : decode cX0_canBuy 10 = .ok (.iload_n 1, 1) := by decide +kernel
theorem dX0_canBuy_11 : decode cX0_canBuy 11 = .ok (.iload_n 2, 1) := by decide +kernel
theorem dX0_canBuy_12 : decode cX0_canBuy 12 = .ok (.iload_n 3, 1) := by decide +kernel
theorem dX0_canBuy_13 : decode cX0_canBuy 13 = .ok (.iload 4, 2) := by decide +kernel
theorem dX0_canBuy_15 : decode cX0_canBuy 15 = .ok (.invokevirtual 105, 3) := by decide +kernel
theorem dX0_canBuy_18 : decode cX0_canBuy 18 = .ok (.ireturn, 1) := by decide +kernel
set_option maxRecDepth 20000 in
theorem ggX0_inheritance_X0_needPerson : GoodIn wsX0_inheritance wsX0_needPerson := goodIn_ca (goodIn_r _ [5, 6, 7, 8, 46, 47, 48, 49, 50, 51, 52, 53, 54, 55] (by decide +kernel) (by decide +kernel)) (goodIn_sub (fun _ h => List.mem_cons_of_mem _ (List.mem_append_right _ h)) (by decide +kernel))
set_option maxRecDepth 20000 in
theorem gX0_inheritance_X0_needPerson : GoodIn wsX0_inheritance (wsV RX0 60 RX0 yX0_needPerson wsX0_needPerson) := goodIn_app (goodIn_of _ (by decide +kernel)) ggX0_inheritance_X0_needPerson
set_option maxRecDepth 20000 in
theorem ggX0_inheritance_X0_needFerry : GoodIn wsX0_inheritance wsX0_needFerry := goodIn_ca (goodIn_r _ [12, 6, 7, 13, 46, 47, 48, 49, 50, 51, 52, 53, 54, 55] (by decide +kernel) (by decide +kernel)) (goodIn_sub (fun _ h => List.mem_cons_of_mem _ (List.mem_append_right _ h)) (by decide +kernel))
set_option maxRecDepth 20000 in
theorem gX0_inheritance_X0_needFerry : GoodIn wsX0_inheritance (wsV RX0 75 RX0 yX0_needFerry wsX0_needFerry) := goodIn_app (goodIn_of _ (by decide +kernel)) ggX0_inheritance_X0_needFerry
set_option maxRecDepth 20000 in
theorem ggX0_inheritance_X0_needWatch : GoodIn wsX0_inheritance wsX0_needWatch := goodIn_ca (goodIn_r _ [16, 6, 7] (by decide +kernel) (by decide +kernel)) (goodIn_sub (fun _ h => List.mem_cons_of_mem _ (List.mem_append_right _ h)) (by decide +kernel))
set_option maxRecDepth 20000 in
theorem gX0_inheritance_X0_needWatch : GoodIn wsX0_inheritance (va_wsS RX0 78 yX0_needWatch wsX0_needWatch) := goodIn_app (goodIn_of _ (by decide +kernel)) ggX0_inheritance_X0_needWatch
set_option maxRecDepth 20000 in
theorem ggX0_inheritance_X0_isHeir : GoodIn wsX0_inheritance wsX0_isHeir := goodIn_r _ [20, 21, 22, 23, 24, 25, 4, 26, 8, 46, 47, 48, 49, 50, 51, 52, 53, 54, 55] (by decide +kernel) (by decide +kernel)
set_option maxRecDepth 20000 in
theorem gX0_inheritance_X0_isHeir : GoodIn wsX0_inheritance (wsV RX0 132 RX0 yX0_isHeir wsX0_isHeir) := goodIn_app (goodIn_of _ (by decide +kernel)) ggX0_inheritance_X0_isHeir
set_option maxRecDepth 20000 in
theorem ggX0_inheritance_X0_owns : GoodIn wsX0_inheritance wsX0_owns := goodIn_r _ [30, 31, 32, 33, 4, 34, 46, 47, 48, 49, 50, 51, 52, 53, 54, 55] (by decide +kernel) (by decide +kernel)
set_option maxRecDepth 20000 in
theorem gX0_inheritance_X0_owns : GoodIn wsX0_inheritance (wsV RX0 96 RX0 yX0_owns wsX0_owns) := goodIn_app (goodIn_of _ (by decide +kernel)) ggX0_inheritance_X0_owns
set_option maxRecDepth 20000 in
theorem ggX0_inheritance_X0_countHeirs : GoodIn wsX0_inheritance wsX0_countHeirs := goodIn_r _ [38, 8, 39, 40, 41, 4, 42, 17, 18, 19, 20, 21, 22, 23, 24, 25, 26, 46, 47, 48, 49, 50, 51, 52, 53, 54, 55] (by decide +kernel) (by decide +kernel)
set_option maxRecDepth 20000 in
theorem gX0_inheritance_X0_countHeirs : GoodIn wsX0_inheritance (wsV RX0 129 RX0 yX0_countHeirs wsX0_countHeirs) := goodIn_app (goodIn_of _ (by decide +kernel)) ggX0_inheritance_X0_countHeirs
set_option maxRecDepth 20000 in
theorem ggX0_inheritance_X0_countHeirsBelow : GoodIn wsX0_inheritance wsX0_countHeirsBelow := goodIn_r _ [42, 17, 18, 19, 4, 20, 21, 22, 23, 24, 25, 26, 8, 46, 47, 48, 49, 50, 51, 52, 53, 54, 55] (by decide +kernel) (by decide +kernel)
set_option maxRecDepth 20000 in
theorem gX0_inheritance_X0_countHeirsBelow : GoodIn wsX0_inheritance (wsV RX0 165 RX0 yX0_countHeirsBelow wsX0_countHeirsBelow) := goodIn_app (goodIn_of _ (by decide +kernel)) ggX0_inheritance_X0_countHeirsBelow
set_option maxRecDepth 20000 in
theorem ggX0_inheritance_X0_partOf : GoodIn wsX0_inheritance wsX0_partOf := goodIn_r _ [45] (by decide +kernel) (by decide +kernel)
set_option maxRecDepth 20000 in
theorem gX0_inheritance_X0_partOf : GoodIn wsX0_inheritance (va_wsS RX0 168 yX0_partOf wsX0_partOf) := goodIn_app (goodIn_of _ (by decide +kernel)) ggX0_inheritance_X0_partOf
theorem dX0_inheritance_0 : decode cX0_inheritance 0 = .ok (.aload_n 0, 1) := by decide +kernel
theorem dX0_inheritance_1 : decode cX0_inheritance 1 = .ok (.iload_n 1, 1) := by decide +kernel
theorem dX0_inheritance_2 : decode cX0_inheritance 2 = .ok (.invokevirtual 60, 3) := by decide +kernel
theorem dX0_inheritance_5 : decode cX0_inheritance 5 = .ok (.aload_n 0, 1) := by decide +kernel
theorem dX0_inheritance_6 : decode cX0_inheritance 6 = .ok (.iload_n 2, 1) := by decide +kernel
theorem dX0_inheritance_7 : decode cX0_inheritance 7 = .ok (.invokevirtual 60, 3) := by decide +kernel
theorem dX0_inheritance_10 : decode cX0_inheritance 10 = .ok (.aload_n 0, 1) := by decide +kernel
theorem dX0_inheritance_11 : decode cX0_inheritance 11 = .ok (.iload_n 3, 1) := by decide +kernel
theorem dX0_inheritance_12 : decode cX0_inheritance 12 = .ok (.invokevirtual 75, 3) := by decide +kernel
theorem dX0_inheritance_15 : decode cX0_inheritance 15 = .ok (.iload 4, 2) := by decide +kernel
theorem dX0_inheritance_17 : decode cX0_inheritance 17 = .ok (.invokestatic 78, 3) := by decide +kernel
theorem dX0_inheritance_20 : decode cX0_inheritance 20 = .ok (.aload_n 0, 1) := by decide +kernel
theorem dX0_inheritance_21 : decode cX0_inheritance 21 = .ok (.iload_n 2, 1) := by decide +kernel
theorem dX0_inheritance_22 : decode cX0_inheritance 22 = .ok (.iload_n 1, 1) := by decide +kernel
theorem dX0_inheritance_23 : decode cX0_inheritance 23 = .ok (.invokevirtual 132, 3) := by decide +kernel
theorem dX0_inheritance_26 : decode cX0_inheritance 26 = .ok (.ifCond .ne 5, 3) := by decide +kernel
theorem dX0_inheritance_29 : decode cX0_inheritance 29 = .ok (.iconst 0, 1) := by decide +kernel
theorem dX0_inheritance_30 : decode cX0_inheritance 30 = .ok (.ireturn, 1) := by decide +kernel
theorem dX0_inheritance_31 : decode cX0_inheritance 31 = .ok (.aload_n 0, 1) := by decide +kernel
theorem dX0_inheritance_32 : decode cX0_inheritance 32 = .ok (.iload_n 3, 1) := by decide +kernel
theorem dX0_inheritance_33 : decode cX0_inheritance 33 = .ok (.iload 4, 2) := by decide +kernel
theorem dX0_inheritance_35 : decode cX0_inheritance 35 = .ok (.iload_n 1, 1) := by decide +kernel
theorem dX0_inheritance_36 : decode cX0_inheritance 36 = .ok (.invokevirtual 96, 3) := by decide +kernel
theorem dX0_inheritance_39 : decode cX0_inheritance 39 = .ok (.aload_n 0, 1) := by decide +kernel
theorem dX0_inheritance_40 : decode cX0_inheritance 40 = .ok (.iload_n 1, 1) := by decide +kernel
theorem dX0_inheritance_41 : decode cX0_inheritance 41 = .ok (.invokevirtual 129, 3) := by decide +kernel
theorem dX0_inheritance_44 : decode cX0_inheritance 44 = .ok (.aload_n 0, 1) := by decide +kernel
theorem dX0_inheritance_45 : decode cX0_inheritance 45 = .ok (.iload_n 2, 1) := by decide +kernel
theorem dX0_inheritance_46 : decode cX0_inheritance 46 = .ok (.iload_n 1, 1) := by decide +kernel
theorem dX0_inheritance_47 : decode cX0_inheritance 47 = .ok (.invokevirtual 165, 3) := by decide +kernel
theorem dX0_inheritance_50 : decode cX0_inheritance 50 = .ok (.invokestatic 168, 3) := by decide +kernel
theorem dX0_inheritance_53 : decode cX0_inheritance 53 = .ok (.ireturn, 1) := by decide +kernel
set_option maxRecDepth 20000 in
theorem ggX0_fare_X0_needPerson : GoodIn wsX0_fare wsX0_needPerson := goodIn_ca (goodIn_r _ [5, 6, 7, 8, 35, 36, 37, 38, 39, 40, 41, 42, 43, 44] (by decide +kernel) (by decide +kernel)) (goodIn_sub (fun _ h => List.mem_cons_of_mem _ (List.mem_append_left _ (List.mem_append_right _ h))) (by decide +kernel))
set_option maxRecDepth 20000 in
theorem gX0_fare_X0_needPerson : GoodIn wsX0_fare (wsV RX0 60 RX0 yX0_needPerson wsX0_needPerson) := goodIn_app (goodIn_of _ (by decide +kernel)) ggX0_fare_X0_needPerson
set_option maxRecDepth 20000 in
theorem ggX0_fare_X0_needFerry : GoodIn wsX0_fare wsX0_needFerry := goodIn_ca (goodIn_r _ [12, 6, 7, 13, 35, 36, 37, 38, 39, 40, 41, 42, 43, 44] (by decide +kernel) (by decide +kernel)) (goodIn_sub (fun _ h => List.mem_cons_of_mem _ (List.mem_append_left _ (List.mem_append_right _ h))) (by decide +kernel))
set_option maxRecDepth 20000 in
theorem gX0_fare_X0_needFerry : GoodIn wsX0_fare (wsV RX0 75 RX0 yX0_needFerry wsX0_needFerry) := goodIn_app (goodIn_of _ (by decide +kernel)) ggX0_fare_X0_needFerry
set_option maxRecDepth 20000 in
theorem ggX0_fare_X0_needHour : GoodIn wsX0_fare wsX0_needHour := goodIn_ca (goodIn_r _ [16, 6, 7] (by decide +kernel) (by decide +kernel)) (goodIn_sub (fun _ h => List.mem_cons_of_mem _ (List.mem_append_left _ (List.mem_append_right _ h))) (by decide +kernel))
set_option maxRecDepth 20000 in
theorem gX0_fare_X0_needHour : GoodIn wsX0_fare (va_wsS RX0 119 yX0_needHour wsX0_needHour) := goodIn_app (goodIn_of _ (by decide +kernel)) ggX0_fare_X0_needHour
set_option maxRecDepth 20000 in
theorem ggX0_fare_X0_needPassengers : GoodIn wsX0_fare wsX0_needPassengers := goodIn_ca (goodIn_r _ [19, 20, 21] (by decide +kernel) (by decide +kernel)) (goodIn_sub (fun _ h => List.mem_cons_of_mem _ (List.mem_append_right _ h)) (by decide +kernel))
set_option maxRecDepth 20000 in
theorem gX0_fare_X0_needPassengers : GoodIn wsX0_fare (va_wsS RX0 122 yX0_needPassengers wsX0_needPassengers) := goodIn_app (goodIn_of _ (by decide +kernel)) ggX0_fare_X0_needPassengers
set_option maxRecDepth 20000 in
theorem ggX0_fare_X0_fareOf : GoodIn wsX0_fare wsX0_fareOf := goodIn_r _ [25, 26, 27, 28, 29, 4, 30, 31, 32, 33, 34, 35, 36, 37, 38, 39, 40, 41, 42, 43, 44] (by decide +kernel) (by decide +kernel)
set_option maxRecDepth 20000 in
theorem gX0_fare_X0_fareOf : GoodIn wsX0_fare (wsV RX0 125 RX0 yX0_fareOf wsX0_fareOf) := goodIn_app (goodIn_of _ (by decide +kernel)) ggX0_fare_X0_fareOf
theorem dX0_fare_0 : decode cX0_fare 0 = .ok (.aload_n 0, 1) := by decide +kernel
theorem dX0_fare_1 : decode cX0_fare 1 = .ok (.iload_n 1, 1) := by decide +kernel
theorem dX0_fare_2 : decode cX0_fare 2 = .ok (.invokevirtual 60, 3) := by decide +kernel
theorem dX0_fare_5 : decode cX0_fare 5 = .ok (.aload_n 0, 1) := by decide +kernel
theorem dX0_fare_6 : decode cX0_fare 6 = .ok (.iload_n 2, 1) := by decide +kernel
theorem dX0_fare_7 : decode cX0_fare 7 = .ok (.invokevirtual 75, 3) := by decide +kernel
theorem dX0_fare_10 : decode cX0_fare 10 = .ok (.iload_n 3, 1) := by decide +kernel
theorem dX0_fare_11 : decode cX0_fare 11 = .ok (.invokestatic 119, 3) := by decide +kernel
theorem dX0_fare_14 : decode cX0_fare 14 = .ok (.iload 4, 2) := by decide +kernel
theorem dX0_fare_16 : decode cX0_fare 16 = .ok (.invokestatic 122, 3) := by decide +kernel
theorem dX0_fare_19 : decode cX0_fare 19 = .ok (.aload_n 0, 1) := by decide +kernel
theorem dX0_fare_20 : decode cX0_fare 20 = .ok (.iload_n 1, 1) := by decide +kernel
theorem dX0_fare_21 : decode cX0_fare 21 = .ok (.iload_n 2, 1) := by decide +kernel
theorem dX0_fare_22 : decode cX0_fare 22 = .ok (.iload_n 3, 1) := by decide +kernel
theorem dX0_fare_23 : decode cX0_fare 23 = .ok (.bipush 6, 2) := by decide +kernel
theorem dX0_fare_25 : decode cX0_fare 25 = .ok (.idiv, 1) := by decide +kernel
theorem dX0_fare_26 : decode cX0_fare 26 = .ok (.iload 4, 2) := by decide +kernel
theorem dX0_fare_28 : decode cX0_fare 28 = .ok (.invokevirtual 125, 3) := by decide +kernel
theorem dX0_fare_31 : decode cX0_fare 31 = .ok (.ireturn, 1) := by decide +kernel
theorem dX0_richest_0 : decode cX0_richest 0 = .ok (.iconst (-1), 1) := by decide +kernel
theorem dX0_richest_1 : decode cX0_richest 1 = .ok (.istore_n 1, 1) := by decide +kernel
theorem dX0_richest_2 : decode cX0_richest 2 = .ok (.iconst (-1), 1) := by decide +kernel
theorem dX0_richest_3 : decode cX0_richest 3 = .ok (.istore_n 2, 1) := by decide +kernel
theorem dX0_richest_4 : decode cX0_richest 4 = .ok (.iconst 0, 1) := by decide +kernel
theorem dX0_richest_5 : decode cX0_richest 5 = .ok (.istore_n 3, 1) := by decide +kernel
theorem dX0_richest_6 : decode cX0_richest 6 = .ok (.iload_n 3, 1) := by decide +kernel
theorem dX0_richest_7 : decode cX0_richest 7 = .ok (.aload_n 0, 1) := by decide +kernel
theorem dX0_richest_8 : decode cX0_richest 8 = .ok (.getfield 23, 3) := by decide +kernel
theorem dX0_richest_11 : decode cX0_richest 11 = .ok (.if_icmp .ge 37, 3) := by decide +kernel
theorem dX0_richest_14 : decode cX0_richest 14 = .ok (.aload_n 0, 1) := by decide +kernel
theorem dX0_richest_15 : decode cX0_richest 15 = .ok (.getfield 26, 3) := by decide +kernel
theorem dX0_richest_18 : decode cX0_richest 18 = .ok (.iload_n 3, 1) := by decide +kernel
theorem dX0_richest_19 : decode cX0_richest 19 = .ok (.baload, 1) := by decide +kernel
theorem dX0_richest_20 : decode cX0_richest 20 = .ok (.ifCond .eq 22, 3) := by decide +kernel
theorem dX0_richest_23 : decode cX0_richest 23 = .ok (.aload_n 0, 1) := by decide +kernel
theorem dX0_richest_24 : decode cX0_richest 24 = .ok (.getfield 30, 3) := by decide +kernel
theorem dX0_richest_27 : decode cX0_richest 27 = .ok (.iload_n 3, 1) := by decide +kernel
theorem dX0_richest_28 : decode cX0_richest 28 = .ok (.iaload, 1) := by decide +kernel
theorem dX0_richest_29 : decode cX0_richest 29 = .ok (.iload_n 2, 1) := by decide +kernel
theorem dX0_richest_30 : decode cX0_richest 30 = .ok (.if_icmp .le 12, 3) := by decide +kernel
theorem dX0_richest_33 : decode cX0_richest 33 = .ok (.iload_n 3, 1) := by decide +kernel
theorem dX0_richest_34 : decode cX0_richest 34 = .ok (.istore_n 1, 1) := by decide +kernel
theorem dX0_richest_35 : decode cX0_richest 35 = .ok (.aload_n 0, 1) := by decide +kernel
theorem dX0_richest_36 : decode cX0_richest 36 = .ok (.getfield 30, 3) := by decide +kernel
theorem dX0_richest_39 : decode cX0_richest 39 = .ok (.iload_n 3, 1) := by decide +kernel
theorem dX0_richest_40 : decode cX0_richest 40 = .ok (.iaload, 1) := by decide +kernel
theorem dX0_richest_41 : decode cX0_richest 41 = .ok (.istore_n 2, 1) := by decide +kernel
theorem dX0_richest_42 : decode cX0_richest 42 = .ok (.iinc 3 1, 3) := by decide +kernel
theorem dX0_richest_45 : decode cX0_richest 45 = .ok (.goto (-39), 3) := by decide +kernel
theorem dX0_richest_48 : decode cX0_richest 48 = .ok (.iload_n 1, 1) := by decide +kernel
theorem dX0_richest_49 : decode cX0_richest 49 = .ok (.iconst (-1), 1) := by decide +kernel
theorem dX0_richest_50 : decode cX0_richest 50 = .ok (.if_icmp .ne 13, 3) := by decide +kernel
theorem dX0_richest_53 : decode cX0_richest 53 = .ok (.new 46, 3) := by decide +kernel
theorem dX0_richest_56 : decode cX0_richest 56 = .ok (.dup, 1) := by decide +kernel
theorem dX0_richest_57 : decode cX0_richest 57 = .ok (.ldc 171, 2) := by decide +kernel
theorem dX0_richest_59 : decode cX0_richest 59 = .ok (.invokespecial 50, 3) := by decide +kernel
theorem dX0_richest_62 : decode cX0_richest 62 = .ok (.athrow, 1) := by decide +kernel
theorem dX0_richest_63 : decode cX0_richest 63 = .ok (.iload_n 1, 1) := by decide +kernel
theorem dX0_richest_64 : decode cX0_richest 64 = .ok (.ireturn, 1) := by decide +kernel
theorem dX0_meanCoins_0 : decode cX0_meanCoins 0 = .ok (.iconst 0, 1) := by decide +kernel
theorem dX0_meanCoins_1 : decode cX0_meanCoins 1 = .ok (.istore_n 1, 1) := by decide +kernel
theorem dX0_meanCoins_2 : decode cX0_meanCoins 2 = .ok (.iconst 0, 1) := by decide +kernel
theorem dX0_meanCoins_3 : decode cX0_meanCoins 3 = .ok (.istore_n 2, 1) := by decide +kernel
theorem dX0_meanCoins_4 : decode cX0_meanCoins 4 = .ok (.iconst 0, 1) := by decide +kernel
theorem dX0_meanCoins_5 : decode cX0_meanCoins 5 = .ok (.istore_n 3, 1) := by decide +kernel
theorem dX0_meanCoins_6 : decode cX0_meanCoins 6 = .ok (.iload_n 3, 1) := by decide +kernel
theorem dX0_meanCoins_7 : decode cX0_meanCoins 7 = .ok (.aload_n 0, 1) := by decide +kernel
theorem dX0_meanCoins_8 : decode cX0_meanCoins 8 = .ok (.getfield 23, 3) := by decide +kernel
theorem dX0_meanCoins_11 : decode cX0_meanCoins 11 = .ok (.if_icmp .ge 30, 3) := by decide +kernel
theorem dX0_meanCoins_14 : decode cX0_meanCoins 14 = .ok (.aload_n 0, 1) := by decide +kernel
theorem dX0_meanCoins_15 : decode cX0_meanCoins 15 = .ok (.getfield 26, 3) := by decide +kernel
theorem dX0_meanCoins_18 : decode cX0_meanCoins 18 = .ok (.iload_n 3, 1) := by decide +kernel
theorem dX0_meanCoins_19 : decode cX0_meanCoins 19 = .ok (.baload, 1) := by decide +kernel
theorem dX0_meanCoins_20 : decode cX0_meanCoins 20 = .ok (.ifCond .eq 15, 3) := by decide +kernel
theorem dX0_meanCoins_23 : decode cX0_meanCoins 23 = .ok (.iinc 1 1, 3) := by decide +kernel
theorem dX0_meanCoins_26 : decode cX0_meanCoins 26 = .ok (.iload_n 2, 1) := by decide +kernel
theorem dX0_meanCoins_27 : decode cX0_meanCoins 27 = .ok (.aload_n 0, 1) := by decide +kernel
theorem dX0_meanCoins_28 : decode cX0_meanCoins 28 = .ok (.getfield 30, 3) := by decide +kernel
theorem dX0_meanCoins_31 : decode cX0_meanCoins 31 = .ok (.iload_n 3, 1) := by decide +kernel
theorem dX0_meanCoins_32 : decode cX0_meanCoins 32 = .ok (.iaload, 1) := by decide +kernel
theorem dX0_meanCoins_33 : decode cX0_meanCoins 33 = .ok (.iadd, 1) := by decide +kernel
theorem dX0_meanCoins_34 : decode cX0_meanCoins 34 = .ok (.istore_n 2, 1) := by decide +kernel
theorem dX0_meanCoins_35 : decode cX0_meanCoins 35 = .ok (.iinc 3 1, 3) := by decide +kernel
theorem dX0_meanCoins_38 : decode cX0_meanCoins 38 = .ok (.goto (-32), 3) := by decide +kernel
theorem dX0_meanCoins_41 : decode cX0_meanCoins 41 = .ok (.iload_n 1, 1) := by decide +kernel
theorem dX0_meanCoins_42 : decode cX0_meanCoins 42 = .ok (.ifCond .ne 5, 3) := by decide +kernel
theorem dX0_meanCoins_45 : decode cX0_meanCoins 45 = .ok (.dconst 0, 1) := by decide +kernel
theorem dX0_meanCoins_46 : decode cX0_meanCoins 46 = .ok (.dreturn, 1) := by decide +kernel
theorem dX0_meanCoins_47 : decode cX0_meanCoins 47 = .ok (.iload_n 2, 1) := by decide +kernel
theorem dX0_meanCoins_48 : decode cX0_meanCoins 48 = .ok (.i2d, 1) := by decide +kernel
theorem dX0_meanCoins_49 : decode cX0_meanCoins 49 = .ok (.iload_n 1, 1) := by decide +kernel
theorem dX0_meanCoins_50 : decode cX0_meanCoins 50 = .ok (.i2d, 1) := by decide +kernel
theorem dX0_meanCoins_51 : decode cX0_meanCoins 51 = .ok (.ddiv, 1) := by decide +kernel
theorem dX0_meanCoins_52 : decode cX0_meanCoins 52 = .ok (.dreturn, 1) := by decide +kernel
set_option maxRecDepth 20000 in
theorem ggX0_digest_X0_mix : GoodIn wsX0_digest wsX0_mix := goodIn_r _ [8, 9] (by decide +kernel) (by decide +kernel)
set_option maxRecDepth 20000 in
theorem gX0_digest_X0_mix : GoodIn wsX0_digest (va_wsS RX0 175 yX0_mix wsX0_mix) := goodIn_app (goodIn_of _ (by decide +kernel)) ggX0_digest_X0_mix
set_option maxRecDepth 20000 in
theorem ggX0_digest_X0_living : GoodIn wsX0_digest wsX0_living := goodIn_r _ [13, 3, 14, 64, 65, 66, 67, 68, 69, 70, 71, 72, 73] (by decide +kernel) (by decide +kernel)
set_option maxRecDepth 20000 in
theorem gX0_digest_X0_living : GoodIn wsX0_digest (wsV RX0 179 RX0 yX0_living wsX0_living) := goodIn_app (goodIn_of _ (by decide +kernel)) ggX0_digest_X0_living
set_option maxRecDepth 20000 in
theorem ggX0_digest_X0_mixFerry : GoodIn wsX0_digest wsX0_mixFerry := goodIn_r _ [18, 19, 20, 3, 5, 6, 7, 8, 9, 21, 22, 23, 24, 25, 26, 27, 28, 64, 65, 66, 67, 68, 69, 70, 71, 72, 73] (by decide +kernel) (by decide +kernel)
set_option maxRecDepth 20000 in
theorem gX0_digest_X0_mixFerry : GoodIn wsX0_digest (wsV RX0 183 RX0 yX0_mixFerry wsX0_mixFerry) := goodIn_app (goodIn_of _ (by decide +kernel)) ggX0_digest_X0_mixFerry
set_option maxRecDepth 20000 in
theorem ggX0_digest_X0_mixPerson : GoodIn wsX0_digest wsX0_mixPerson := goodIn_r _ [32, 14, 33, 34, 5, 6, 7, 8, 9, 35, 36, 37, 38, 2, 39, 40, 41, 42, 21, 22, 23, 24, 25, 26, 27, 28, 43, 44, 45, 46, 3, 47, 48, 49, 50, 51, 52, 53, 54, 55, 56, 57, 58, 59, 60, 61, 62, 63, 64, 65, 66, 67, 68, 69, 70, 71, 72, 73] (by decide +kernel) (by decide +kernel)
set_option maxRecDepth 20000 in
theorem gX0_digest_X0_mixPerson : GoodIn wsX0_digest (wsV RX0 187 RX0 yX0_mixPerson wsX0_mixPerson) := goodIn_app (goodIn_of _ (by decide +kernel)) ggX0_digest_X0_mixPerson
theorem dX0_digest_0 : decode cX0_digest 0 = .ok (.ldc2_w 173, 3) := by decide +kernel
theorem dX0_digest_3 : decode cX0_digest 3 = .ok (.lstore_n 1, 1) := by decide +kernel
theorem dX0_digest_4 : decode cX0_digest 4 = .ok (.lload_n 1, 1) := by decide +kernel
theorem dX0_digest_5 : decode cX0_digest 5 = .ok (.aload_n 0, 1) := by decide +kernel
theorem dX0_digest_6 : decode cX0_digest 6 = .ok (.getfield 9, 3) := by decide +kernel
theorem dX0_digest_9 : decode cX0_digest 9 = .ok (.i2l, 1) := by decide +kernel
theorem dX0_digest_10 : decode cX0_digest 10 = .ok (.invokestatic 175, 3) := by decide +kernel
theorem dX0_digest_13 : decode cX0_digest 13 = .ok (.lstore_n 1, 1) := by decide +kernel
theorem dX0_digest_14 : decode cX0_digest 14 = .ok (.lload_n 1, 1) := by decide +kernel
theorem dX0_digest_15 : decode cX0_digest 15 = .ok (.aload_n 0, 1) := by decide +kernel
theorem dX0_digest_16 : decode cX0_digest 16 = .ok (.getfield 23, 3) := by decide +kernel
theorem dX0_digest_19 : decode cX0_digest 19 = .ok (.i2l, 1) := by decide +kernel
theorem dX0_digest_20 : decode cX0_digest 20 = .ok (.invokestatic 175, 3) := by decide +kernel
theorem dX0_digest_23 : decode cX0_digest 23 = .ok (.lstore_n 1, 1) := by decide +kernel
theorem dX0_digest_24 : decode cX0_digest 24 = .ok (.lload_n 1, 1) := by decide +kernel
theorem dX0_digest_25 : decode cX0_digest 25 = .ok (.aload_n 0, 1) := by decide +kernel
theorem dX0_digest_26 : decode cX0_digest 26 = .ok (.invokevirtual 179, 3) := by decide +kernel
theorem dX0_digest_29 : decode cX0_digest 29 = .ok (.i2l, 1) := by decide +kernel
theorem dX0_digest_30 : decode cX0_digest 30 = .ok (.invokestatic 175, 3) := by decide +kernel
theorem dX0_digest_33 : decode cX0_digest 33 = .ok (.lstore_n 1, 1) := by decide +kernel
theorem dX0_digest_34 : decode cX0_digest 34 = .ok (.lload_n 1, 1) := by decide +kernel
theorem dX0_digest_35 : decode cX0_digest 35 = .ok (.aload_n 0, 1) := by decide +kernel
theorem dX0_digest_36 : decode cX0_digest 36 = .ok (.getfield 39, 3) := by decide +kernel
theorem dX0_digest_39 : decode cX0_digest 39 = .ok (.i2l, 1) := by decide +kernel
theorem dX0_digest_40 : decode cX0_digest 40 = .ok (.invokestatic 175, 3) := by decide +kernel
theorem dX0_digest_43 : decode cX0_digest 43 = .ok (.lstore_n 1, 1) := by decide +kernel
theorem dX0_digest_44 : decode cX0_digest 44 = .ok (.iconst 0, 1) := by decide +kernel
theorem dX0_digest_45 : decode cX0_digest 45 = .ok (.istore_n 3, 1) := by decide +kernel
theorem dX0_digest_46 : decode cX0_digest 46 = .ok (.iload_n 3, 1) := by decide +kernel
theorem dX0_digest_47 : decode cX0_digest 47 = .ok (.aload_n 0, 1) := by decide +kernel
theorem dX0_digest_48 : decode cX0_digest 48 = .ok (.getfield 9, 3) := by decide +kernel
theorem dX0_digest_51 : decode cX0_digest 51 = .ok (.if_icmp .ge 16, 3) := by decide +kernel
theorem dX0_digest_54 : decode cX0_digest 54 = .ok (.aload_n 0, 1) := by decide +kernel
theorem dX0_digest_55 : decode cX0_digest 55 = .ok (.lload_n 1, 1) := by decide +kernel
theorem dX0_digest_56 : decode cX0_digest 56 = .ok (.iload_n 3, 1) := by decide +kernel
theorem dX0_digest_57 : decode cX0_digest 57 = .ok (.invokevirtual 183, 3) := by decide +kernel
theorem dX0_digest_60 : decode cX0_digest 60 = .ok (.lstore_n 1, 1) := by decide +kernel
theorem dX0_digest_61 : decode cX0_digest 61 = .ok (.iinc 3 1, 3) := by decide +kernel
theorem dX0_digest_64 : decode cX0_digest 64 = .ok (.goto (-18), 3) := by decide +kernel
theorem dX0_digest_67 : decode cX0_digest 67 = .ok (.iconst 0, 1) := by decide +kernel
theorem dX0_digest_68 : decode cX0_digest 68 = .ok (.istore_n 3, 1) := by decide +kernel
theorem dX0_digest_69 : decode cX0_digest 69 = .ok (.iload_n 3, 1) := by decide +kernel
theorem dX0_digest_70 : decode cX0_digest 70 = .ok (.aload_n 0, 1) := by decide +kernel
theorem dX0_digest_71 : decode cX0_digest 71 = .ok (.getfield 23, 3) := by decide +kernel
theorem dX0_digest_74 : decode cX0_digest 74 = .ok (.if_icmp .ge 16, 3) := by decide +kernel
theorem dX0_digest_77 : decode cX0_digest 77 = .ok (.aload_n 0, 1) := by decide +kernel
theorem dX0_digest_78 : decode cX0_digest 78 = .ok (.lload_n 1, 1) := by decide +kernel
theorem dX0_digest_79 : decode cX0_digest 79 = .ok (.iload_n 3, 1) := by decide +kernel
theorem dX0_digest_80 : decode cX0_digest 80 = .ok (.invokevirtual 187, 3) := by decide +kernel
theorem dX0_digest_83 : decode cX0_digest 83 = .ok (.lstore_n 1, 1) := by decide +kernel
theorem dX0_digest_84 : decode cX0_digest 84 = .ok (.iinc 3 1, 3) := by decide +kernel
theorem dX0_digest_87 : decode cX0_digest 87 = .ok (.goto (-18), 3) := by decide +kernel
theorem dX0_digest_90 : decode cX0_digest 90 = .ok (.lload_n 1, 1) := by decide +kernel
theorem dX0_digest_91 : decode cX0_digest 91 = .ok (.lreturn, 1) := by decide +kernel
theorem dX0_needFerry_0 : decode cX0_needFerry 0 = .ok (.iload_n 1, 1) := by decide +kernel
theorem dX0_needFerry_1 : decode cX0_needFerry 1 = .ok (.ifCond .lt 11, 3) := by decide +kernel
theorem dX0_needFerry_4 : decode cX0_needFerry 4 = .ok (.iload_n 1, 1) := by decide +kernel
theorem dX0_needFerry_5 : decode cX0_needFerry 5 = .ok (.aload_n 0, 1) := by decide +kernel
theorem dX0_needFerry_6 : decode cX0_needFerry 6 = .ok (.getfield 9, 3) := by decide +kernel
theorem dX0_needFerry_9 : decode cX0_needFerry 9 = .ok (.if_icmp .lt 13, 3) := by decide +kernel
theorem dX0_needFerry_12 : decode cX0_needFerry 12 = .ok (.new 160, 3) := by decide +kernel
theorem dX0_needFerry_15 : decode cX0_needFerry 15 = .ok (.dup, 1) := by decide +kernel
theorem dX0_needFerry_16 : decode cX0_needFerry 16 = .ok (.ldc 190, 2) := by decide +kernel
theorem dX0_needFerry_18 : decode cX0_needFerry 18 = .ok (.invokespecial 164, 3) := by decide +kernel
theorem dX0_needFerry_21 : decode cX0_needFerry 21 = .ok (.athrow, 1) := by decide +kernel
theorem dX0_needFerry_22 : decode cX0_needFerry 22 = .ok (.return_, 1) := by decide +kernel
theorem dX0_needWatch_0 : decode cX0_needWatch 0 = .ok (.iload_n 0, 1) := by decide +kernel
theorem dX0_needWatch_1 : decode cX0_needWatch 1 = .ok (.ifCond .lt 8, 3) := by decide +kernel
theorem dX0_needWatch_4 : decode cX0_needWatch 4 = .ok (.iload_n 0, 1) := by decide +kernel
theorem dX0_needWatch_5 : decode cX0_needWatch 5 = .ok (.iconst 4, 1) := by decide +kernel
theorem dX0_needWatch_6 : decode cX0_needWatch 6 = .ok (.if_icmp .lt 13, 3) := by decide +kernel
theorem dX0_needWatch_9 : decode cX0_needWatch 9 = .ok (.new 160, 3) := by decide +kernel
theorem dX0_needWatch_12 : decode cX0_needWatch 12 = .ok (.dup, 1) := by decide +kernel
theorem dX0_needWatch_13 : decode cX0_needWatch 13 = .ok (.ldc 192, 2) := by decide +kernel
theorem dX0_needWatch_15 : decode cX0_needWatch 15 = .ok (.invokespecial 164, 3) := by decide +kernel
theorem dX0_needWatch_18 : decode cX0_needWatch 18 = .ok (.athrow, 1) := by decide +kernel
theorem dX0_needWatch_19 : decode cX0_needWatch 19 = .ok (.return_, 1) := by decide +kernel
theorem dX0_needHour_0 : decode cX0_needHour 0 = .ok (.iload_n 0, 1) := by decide +kernel
theorem dX0_needHour_1 : decode cX0_needHour 1 = .ok (.ifCond .lt 9, 3) := by decide +kernel
theorem dX0_needHour_4 : decode cX0_needHour 4 = .ok (.iload_n 0, 1) := by decide +kernel
theorem dX0_needHour_5 : decode cX0_needHour 5 = .ok (.bipush 24, 2) := by decide +kernel
theorem dX0_needHour_7 : decode cX0_needHour 7 = .ok (.if_icmp .lt 13, 3) := by decide +kernel
theorem dX0_needHour_10 : decode cX0_needHour 10 = .ok (.new 160, 3) := by decide +kernel
theorem dX0_needHour_13 : decode cX0_needHour 13 = .ok (.dup, 1) := by decide +kernel
theorem dX0_needHour_14 : decode cX0_needHour 14 = .ok (.ldc 194, 2) := by decide +kernel
theorem dX0_needHour_16 : decode cX0_needHour 16 = .ok (.invokespecial 164, 3) := by decide +kernel
theorem dX0_needHour_19 : decode cX0_needHour 19 = .ok (.athrow, 1) := by decide +kernel
theorem dX0_needHour_20 : decode cX0_needHour 20 = .ok (.return_, 1) := by decide +kernel
theorem dX0_needPerson_0 : decode cX0_needPerson 0 = .ok (.iload_n 1, 1) := by decide +kernel
theorem dX0_needPerson_1 : decode cX0_needPerson 1 = .ok (.ifCond .lt 11, 3) := by decide +kernel
theorem dX0_needPerson_4 : decode cX0_needPerson 4 = .ok (.iload_n 1, 1) := by decide +kernel
theorem dX0_needPerson_5 : decode cX0_needPerson 5 = .ok (.aload_n 0, 1) := by decide +kernel
theorem dX0_needPerson_6 : decode cX0_needPerson 6 = .ok (.getfield 23, 3) := by decide +kernel
theorem dX0_needPerson_9 : decode cX0_needPerson 9 = .ok (.if_icmp .lt 13, 3) := by decide +kernel
theorem dX0_needPerson_12 : decode cX0_needPerson 12 = .ok (.new 160, 3) := by decide +kernel
theorem dX0_needPerson_15 : decode cX0_needPerson 15 = .ok (.dup, 1) := by decide +kernel
theorem dX0_needPerson_16 : decode cX0_needPerson 16 = .ok (.ldc 196, 2) := by decide +kernel
theorem dX0_needPerson_18 : decode cX0_needPerson 18 = .ok (.invokespecial 164, 3) := by decide +kernel
theorem dX0_needPerson_21 : decode cX0_needPerson 21 = .ok (.athrow, 1) := by decide +kernel
theorem dX0_needPerson_22 : decode cX0_needPerson 22 = .ok (.return_, 1) := by decide +kernel
set_option maxRecDepth 20000 in
theorem ggX0_needSale_X0_needPerson : GoodIn wsX0_needSale wsX0_needPerson := goodIn_ca (goodIn_r _ [5, 6, 7, 8, 17, 18, 19, 20, 21, 22, 23, 24, 25, 26] (by decide +kernel) (by decide +kernel)) (goodIn_sub (fun _ h => List.mem_cons_of_mem _ (List.mem_append_right _ h)) (by decide +kernel))
set_option maxRecDepth 20000 in
theorem gX0_needSale_X0_needPerson : GoodIn wsX0_needSale (wsV RX0 60 RX0 yX0_needPerson wsX0_needPerson) := goodIn_app (goodIn_of _ (by decide +kernel)) ggX0_needSale_X0_needPerson
set_option maxRecDepth 20000 in
theorem ggX0_needSale_X0_needFerry : GoodIn wsX0_needSale wsX0_needFerry := goodIn_ca (goodIn_r _ [12, 6, 7, 13, 17, 18, 19, 20, 21, 22, 23, 24, 25, 26] (by decide +kernel) (by decide +kernel)) (goodIn_sub (fun _ h => List.mem_cons_of_mem _ (List.mem_append_right _ h)) (by decide +kernel))
set_option maxRecDepth 20000 in
theorem gX0_needSale_X0_needFerry : GoodIn wsX0_needSale (wsV RX0 75 RX0 yX0_needFerry wsX0_needFerry) := goodIn_app (goodIn_of _ (by decide +kernel)) ggX0_needSale_X0_needFerry
set_option maxRecDepth 20000 in
theorem ggX0_needSale_X0_needWatch : GoodIn wsX0_needSale wsX0_needWatch := goodIn_ca (goodIn_r _ [16, 6, 7] (by decide +kernel) (by decide +kernel)) (goodIn_sub (fun _ h => List.mem_cons_of_mem _ (List.mem_append_right _ h)) (by decide +kernel))
set_option maxRecDepth 20000 in
theorem gX0_needSale_X0_needWatch : GoodIn wsX0_needSale (va_wsS RX0 78 yX0_needWatch wsX0_needWatch) := goodIn_app (goodIn_of _ (by decide +kernel)) ggX0_needSale_X0_needWatch
theorem dX0_needSale_0 : decode cX0_needSale 0 = .ok (.aload_n 0, 1) := by decide +kernel
theorem dX0_needSale_1 : decode cX0_needSale 1 = .ok (.iload_n 1, 1) := by decide +kernel
theorem dX0_needSale_2 : decode cX0_needSale 2 = .ok (.invokevirtual 60, 3) := by decide +kernel
theorem dX0_needSale_5 : decode cX0_needSale 5 = .ok (.aload_n 0, 1) := by decide +kernel
theorem dX0_needSale_6 : decode cX0_needSale 6 = .ok (.iload_n 2, 1) := by decide +kernel
theorem dX0_needSale_7 : decode cX0_needSale 7 = .ok (.invokevirtual 60, 3) := by decide +kernel
theorem dX0_needSale_10 : decode cX0_needSale 10 = .ok (.aload_n 0, 1) := by decide +kernel
theorem dX0_needSale_11 : decode cX0_needSale 11 = .ok (.iload_n 3, 1) := by decide +kernel
theorem dX0_needSale_12 : decode cX0_needSale 12 = .ok (.invokevirtual 75, 3) := by decide +kernel
theorem dX0_needSale_15 : decode cX0_needSale 15 = .ok (.iload 4, 2) := by decide +kernel
theorem dX0_needSale_17 : decode cX0_needSale 17 = .ok (.invokestatic 78, 3) := by decide +kernel
theorem dX0_needSale_20 : decode cX0_needSale 20 = .ok (.return_, 1) := by decide +kernel
theorem dX0_needToll_0 : decode cX0_needToll 0 = .ok (.iload_n 0, 1) := by decide +kernel
theorem dX0_needToll_1 : decode cX0_needToll 1 = .ok (.ifCond .lt 9, 3) := by decide +kernel
theorem dX0_needToll_4 : decode cX0_needToll 4 = .ok (.iload_n 0, 1) := by decide +kernel
theorem dX0_needToll_5 : decode cX0_needToll 5 = .ok (.bipush 20, 2) := by decide +kernel
theorem dX0_needToll_7 : decode cX0_needToll 7 = .ok (.if_icmp .le 13, 3) := by decide +kernel
theorem dX0_needToll_10 : decode cX0_needToll 10 = .ok (.new 66, 3) := by decide +kernel
theorem dX0_needToll_13 : decode cX0_needToll 13 = .ok (.dup, 1) := by decide +kernel
theorem dX0_needToll_14 : decode cX0_needToll 14 = .ok (.ldc 198, 2) := by decide +kernel
theorem dX0_needToll_16 : decode cX0_needToll 16 = .ok (.invokespecial 70, 3) := by decide +kernel
theorem dX0_needToll_19 : decode cX0_needToll 19 = .ok (.athrow, 1) := by decide +kernel
theorem dX0_needToll_20 : decode cX0_needToll 20 = .ok (.return_, 1) := by decide +kernel
theorem dX0_needShares_0 : decode cX0_needShares 0 = .ok (.iload_n 0, 1) := by decide +kernel
theorem dX0_needShares_1 : decode cX0_needShares 1 = .ok (.iconst 1, 1) := by decide +kernel
theorem dX0_needShares_2 : decode cX0_needShares 2 = .ok (.if_icmp .lt 9, 3) := by decide +kernel
theorem dX0_needShares_5 : decode cX0_needShares 5 = .ok (.iload_n 0, 1) := by decide +kernel
theorem dX0_needShares_6 : decode cX0_needShares 6 = .ok (.bipush 64, 2) := by decide +kernel
theorem dX0_needShares_8 : decode cX0_needShares 8 = .ok (.if_icmp .le 13, 3) := by decide +kernel
theorem dX0_needShares_11 : decode cX0_needShares 11 = .ok (.new 66, 3) := by decide +kernel
theorem dX0_needShares_14 : decode cX0_needShares 14 = .ok (.dup, 1) := by decide +kernel
theorem dX0_needShares_15 : decode cX0_needShares 15 = .ok (.ldc 200, 2) := by decide +kernel
theorem dX0_needShares_17 : decode cX0_needShares 17 = .ok (.invokespecial 70, 3) := by decide +kernel
theorem dX0_needShares_20 : decode cX0_needShares 20 = .ok (.athrow, 1) := by decide +kernel
theorem dX0_needShares_21 : decode cX0_needShares 21 = .ok (.return_, 1) := by decide +kernel
theorem dX0_needPassengers_0 : decode cX0_needPassengers 0 = .ok (.iload_n 0, 1) := by decide +kernel
theorem dX0_needPassengers_1 : decode cX0_needPassengers 1 = .ok (.iconst 1, 1) := by decide +kernel
theorem dX0_needPassengers_2 : decode cX0_needPassengers 2 = .ok (.if_icmp .lt 10, 3) := by decide +kernel
theorem dX0_needPassengers_5 : decode cX0_needPassengers 5 = .ok (.iload_n 0, 1) := by decide +kernel
theorem dX0_needPassengers_6 : decode cX0_needPassengers 6 = .ok (.sipush 200, 3) := by decide +kernel
theorem dX0_needPassengers_9 : decode cX0_needPassengers 9 = .ok (.if_icmp .le 13, 3) := by decide +kernel
theorem dX0_needPassengers_12 : decode cX0_needPassengers 12 = .ok (.new 66, 3) := by decide +kernel
theorem dX0_needPassengers_15 : decode cX0_needPassengers 15 = .ok (.dup, 1) := by decide +kernel
theorem dX0_needPassengers_16 : decode cX0_needPassengers 16 = .ok (.ldc 202, 2) := by decide +kernel
theorem dX0_needPassengers_18 : decode cX0_needPassengers 18 = .ok (.invokespecial 70, 3) := by decide +kernel
theorem dX0_needPassengers_21 : decode cX0_needPassengers 21 = .ok (.athrow, 1) := by decide +kernel
theorem dX0_needPassengers_22 : decode cX0_needPassengers 22 = .ok (.return_, 1) := by decide +kernel
theorem dX0_needAlive_0 : decode cX0_needAlive 0 = .ok (.aload_n 0, 1) := by decide +kernel
theorem dX0_needAlive_1 : decode cX0_needAlive 1 = .ok (.getfield 26, 3) := by decide +kernel
theorem dX0_needAlive_4 : decode cX0_needAlive 4 = .ok (.iload_n 1, 1) := by decide +kernel
theorem dX0_needAlive_5 : decode cX0_needAlive 5 = .ok (.baload, 1) := by decide +kernel
theorem dX0_needAlive_6 : decode cX0_needAlive 6 = .ok (.ifCond .ne 13, 3) := by decide +kernel
theorem dX0_needAlive_9 : decode cX0_needAlive 9 = .ok (.new 46, 3) := by decide +kernel
theorem dX0_needAlive_12 : decode cX0_needAlive 12 = .ok (.dup, 1) := by decide +kernel
theorem dX0_needAlive_13 : decode cX0_needAlive 13 = .ok (.ldc 204, 2) := by decide +kernel
theorem dX0_needAlive_15 : decode cX0_needAlive 15 = .ok (.invokespecial 50, 3) := by decide +kernel
theorem dX0_needAlive_18 : decode cX0_needAlive 18 = .ok (.athrow, 1) := by decide +kernel
theorem dX0_needAlive_19 : decode cX0_needAlive 19 = .ok (.return_, 1) := by decide +kernel
theorem dX0_needRoomForPerson_0 : decode cX0_needRoomForPerson 0 = .ok (.aload_n 0, 1) := by decide +kernel
theorem dX0_needRoomForPerson_1 : decode cX0_needRoomForPerson 1 = .ok (.getfield 23, 3) := by decide +kernel
theorem dX0_needRoomForPerson_4 : decode cX0_needRoomForPerson 4 = .ok (.bipush 12, 2) := by decide +kernel
theorem dX0_needRoomForPerson_6 : decode cX0_needRoomForPerson 6 = .ok (.if_icmp .lt 13, 3) := by decide +kernel
theorem dX0_needRoomForPerson_9 : decode cX0_needRoomForPerson 9 = .ok (.new 46, 3) := by decide +kernel
theorem dX0_needRoomForPerson_12 : decode cX0_needRoomForPerson 12 = .ok (.dup, 1) := by decide +kernel
theorem dX0_needRoomForPerson_13 : decode cX0_needRoomForPerson 13 = .ok (.ldc 206, 2) := by decide +kernel
theorem dX0_needRoomForPerson_15 : decode cX0_needRoomForPerson 15 = .ok (.invokespecial 50, 3) := by decide +kernel
theorem dX0_needRoomForPerson_18 : decode cX0_needRoomForPerson 18 = .ok (.athrow, 1) := by decide +kernel
theorem dX0_needRoomForPerson_19 : decode cX0_needRoomForPerson 19 = .ok (.return_, 1) := by decide +kernel
theorem dX0_settle_0 : decode cX0_settle 0 = .ok (.aload_n 0, 1) := by decide +kernel
theorem dX0_settle_1 : decode cX0_settle 1 = .ok (.getfield 23, 3) := by decide +kernel
theorem dX0_settle_4 : decode cX0_settle 4 = .ok (.istore_n 2, 1) := by decide +kernel
theorem dX0_settle_5 : decode cX0_settle 5 = .ok (.aload_n 0, 1) := by decide +kernel
theorem dX0_settle_6 : decode cX0_settle 6 = .ok (.getfield 26, 3) := by decide +kernel
theorem dX0_settle_9 : decode cX0_settle 9 = .ok (.iload_n 2, 1) := by decide +kernel
theorem dX0_settle_10 : decode cX0_settle 10 = .ok (.iconst 1, 1) := by decide +kernel
theorem dX0_settle_11 : decode cX0_settle 11 = .ok (.bastore, 1) := by decide +kernel
theorem dX0_settle_12 : decode cX0_settle 12 = .ok (.aload_n 0, 1) := by decide +kernel
theorem dX0_settle_13 : decode cX0_settle 13 = .ok (.getfield 36, 3) := by decide +kernel
theorem dX0_settle_16 : decode cX0_settle 16 = .ok (.iload_n 2, 1) := by decide +kernel
theorem dX0_settle_17 : decode cX0_settle 17 = .ok (.iload_n 1, 1) := by decide +kernel
theorem dX0_settle_18 : decode cX0_settle 18 = .ok (.iastore, 1) := by decide +kernel
theorem dX0_settle_19 : decode cX0_settle 19 = .ok (.aload_n 0, 1) := by decide +kernel
theorem dX0_settle_20 : decode cX0_settle 20 = .ok (.iload_n 2, 1) := by decide +kernel
theorem dX0_settle_21 : decode cX0_settle 21 = .ok (.iconst 1, 1) := by decide +kernel
theorem dX0_settle_22 : decode cX0_settle 22 = .ok (.iadd, 1) := by decide +kernel
theorem dX0_settle_23 : decode cX0_settle 23 = .ok (.putfield 23, 3) := by decide +kernel
theorem dX0_settle_26 : decode cX0_settle 26 = .ok (.iload_n 2, 1) := by decide +kernel
theorem dX0_settle_27 : decode cX0_settle 27 = .ok (.ireturn, 1) := by decide +kernel
theorem dX0_addCoins_0 : decode cX0_addCoins 0 = .ok (.aload_n 0, 1) := by decide +kernel
theorem dX0_addCoins_1 : decode cX0_addCoins 1 = .ok (.getfield 30, 3) := by decide +kernel
theorem dX0_addCoins_4 : decode cX0_addCoins 4 = .ok (.iload_n 1, 1) := by decide +kernel
theorem dX0_addCoins_5 : decode cX0_addCoins 5 = .ok (.sipush 9999, 3) := by decide +kernel
theorem dX0_addCoins_8 : decode cX0_addCoins 8 = .ok (.aload_n 0, 1) := by decide +kernel
theorem dX0_addCoins_9 : decode cX0_addCoins 9 = .ok (.getfield 30, 3) := by decide +kernel
theorem dX0_addCoins_12 : decode cX0_addCoins 12 = .ok (.iload_n 1, 1) := by decide +kernel
theorem dX0_addCoins_13 : decode cX0_addCoins 13 = .ok (.iaload, 1) := by decide +kernel
theorem dX0_addCoins_14 : decode cX0_addCoins 14 = .ok (.iload_n 2, 1) := by decide +kernel
theorem dX0_addCoins_15 : decode cX0_addCoins 15 = .ok (.iadd, 1) := by decide +kernel
theorem dX0_addCoins_16 : decode cX0_addCoins 16 = .ok (.invokestatic 208, 3) := by decide +kernel
theorem dX0_addCoins_19 : decode cX0_addCoins 19 = .ok (.iastore, 1) := by decide +kernel
theorem dX0_addCoins_20 : decode cX0_addCoins 20 = .ok (.return_, 1) := by decide +kernel
theorem dX0_countChildren_0 : decode cX0_countChildren 0 = .ok (.iconst 0, 1) := by decide +kernel
theorem dX0_countChildren_1 : decode cX0_countChildren 1 = .ok (.istore_n 2, 1) := by decide +kernel
theorem dX0_countChildren_2 : decode cX0_countChildren 2 = .ok (.iconst 0, 1) := by decide +kernel
theorem dX0_countChildren_3 : decode cX0_countChildren 3 = .ok (.istore_n 3, 1) := by decide +kernel
theorem dX0_countChildren_4 : decode cX0_countChildren 4 = .ok (.iload_n 3, 1) := by decide +kernel
theorem dX0_countChildren_5 : decode cX0_countChildren 5 = .ok (.aload_n 0, 1) := by decide +kernel
theorem dX0_countChildren_6 : decode cX0_countChildren 6 = .ok (.getfield 23, 3) := by decide +kernel
theorem dX0_countChildren_9 : decode cX0_countChildren 9 = .ok (.if_icmp .ge 22, 3) := by decide +kernel
theorem dX0_countChildren_12 : decode cX0_countChildren 12 = .ok (.aload_n 0, 1) := by decide +kernel
theorem dX0_countChildren_13 : decode cX0_countChildren 13 = .ok (.getfield 36, 3) := by decide +kernel
theorem dX0_countChildren_16 : decode cX0_countChildren 16 = .ok (.iload_n 3, 1) := by decide +kernel
theorem dX0_countChildren_17 : decode cX0_countChildren 17 = .ok (.iaload, 1) := by decide +kernel
theorem dX0_countChildren_18 : decode cX0_countChildren 18 = .ok (.iload_n 1, 1) := by decide +kernel
theorem dX0_countChildren_19 : decode cX0_countChildren 19 = .ok (.if_icmp .ne 6, 3) := by decide +kernel
theorem dX0_countChildren_22 : decode cX0_countChildren 22 = .ok (.iinc 2 1, 3) := by decide +kernel
theorem dX0_countChildren_25 : decode cX0_countChildren 25 = .ok (.iinc 3 1, 3) := by decide +kernel
theorem dX0_countChildren_28 : decode cX0_countChildren 28 = .ok (.goto (-24), 3) := by decide +kernel
theorem dX0_countChildren_31 : decode cX0_countChildren 31 = .ok (.iload_n 2, 1) := by decide +kernel
theorem dX0_countChildren_32 : decode cX0_countChildren 32 = .ok (.ireturn, 1) := by decide +kernel
theorem dX0_slot_0 : decode cX0_slot 0 = .ok (.iload_n 0, 1) := by decide +kernel
theorem dX0_slot_1 : decode cX0_slot 1 = .ok (.iconst 4, 1) := by decide +kernel
theorem dX0_slot_2 : decode cX0_slot 2 = .ok (.imul, 1) := by decide +kernel
theorem dX0_slot_3 : decode cX0_slot 3 = .ok (.iload_n 1, 1) := by decide +kernel
theorem dX0_slot_4 : decode cX0_slot 4 = .ok (.iadd, 1) := by decide +kernel
theorem dX0_slot_5 : decode cX0_slot 5 = .ok (.bipush 12, 2) := by decide +kernel
theorem dX0_slot_7 : decode cX0_slot 7 = .ok (.imul, 1) := by decide +kernel
theorem dX0_slot_8 : decode cX0_slot 8 = .ok (.iload_n 2, 1) := by decide +kernel
theorem dX0_slot_9 : decode cX0_slot 9 = .ok (.iadd, 1) := by decide +kernel
theorem dX0_slot_10 : decode cX0_slot 10 = .ok (.ireturn, 1) := by decide +kernel
set_option maxRecDepth 20000 in
theorem ggX0_owns_X0_slot : GoodIn wsX0_owns wsX0_slot := goodIn_r _ [5] (by decide +kernel) (by decide +kernel)
set_option maxRecDepth 20000 in
theorem gX0_owns_X0_slot : GoodIn wsX0_owns (va_wsS RX0 213 yX0_slot wsX0_slot) := goodIn_app (goodIn_of _ (by decide +kernel)) ggX0_owns_X0_slot
theorem dX0_owns_0 : decode cX0_owns 0 = .ok (.aload_n 0, 1) := by decide +kernel
theorem dX0_owns_1 : decode cX0_owns 1 = .ok (.getfield 20, 3) := by decide +kernel
theorem dX0_owns_4 : decode cX0_owns 4 = .ok (.iload_n 1, 1) := by decide +kernel
theorem dX0_owns_5 : decode cX0_owns 5 = .ok (.iload_n 2, 1) := by decide +kernel
theorem dX0_owns_6 : decode cX0_owns 6 = .ok (.iload_n 3, 1) := by decide +kernel
theorem dX0_owns_7 : decode cX0_owns 7 = .ok (.invokestatic 213, 3) := by decide +kernel
theorem dX0_owns_10 : decode cX0_owns 10 = .ok (.iaload, 1) := by decide +kernel
theorem dX0_owns_11 : decode cX0_owns 11 = .ok (.ireturn, 1) := by decide +kernel
set_option maxRecDepth 20000 in
theorem ggX0_addShares_X0_slot : GoodIn wsX0_addShares wsX0_slot := goodIn_r _ [5] (by decide +kernel) (by decide +kernel)
set_option maxRecDepth 20000 in
theorem gX0_addShares_X0_slot : GoodIn wsX0_addShares (va_wsS RX0 213 yX0_slot wsX0_slot) := goodIn_app (goodIn_of _ (by decide +kernel)) ggX0_addShares_X0_slot
theorem dX0_addShares_0 : decode cX0_addShares 0 = .ok (.aload_n 0, 1) := by decide +kernel
theorem dX0_addShares_1 : decode cX0_addShares 1 = .ok (.getfield 20, 3) := by decide +kernel
theorem dX0_addShares_4 : decode cX0_addShares 4 = .ok (.iload_n 1, 1) := by decide +kernel
theorem dX0_addShares_5 : decode cX0_addShares 5 = .ok (.iload_n 2, 1) := by decide +kernel
theorem dX0_addShares_6 : decode cX0_addShares 6 = .ok (.iload_n 3, 1) := by decide +kernel
theorem dX0_addShares_7 : decode cX0_addShares 7 = .ok (.invokestatic 213, 3) := by decide +kernel
theorem dX0_addShares_10 : decode cX0_addShares 10 = .ok (.dup2, 1) := by decide +kernel
theorem dX0_addShares_11 : decode cX0_addShares 11 = .ok (.iaload, 1) := by decide +kernel
theorem dX0_addShares_12 : decode cX0_addShares 12 = .ok (.iload 4, 2) := by decide +kernel
theorem dX0_addShares_14 : decode cX0_addShares 14 = .ok (.iadd, 1) := by decide +kernel
theorem dX0_addShares_15 : decode cX0_addShares 15 = .ok (.iastore, 1) := by decide +kernel
theorem dX0_addShares_16 : decode cX0_addShares 16 = .ok (.return_, 1) := by decide +kernel
set_option maxRecDepth 20000 in
theorem ggX0_crownOwns_X0_owns : GoodIn wsX0_crownOwns wsX0_owns := goodIn_r _ [6, 7, 8, 9, 5, 10, 11, 12, 13, 14, 15, 16, 17, 18, 19, 20] (by decide +kernel) (by decide +kernel)
set_option maxRecDepth 20000 in
theorem gX0_crownOwns_X0_owns : GoodIn wsX0_crownOwns (wsV RX0 96 RX0 yX0_owns wsX0_owns) := goodIn_app (goodIn_of _ (by decide +kernel)) ggX0_crownOwns_X0_owns
theorem dX0_crownOwns_0 : decode cX0_crownOwns 0 = .ok (.bipush 64, 2) := by decide +kernel
theorem dX0_crownOwns_2 : decode cX0_crownOwns 2 = .ok (.istore_n 3, 1) := by decide +kernel
theorem dX0_crownOwns_3 : decode cX0_crownOwns 3 = .ok (.iconst 0, 1) := by decide +kernel
theorem dX0_crownOwns_4 : decode cX0_crownOwns 4 = .ok (.istore 4, 2) := by decide +kernel
theorem dX0_crownOwns_6 : decode cX0_crownOwns 6 = .ok (.iload 4, 2) := by decide +kernel
theorem dX0_crownOwns_8 : decode cX0_crownOwns 8 = .ok (.aload_n 0, 1) := by decide +kernel
theorem dX0_crownOwns_9 : decode cX0_crownOwns 9 = .ok (.getfield 23, 3) := by decide +kernel
theorem dX0_crownOwns_12 : decode cX0_crownOwns 12 = .ok (.if_icmp .ge 20, 3) := by decide +kernel
theorem dX0_crownOwns_15 : decode cX0_crownOwns 15 = .ok (.iload_n 3, 1) := by decide +kernel
theorem dX0_crownOwns_16 : decode cX0_crownOwns 16 = .ok (.aload_n 0, 1) := by decide +kernel
theorem dX0_crownOwns_17 : decode cX0_crownOwns 17 = .ok (.iload_n 1, 1) := by decide +kernel
theorem dX0_crownOwns_18 : decode cX0_crownOwns 18 = .ok (.iload_n 2, 1) := by decide +kernel
theorem dX0_crownOwns_19 : decode cX0_crownOwns 19 = .ok (.iload 4, 2) := by decide +kernel
theorem dX0_crownOwns_21 : decode cX0_crownOwns 21 = .ok (.invokevirtual 96, 3) := by decide +kernel
theorem dX0_crownOwns_24 : decode cX0_crownOwns 24 = .ok (.isub, 1) := by decide +kernel
theorem dX0_crownOwns_25 : decode cX0_crownOwns 25 = .ok (.istore_n 3, 1) := by decide +kernel
theorem dX0_crownOwns_26 : decode cX0_crownOwns 26 = .ok (.iinc 4 1, 3) := by decide +kernel
theorem dX0_crownOwns_29 : decode cX0_crownOwns 29 = .ok (.goto (-23), 3) := by decide +kernel
theorem dX0_crownOwns_32 : decode cX0_crownOwns 32 = .ok (.iload_n 3, 1) := by decide +kernel
theorem dX0_crownOwns_33 : decode cX0_crownOwns 33 = .ok (.ireturn, 1) := by decide +kernel
set_option maxRecDepth 20000 in
theorem ggX0_countSharesOfFerry_X0_owns : GoodIn wsX0_countSharesOfFerry wsX0_owns := goodIn_r _ [5, 6, 7, 8, 4, 9, 10, 11, 12, 13, 14, 15, 16, 17, 18, 19] (by decide +kernel) (by decide +kernel)
set_option maxRecDepth 20000 in
theorem gX0_countSharesOfFerry_X0_owns : GoodIn wsX0_countSharesOfFerry (wsV RX0 96 RX0 yX0_owns wsX0_owns) := goodIn_app (goodIn_of _ (by decide +kernel)) ggX0_countSharesOfFerry_X0_owns
theorem dX0_countSharesOfFerry_0 : decode cX0_countSharesOfFerry 0 = .ok (.iconst 0, 1) := by decide +kernel
theorem dX0_countSharesOfFerry_1 : decode cX0_countSharesOfFerry 1 = .ok (.istore_n 3, 1) := by decide +kernel
theorem dX0_countSharesOfFerry_2 : decode cX0_countSharesOfFerry 2 = .ok (.iconst 0, 1) := by decide +kernel
theorem dX0_countSharesOfFerry_3 : decode cX0_countSharesOfFerry 3 = .ok (.istore 4, 2) := by decide +kernel
theorem dX0_countSharesOfFerry_5 : decode cX0_countSharesOfFerry 5 = .ok (.iload 4, 2) := by decide +kernel
theorem dX0_countSharesOfFerry_7 : decode cX0_countSharesOfFerry 7 = .ok (.iconst 4, 1) := by decide +kernel
theorem dX0_countSharesOfFerry_8 : decode cX0_countSharesOfFerry 8 = .ok (.if_icmp .ge 20, 3) := by decide +kernel
theorem dX0_countSharesOfFerry_11 : decode cX0_countSharesOfFerry 11 = .ok (.iload_n 3, 1) := by decide +kernel
theorem dX0_countSharesOfFerry_12 : decode cX0_countSharesOfFerry 12 = .ok (.aload_n 0, 1) := by decide +kernel
theorem dX0_countSharesOfFerry_13 : decode cX0_countSharesOfFerry 13 = .ok (.iload_n 1, 1) := by decide +kernel
theorem dX0_countSharesOfFerry_14 : decode cX0_countSharesOfFerry 14 = .ok (.iload 4, 2) := by decide +kernel
theorem dX0_countSharesOfFerry_16 : decode cX0_countSharesOfFerry 16 = .ok (.iload_n 2, 1) := by decide +kernel
theorem dX0_countSharesOfFerry_17 : decode cX0_countSharesOfFerry 17 = .ok (.invokevirtual 96, 3) := by decide +kernel
theorem dX0_countSharesOfFerry_20 : decode cX0_countSharesOfFerry 20 = .ok (.iadd, 1) := by decide +kernel
theorem dX0_countSharesOfFerry_21 : decode cX0_countSharesOfFerry 21 = .ok (.istore_n 3, 1) := by decide +kernel
theorem dX0_countSharesOfFerry_22 : decode cX0_countSharesOfFerry 22 = .ok (.iinc 4 1, 3) := by decide +kernel
theorem dX0_countSharesOfFerry_25 : decode cX0_countSharesOfFerry 25 = .ok (.goto (-20), 3) := by decide +kernel
theorem dX0_countSharesOfFerry_28 : decode cX0_countSharesOfFerry 28 = .ok (.iload_n 3, 1) := by decide +kernel
theorem dX0_countSharesOfFerry_29 : decode cX0_countSharesOfFerry 29 = .ok (.ireturn, 1) := by decide +kernel
set_option maxRecDepth 20000 in
theorem ggX0_countAllShares_X0_countSharesOfFerry : GoodIn wsX0_countAllShares wsX0_countSharesOfFerry := goodIn_r _ [6, 7, 8, 9, 5, 10, 11, 12, 13, 14, 15, 16, 17, 18, 19, 20, 21, 22, 23, 24] (by decide +kernel) (by decide +kernel)
set_option maxRecDepth 20000 in
theorem gX0_countAllShares_X0_countSharesOfFerry : GoodIn wsX0_countAllShares (wsV RX0 216 RX0 yX0_countSharesOfFerry wsX0_countSharesOfFerry) := goodIn_app (goodIn_of _ (by decide +kernel)) ggX0_countAllShares_X0_countSharesOfFerry
theorem dX0_countAllShares_0 : decode cX0_countAllShares 0 = .ok (.iconst 0, 1) := by decide +kernel
theorem dX0_countAllShares_1 : decode cX0_countAllShares 1 = .ok (.istore_n 2, 1) := by decide +kernel
theorem dX0_countAllShares_2 : decode cX0_countAllShares 2 = .ok (.iconst 0, 1) := by decide +kernel
theorem dX0_countAllShares_3 : decode cX0_countAllShares 3 = .ok (.istore_n 3, 1) := by decide +kernel
theorem dX0_countAllShares_4 : decode cX0_countAllShares 4 = .ok (.iload_n 3, 1) := by decide +kernel
theorem dX0_countAllShares_5 : decode cX0_countAllShares 5 = .ok (.aload_n 0, 1) := by decide +kernel
theorem dX0_countAllShares_6 : decode cX0_countAllShares 6 = .ok (.getfield 9, 3) := by decide +kernel
theorem dX0_countAllShares_9 : decode cX0_countAllShares 9 = .ok (.if_icmp .ge 18, 3) := by decide +kernel
theorem dX0_countAllShares_12 : decode cX0_countAllShares 12 = .ok (.iload_n 2, 1) := by decide +kernel
theorem dX0_countAllShares_13 : decode cX0_countAllShares 13 = .ok (.aload_n 0, 1) := by decide +kernel
theorem dX0_countAllShares_14 : decode cX0_countAllShares 14 = .ok (.iload_n 3, 1) := by decide +kernel
theorem dX0_countAllShares_15 : decode cX0_countAllShares 15 = .ok (.iload_n 1, 1) := by decide +kernel
theorem dX0_countAllShares_16 : decode cX0_countAllShares 16 = .ok (.invokevirtual 216, 3) := by decide +kernel
theorem dX0_countAllShares_19 : decode cX0_countAllShares 19 = .ok (.iadd, 1) := by decide +kernel
theorem dX0_countAllShares_20 : decode cX0_countAllShares 20 = .ok (.istore_n 2, 1) := by decide +kernel
theorem dX0_countAllShares_21 : decode cX0_countAllShares 21 = .ok (.iinc 3 1, 3) := by decide +kernel
theorem dX0_countAllShares_24 : decode cX0_countAllShares 24 = .ok (.goto (-20), 3) := by decide +kernel
theorem dX0_countAllShares_27 : decode cX0_countAllShares 27 = .ok (.iload_n 2, 1) := by decide +kernel
theorem dX0_countAllShares_28 : decode cX0_countAllShares 28 = .ok (.ireturn, 1) := by decide +kernel
set_option maxRecDepth 20000 in
theorem ggX0_findMaster_X0_countSharesOfFerry : GoodIn wsX0_findMaster wsX0_countSharesOfFerry := goodIn_r _ [6, 7, 8, 9, 5, 10, 11, 12, 13, 14, 15, 16, 17, 18, 19, 20, 21, 22, 23, 24] (by decide +kernel) (by decide +kernel)
set_option maxRecDepth 20000 in
theorem gX0_findMaster_X0_countSharesOfFerry : GoodIn wsX0_findMaster (wsV RX0 216 RX0 yX0_countSharesOfFerry wsX0_countSharesOfFerry) := goodIn_app (goodIn_of _ (by decide +kernel)) ggX0_findMaster_X0_countSharesOfFerry
theorem dX0_findMaster_0 : decode cX0_findMaster 0 = .ok (.iconst 0, 1) := by decide +kernel
theorem dX0_findMaster_1 : decode cX0_findMaster 1 = .ok (.istore_n 2, 1) := by decide +kernel
theorem dX0_findMaster_2 : decode cX0_findMaster 2 = .ok (.iload_n 2, 1) := by decide +kernel
theorem dX0_findMaster_3 : decode cX0_findMaster 3 = .ok (.aload_n 0, 1) := by decide +kernel
theorem dX0_findMaster_4 : decode cX0_findMaster 4 = .ok (.getfield 23, 3) := by decide +kernel
theorem dX0_findMaster_7 : decode cX0_findMaster 7 = .ok (.if_icmp .ge 23, 3) := by decide +kernel
theorem dX0_findMaster_10 : decode cX0_findMaster 10 = .ok (.aload_n 0, 1) := by decide +kernel
theorem dX0_findMaster_11 : decode cX0_findMaster 11 = .ok (.iload_n 1, 1) := by decide +kernel
theorem dX0_findMaster_12 : decode cX0_findMaster 12 = .ok (.iload_n 2, 1) := by decide +kernel
theorem dX0_findMaster_13 : decode cX0_findMaster 13 = .ok (.invokevirtual 216, 3) := by decide +kernel
theorem dX0_findMaster_16 : decode cX0_findMaster 16 = .ok (.sipush 128, 3) := by decide +kernel
theorem dX0_findMaster_19 : decode cX0_findMaster 19 = .ok (.if_icmp .le 5, 3) := by decide +kernel
theorem dX0_findMaster_22 : decode cX0_findMaster 22 = .ok (.iload_n 2, 1) := by decide +kernel
theorem dX0_findMaster_23 : decode cX0_findMaster 23 = .ok (.ireturn, 1) := by decide +kernel
theorem dX0_findMaster_24 : decode cX0_findMaster 24 = .ok (.iinc 2 1, 3) := by decide +kernel
theorem dX0_findMaster_27 : decode cX0_findMaster 27 = .ok (.goto (-25), 3) := by decide +kernel
theorem dX0_findMaster_30 : decode cX0_findMaster 30 = .ok (.iconst (-1), 1) := by decide +kernel
theorem dX0_findMaster_31 : decode cX0_findMaster 31 = .ok (.ireturn, 1) := by decide +kernel
theorem dX0_worth_0 : decode cX0_worth 0 = .ok (.aload_n 0, 1) := by decide +kernel
theorem dX0_worth_1 : decode cX0_worth 1 = .ok (.getfield 13, 3) := by decide +kernel
theorem dX0_worth_4 : decode cX0_worth 4 = .ok (.iload_n 1, 1) := by decide +kernel
theorem dX0_worth_5 : decode cX0_worth 5 = .ok (.iaload, 1) := by decide +kernel
theorem dX0_worth_6 : decode cX0_worth 6 = .ok (.getstatic 219, 3) := by decide +kernel
theorem dX0_worth_9 : decode cX0_worth 9 = .ok (.iload_n 2, 1) := by decide +kernel
theorem dX0_worth_10 : decode cX0_worth 10 = .ok (.iaload, 1) := by decide +kernel
theorem dX0_worth_11 : decode cX0_worth 11 = .ok (.imul, 1) := by decide +kernel
theorem dX0_worth_12 : decode cX0_worth 12 = .ok (.iconst 1, 1) := by decide +kernel
theorem dX0_worth_13 : decode cX0_worth 13 = .ok (.iadd, 1) := by decide +kernel
theorem dX0_worth_14 : decode cX0_worth 14 = .ok (.ireturn, 1) := by decide +kernel
set_option maxRecDepth 20000 in
theorem ggX0_priceOf_X0_owns : GoodIn wsX0_priceOf wsX0_owns := goodIn_r _ [5, 6, 7, 8, 4, 9, 16, 17, 18, 19, 20, 21, 22, 23, 24, 25] (by decide +kernel) (by decide +kernel)
set_option maxRecDepth 20000 in
theorem gX0_priceOf_X0_owns : GoodIn wsX0_priceOf (wsV RX0 96 RX0 yX0_owns wsX0_owns) := goodIn_app (goodIn_of _ (by decide +kernel)) ggX0_priceOf_X0_owns
set_option maxRecDepth 20000 in
theorem ggX0_priceOf_X0_worth : GoodIn wsX0_priceOf wsX0_worth := goodIn_r _ [13, 14, 15, 16, 17, 18, 19, 20, 21, 22, 23, 24, 25] (by decide +kernel) (by decide +kernel)
set_option maxRecDepth 20000 in
theorem gX0_priceOf_X0_worth : GoodIn wsX0_priceOf (wsV RX0 146 RX0 yX0_worth wsX0_worth) := goodIn_app (goodIn_of _ (by decide +kernel)) ggX0_priceOf_X0_worth
theorem dX0_priceOf_0 : decode cX0_priceOf 0 = .ok (.aload_n 0, 1) := by decide +kernel
theorem dX0_priceOf_1 : decode cX0_priceOf 1 = .ok (.iload_n 2, 1) := by decide +kernel
theorem dX0_priceOf_2 : decode cX0_priceOf 2 = .ok (.iload_n 3, 1) := by decide +kernel
theorem dX0_priceOf_3 : decode cX0_priceOf 3 = .ok (.iload_n 1, 1) := by decide +kernel
theorem dX0_priceOf_4 : decode cX0_priceOf 4 = .ok (.invokevirtual 96, 3) := by decide +kernel
theorem dX0_priceOf_7 : decode cX0_priceOf 7 = .ok (.aload_n 0, 1) := by decide +kernel
theorem dX0_priceOf_8 : decode cX0_priceOf 8 = .ok (.iload_n 2, 1) := by decide +kernel
theorem dX0_priceOf_9 : decode cX0_priceOf 9 = .ok (.iload_n 3, 1) := by decide +kernel
theorem dX0_priceOf_10 : decode cX0_priceOf 10 = .ok (.invokevirtual 146, 3) := by decide +kernel
theorem dX0_priceOf_13 : decode cX0_priceOf 13 = .ok (.imul, 1) := by decide +kernel
theorem dX0_priceOf_14 : decode cX0_priceOf 14 = .ok (.ireturn, 1) := by decide +kernel
set_option maxRecDepth 20000 in
theorem ggX0_mayBuy_X0_priceOf : GoodIn wsX0_mayBuy wsX0_priceOf := goodIn_r _ [7, 8, 9, 10, 6, 11, 12, 13, 14, 15, 16, 17, 18, 19, 20, 21, 27, 28, 29, 30, 31, 32, 33, 34, 35, 36] (by decide +kernel) (by decide +kernel)
set_option maxRecDepth 20000 in
theorem gX0_mayBuy_X0_priceOf : GoodIn wsX0_mayBuy (wsV RX0 111 RX0 yX0_priceOf wsX0_priceOf) := goodIn_app (goodIn_of _ (by decide +kernel)) ggX0_mayBuy_X0_priceOf
set_option maxRecDepth 20000 in
theorem ggX0_mayBuy_X0_owns : GoodIn wsX0_mayBuy wsX0_owns := goodIn_r _ [11, 12, 13, 14, 6, 15, 27, 28, 29, 30, 31, 32, 33, 34, 35, 36] (by decide +kernel) (by decide +kernel)
set_option maxRecDepth 20000 in
theorem gX0_mayBuy_X0_owns : GoodIn wsX0_mayBuy (wsV RX0 96 RX0 yX0_owns wsX0_owns) := goodIn_app (goodIn_of _ (by decide +kernel)) ggX0_mayBuy_X0_owns
set_option maxRecDepth 20000 in
theorem ggX0_mayBuy_X0_otherOwnerHas : GoodIn wsX0_mayBuy wsX0_otherOwnerHas := goodIn_r _ [25, 26, 2, 8, 9, 10, 6, 11, 12, 13, 14, 15, 27, 28, 29, 30, 31, 32, 33, 34, 35, 36] (by decide +kernel) (by decide +kernel)
set_option maxRecDepth 20000 in
theorem gX0_mayBuy_X0_otherOwnerHas : GoodIn wsX0_mayBuy (wsV RX0 222 RX0 yX0_otherOwnerHas wsX0_otherOwnerHas) := goodIn_app (goodIn_of _ (by decide +kernel)) ggX0_mayBuy_X0_otherOwnerHas
theorem dX0_mayBuy_0 : decode cX0_mayBuy 0 = .ok (.aload_n 0, 1) := by decide +kernel
theorem dX0_mayBuy_1 : decode cX0_mayBuy 1 = .ok (.iload_n 2, 1) := by decide +kernel
theorem dX0_mayBuy_2 : decode cX0_mayBuy 2 = .ok (.iload_n 3, 1) := by decide +kernel
theorem dX0_mayBuy_3 : decode cX0_mayBuy 3 = .ok (.iload 4, 2) := by decide +kernel
theorem dX0_mayBuy_5 : decode cX0_mayBuy 5 = .ok (.invokevirtual 111, 3) := by decide +kernel
theorem dX0_mayBuy_8 : decode cX0_mayBuy 8 = .ok (.istore 5, 2) := by decide +kernel
theorem dX0_mayBuy_10 : decode cX0_mayBuy 10 = .ok (.aload_n 0, 1) := by decide +kernel
theorem dX0_mayBuy_11 : decode cX0_mayBuy 11 = .ok (.getfield 26, 3) := by decide +kernel
theorem dX0_mayBuy_14 : decode cX0_mayBuy 14 = .ok (.iload_n 1, 1) := by decide +kernel
theorem dX0_mayBuy_15 : decode cX0_mayBuy 15 = .ok (.baload, 1) := by decide +kernel
theorem dX0_mayBuy_16 : decode cX0_mayBuy 16 = .ok (.ifCond .eq 19, 3) := by decide +kernel
theorem dX0_mayBuy_19 : decode cX0_mayBuy 19 = .ok (.iload_n 1, 1) := by decide +kernel
theorem dX0_mayBuy_20 : decode cX0_mayBuy 20 = .ok (.iload_n 2, 1) := by decide +kernel
theorem dX0_mayBuy_21 : decode cX0_mayBuy 21 = .ok (.if_icmp .eq 14, 3) := by decide +kernel
theorem dX0_mayBuy_24 : decode cX0_mayBuy 24 = .ok (.aload_n 0, 1) := by decide +kernel
theorem dX0_mayBuy_25 : decode cX0_mayBuy 25 = .ok (.getfield 30, 3) := by decide +kernel
theorem dX0_mayBuy_28 : decode cX0_mayBuy 28 = .ok (.iload_n 1, 1) := by decide +kernel
theorem dX0_mayBuy_29 : decode cX0_mayBuy 29 = .ok (.iaload, 1) := by decide +kernel
theorem dX0_mayBuy_30 : decode cX0_mayBuy 30 = .ok (.iload 5, 2) := by decide +kernel
theorem dX0_mayBuy_32 : decode cX0_mayBuy 32 = .ok (.if_icmp .ge 5, 3) := by decide +kernel
theorem dX0_mayBuy_35 : decode cX0_mayBuy 35 = .ok (.iconst 0, 1) := by decide +kernel
theorem dX0_mayBuy_36 : decode cX0_mayBuy 36 = .ok (.ireturn, 1) := by decide +kernel
theorem dX0_mayBuy_37 : decode cX0_mayBuy 37 = .ok (.aload_n 0, 1) := by decide +kernel
theorem dX0_mayBuy_38 : decode cX0_mayBuy 38 = .ok (.iload_n 3, 1) := by decide +kernel
theorem dX0_mayBuy_39 : decode cX0_mayBuy 39 = .ok (.iload 4, 2) := by decide +kernel
theorem dX0_mayBuy_41 : decode cX0_mayBuy 41 = .ok (.iload_n 2, 1) := by decide +kernel
theorem dX0_mayBuy_42 : decode cX0_mayBuy 42 = .ok (.invokevirtual 96, 3) := by decide +kernel
theorem dX0_mayBuy_45 : decode cX0_mayBuy 45 = .ok (.ifCond .ne 5, 3) := by decide +kernel
theorem dX0_mayBuy_48 : decode cX0_mayBuy 48 = .ok (.iconst 0, 1) := by decide +kernel
theorem dX0_mayBuy_49 : decode cX0_mayBuy 49 = .ok (.ireturn, 1) := by decide +kernel
theorem dX0_mayBuy_50 : decode cX0_mayBuy 50 = .ok (.aload_n 0, 1) := by decide +kernel
theorem dX0_mayBuy_51 : decode cX0_mayBuy 51 = .ok (.iload_n 3, 1) := by decide +kernel
theorem dX0_mayBuy_52 : decode cX0_mayBuy 52 = .ok (.iload 4, 2) := by decide +kernel
theorem dX0_mayBuy_54 : decode cX0_mayBuy 54 = .ok (.iload_n 1, 1) := by decide +kernel
theorem dX0_mayBuy_55 : decode cX0_mayBuy 55 = .ok (.invokevirtual 96, 3) := by decide +kernel
theorem dX0_mayBuy_58 : decode cX0_mayBuy 58 = .ok (.ifCond .gt 16, 3) := by decide +kernel
theorem dX0_mayBuy_61 : decode cX0_mayBuy 61 = .ok (.aload_n 0, 1) := by decide +kernel
theorem dX0_mayBuy_62 : decode cX0_mayBuy 62 = .ok (.iload 5, 2) := by decide +kernel
theorem dX0_mayBuy_64 : decode cX0_mayBuy 64 = .ok (.iload_n 2, 1) := by decide +kernel
theorem dX0_mayBuy_65 : decode cX0_mayBuy 65 = .ok (.iload_n 3, 1) := by decide +kernel
theorem dX0_mayBuy_66 : decode cX0_mayBuy 66 = .ok (.iload 4, 2) := by decide +kernel
theorem dX0_mayBuy_68 : decode cX0_mayBuy 68 = .ok (.invokevirtual 222, 3) := by decide +kernel
theorem dX0_mayBuy_71 : decode cX0_mayBuy 71 = .ok (.ifCond .ne 7, 3) := by decide +kernel
theorem dX0_mayBuy_74 : decode cX0_mayBuy 74 = .ok (.iconst 1, 1) := by decide +kernel
theorem dX0_mayBuy_75 : decode cX0_mayBuy 75 = .ok (.goto 4, 3) := by decide +kernel
theorem dX0_mayBuy_78 : decode cX0_mayBuy 78 = .ok (.iconst 0, 1) := by decide +kernel
theorem dX0_mayBuy_79 : decode cX0_mayBuy 79 = .ok (.ireturn, 1) := by decide +kernel
set_option maxRecDepth 20000 in
theorem ggX0_otherOwnerHas_X0_owns : GoodIn wsX0_otherOwnerHas wsX0_owns := goodIn_r _ [7, 8, 9, 10, 6, 11, 12, 13, 14, 15, 16, 17, 18, 19, 20, 21] (by decide +kernel) (by decide +kernel)
set_option maxRecDepth 20000 in
theorem gX0_otherOwnerHas_X0_owns : GoodIn wsX0_otherOwnerHas (wsV RX0 96 RX0 yX0_owns wsX0_owns) := goodIn_app (goodIn_of _ (by decide +kernel)) ggX0_otherOwnerHas_X0_owns
theorem dX0_otherOwnerHas_0 : decode cX0_otherOwnerHas 0 = .ok (.iconst 0, 1) := by decide +kernel
theorem dX0_otherOwnerHas_1 : decode cX0_otherOwnerHas 1 = .ok (.istore 5, 2) := by decide +kernel
theorem dX0_otherOwnerHas_3 : decode cX0_otherOwnerHas 3 = .ok (.iload 5, 2) := by decide +kernel
theorem dX0_otherOwnerHas_5 : decode cX0_otherOwnerHas 5 = .ok (.aload_n 0, 1) := by decide +kernel
theorem dX0_otherOwnerHas_6 : decode cX0_otherOwnerHas 6 = .ok (.getfield 23, 3) := by decide +kernel
theorem dX0_otherOwnerHas_9 : decode cX0_otherOwnerHas 9 = .ok (.if_icmp .ge 40, 3) := by decide +kernel
theorem dX0_otherOwnerHas_12 : decode cX0_otherOwnerHas 12 = .ok (.iload 5, 2) := by decide +kernel
theorem dX0_otherOwnerHas_14 : decode cX0_otherOwnerHas 14 = .ok (.iload_n 2, 1) := by decide +kernel
theorem dX0_otherOwnerHas_15 : decode cX0_otherOwnerHas 15 = .ok (.if_icmp .eq 28, 3) := by decide +kernel
theorem dX0_otherOwnerHas_18 : decode cX0_otherOwnerHas 18 = .ok (.aload_n 0, 1) := by decide +kernel
theorem dX0_otherOwnerHas_19 : decode cX0_otherOwnerHas 19 = .ok (.iload_n 3, 1) := by decide +kernel
theorem dX0_otherOwnerHas_20 : decode cX0_otherOwnerHas 20 = .ok (.iload 4, 2) := by decide +kernel
theorem dX0_otherOwnerHas_22 : decode cX0_otherOwnerHas 22 = .ok (.iload 5, 2) := by decide +kernel
theorem dX0_otherOwnerHas_24 : decode cX0_otherOwnerHas 24 = .ok (.invokevirtual 96, 3) := by decide +kernel
theorem dX0_otherOwnerHas_27 : decode cX0_otherOwnerHas 27 = .ok (.ifCond .le 16, 3) := by decide +kernel
theorem dX0_otherOwnerHas_30 : decode cX0_otherOwnerHas 30 = .ok (.aload_n 0, 1) := by decide +kernel
theorem dX0_otherOwnerHas_31 : decode cX0_otherOwnerHas 31 = .ok (.getfield 30, 3) := by decide +kernel
theorem dX0_otherOwnerHas_34 : decode cX0_otherOwnerHas 34 = .ok (.iload 5, 2) := by decide +kernel
theorem dX0_otherOwnerHas_36 : decode cX0_otherOwnerHas 36 = .ok (.iaload, 1) := by decide +kernel
theorem dX0_otherOwnerHas_37 : decode cX0_otherOwnerHas 37 = .ok (.iload_n 1, 1) := by decide +kernel
theorem dX0_otherOwnerHas_38 : decode cX0_otherOwnerHas 38 = .ok (.if_icmp .lt 5, 3) := by decide +kernel
theorem dX0_otherOwnerHas_41 : decode cX0_otherOwnerHas 41 = .ok (.iconst 1, 1) := by decide +kernel
theorem dX0_otherOwnerHas_42 : decode cX0_otherOwnerHas 42 = .ok (.ireturn, 1) := by decide +kernel
theorem dX0_otherOwnerHas_43 : decode cX0_otherOwnerHas 43 = .ok (.iinc 5 1, 3) := by decide +kernel
theorem dX0_otherOwnerHas_46 : decode cX0_otherOwnerHas 46 = .ok (.goto (-43), 3) := by decide +kernel
theorem dX0_otherOwnerHas_49 : decode cX0_otherOwnerHas 49 = .ok (.iconst 0, 1) := by decide +kernel
theorem dX0_otherOwnerHas_50 : decode cX0_otherOwnerHas 50 = .ok (.ireturn, 1) := by decide +kernel
set_option maxRecDepth 20000 in
theorem ggX0_fareOf_X0_owns : GoodIn wsX0_fareOf wsX0_owns := goodIn_r _ [6, 7, 8, 9, 5, 10, 11, 12, 13, 14, 15, 16, 17, 18, 19, 20] (by decide +kernel) (by decide +kernel)
set_option maxRecDepth 20000 in
theorem gX0_fareOf_X0_owns : GoodIn wsX0_fareOf (wsV RX0 96 RX0 yX0_owns wsX0_owns) := goodIn_app (goodIn_of _ (by decide +kernel)) ggX0_fareOf_X0_owns
theorem dX0_fareOf_0 : decode cX0_fareOf 0 = .ok (.aload_n 0, 1) := by decide +kernel
theorem dX0_fareOf_1 : decode cX0_fareOf 1 = .ok (.getfield 13, 3) := by decide +kernel
theorem dX0_fareOf_4 : decode cX0_fareOf 4 = .ok (.iload_n 2, 1) := by decide +kernel
theorem dX0_fareOf_5 : decode cX0_fareOf 5 = .ok (.iaload, 1) := by decide +kernel
theorem dX0_fareOf_6 : decode cX0_fareOf 6 = .ok (.iload 4, 2) := by decide +kernel
theorem dX0_fareOf_8 : decode cX0_fareOf 8 = .ok (.imul, 1) := by decide +kernel
theorem dX0_fareOf_9 : decode cX0_fareOf 9 = .ok (.aload_n 0, 1) := by decide +kernel
theorem dX0_fareOf_10 : decode cX0_fareOf 10 = .ok (.iload_n 2, 1) := by decide +kernel
theorem dX0_fareOf_11 : decode cX0_fareOf 11 = .ok (.iload_n 3, 1) := by decide +kernel
theorem dX0_fareOf_12 : decode cX0_fareOf 12 = .ok (.iload_n 1, 1) := by decide +kernel
theorem dX0_fareOf_13 : decode cX0_fareOf 13 = .ok (.invokevirtual 96, 3) := by decide +kernel
theorem dX0_fareOf_16 : decode cX0_fareOf 16 = .ok (.imul, 1) := by decide +kernel
theorem dX0_fareOf_17 : decode cX0_fareOf 17 = .ok (.bipush 64, 2) := by decide +kernel
theorem dX0_fareOf_19 : decode cX0_fareOf 19 = .ok (.idiv, 1) := by decide +kernel
theorem dX0_fareOf_20 : decode cX0_fareOf 20 = .ok (.ireturn, 1) := by decide +kernel
theorem dX0_hasLivingChild_0 : decode cX0_hasLivingChild 0 = .ok (.iconst 0, 1) := by decide +kernel
theorem dX0_hasLivingChild_1 : decode cX0_hasLivingChild 1 = .ok (.istore_n 2, 1) := by decide +kernel
theorem dX0_hasLivingChild_2 : decode cX0_hasLivingChild 2 = .ok (.iload_n 2, 1) := by decide +kernel
theorem dX0_hasLivingChild_3 : decode cX0_hasLivingChild 3 = .ok (.aload_n 0, 1) := by decide +kernel
theorem dX0_hasLivingChild_4 : decode cX0_hasLivingChild 4 = .ok (.getfield 23, 3) := by decide +kernel
theorem dX0_hasLivingChild_7 : decode cX0_hasLivingChild 7 = .ok (.if_icmp .ge 30, 3) := by decide +kernel
theorem dX0_hasLivingChild_10 : decode cX0_hasLivingChild 10 = .ok (.aload_n 0, 1) := by decide +kernel
theorem dX0_hasLivingChild_11 : decode cX0_hasLivingChild 11 = .ok (.getfield 26, 3) := by decide +kernel
theorem dX0_hasLivingChild_14 : decode cX0_hasLivingChild 14 = .ok (.iload_n 2, 1) := by decide +kernel
theorem dX0_hasLivingChild_15 : decode cX0_hasLivingChild 15 = .ok (.baload, 1) := by decide +kernel
theorem dX0_hasLivingChild_16 : decode cX0_hasLivingChild 16 = .ok (.ifCond .eq 15, 3) := by decide +kernel
theorem dX0_hasLivingChild_19 : decode cX0_hasLivingChild 19 = .ok (.aload_n 0, 1) := by decide +kernel
theorem dX0_hasLivingChild_20 : decode cX0_hasLivingChild 20 = .ok (.getfield 36, 3) := by decide +kernel
theorem dX0_hasLivingChild_23 : decode cX0_hasLivingChild 23 = .ok (.iload_n 2, 1) := by decide +kernel
theorem dX0_hasLivingChild_24 : decode cX0_hasLivingChild 24 = .ok (.iaload, 1) := by decide +kernel
theorem dX0_hasLivingChild_25 : decode cX0_hasLivingChild 25 = .ok (.iload_n 1, 1) := by decide +kernel
theorem dX0_hasLivingChild_26 : decode cX0_hasLivingChild 26 = .ok (.if_icmp .ne 5, 3) := by decide +kernel
theorem dX0_hasLivingChild_29 : decode cX0_hasLivingChild 29 = .ok (.iconst 1, 1) := by decide +kernel
theorem dX0_hasLivingChild_30 : decode cX0_hasLivingChild 30 = .ok (.ireturn, 1) := by decide +kernel
theorem dX0_hasLivingChild_31 : decode cX0_hasLivingChild 31 = .ok (.iinc 2 1, 3) := by decide +kernel
theorem dX0_hasLivingChild_34 : decode cX0_hasLivingChild 34 = .ok (.goto (-32), 3) := by decide +kernel
theorem dX0_hasLivingChild_37 : decode cX0_hasLivingChild 37 = .ok (.iconst 0, 1) := by decide +kernel
theorem dX0_hasLivingChild_38 : decode cX0_hasLivingChild 38 = .ok (.ireturn, 1) := by decide +kernel
set_option maxRecDepth 20000 in
theorem ggX0_isHeir_X0_hasLivingChild : GoodIn wsX0_isHeir wsX0_hasLivingChild := goodIn_r _ [7, 8, 1, 2, 9, 10, 11, 12, 13, 14, 15, 16, 17, 18] (by decide +kernel) (by decide +kernel)
set_option maxRecDepth 20000 in
theorem gX0_isHeir_X0_hasLivingChild : GoodIn wsX0_isHeir (wsV RX0 225 RX0 yX0_hasLivingChild wsX0_hasLivingChild) := goodIn_app (goodIn_of _ (by decide +kernel)) ggX0_isHeir_X0_hasLivingChild
theorem dX0_isHeir_0 : decode cX0_isHeir 0 = .ok (.aload_n 0, 1) := by decide +kernel
theorem dX0_isHeir_1 : decode cX0_isHeir 1 = .ok (.getfield 26, 3) := by decide +kernel
theorem dX0_isHeir_4 : decode cX0_isHeir 4 = .ok (.iload_n 1, 1) := by decide +kernel
theorem dX0_isHeir_5 : decode cX0_isHeir 5 = .ok (.baload, 1) := by decide +kernel
theorem dX0_isHeir_6 : decode cX0_isHeir 6 = .ok (.ifCond .eq 8, 3) := by decide +kernel
theorem dX0_isHeir_9 : decode cX0_isHeir 9 = .ok (.iload_n 1, 1) := by decide +kernel
theorem dX0_isHeir_10 : decode cX0_isHeir 10 = .ok (.iload_n 2, 1) := by decide +kernel
theorem dX0_isHeir_11 : decode cX0_isHeir 11 = .ok (.if_icmp .ne 5, 3) := by decide +kernel
theorem dX0_isHeir_14 : decode cX0_isHeir 14 = .ok (.iconst 0, 1) := by decide +kernel
theorem dX0_isHeir_15 : decode cX0_isHeir 15 = .ok (.ireturn, 1) := by decide +kernel
theorem dX0_isHeir_16 : decode cX0_isHeir 16 = .ok (.aload_n 0, 1) := by decide +kernel
theorem dX0_isHeir_17 : decode cX0_isHeir 17 = .ok (.iload_n 2, 1) := by decide +kernel
theorem dX0_isHeir_18 : decode cX0_isHeir 18 = .ok (.invokevirtual 225, 3) := by decide +kernel
theorem dX0_isHeir_21 : decode cX0_isHeir 21 = .ok (.ifCond .eq 19, 3) := by decide +kernel
theorem dX0_isHeir_24 : decode cX0_isHeir 24 = .ok (.aload_n 0, 1) := by decide +kernel
theorem dX0_isHeir_25 : decode cX0_isHeir 25 = .ok (.getfield 36, 3) := by decide +kernel
theorem dX0_isHeir_28 : decode cX0_isHeir 28 = .ok (.iload_n 1, 1) := by decide +kernel
theorem dX0_isHeir_29 : decode cX0_isHeir 29 = .ok (.iaload, 1) := by decide +kernel
theorem dX0_isHeir_30 : decode cX0_isHeir 30 = .ok (.iload_n 2, 1) := by decide +kernel
theorem dX0_isHeir_31 : decode cX0_isHeir 31 = .ok (.if_icmp .ne 7, 3) := by decide +kernel
theorem dX0_isHeir_34 : decode cX0_isHeir 34 = .ok (.iconst 1, 1) := by decide +kernel
theorem dX0_isHeir_35 : decode cX0_isHeir 35 = .ok (.goto 4, 3) := by decide +kernel
theorem dX0_isHeir_38 : decode cX0_isHeir 38 = .ok (.iconst 0, 1) := by decide +kernel
theorem dX0_isHeir_39 : decode cX0_isHeir 39 = .ok (.ireturn, 1) := by decide +kernel
theorem dX0_isHeir_40 : decode cX0_isHeir 40 = .ok (.aload_n 0, 1) := by decide +kernel
theorem dX0_isHeir_41 : decode cX0_isHeir 41 = .ok (.getfield 36, 3) := by decide +kernel
theorem dX0_isHeir_44 : decode cX0_isHeir 44 = .ok (.iload_n 2, 1) := by decide +kernel
theorem dX0_isHeir_45 : decode cX0_isHeir 45 = .ok (.iaload, 1) := by decide +kernel
theorem dX0_isHeir_46 : decode cX0_isHeir 46 = .ok (.iconst (-1), 1) := by decide +kernel
theorem dX0_isHeir_47 : decode cX0_isHeir 47 = .ok (.if_icmp .eq 22, 3) := by decide +kernel
theorem dX0_isHeir_50 : decode cX0_isHeir 50 = .ok (.aload_n 0, 1) := by decide +kernel
theorem dX0_isHeir_51 : decode cX0_isHeir 51 = .ok (.getfield 36, 3) := by decide +kernel
theorem dX0_isHeir_54 : decode cX0_isHeir 54 = .ok (.iload_n 1, 1) := by decide +kernel
theorem dX0_isHeir_55 : decode cX0_isHeir 55 = .ok (.iaload, 1) := by decide +kernel
theorem dX0_isHeir_56 : decode cX0_isHeir 56 = .ok (.aload_n 0, 1) := by decide +kernel
theorem dX0_isHeir_57 : decode cX0_isHeir 57 = .ok (.getfield 36, 3) := by decide +kernel
theorem dX0_isHeir_60 : decode cX0_isHeir 60 = .ok (.iload_n 2, 1) := by decide +kernel
theorem dX0_isHeir_61 : decode cX0_isHeir 61 = .ok (.iaload, 1) := by decide +kernel
theorem dX0_isHeir_62 : decode cX0_isHeir 62 = .ok (.if_icmp .ne 7, 3) := by decide +kernel
theorem dX0_isHeir_65 : decode cX0_isHeir 65 = .ok (.iconst 1, 1) := by decide +kernel
theorem dX0_isHeir_66 : decode cX0_isHeir 66 = .ok (.goto 4, 3) := by decide +kernel
theorem dX0_isHeir_69 : decode cX0_isHeir 69 = .ok (.iconst 0, 1) := by decide +kernel
theorem dX0_isHeir_70 : decode cX0_isHeir 70 = .ok (.ireturn, 1) := by decide +kernel
set_option maxRecDepth 20000 in
theorem ggX0_countHeirs_X0_countHeirsBelow : GoodIn wsX0_countHeirs wsX0_countHeirsBelow := goodIn_r _ [6, 7, 8, 9, 5, 10, 11, 12, 13, 14, 15, 16, 1, 17, 18, 19, 20, 21, 22, 23, 24, 25, 26] (by decide +kernel) (by decide +kernel)
set_option maxRecDepth 20000 in
theorem gX0_countHeirs_X0_countHeirsBelow : GoodIn wsX0_countHeirs (wsV RX0 165 RX0 yX0_countHeirsBelow wsX0_countHeirsBelow) := goodIn_app (goodIn_of _ (by decide +kernel)) ggX0_countHeirs_X0_countHeirsBelow
theorem dX0_countHeirs_0 : decode cX0_countHeirs 0 = .ok (.aload_n 0, 1) := by decide +kernel
theorem dX0_countHeirs_1 : decode cX0_countHeirs 1 = .ok (.aload_n 0, 1) := by decide +kernel
theorem dX0_countHeirs_2 : decode cX0_countHeirs 2 = .ok (.getfield 23, 3) := by decide +kernel
theorem dX0_countHeirs_5 : decode cX0_countHeirs 5 = .ok (.iload_n 1, 1) := by decide +kernel
theorem dX0_countHeirs_6 : decode cX0_countHeirs 6 = .ok (.invokevirtual 165, 3) := by decide +kernel
theorem dX0_countHeirs_9 : decode cX0_countHeirs 9 = .ok (.ireturn, 1) := by decide +kernel
set_option maxRecDepth 20000 in
theorem ggX0_countHeirsBelow_X0_isHeir : GoodIn wsX0_countHeirsBelow wsX0_isHeir := goodIn_r _ [5, 6, 7, 8, 9, 10, 4, 11, 12, 13, 14, 15, 16, 17, 18, 19, 20, 21, 22] (by decide +kernel) (by decide +kernel)
set_option maxRecDepth 20000 in
theorem gX0_countHeirsBelow_X0_isHeir : GoodIn wsX0_countHeirsBelow (wsV RX0 132 RX0 yX0_isHeir wsX0_isHeir) := goodIn_app (goodIn_of _ (by decide +kernel)) ggX0_countHeirsBelow_X0_isHeir
theorem dX0_countHeirsBelow_0 : decode cX0_countHeirsBelow 0 = .ok (.iconst 0, 1) := by decide +kernel
theorem dX0_countHeirsBelow_1 : decode cX0_countHeirsBelow 1 = .ok (.istore_n 3, 1) := by decide +kernel
theorem dX0_countHeirsBelow_2 : decode cX0_countHeirsBelow 2 = .ok (.iconst 0, 1) := by decide +kernel
theorem dX0_countHeirsBelow_3 : decode cX0_countHeirsBelow 3 = .ok (.istore 4, 2) := by decide +kernel
theorem dX0_countHeirsBelow_5 : decode cX0_countHeirsBelow 5 = .ok (.iload 4, 2) := by decide +kernel
theorem dX0_countHeirsBelow_7 : decode cX0_countHeirsBelow 7 = .ok (.iload_n 1, 1) := by decide +kernel
theorem dX0_countHeirsBelow_8 : decode cX0_countHeirsBelow 8 = .ok (.if_icmp .ge 22, 3) := by decide +kernel
theorem dX0_countHeirsBelow_11 : decode cX0_countHeirsBelow 11 = .ok (.aload_n 0, 1) := by decide +kernel
theorem dX0_countHeirsBelow_12 : decode cX0_countHeirsBelow 12 = .ok (.iload 4, 2) := by decide +kernel
theorem dX0_countHeirsBelow_14 : decode cX0_countHeirsBelow 14 = .ok (.iload_n 2, 1) := by decide +kernel
theorem dX0_countHeirsBelow_15 : decode cX0_countHeirsBelow 15 = .ok (.invokevirtual 132, 3) := by decide +kernel
theorem dX0_countHeirsBelow_18 : decode cX0_countHeirsBelow 18 = .ok (.ifCond .eq 6, 3) := by decide +kernel
theorem dX0_countHeirsBelow_21 : decode cX0_countHeirsBelow 21 = .ok (.iinc 3 1, 3) := by decide +kernel
theorem dX0_countHeirsBelow_24 : decode cX0_countHeirsBelow 24 = .ok (.iinc 4 1, 3) := by decide +kernel
theorem dX0_countHeirsBelow_27 : decode cX0_countHeirsBelow 27 = .ok (.goto (-22), 3) := by decide +kernel
theorem dX0_countHeirsBelow_30 : decode cX0_countHeirsBelow 30 = .ok (.iload_n 3, 1) := by decide +kernel
theorem dX0_countHeirsBelow_31 : decode cX0_countHeirsBelow 31 = .ok (.ireturn, 1) := by decide +kernel
set_option maxRecDepth 20000 in
theorem ggX0_findHeir_X0_isHeir : GoodIn wsX0_findHeir wsX0_isHeir := goodIn_r _ [6, 7, 8, 9, 10, 11, 5, 12, 1, 13, 14, 15, 16, 17, 18, 19, 20, 21, 22] (by decide +kernel) (by decide +kernel)
set_option maxRecDepth 20000 in
theorem gX0_findHeir_X0_isHeir : GoodIn wsX0_findHeir (wsV RX0 132 RX0 yX0_isHeir wsX0_isHeir) := goodIn_app (goodIn_of _ (by decide +kernel)) ggX0_findHeir_X0_isHeir
theorem dX0_findHeir_0 : decode cX0_findHeir 0 = .ok (.iconst 0, 1) := by decide +kernel
theorem dX0_findHeir_1 : decode cX0_findHeir 1 = .ok (.istore_n 3, 1) := by decide +kernel
theorem dX0_findHeir_2 : decode cX0_findHeir 2 = .ok (.iconst 0, 1) := by decide +kernel
theorem dX0_findHeir_3 : decode cX0_findHeir 3 = .ok (.istore 4, 2) := by decide +kernel
theorem dX0_findHeir_5 : decode cX0_findHeir 5 = .ok (.iload 4, 2) := by decide +kernel
theorem dX0_findHeir_7 : decode cX0_findHeir 7 = .ok (.aload_n 0, 1) := by decide +kernel
theorem dX0_findHeir_8 : decode cX0_findHeir 8 = .ok (.getfield 23, 3) := by decide +kernel
theorem dX0_findHeir_11 : decode cX0_findHeir 11 = .ok (.if_icmp .ge 30, 3) := by decide +kernel
theorem dX0_findHeir_14 : decode cX0_findHeir 14 = .ok (.aload_n 0, 1) := by decide +kernel
theorem dX0_findHeir_15 : decode cX0_findHeir 15 = .ok (.iload 4, 2) := by decide +kernel
theorem dX0_findHeir_17 : decode cX0_findHeir 17 = .ok (.iload_n 1, 1) := by decide +kernel
theorem dX0_findHeir_18 : decode cX0_findHeir 18 = .ok (.invokevirtual 132, 3) := by decide +kernel
theorem dX0_findHeir_21 : decode cX0_findHeir 21 = .ok (.ifCond .eq 14, 3) := by decide +kernel
theorem dX0_findHeir_24 : decode cX0_findHeir 24 = .ok (.iload_n 3, 1) := by decide +kernel
theorem dX0_findHeir_25 : decode cX0_findHeir 25 = .ok (.iload_n 2, 1) := by decide +kernel
theorem dX0_findHeir_26 : decode cX0_findHeir 26 = .ok (.if_icmp .ne 6, 3) := by decide +kernel
theorem dX0_findHeir_29 : decode cX0_findHeir 29 = .ok (.iload 4, 2) := by decide +kernel
theorem dX0_findHeir_31 : decode cX0_findHeir 31 = .ok (.ireturn, 1) := by decide +kernel
theorem dX0_findHeir_32 : decode cX0_findHeir 32 = .ok (.iinc 3 1, 3) := by decide +kernel
theorem dX0_findHeir_35 : decode cX0_findHeir 35 = .ok (.iinc 4 1, 3) := by decide +kernel
theorem dX0_findHeir_38 : decode cX0_findHeir 38 = .ok (.goto (-33), 3) := by decide +kernel
theorem dX0_findHeir_41 : decode cX0_findHeir 41 = .ok (.iconst (-1), 1) := by decide +kernel
theorem dX0_findHeir_42 : decode cX0_findHeir 42 = .ok (.ireturn, 1) := by decide +kernel
theorem dX0_partOf_0 : decode cX0_partOf 0 = .ok (.iload_n 1, 1) := by decide +kernel
theorem dX0_partOf_1 : decode cX0_partOf 1 = .ok (.iconst 1, 1) := by decide +kernel
theorem dX0_partOf_2 : decode cX0_partOf 2 = .ok (.if_icmp .gt 5, 3) := by decide +kernel
theorem dX0_partOf_5 : decode cX0_partOf 5 = .ok (.iload_n 0, 1) := by decide +kernel
theorem dX0_partOf_6 : decode cX0_partOf 6 = .ok (.ireturn, 1) := by decide +kernel
theorem dX0_partOf_7 : decode cX0_partOf 7 = .ok (.iload_n 0, 1) := by decide +kernel
theorem dX0_partOf_8 : decode cX0_partOf 8 = .ok (.iconst 2, 1) := by decide +kernel
theorem dX0_partOf_9 : decode cX0_partOf 9 = .ok (.idiv, 1) := by decide +kernel
theorem dX0_partOf_10 : decode cX0_partOf 10 = .ok (.istore_n 3, 1) := by decide +kernel
theorem dX0_partOf_11 : decode cX0_partOf 11 = .ok (.iload_n 2, 1) := by decide +kernel
theorem dX0_partOf_12 : decode cX0_partOf 12 = .ok (.ifCond .ne 7, 3) := by decide +kernel
theorem dX0_partOf_15 : decode cX0_partOf 15 = .ok (.iload_n 0, 1) := by decide +kernel
theorem dX0_partOf_16 : decode cX0_partOf 16 = .ok (.iload_n 3, 1) := by decide +kernel
theorem dX0_partOf_17 : decode cX0_partOf 17 = .ok (.isub, 1) := by decide +kernel
theorem dX0_partOf_18 : decode cX0_partOf 18 = .ok (.ireturn, 1) := by decide +kernel
theorem dX0_partOf_19 : decode cX0_partOf 19 = .ok (.iload_n 1, 1) := by decide +kernel
theorem dX0_partOf_20 : decode cX0_partOf 20 = .ok (.iconst 1, 1) := by decide +kernel
theorem dX0_partOf_21 : decode cX0_partOf 21 = .ok (.isub, 1) := by decide +kernel
theorem dX0_partOf_22 : decode cX0_partOf 22 = .ok (.istore 4, 2) := by decide +kernel
theorem dX0_partOf_24 : decode cX0_partOf 24 = .ok (.iload_n 3, 1) := by decide +kernel
theorem dX0_partOf_25 : decode cX0_partOf 25 = .ok (.iload 4, 2) := by decide +kernel
theorem dX0_partOf_27 : decode cX0_partOf 27 = .ok (.idiv, 1) := by decide +kernel
theorem dX0_partOf_28 : decode cX0_partOf 28 = .ok (.istore 5, 2) := by decide +kernel
theorem dX0_partOf_30 : decode cX0_partOf 30 = .ok (.iload_n 2, 1) := by decide +kernel
theorem dX0_partOf_31 : decode cX0_partOf 31 = .ok (.iconst 1, 1) := by decide +kernel
theorem dX0_partOf_32 : decode cX0_partOf 32 = .ok (.isub, 1) := by decide +kernel
theorem dX0_partOf_33 : decode cX0_partOf 33 = .ok (.iload_n 3, 1) := by decide +kernel
theorem dX0_partOf_34 : decode cX0_partOf 34 = .ok (.iload 4, 2) := by decide +kernel
theorem dX0_partOf_36 : decode cX0_partOf 36 = .ok (.irem, 1) := by decide +kernel
theorem dX0_partOf_37 : decode cX0_partOf 37 = .ok (.if_icmp .ge 10, 3) := by decide +kernel
theorem dX0_partOf_40 : decode cX0_partOf 40 = .ok (.iload 5, 2) := by decide +kernel
theorem dX0_partOf_42 : decode cX0_partOf 42 = .ok (.iconst 1, 1) := by decide +kernel
theorem dX0_partOf_43 : decode cX0_partOf 43 = .ok (.iadd, 1) := by decide +kernel
theorem dX0_partOf_44 : decode cX0_partOf 44 = .ok (.goto 5, 3) := by decide +kernel
theorem dX0_partOf_47 : decode cX0_partOf 47 = .ok (.iload 5, 2) := by decide +kernel
theorem dX0_partOf_49 : decode cX0_partOf 49 = .ok (.ireturn, 1) := by decide +kernel
set_option maxRecDepth 20000 in
theorem ggX0_hand_X0_owns : GoodIn wsX0_hand wsX0_owns := goodIn_r _ [7, 8, 9, 10, 6, 11, 27, 28, 29, 30, 31, 32, 33, 34, 35, 36] (by decide +kernel) (by decide +kernel)
set_option maxRecDepth 20000 in
theorem gX0_hand_X0_owns : GoodIn wsX0_hand (wsV RX0 96 RX0 yX0_owns wsX0_owns) := goodIn_app (goodIn_of _ (by decide +kernel)) ggX0_hand_X0_owns
set_option maxRecDepth 20000 in
theorem ggX0_hand_X0_partOf : GoodIn wsX0_hand wsX0_partOf := goodIn_r _ [14] (by decide +kernel) (by decide +kernel)
set_option maxRecDepth 20000 in
theorem gX0_hand_X0_partOf : GoodIn wsX0_hand (va_wsS RX0 168 yX0_partOf wsX0_partOf) := goodIn_app (goodIn_of _ (by decide +kernel)) ggX0_hand_X0_partOf
set_option maxRecDepth 20000 in
theorem ggX0_hand_X0_addShares : GoodIn wsX0_hand wsX0_addShares := goodIn_r _ [18, 8, 9, 10, 6, 11, 27, 28, 29, 30, 31, 32, 33, 34, 35, 36] (by decide +kernel) (by decide +kernel)
set_option maxRecDepth 20000 in
theorem gX0_hand_X0_addShares : GoodIn wsX0_hand (wsV RX0 90 RX0 yX0_addShares wsX0_addShares) := goodIn_app (goodIn_of _ (by decide +kernel)) ggX0_hand_X0_addShares
set_option maxRecDepth 20000 in
theorem ggX0_hand_X0_addCoins : GoodIn wsX0_hand wsX0_addCoins := goodIn_r _ [22, 2, 23, 24, 25, 26, 27, 28, 29, 30, 31, 32, 33, 34, 35, 36] (by decide +kernel) (by decide +kernel)
set_option maxRecDepth 20000 in
theorem gX0_hand_X0_addCoins : GoodIn wsX0_hand (wsV RX0 71 RX0 yX0_addCoins wsX0_addCoins) := goodIn_app (goodIn_of _ (by decide +kernel)) ggX0_hand_X0_addCoins
theorem dX0_hand_0 : decode cX0_hand 0 = .ok (.iconst 0, 1) := by decide +kernel
theorem dX0_hand_1 : decode cX0_hand 1 = .ok (.istore 5, 2) := by decide +kernel
theorem dX0_hand_3 : decode cX0_hand 3 = .ok (.iload 5, 2) := by decide +kernel
theorem dX0_hand_5 : decode cX0_hand 5 = .ok (.aload_n 0, 1) := by decide +kernel
theorem dX0_hand_6 : decode cX0_hand 6 = .ok (.getfield 9, 3) := by decide +kernel
theorem dX0_hand_9 : decode cX0_hand 9 = .ok (.if_icmp .ge 48, 3) := by decide +kernel
theorem dX0_hand_12 : decode cX0_hand 12 = .ok (.iconst 0, 1) := by decide +kernel
theorem dX0_hand_13 : decode cX0_hand 13 = .ok (.istore 6, 2) := by decide +kernel
theorem dX0_hand_15 : decode cX0_hand 15 = .ok (.iload 6, 2) := by decide +kernel
theorem dX0_hand_17 : decode cX0_hand 17 = .ok (.iconst 4, 1) := by decide +kernel
theorem dX0_hand_18 : decode cX0_hand 18 = .ok (.if_icmp .ge 33, 3) := by decide +kernel
theorem dX0_hand_21 : decode cX0_hand 21 = .ok (.aload_n 0, 1) := by decide +kernel
theorem dX0_hand_22 : decode cX0_hand 22 = .ok (.iload 5, 2) := by decide +kernel
theorem dX0_hand_24 : decode cX0_hand 24 = .ok (.iload 6, 2) := by decide +kernel
theorem dX0_hand_26 : decode cX0_hand 26 = .ok (.iload_n 2, 1) := by decide +kernel
theorem dX0_hand_27 : decode cX0_hand 27 = .ok (.aload_n 0, 1) := by decide +kernel
theorem dX0_hand_28 : decode cX0_hand 28 = .ok (.iload 5, 2) := by decide +kernel
theorem dX0_hand_30 : decode cX0_hand 30 = .ok (.iload 6, 2) := by decide +kernel
theorem dX0_hand_32 : decode cX0_hand 32 = .ok (.iload_n 1, 1) := by decide +kernel
theorem dX0_hand_33 : decode cX0_hand 33 = .ok (.invokevirtual 96, 3) := by decide +kernel
theorem dX0_hand_36 : decode cX0_hand 36 = .ok (.iload_n 3, 1) := by decide +kernel
theorem dX0_hand_37 : decode cX0_hand 37 = .ok (.iload 4, 2) := by decide +kernel
theorem dX0_hand_39 : decode cX0_hand 39 = .ok (.invokestatic 168, 3) := by decide +kernel
theorem dX0_hand_42 : decode cX0_hand 42 = .ok (.invokevirtual 90, 3) := by decide +kernel
theorem dX0_hand_45 : decode cX0_hand 45 = .ok (.iinc 6 1, 3) := by decide +kernel
theorem dX0_hand_48 : decode cX0_hand 48 = .ok (.goto (-33), 3) := by decide +kernel
theorem dX0_hand_51 : decode cX0_hand 51 = .ok (.iinc 5 1, 3) := by decide +kernel
theorem dX0_hand_54 : decode cX0_hand 54 = .ok (.goto (-51), 3) := by decide +kernel
theorem dX0_hand_57 : decode cX0_hand 57 = .ok (.aload_n 0, 1) := by decide +kernel
theorem dX0_hand_58 : decode cX0_hand 58 = .ok (.iload_n 2, 1) := by decide +kernel
theorem dX0_hand_59 : decode cX0_hand 59 = .ok (.aload_n 0, 1) := by decide +kernel
theorem dX0_hand_60 : decode cX0_hand 60 = .ok (.getfield 30, 3) := by decide +kernel
theorem dX0_hand_63 : decode cX0_hand 63 = .ok (.iload_n 1, 1) := by decide +kernel
theorem dX0_hand_64 : decode cX0_hand 64 = .ok (.iaload, 1) := by decide +kernel
theorem dX0_hand_65 : decode cX0_hand 65 = .ok (.iload_n 3, 1) := by decide +kernel
theorem dX0_hand_66 : decode cX0_hand 66 = .ok (.iload 4, 2) := by decide +kernel
theorem dX0_hand_68 : decode cX0_hand 68 = .ok (.invokestatic 168, 3) := by decide +kernel
theorem dX0_hand_71 : decode cX0_hand 71 = .ok (.invokevirtual 71, 3) := by decide +kernel
theorem dX0_hand_74 : decode cX0_hand 74 = .ok (.return_, 1) := by decide +kernel
set_option maxRecDepth 20000 in
theorem ggX0_bury_X0_slot : GoodIn wsX0_bury wsX0_slot := goodIn_r _ [8] (by decide +kernel) (by decide +kernel)
set_option maxRecDepth 20000 in
theorem gX0_bury_X0_slot : GoodIn wsX0_bury (va_wsS RX0 213 yX0_slot wsX0_slot) := goodIn_app (goodIn_of _ (by decide +kernel)) ggX0_bury_X0_slot
theorem dX0_bury_0 : decode cX0_bury 0 = .ok (.iconst 0, 1) := by decide +kernel
theorem dX0_bury_1 : decode cX0_bury 1 = .ok (.istore_n 2, 1) := by decide +kernel
theorem dX0_bury_2 : decode cX0_bury 2 = .ok (.iload_n 2, 1) := by decide +kernel
theorem dX0_bury_3 : decode cX0_bury 3 = .ok (.aload_n 0, 1) := by decide +kernel
theorem dX0_bury_4 : decode cX0_bury 4 = .ok (.getfield 9, 3) := by decide +kernel
theorem dX0_bury_7 : decode cX0_bury 7 = .ok (.if_icmp .ge 34, 3) := by decide +kernel
theorem dX0_bury_10 : decode cX0_bury 10 = .ok (.iconst 0, 1) := by decide +kernel
theorem dX0_bury_11 : decode cX0_bury 11 = .ok (.istore_n 3, 1) := by decide +kernel
theorem dX0_bury_12 : decode cX0_bury 12 = .ok (.iload_n 3, 1) := by decide +kernel
theorem dX0_bury_13 : decode cX0_bury 13 = .ok (.iconst 4, 1) := by decide +kernel
theorem dX0_bury_14 : decode cX0_bury 14 = .ok (.if_icmp .ge 21, 3) := by decide +kernel
theorem dX0_bury_17 : decode cX0_bury 17 = .ok (.aload_n 0, 1) := by decide +kernel
theorem dX0_bury_18 : decode cX0_bury 18 = .ok (.getfield 20, 3) := by decide +kernel
theorem dX0_bury_21 : decode cX0_bury 21 = .ok (.iload_n 2, 1) := by decide +kernel
theorem dX0_bury_22 : decode cX0_bury 22 = .ok (.iload_n 3, 1) := by decide +kernel
theorem dX0_bury_23 : decode cX0_bury 23 = .ok (.iload_n 1, 1) := by decide +kernel
theorem dX0_bury_24 : decode cX0_bury 24 = .ok (.invokestatic 213, 3) := by decide +kernel
theorem dX0_bury_27 : decode cX0_bury 27 = .ok (.iconst 0, 1) := by decide +kernel
theorem dX0_bury_28 : decode cX0_bury 28 = .ok (.iastore, 1) := by decide +kernel
theorem dX0_bury_29 : decode cX0_bury 29 = .ok (.iinc 3 1, 3) := by decide +kernel
theorem dX0_bury_32 : decode cX0_bury 32 = .ok (.goto (-20), 3) := by decide +kernel
theorem dX0_bury_35 : decode cX0_bury 35 = .ok (.iinc 2 1, 3) := by decide +kernel
theorem dX0_bury_38 : decode cX0_bury 38 = .ok (.goto (-36), 3) := by decide +kernel
theorem dX0_bury_41 : decode cX0_bury 41 = .ok (.aload_n 0, 1) := by decide +kernel
theorem dX0_bury_42 : decode cX0_bury 42 = .ok (.getfield 30, 3) := by decide +kernel
theorem dX0_bury_45 : decode cX0_bury 45 = .ok (.iload_n 1, 1) := by decide +kernel
theorem dX0_bury_46 : decode cX0_bury 46 = .ok (.iconst 0, 1) := by decide +kernel
theorem dX0_bury_47 : decode cX0_bury 47 = .ok (.iastore, 1) := by decide +kernel
theorem dX0_bury_48 : decode cX0_bury 48 = .ok (.aload_n 0, 1) := by decide +kernel
theorem dX0_bury_49 : decode cX0_bury 49 = .ok (.getfield 26, 3) := by decide +kernel
theorem dX0_bury_52 : decode cX0_bury 52 = .ok (.iload_n 1, 1) := by decide +kernel
theorem dX0_bury_53 : decode cX0_bury 53 = .ok (.iconst 0, 1) := by decide +kernel
theorem dX0_bury_54 : decode cX0_bury 54 = .ok (.bastore, 1) := by decide +kernel
theorem dX0_bury_55 : decode cX0_bury 55 = .ok (.return_, 1) := by decide +kernel
theorem dX0_mix_0 : decode cX0_mix 0 = .ok (.lload_n 0, 1) := by decide +kernel
theorem dX0_mix_1 : decode cX0_mix 1 = .ok (.ldc2_w 229, 3) := by decide +kernel
theorem dX0_mix_4 : decode cX0_mix 4 = .ok (.lmul, 1) := by decide +kernel
theorem dX0_mix_5 : decode cX0_mix 5 = .ok (.lload_n 2, 1) := by decide +kernel
theorem dX0_mix_6 : decode cX0_mix 6 = .ok (.ladd, 1) := by decide +kernel
theorem dX0_mix_7 : decode cX0_mix 7 = .ok (.lreturn, 1) := by decide +kernel
set_option maxRecDepth 20000 in
theorem ggX0_mixFerry_X0_mix : GoodIn wsX0_mixFerry wsX0_mix := goodIn_r _ [7, 8] (by decide +kernel) (by decide +kernel)
set_option maxRecDepth 20000 in
theorem gX0_mixFerry_X0_mix : GoodIn wsX0_mixFerry (va_wsS RX0 175 yX0_mix wsX0_mix) := goodIn_app (goodIn_of _ (by decide +kernel)) ggX0_mixFerry_X0_mix
set_option maxRecDepth 20000 in
theorem ggX0_mixFerry_X0_owns : GoodIn wsX0_mixFerry wsX0_owns := goodIn_r _ [12, 13, 14, 15, 6, 16, 17, 18, 19, 20, 21, 22, 23, 24, 25, 26] (by decide +kernel) (by decide +kernel)
set_option maxRecDepth 20000 in
theorem gX0_mixFerry_X0_owns : GoodIn wsX0_mixFerry (wsV RX0 96 RX0 yX0_owns wsX0_owns) := goodIn_app (goodIn_of _ (by decide +kernel)) ggX0_mixFerry_X0_owns
theorem dX0_mixFerry_0 : decode cX0_mixFerry 0 = .ok (.lload_n 1, 1) := by decide +kernel
theorem dX0_mixFerry_1 : decode cX0_mixFerry 1 = .ok (.aload_n 0, 1) := by decide +kernel
theorem dX0_mixFerry_2 : decode cX0_mixFerry 2 = .ok (.getfield 13, 3) := by decide +kernel
theorem dX0_mixFerry_5 : decode cX0_mixFerry 5 = .ok (.iload_n 3, 1) := by decide +kernel
theorem dX0_mixFerry_6 : decode cX0_mixFerry 6 = .ok (.iaload, 1) := by decide +kernel
theorem dX0_mixFerry_7 : decode cX0_mixFerry 7 = .ok (.i2l, 1) := by decide +kernel
theorem dX0_mixFerry_8 : decode cX0_mixFerry 8 = .ok (.invokestatic 175, 3) := by decide +kernel
theorem dX0_mixFerry_11 : decode cX0_mixFerry 11 = .ok (.lstore 4, 2) := by decide +kernel
theorem dX0_mixFerry_13 : decode cX0_mixFerry 13 = .ok (.lload 4, 2) := by decide +kernel
theorem dX0_mixFerry_15 : decode cX0_mixFerry 15 = .ok (.aload_n 0, 1) := by decide +kernel
theorem dX0_mixFerry_16 : decode cX0_mixFerry 16 = .ok (.getfield 17, 3) := by decide +kernel
theorem dX0_mixFerry_19 : decode cX0_mixFerry 19 = .ok (.iload_n 3, 1) := by decide +kernel
theorem dX0_mixFerry_20 : decode cX0_mixFerry 20 = .ok (.iaload, 1) := by decide +kernel
theorem dX0_mixFerry_21 : decode cX0_mixFerry 21 = .ok (.i2l, 1) := by decide +kernel
theorem dX0_mixFerry_22 : decode cX0_mixFerry 22 = .ok (.invokestatic 175, 3) := by decide +kernel
theorem dX0_mixFerry_25 : decode cX0_mixFerry 25 = .ok (.lstore 4, 2) := by decide +kernel
theorem dX0_mixFerry_27 : decode cX0_mixFerry 27 = .ok (.iconst 0, 1) := by decide +kernel
theorem dX0_mixFerry_28 : decode cX0_mixFerry 28 = .ok (.istore 6, 2) := by decide +kernel
theorem dX0_mixFerry_30 : decode cX0_mixFerry 30 = .ok (.iload 6, 2) := by decide +kernel
theorem dX0_mixFerry_32 : decode cX0_mixFerry 32 = .ok (.iconst 4, 1) := by decide +kernel
theorem dX0_mixFerry_33 : decode cX0_mixFerry 33 = .ok (.if_icmp .ge 44, 3) := by decide +kernel
theorem dX0_mixFerry_36 : decode cX0_mixFerry 36 = .ok (.iconst 0, 1) := by decide +kernel
theorem dX0_mixFerry_37 : decode cX0_mixFerry 37 = .ok (.istore 7, 2) := by decide +kernel
theorem dX0_mixFerry_39 : decode cX0_mixFerry 39 = .ok (.iload 7, 2) := by decide +kernel
theorem dX0_mixFerry_41 : decode cX0_mixFerry 41 = .ok (.aload_n 0, 1) := by decide +kernel
theorem dX0_mixFerry_42 : decode cX0_mixFerry 42 = .ok (.getfield 23, 3) := by decide +kernel
theorem dX0_mixFerry_45 : decode cX0_mixFerry 45 = .ok (.if_icmp .ge 26, 3) := by decide +kernel
theorem dX0_mixFerry_48 : decode cX0_mixFerry 48 = .ok (.lload 4, 2) := by decide +kernel
theorem dX0_mixFerry_50 : decode cX0_mixFerry 50 = .ok (.aload_n 0, 1) := by decide +kernel
theorem dX0_mixFerry_51 : decode cX0_mixFerry 51 = .ok (.iload_n 3, 1) := by decide +kernel
theorem dX0_mixFerry_52 : decode cX0_mixFerry 52 = .ok (.iload 6, 2) := by decide +kernel
theorem dX0_mixFerry_54 : decode cX0_mixFerry 54 = .ok (.iload 7, 2) := by decide +kernel
theorem dX0_mixFerry_56 : decode cX0_mixFerry 56 = .ok (.invokevirtual 96, 3) := by decide +kernel
theorem dX0_mixFerry_59 : decode cX0_mixFerry 59 = .ok (.i2l, 1) := by decide +kernel
theorem dX0_mixFerry_60 : decode cX0_mixFerry 60 = .ok (.invokestatic 175, 3) := by decide +kernel
theorem dX0_mixFerry_63 : decode cX0_mixFerry 63 = .ok (.lstore 4, 2) := by decide +kernel
theorem dX0_mixFerry_65 : decode cX0_mixFerry 65 = .ok (.iinc 7 1, 3) := by decide +kernel
theorem dX0_mixFerry_68 : decode cX0_mixFerry 68 = .ok (.goto (-29), 3) := by decide +kernel
theorem dX0_mixFerry_71 : decode cX0_mixFerry 71 = .ok (.iinc 6 1, 3) := by decide +kernel
theorem dX0_mixFerry_74 : decode cX0_mixFerry 74 = .ok (.goto (-44), 3) := by decide +kernel
theorem dX0_mixFerry_77 : decode cX0_mixFerry 77 = .ok (.lload 4, 2) := by decide +kernel
theorem dX0_mixFerry_79 : decode cX0_mixFerry 79 = .ok (.lreturn, 1) := by decide +kernel
set_option maxRecDepth 20000 in
theorem ggX0_mixPerson_X0_mix : GoodIn wsX0_mixPerson wsX0_mix := goodIn_r _ [7, 8] (by decide +kernel) (by decide +kernel)
set_option maxRecDepth 20000 in
theorem gX0_mixPerson_X0_mix : GoodIn wsX0_mixPerson (va_wsS RX0 175 yX0_mix wsX0_mix) := goodIn_app (goodIn_of _ (by decide +kernel)) ggX0_mixPerson_X0_mix
set_option maxRecDepth 20000 in
theorem ggX0_mixPerson_X0_countAllShares : GoodIn wsX0_mixPerson wsX0_countAllShares := goodIn_r _ [12, 13, 14, 15, 16, 6, 17, 18, 19, 20, 21, 22, 23, 24, 25, 48, 49, 50, 51, 52, 53, 54, 55, 56, 57] (by decide +kernel) (by decide +kernel)
set_option maxRecDepth 20000 in
theorem gX0_mixPerson_X0_countAllShares : GoodIn wsX0_mixPerson (wsV RX0 149 RX0 yX0_countAllShares wsX0_countAllShares) := goodIn_app (goodIn_of _ (by decide +kernel)) ggX0_mixPerson_X0_countAllShares
set_option maxRecDepth 20000 in
theorem ggX0_mixPerson_X0_countChildren : GoodIn wsX0_mixPerson wsX0_countChildren := goodIn_r _ [29, 30, 31, 48, 49, 50, 51, 52, 53, 54, 55, 56, 57] (by decide +kernel) (by decide +kernel)
set_option maxRecDepth 20000 in
theorem gX0_mixPerson_X0_countChildren : GoodIn wsX0_mixPerson (wsV RX0 154 RX0 yX0_countChildren wsX0_countChildren) := goodIn_app (goodIn_of _ (by decide +kernel)) ggX0_mixPerson_X0_countChildren
set_option maxRecDepth 20000 in
theorem ggX0_mixPerson_X0_countHeirs : GoodIn wsX0_mixPerson wsX0_countHeirs := goodIn_r _ [35, 30, 36, 37, 38, 6, 39, 40, 41, 42, 43, 1, 31, 44, 45, 46, 47, 48, 49, 50, 51, 52, 53, 54, 55, 56, 57] (by decide +kernel) (by decide +kernel)
set_option maxRecDepth 20000 in
theorem gX0_mixPerson_X0_countHeirs : GoodIn wsX0_mixPerson (wsV RX0 129 RX0 yX0_countHeirs wsX0_countHeirs) := goodIn_app (goodIn_of _ (by decide +kernel)) ggX0_mixPerson_X0_countHeirs
theorem dX0_mixPerson_0 : decode cX0_mixPerson 0 = .ok (.lload_n 1, 1) := by decide +kernel
theorem dX0_mixPerson_1 : decode cX0_mixPerson 1 = .ok (.aload_n 0, 1) := by decide +kernel
theorem dX0_mixPerson_2 : decode cX0_mixPerson 2 = .ok (.getfield 26, 3) := by decide +kernel
theorem dX0_mixPerson_5 : decode cX0_mixPerson 5 = .ok (.iload_n 3, 1) := by decide +kernel
theorem dX0_mixPerson_6 : decode cX0_mixPerson 6 = .ok (.baload, 1) := by decide +kernel
theorem dX0_mixPerson_7 : decode cX0_mixPerson 7 = .ok (.ifCond .eq 7, 3) := by decide +kernel
theorem dX0_mixPerson_10 : decode cX0_mixPerson 10 = .ok (.lconst 1, 1) := by decide +kernel
theorem dX0_mixPerson_11 : decode cX0_mixPerson 11 = .ok (.goto 4, 3) := by decide +kernel
theorem dX0_mixPerson_14 : decode cX0_mixPerson 14 = .ok (.lconst 0, 1) := by decide +kernel
theorem dX0_mixPerson_15 : decode cX0_mixPerson 15 = .ok (.invokestatic 175, 3) := by decide +kernel
theorem dX0_mixPerson_18 : decode cX0_mixPerson 18 = .ok (.lstore 4, 2) := by decide +kernel
theorem dX0_mixPerson_20 : decode cX0_mixPerson 20 = .ok (.lload 4, 2) := by decide +kernel
theorem dX0_mixPerson_22 : decode cX0_mixPerson 22 = .ok (.aload_n 0, 1) := by decide +kernel
theorem dX0_mixPerson_23 : decode cX0_mixPerson 23 = .ok (.getfield 30, 3) := by decide +kernel
theorem dX0_mixPerson_26 : decode cX0_mixPerson 26 = .ok (.iload_n 3, 1) := by decide +kernel
theorem dX0_mixPerson_27 : decode cX0_mixPerson 27 = .ok (.iaload, 1) := by decide +kernel
theorem dX0_mixPerson_28 : decode cX0_mixPerson 28 = .ok (.i2l, 1) := by decide +kernel
theorem dX0_mixPerson_29 : decode cX0_mixPerson 29 = .ok (.invokestatic 175, 3) := by decide +kernel
theorem dX0_mixPerson_32 : decode cX0_mixPerson 32 = .ok (.lstore 4, 2) := by decide +kernel
theorem dX0_mixPerson_34 : decode cX0_mixPerson 34 = .ok (.lload 4, 2) := by decide +kernel
theorem dX0_mixPerson_36 : decode cX0_mixPerson 36 = .ok (.aload_n 0, 1) := by decide +kernel
theorem dX0_mixPerson_37 : decode cX0_mixPerson 37 = .ok (.getfield 33, 3) := by decide +kernel
theorem dX0_mixPerson_40 : decode cX0_mixPerson 40 = .ok (.iload_n 3, 1) := by decide +kernel
theorem dX0_mixPerson_41 : decode cX0_mixPerson 41 = .ok (.iaload, 1) := by decide +kernel
theorem dX0_mixPerson_42 : decode cX0_mixPerson 42 = .ok (.i2l, 1) := by decide +kernel
theorem dX0_mixPerson_43 : decode cX0_mixPerson 43 = .ok (.invokestatic 175, 3) := by decide +kernel
theorem dX0_mixPerson_46 : decode cX0_mixPerson 46 = .ok (.lstore 4, 2) := by decide +kernel
theorem dX0_mixPerson_48 : decode cX0_mixPerson 48 = .ok (.lload 4, 2) := by decide +kernel
theorem dX0_mixPerson_50 : decode cX0_mixPerson 50 = .ok (.aload_n 0, 1) := by decide +kernel
theorem dX0_mixPerson_51 : decode cX0_mixPerson 51 = .ok (.iload_n 3, 1) := by decide +kernel
theorem dX0_mixPerson_52 : decode cX0_mixPerson 52 = .ok (.invokevirtual 149, 3) := by decide +kernel
theorem dX0_mixPerson_55 : decode cX0_mixPerson 55 = .ok (.i2l, 1) := by decide +kernel
theorem dX0_mixPerson_56 : decode cX0_mixPerson 56 = .ok (.invokestatic 175, 3) := by decide +kernel
theorem dX0_mixPerson_59 : decode cX0_mixPerson 59 = .ok (.lstore 4, 2) := by decide +kernel
theorem dX0_mixPerson_61 : decode cX0_mixPerson 61 = .ok (.lload 4, 2) := by decide +kernel
theorem dX0_mixPerson_63 : decode cX0_mixPerson 63 = .ok (.aload_n 0, 1) := by decide +kernel
theorem dX0_mixPerson_64 : decode cX0_mixPerson 64 = .ok (.iload_n 3, 1) := by decide +kernel
theorem dX0_mixPerson_65 : decode cX0_mixPerson 65 = .ok (.invokevirtual 154, 3) := by decide +kernel
theorem dX0_mixPerson_68 : decode cX0_mixPerson 68 = .ok (.i2l, 1) := by decide +kernel
theorem dX0_mixPerson_69 : decode cX0_mixPerson 69 = .ok (.invokestatic 175, 3) := by decide +kernel
theorem dX0_mixPerson_72 : decode cX0_mixPerson 72 = .ok (.lstore 4, 2) := by decide +kernel
theorem dX0_mixPerson_74 : decode cX0_mixPerson 74 = .ok (.lload 4, 2) := by decide +kernel
theorem dX0_mixPerson_76 : decode cX0_mixPerson 76 = .ok (.aload_n 0, 1) := by decide +kernel
theorem dX0_mixPerson_77 : decode cX0_mixPerson 77 = .ok (.iload_n 3, 1) := by decide +kernel
theorem dX0_mixPerson_78 : decode cX0_mixPerson 78 = .ok (.invokevirtual 129, 3) := by decide +kernel
theorem dX0_mixPerson_81 : decode cX0_mixPerson 81 = .ok (.i2l, 1) := by decide +kernel
theorem dX0_mixPerson_82 : decode cX0_mixPerson 82 = .ok (.invokestatic 175, 3) := by decide +kernel
theorem dX0_mixPerson_85 : decode cX0_mixPerson 85 = .ok (.lreturn, 1) := by decide +kernel
theorem dX1_init_0 : decode cX1_init 0 = .ok (.aload_n 0, 1) := by decide +kernel
theorem dX1_init_1 : decode cX1_init 1 = .ok (.invokespecial 1, 3) := by decide +kernel
theorem dX1_init_4 : decode cX1_init 4 = .ok (.aload_n 0, 1) := by decide +kernel
theorem dX1_init_5 : decode cX1_init 5 = .ok (.bipush 6, 2) := by decide +kernel
theorem dX1_init_7 : decode cX1_init 7 = .ok (.newarray .int, 2) := by decide +kernel
theorem dX1_init_9 : decode cX1_init 9 = .ok (.putfield 9, 3) := by decide +kernel
theorem dX1_init_12 : decode cX1_init 12 = .ok (.aload_n 0, 1) := by decide +kernel
theorem dX1_init_13 : decode cX1_init 13 = .ok (.bipush 6, 2) := by decide +kernel
theorem dX1_init_15 : decode cX1_init 15 = .ok (.newarray .int, 2) := by decide +kernel
theorem dX1_init_17 : decode cX1_init 17 = .ok (.putfield 13, 3) := by decide +kernel
theorem dX1_init_20 : decode cX1_init 20 = .ok (.aload_n 0, 1) := by decide +kernel
theorem dX1_init_21 : decode cX1_init 21 = .ok (.sipush 288, 3) := by decide +kernel
theorem dX1_init_24 : decode cX1_init 24 = .ok (.newarray .int, 2) := by decide +kernel
theorem dX1_init_26 : decode cX1_init 26 = .ok (.putfield 16, 3) := by decide +kernel
theorem dX1_init_29 : decode cX1_init 29 = .ok (.aload_n 0, 1) := by decide +kernel
theorem dX1_init_30 : decode cX1_init 30 = .ok (.bipush 12, 2) := by decide +kernel
theorem dX1_init_32 : decode cX1_init 32 = .ok (.newarray .int, 2) := by decide +kernel
theorem dX1_init_34 : decode cX1_init 34 = .ok (.putfield 19, 3) := by decide +kernel
theorem dX1_init_37 : decode cX1_init 37 = .ok (.aload_n 0, 1) := by decide +kernel
theorem dX1_init_38 : decode cX1_init 38 = .ok (.bipush 12, 2) := by decide +kernel
theorem dX1_init_40 : decode cX1_init 40 = .ok (.newarray .int, 2) := by decide +kernel
theorem dX1_init_42 : decode cX1_init 42 = .ok (.putfield 22, 3) := by decide +kernel
theorem dX1_init_45 : decode cX1_init 45 = .ok (.aload_n 0, 1) := by decide +kernel
theorem dX1_init_46 : decode cX1_init 46 = .ok (.bipush 12, 2) := by decide +kernel
theorem dX1_init_48 : decode cX1_init 48 = .ok (.newarray .int, 2) := by decide +kernel
theorem dX1_init_50 : decode cX1_init 50 = .ok (.putfield 25, 3) := by decide +kernel
theorem dX1_init_53 : decode cX1_init 53 = .ok (.aload_n 0, 1) := by decide +kernel
theorem dX1_init_54 : decode cX1_init 54 = .ok (.bipush 12, 2) := by decide +kernel
theorem dX1_init_56 : decode cX1_init 56 = .ok (.newarray .boolean, 2) := by decide +kernel
theorem dX1_init_58 : decode cX1_init 58 = .ok (.putfield 28, 3) := by decide +kernel
theorem dX1_init_61 : decode cX1_init 61 = .ok (.aload_n 0, 1) := by decide +kernel
theorem dX1_init_62 : decode cX1_init 62 = .ok (.bipush 12, 2) := by decide +kernel
theorem dX1_init_64 : decode cX1_init 64 = .ok (.newarray .int, 2) := by decide +kernel
theorem dX1_init_66 : decode cX1_init 66 = .ok (.putfield 32, 3) := by decide +kernel
theorem dX1_init_69 : decode cX1_init 69 = .ok (.return_, 1) := by decide +kernel
theorem dX1_thrown_0 : decode cX1_thrown 0 = .ok (.aload_n 0, 1) := by decide +kernel
theorem dX1_thrown_1 : decode cX1_thrown 1 = .ok (.getfield 35, 3) := by decide +kernel
theorem dX1_thrown_4 : decode cX1_thrown 4 = .ok (.ireturn, 1) := by decide +kernel
theorem dX1_no_0 : decode cX1_no 0 = .ok (.aload_n 0, 1) := by decide +kernel
theorem dX1_no_1 : decode cX1_no 1 = .ok (.iload_n 1, 1) := by decide +kernel
theorem dX1_no_2 : decode cX1_no 2 = .ok (.putfield 35, 3) := by decide +kernel
theorem dX1_no_5 : decode cX1_no 5 = .ok (.iconst 0, 1) := by decide +kernel
theorem dX1_no_6 : decode cX1_no 6 = .ok (.ireturn, 1) := by decide +kernel
theorem dX1_isNot_0 : decode cX1_isNot 0 = .ok (.aload_n 0, 1) := by decide +kernel
theorem dX1_isNot_1 : decode cX1_isNot 1 = .ok (.iload_n 1, 1) := by decide +kernel
theorem dX1_isNot_2 : decode cX1_isNot 2 = .ok (.putfield 35, 3) := by decide +kernel
theorem dX1_isNot_5 : decode cX1_isNot 5 = .ok (.iconst 0, 1) := by decide +kernel
theorem dX1_isNot_6 : decode cX1_isNot 6 = .ok (.ireturn, 1) := by decide +kernel
theorem dX1_isIn_0 : decode cX1_isIn 0 = .ok (.iload_n 0, 1) := by decide +kernel
theorem dX1_isIn_1 : decode cX1_isIn 1 = .ok (.iload_n 1, 1) := by decide +kernel
theorem dX1_isIn_2 : decode cX1_isIn 2 = .ok (.if_icmp .lt 12, 3) := by decide +kernel
theorem dX1_isIn_5 : decode cX1_isIn 5 = .ok (.iload_n 0, 1) := by decide +kernel
theorem dX1_isIn_6 : decode cX1_isIn 6 = .ok (.iload_n 2, 1) := by decide +kernel
theorem dX1_isIn_7 : decode cX1_isIn 7 = .ok (.if_icmp .gt 7, 3) := by decide +kernel
theorem dX1_isIn_10 : decode cX1_isIn 10 = .ok (.iconst 1, 1) := by decide +kernel
theorem dX1_isIn_11 : decode cX1_isIn 11 = .ok (.goto 4, 3) := by decide +kernel
theorem dX1_isIn_14 : decode cX1_isIn 14 = .ok (.iconst 0, 1) := by decide +kernel
theorem dX1_isIn_15 : decode cX1_isIn 15 = .ok (.ireturn, 1) := by decide +kernel
set_option maxRecDepth 20000 in
theorem ggX1_isFerry_X1_isIn : GoodIn wsX1_isFerry wsX1_isIn := goodIn_r _ [5] (by decide +kernel) (by decide +kernel)
set_option maxRecDepth 20000 in
theorem gX1_isFerry_X1_isIn : GoodIn wsX1_isFerry (va_wsS RX1 42 yX1_isIn wsX1_isIn) := goodIn_app (goodIn_of _ (by decide +kernel)) ggX1_isFerry_X1_isIn
theorem dX1_isFerry_0 : decode cX1_isFerry 0 = .ok (.iload_n 1, 1) := by decide +kernel
theorem dX1_isFerry_1 : decode cX1_isFerry 1 = .ok (.iconst 0, 1) := by decide +kernel
theorem dX1_isFerry_2 : decode cX1_isFerry 2 = .ok (.aload_n 0, 1) := by decide +kernel
theorem dX1_isFerry_3 : decode cX1_isFerry 3 = .ok (.getfield 39, 3) := by decide +kernel
theorem dX1_isFerry_6 : decode cX1_isFerry 6 = .ok (.iconst 1, 1) := by decide +kernel
theorem dX1_isFerry_7 : decode cX1_isFerry 7 = .ok (.isub, 1) := by decide +kernel
theorem dX1_isFerry_8 : decode cX1_isFerry 8 = .ok (.invokestatic 42, 3) := by decide +kernel
theorem dX1_isFerry_11 : decode cX1_isFerry 11 = .ok (.ireturn, 1) := by decide +kernel
set_option maxRecDepth 20000 in
theorem ggX1_isWatch_X1_isFerry : GoodIn wsX1_isWatch wsX1_isFerry := goodIn_r _ [5, 6, 7, 8, 4, 9, 10, 11, 12, 13, 14, 15, 16, 17, 18, 19, 20, 21, 22] (by decide +kernel) (by decide +kernel)
set_option maxRecDepth 20000 in
theorem gX1_isWatch_X1_isFerry : GoodIn wsX1_isWatch (wsV RX1 46 RX1 yX1_isFerry wsX1_isFerry) := goodIn_app (goodIn_of _ (by decide +kernel)) ggX1_isWatch_X1_isFerry
set_option maxRecDepth 20000 in
theorem ggX1_isWatch_X1_isIn : GoodIn wsX1_isWatch wsX1_isIn := goodIn_r _ [9] (by decide +kernel) (by decide +kernel)
set_option maxRecDepth 20000 in
theorem gX1_isWatch_X1_isIn : GoodIn wsX1_isWatch (va_wsS RX1 42 yX1_isIn wsX1_isIn) := goodIn_app (goodIn_of _ (by decide +kernel)) ggX1_isWatch_X1_isIn
theorem dX1_isWatch_0 : decode cX1_isWatch 0 = .ok (.aload_n 0, 1) := by decide +kernel
theorem dX1_isWatch_1 : decode cX1_isWatch 1 = .ok (.iload_n 1, 1) := by decide +kernel
theorem dX1_isWatch_2 : decode cX1_isWatch 2 = .ok (.invokevirtual 46, 3) := by decide +kernel
theorem dX1_isWatch_5 : decode cX1_isWatch 5 = .ok (.ifCond .eq 16, 3) := by decide +kernel
theorem dX1_isWatch_8 : decode cX1_isWatch 8 = .ok (.iload_n 2, 1) := by decide +kernel
theorem dX1_isWatch_9 : decode cX1_isWatch 9 = .ok (.iconst 0, 1) := by decide +kernel
theorem dX1_isWatch_10 : decode cX1_isWatch 10 = .ok (.iconst 3, 1) := by decide +kernel
theorem dX1_isWatch_11 : decode cX1_isWatch 11 = .ok (.invokestatic 42, 3) := by decide +kernel
theorem dX1_isWatch_14 : decode cX1_isWatch 14 = .ok (.ifCond .eq 7, 3) := by decide +kernel
theorem dX1_isWatch_17 : decode cX1_isWatch 17 = .ok (.iconst 1, 1) := by decide +kernel
theorem dX1_isWatch_18 : decode cX1_isWatch 18 = .ok (.goto 4, 3) := by decide +kernel
theorem dX1_isWatch_21 : decode cX1_isWatch 21 = .ok (.iconst 0, 1) := by decide +kernel
theorem dX1_isWatch_22 : decode cX1_isWatch 22 = .ok (.ireturn, 1) := by decide +kernel
set_option maxRecDepth 20000 in
theorem ggX1_isPerson_X1_isIn : GoodIn wsX1_isPerson wsX1_isIn := goodIn_r _ [5] (by decide +kernel) (by decide +kernel)
set_option maxRecDepth 20000 in
theorem gX1_isPerson_X1_isIn : GoodIn wsX1_isPerson (va_wsS RX1 42 yX1_isIn wsX1_isIn) := goodIn_app (goodIn_of _ (by decide +kernel)) ggX1_isPerson_X1_isIn
theorem dX1_isPerson_0 : decode cX1_isPerson 0 = .ok (.iload_n 1, 1) := by decide +kernel
theorem dX1_isPerson_1 : decode cX1_isPerson 1 = .ok (.iconst 0, 1) := by decide +kernel
theorem dX1_isPerson_2 : decode cX1_isPerson 2 = .ok (.aload_n 0, 1) := by decide +kernel
theorem dX1_isPerson_3 : decode cX1_isPerson 3 = .ok (.getfield 50, 3) := by decide +kernel
theorem dX1_isPerson_6 : decode cX1_isPerson 6 = .ok (.iconst 1, 1) := by decide +kernel
theorem dX1_isPerson_7 : decode cX1_isPerson 7 = .ok (.isub, 1) := by decide +kernel
theorem dX1_isPerson_8 : decode cX1_isPerson 8 = .ok (.invokestatic 42, 3) := by decide +kernel
theorem dX1_isPerson_11 : decode cX1_isPerson 11 = .ok (.ireturn, 1) := by decide +kernel
theorem dX1_at_0 : decode cX1_at 0 = .ok (.bipush 12, 2) := by decide +kernel
theorem dX1_at_2 : decode cX1_at 2 = .ok (.iconst 4, 1) := by decide +kernel
theorem dX1_at_3 : decode cX1_at 3 = .ok (.iload_n 0, 1) := by decide +kernel
theorem dX1_at_4 : decode cX1_at 4 = .ok (.imul, 1) := by decide +kernel
theorem dX1_at_5 : decode cX1_at 5 = .ok (.iload_n 1, 1) := by decide +kernel
theorem dX1_at_6 : decode cX1_at 6 = .ok (.iadd, 1) := by decide +kernel
theorem dX1_at_7 : decode cX1_at 7 = .ok (.imul, 1) := by decide +kernel
theorem dX1_at_8 : decode cX1_at 8 = .ok (.iload_n 2, 1) := by decide +kernel
theorem dX1_at_9 : decode cX1_at 9 = .ok (.iadd, 1) := by decide +kernel
theorem dX1_at_10 : decode cX1_at 10 = .ok (.ireturn, 1) := by decide +kernel
set_option maxRecDepth 20000 in
theorem ggX1_crown_X1_at : GoodIn wsX1_crown wsX1_at := goodIn_r _ [6] (by decide +kernel) (by decide +kernel)
set_option maxRecDepth 20000 in
theorem gX1_crown_X1_at : GoodIn wsX1_crown (va_wsS RX1 53 yX1_at wsX1_at) := goodIn_app (goodIn_of _ (by decide +kernel)) ggX1_crown_X1_at
theorem dX1_crown_0 : decode cX1_crown 0 = .ok (.bipush 64, 2) := by decide +kernel
theorem dX1_crown_2 : decode cX1_crown 2 = .ok (.istore_n 3, 1) := by decide +kernel
theorem dX1_crown_3 : decode cX1_crown 3 = .ok (.iconst 0, 1) := by decide +kernel
theorem dX1_crown_4 : decode cX1_crown 4 = .ok (.istore 4, 2) := by decide +kernel
theorem dX1_crown_6 : decode cX1_crown 6 = .ok (.iload 4, 2) := by decide +kernel
theorem dX1_crown_8 : decode cX1_crown 8 = .ok (.aload_n 0, 1) := by decide +kernel
theorem dX1_crown_9 : decode cX1_crown 9 = .ok (.getfield 50, 3) := by decide +kernel
theorem dX1_crown_12 : decode cX1_crown 12 = .ok (.if_icmp .ge 24, 3) := by decide +kernel
theorem dX1_crown_15 : decode cX1_crown 15 = .ok (.iload_n 3, 1) := by decide +kernel
theorem dX1_crown_16 : decode cX1_crown 16 = .ok (.aload_n 0, 1) := by decide +kernel
theorem dX1_crown_17 : decode cX1_crown 17 = .ok (.getfield 16, 3) := by decide +kernel
theorem dX1_crown_20 : decode cX1_crown 20 = .ok (.iload_n 1, 1) := by decide +kernel
theorem dX1_crown_21 : decode cX1_crown 21 = .ok (.iload_n 2, 1) := by decide +kernel
theorem dX1_crown_22 : decode cX1_crown 22 = .ok (.iload 4, 2) := by decide +kernel
theorem dX1_crown_24 : decode cX1_crown 24 = .ok (.invokestatic 53, 3) := by decide +kernel
theorem dX1_crown_27 : decode cX1_crown 27 = .ok (.iaload, 1) := by decide +kernel
theorem dX1_crown_28 : decode cX1_crown 28 = .ok (.isub, 1) := by decide +kernel
theorem dX1_crown_29 : decode cX1_crown 29 = .ok (.istore_n 3, 1) := by decide +kernel
theorem dX1_crown_30 : decode cX1_crown 30 = .ok (.iinc 4 1, 3) := by decide +kernel
theorem dX1_crown_33 : decode cX1_crown 33 = .ok (.goto (-27), 3) := by decide +kernel
theorem dX1_crown_36 : decode cX1_crown 36 = .ok (.iload_n 3, 1) := by decide +kernel
theorem dX1_crown_37 : decode cX1_crown 37 = .ok (.ireturn, 1) := by decide +kernel
theorem dX1_worth_0 : decode cX1_worth 0 = .ok (.aload_n 0, 1) := by decide +kernel
theorem dX1_worth_1 : decode cX1_worth 1 = .ok (.getfield 9, 3) := by decide +kernel
theorem dX1_worth_4 : decode cX1_worth 4 = .ok (.iload_n 1, 1) := by decide +kernel
theorem dX1_worth_5 : decode cX1_worth 5 = .ok (.iaload, 1) := by decide +kernel
theorem dX1_worth_6 : decode cX1_worth 6 = .ok (.getstatic 57, 3) := by decide +kernel
theorem dX1_worth_9 : decode cX1_worth 9 = .ok (.iload_n 2, 1) := by decide +kernel
theorem dX1_worth_10 : decode cX1_worth 10 = .ok (.iaload, 1) := by decide +kernel
theorem dX1_worth_11 : decode cX1_worth 11 = .ok (.imul, 1) := by decide +kernel
theorem dX1_worth_12 : decode cX1_worth 12 = .ok (.iconst 1, 1) := by decide +kernel
theorem dX1_worth_13 : decode cX1_worth 13 = .ok (.iadd, 1) := by decide +kernel
theorem dX1_worth_14 : decode cX1_worth 14 = .ok (.ireturn, 1) := by decide +kernel
theorem dX1_get_0 : decode cX1_get 0 = .ok (.aload_n 0, 1) := by decide +kernel
theorem dX1_get_1 : decode cX1_get 1 = .ok (.getfield 19, 3) := by decide +kernel
theorem dX1_get_4 : decode cX1_get 4 = .ok (.iload_n 1, 1) := by decide +kernel
theorem dX1_get_5 : decode cX1_get 5 = .ok (.sipush 9999, 3) := by decide +kernel
theorem dX1_get_8 : decode cX1_get 8 = .ok (.aload_n 0, 1) := by decide +kernel
theorem dX1_get_9 : decode cX1_get 9 = .ok (.getfield 19, 3) := by decide +kernel
theorem dX1_get_12 : decode cX1_get 12 = .ok (.iload_n 1, 1) := by decide +kernel
theorem dX1_get_13 : decode cX1_get 13 = .ok (.iaload, 1) := by decide +kernel
theorem dX1_get_14 : decode cX1_get 14 = .ok (.iload_n 2, 1) := by decide +kernel
theorem dX1_get_15 : decode cX1_get 15 = .ok (.iadd, 1) := by decide +kernel
theorem dX1_get_16 : decode cX1_get 16 = .ok (.invokestatic 60, 3) := by decide +kernel
theorem dX1_get_19 : decode cX1_get 19 = .ok (.iastore, 1) := by decide +kernel
theorem dX1_get_20 : decode cX1_get 20 = .ok (.return_, 1) := by decide +kernel
set_option maxRecDepth 20000 in
theorem ggX1_addFerry_X1_isIn : GoodIn wsX1_addFerry wsX1_isIn := goodIn_r _ [7] (by decide +kernel) (by decide +kernel)
set_option maxRecDepth 20000 in
theorem gX1_addFerry_X1_isIn : GoodIn wsX1_addFerry (va_wsS RX1 42 yX1_isIn wsX1_isIn) := goodIn_app (goodIn_of _ (by decide +kernel)) ggX1_addFerry_X1_isIn
set_option maxRecDepth 20000 in
theorem ggX1_addFerry_X1_no : GoodIn wsX1_addFerry wsX1_no := goodIn_r _ [11, 1, 12, 13, 14, 15, 16, 17, 18, 19, 20, 21, 22, 23, 24] (by decide +kernel) (by decide +kernel)
set_option maxRecDepth 20000 in
theorem gX1_addFerry_X1_no : GoodIn wsX1_addFerry (wsV RX1 66 RX1 yX1_no wsX1_no) := goodIn_app (goodIn_of _ (by decide +kernel)) ggX1_addFerry_X1_no
theorem dX1_addFerry_0 : decode cX1_addFerry 0 = .ok (.aload_n 0, 1) := by decide +kernel
theorem dX1_addFerry_1 : decode cX1_addFerry 1 = .ok (.iconst 0, 1) := by decide +kernel
theorem dX1_addFerry_2 : decode cX1_addFerry 2 = .ok (.putfield 35, 3) := by decide +kernel
theorem dX1_addFerry_5 : decode cX1_addFerry 5 = .ok (.iload_n 1, 1) := by decide +kernel
theorem dX1_addFerry_6 : decode cX1_addFerry 6 = .ok (.iconst 0, 1) := by decide +kernel
theorem dX1_addFerry_7 : decode cX1_addFerry 7 = .ok (.bipush 20, 2) := by decide +kernel
theorem dX1_addFerry_9 : decode cX1_addFerry 9 = .ok (.invokestatic 42, 3) := by decide +kernel
theorem dX1_addFerry_12 : decode cX1_addFerry 12 = .ok (.ifCond .ne 9, 3) := by decide +kernel
theorem dX1_addFerry_15 : decode cX1_addFerry 15 = .ok (.aload_n 0, 1) := by decide +kernel
theorem dX1_addFerry_16 : decode cX1_addFerry 16 = .ok (.iconst 1, 1) := by decide +kernel
theorem dX1_addFerry_17 : decode cX1_addFerry 17 = .ok (.invokevirtual 66, 3) := by decide +kernel
theorem dX1_addFerry_20 : decode cX1_addFerry 20 = .ok (.ireturn, 1) := by decide +kernel
theorem dX1_addFerry_21 : decode cX1_addFerry 21 = .ok (.aload_n 0, 1) := by decide +kernel
theorem dX1_addFerry_22 : decode cX1_addFerry 22 = .ok (.getfield 39, 3) := by decide +kernel
theorem dX1_addFerry_25 : decode cX1_addFerry 25 = .ok (.bipush 6, 2) := by decide +kernel
theorem dX1_addFerry_27 : decode cX1_addFerry 27 = .ok (.if_icmp .ne 9, 3) := by decide +kernel
theorem dX1_addFerry_30 : decode cX1_addFerry 30 = .ok (.aload_n 0, 1) := by decide +kernel
theorem dX1_addFerry_31 : decode cX1_addFerry 31 = .ok (.iconst 2, 1) := by decide +kernel
theorem dX1_addFerry_32 : decode cX1_addFerry 32 = .ok (.invokevirtual 66, 3) := by decide +kernel
theorem dX1_addFerry_35 : decode cX1_addFerry 35 = .ok (.ireturn, 1) := by decide +kernel
theorem dX1_addFerry_36 : decode cX1_addFerry 36 = .ok (.aload_n 0, 1) := by decide +kernel
theorem dX1_addFerry_37 : decode cX1_addFerry 37 = .ok (.getfield 9, 3) := by decide +kernel
theorem dX1_addFerry_40 : decode cX1_addFerry 40 = .ok (.aload_n 0, 1) := by decide +kernel
theorem dX1_addFerry_41 : decode cX1_addFerry 41 = .ok (.getfield 39, 3) := by decide +kernel
theorem dX1_addFerry_44 : decode cX1_addFerry 44 = .ok (.iload_n 1, 1) := by decide +kernel
theorem dX1_addFerry_45 : decode cX1_addFerry 45 = .ok (.iastore, 1) := by decide +kernel
theorem dX1_addFerry_46 : decode cX1_addFerry 46 = .ok (.aload_n 0, 1) := by decide +kernel
theorem dX1_addFerry_47 : decode cX1_addFerry 47 = .ok (.dup, 1) := by decide +kernel
theorem dX1_addFerry_48 : decode cX1_addFerry 48 = .ok (.getfield 39, 3) := by decide +kernel
theorem dX1_addFerry_51 : decode cX1_addFerry 51 = .ok (.iconst 1, 1) := by decide +kernel
theorem dX1_addFerry_52 : decode cX1_addFerry 52 = .ok (.iadd, 1) := by decide +kernel
theorem dX1_addFerry_53 : decode cX1_addFerry 53 = .ok (.putfield 39, 3) := by decide +kernel
theorem dX1_addFerry_56 : decode cX1_addFerry 56 = .ok (.aload_n 0, 1) := by decide +kernel
theorem dX1_addFerry_57 : decode cX1_addFerry 57 = .ok (.getfield 39, 3) := by decide +kernel
theorem dX1_addFerry_60 : decode cX1_addFerry 60 = .ok (.iconst 1, 1) := by decide +kernel
theorem dX1_addFerry_61 : decode cX1_addFerry 61 = .ok (.isub, 1) := by decide +kernel
theorem dX1_addFerry_62 : decode cX1_addFerry 62 = .ok (.ireturn, 1) := by decide +kernel
theorem dX1_person_0 : decode cX1_person 0 = .ok (.aload_n 0, 1) := by decide +kernel
theorem dX1_person_1 : decode cX1_person 1 = .ok (.getfield 25, 3) := by decide +kernel
theorem dX1_person_4 : decode cX1_person 4 = .ok (.aload_n 0, 1) := by decide +kernel
theorem dX1_person_5 : decode cX1_person 5 = .ok (.getfield 50, 3) := by decide +kernel
theorem dX1_person_8 : decode cX1_person 8 = .ok (.iload_n 1, 1) := by decide +kernel
theorem dX1_person_9 : decode cX1_person 9 = .ok (.iastore, 1) := by decide +kernel
theorem dX1_person_10 : decode cX1_person 10 = .ok (.aload_n 0, 1) := by decide +kernel
theorem dX1_person_11 : decode cX1_person 11 = .ok (.dup, 1) := by decide +kernel
theorem dX1_person_12 : decode cX1_person 12 = .ok (.getfield 50, 3) := by decide +kernel
theorem dX1_person_15 : decode cX1_person 15 = .ok (.iconst 1, 1) := by decide +kernel
theorem dX1_person_16 : decode cX1_person 16 = .ok (.iadd, 1) := by decide +kernel
theorem dX1_person_17 : decode cX1_person 17 = .ok (.putfield 50, 3) := by decide +kernel
theorem dX1_person_20 : decode cX1_person 20 = .ok (.aload_n 0, 1) := by decide +kernel
theorem dX1_person_21 : decode cX1_person 21 = .ok (.getfield 50, 3) := by decide +kernel
theorem dX1_person_24 : decode cX1_person 24 = .ok (.iconst 1, 1) := by decide +kernel
theorem dX1_person_25 : decode cX1_person 25 = .ok (.isub, 1) := by decide +kernel
theorem dX1_person_26 : decode cX1_person 26 = .ok (.ireturn, 1) := by decide +kernel
set_option maxRecDepth 20000 in
theorem ggX1_addPerson_X1_person : GoodIn wsX1_addPerson wsX1_person := goodIn_r _ [7, 8, 2, 13, 14, 15, 16, 17, 18, 19, 20, 21, 22, 23, 24, 25] (by decide +kernel) (by decide +kernel)
set_option maxRecDepth 20000 in
theorem gX1_addPerson_X1_person : GoodIn wsX1_addPerson (wsV RX1 70 RX1 yX1_person wsX1_person) := goodIn_app (goodIn_of _ (by decide +kernel)) ggX1_addPerson_X1_person
set_option maxRecDepth 20000 in
theorem ggX1_addPerson_X1_no : GoodIn wsX1_addPerson wsX1_no := goodIn_r _ [12, 1, 13, 14, 15, 16, 17, 18, 19, 20, 21, 22, 23, 24, 25] (by decide +kernel) (by decide +kernel)
set_option maxRecDepth 20000 in
theorem gX1_addPerson_X1_no : GoodIn wsX1_addPerson (wsV RX1 66 RX1 yX1_no wsX1_no) := goodIn_app (goodIn_of _ (by decide +kernel)) ggX1_addPerson_X1_no
theorem dX1_addPerson_0 : decode cX1_addPerson 0 = .ok (.aload_n 0, 1) := by decide +kernel
theorem dX1_addPerson_1 : decode cX1_addPerson 1 = .ok (.iconst 0, 1) := by decide +kernel
theorem dX1_addPerson_2 : decode cX1_addPerson 2 = .ok (.putfield 35, 3) := by decide +kernel
theorem dX1_addPerson_5 : decode cX1_addPerson 5 = .ok (.aload_n 0, 1) := by decide +kernel
theorem dX1_addPerson_6 : decode cX1_addPerson 6 = .ok (.getfield 50, 3) := by decide +kernel
theorem dX1_addPerson_9 : decode cX1_addPerson 9 = .ok (.bipush 12, 2) := by decide +kernel
theorem dX1_addPerson_11 : decode cX1_addPerson 11 = .ok (.if_icmp .ge 11, 3) := by decide +kernel
theorem dX1_addPerson_14 : decode cX1_addPerson 14 = .ok (.aload_n 0, 1) := by decide +kernel
theorem dX1_addPerson_15 : decode cX1_addPerson 15 = .ok (.iconst (-1), 1) := by decide +kernel
theorem dX1_addPerson_16 : decode cX1_addPerson 16 = .ok (.invokevirtual 70, 3) := by decide +kernel
theorem dX1_addPerson_19 : decode cX1_addPerson 19 = .ok (.goto 8, 3) := by decide +kernel
theorem dX1_addPerson_22 : decode cX1_addPerson 22 = .ok (.aload_n 0, 1) := by decide +kernel
theorem dX1_addPerson_23 : decode cX1_addPerson 23 = .ok (.iconst 1, 1) := by decide +kernel
theorem dX1_addPerson_24 : decode cX1_addPerson 24 = .ok (.invokevirtual 66, 3) := by decide +kernel
theorem dX1_addPerson_27 : decode cX1_addPerson 27 = .ok (.ireturn, 1) := by decide +kernel
set_option maxRecDepth 20000 in
theorem ggX1_addChild_X1_isPerson : GoodIn wsX1_addChild wsX1_isPerson := goodIn_r _ [8, 3, 9, 10, 7, 11, 21, 22, 23, 24, 25, 26, 27, 28, 29, 30, 31, 32, 33] (by decide +kernel) (by decide +kernel)
set_option maxRecDepth 20000 in
theorem gX1_addChild_X1_isPerson : GoodIn wsX1_addChild (wsV RX1 73 RX1 yX1_isPerson wsX1_isPerson) := goodIn_app (goodIn_of _ (by decide +kernel)) ggX1_addChild_X1_isPerson
set_option maxRecDepth 20000 in
theorem ggX1_addChild_X1_no : GoodIn wsX1_addChild wsX1_no := goodIn_r _ [15, 1, 21, 22, 23, 24, 25, 26, 27, 28, 29, 30, 31, 32, 33] (by decide +kernel) (by decide +kernel)
set_option maxRecDepth 20000 in
theorem gX1_addChild_X1_no : GoodIn wsX1_addChild (wsV RX1 66 RX1 yX1_no wsX1_no) := goodIn_app (goodIn_of _ (by decide +kernel)) ggX1_addChild_X1_no
set_option maxRecDepth 20000 in
theorem ggX1_addChild_X1_person : GoodIn wsX1_addChild wsX1_person := goodIn_r _ [19, 20, 3, 21, 22, 23, 24, 25, 26, 27, 28, 29, 30, 31, 32, 33] (by decide +kernel) (by decide +kernel)
set_option maxRecDepth 20000 in
theorem gX1_addChild_X1_person : GoodIn wsX1_addChild (wsV RX1 70 RX1 yX1_person wsX1_person) := goodIn_app (goodIn_of _ (by decide +kernel)) ggX1_addChild_X1_person
theorem dX1_addChild_0 : decode cX1_addChild 0 = .ok (.aload_n 0, 1) := by decide +kernel
theorem dX1_addChild_1 : decode cX1_addChild 1 = .ok (.iconst 0, 1) := by decide +kernel
theorem dX1_addChild_2 : decode cX1_addChild 2 = .ok (.putfield 35, 3) := by decide +kernel
theorem dX1_addChild_5 : decode cX1_addChild 5 = .ok (.aload_n 0, 1) := by decide +kernel
theorem dX1_addChild_6 : decode cX1_addChild 6 = .ok (.iload_n 1, 1) := by decide +kernel
theorem dX1_addChild_7 : decode cX1_addChild 7 = .ok (.invokevirtual 73, 3) := by decide +kernel
theorem dX1_addChild_10 : decode cX1_addChild 10 = .ok (.ifCond .ne 9, 3) := by decide +kernel
theorem dX1_addChild_13 : decode cX1_addChild 13 = .ok (.aload_n 0, 1) := by decide +kernel
theorem dX1_addChild_14 : decode cX1_addChild 14 = .ok (.iconst 1, 1) := by decide +kernel
theorem dX1_addChild_15 : decode cX1_addChild 15 = .ok (.invokevirtual 66, 3) := by decide +kernel
theorem dX1_addChild_18 : decode cX1_addChild 18 = .ok (.ireturn, 1) := by decide +kernel
theorem dX1_addChild_19 : decode cX1_addChild 19 = .ok (.aload_n 0, 1) := by decide +kernel
theorem dX1_addChild_20 : decode cX1_addChild 20 = .ok (.getfield 28, 3) := by decide +kernel
theorem dX1_addChild_23 : decode cX1_addChild 23 = .ok (.iload_n 1, 1) := by decide +kernel
theorem dX1_addChild_24 : decode cX1_addChild 24 = .ok (.baload, 1) := by decide +kernel
theorem dX1_addChild_25 : decode cX1_addChild 25 = .ok (.ifCond .ne 12, 3) := by decide +kernel
theorem dX1_addChild_28 : decode cX1_addChild 28 = .ok (.aload_n 0, 1) := by decide +kernel
theorem dX1_addChild_29 : decode cX1_addChild 29 = .ok (.getfield 50, 3) := by decide +kernel
theorem dX1_addChild_32 : decode cX1_addChild 32 = .ok (.bipush 12, 2) := by decide +kernel
theorem dX1_addChild_34 : decode cX1_addChild 34 = .ok (.if_icmp .ne 11, 3) := by decide +kernel
theorem dX1_addChild_37 : decode cX1_addChild 37 = .ok (.aload_n 0, 1) := by decide +kernel
theorem dX1_addChild_38 : decode cX1_addChild 38 = .ok (.iconst 2, 1) := by decide +kernel
theorem dX1_addChild_39 : decode cX1_addChild 39 = .ok (.invokevirtual 66, 3) := by decide +kernel
theorem dX1_addChild_42 : decode cX1_addChild 42 = .ok (.goto 8, 3) := by decide +kernel
theorem dX1_addChild_45 : decode cX1_addChild 45 = .ok (.aload_n 0, 1) := by decide +kernel
theorem dX1_addChild_46 : decode cX1_addChild 46 = .ok (.iload_n 1, 1) := by decide +kernel
theorem dX1_addChild_47 : decode cX1_addChild 47 = .ok (.invokevirtual 70, 3) := by decide +kernel
theorem dX1_addChild_50 : decode cX1_addChild 50 = .ok (.ireturn, 1) := by decide +kernel
set_option maxRecDepth 20000 in
theorem ggX1_pay_X1_isPerson : GoodIn wsX1_pay wsX1_isPerson := goodIn_r _ [8, 9, 10, 11, 7, 12, 25, 26, 27, 28, 29, 30, 31, 32, 33, 34, 35, 36, 37] (by decide +kernel) (by decide +kernel)
set_option maxRecDepth 20000 in
theorem gX1_pay_X1_isPerson : GoodIn wsX1_pay (wsV RX1 73 RX1 yX1_isPerson wsX1_isPerson) := goodIn_app (goodIn_of _ (by decide +kernel)) ggX1_pay_X1_isPerson
set_option maxRecDepth 20000 in
theorem ggX1_pay_X1_no : GoodIn wsX1_pay wsX1_no := goodIn_r _ [16, 1, 25, 26, 27, 28, 29, 30, 31, 32, 33, 34, 35, 36, 37] (by decide +kernel) (by decide +kernel)
set_option maxRecDepth 20000 in
theorem gX1_pay_X1_no : GoodIn wsX1_pay (wsV RX1 66 RX1 yX1_no wsX1_no) := goodIn_app (goodIn_of _ (by decide +kernel)) ggX1_pay_X1_no
set_option maxRecDepth 20000 in
theorem ggX1_pay_X1_isIn : GoodIn wsX1_pay wsX1_isIn := goodIn_r _ [12] (by decide +kernel) (by decide +kernel)
set_option maxRecDepth 20000 in
theorem gX1_pay_X1_isIn : GoodIn wsX1_pay (va_wsS RX1 42 yX1_isIn wsX1_isIn) := goodIn_app (goodIn_of _ (by decide +kernel)) ggX1_pay_X1_isIn
set_option maxRecDepth 20000 in
theorem ggX1_pay_X1_get : GoodIn wsX1_pay wsX1_get := goodIn_r _ [20, 3, 21, 22, 23, 24, 25, 26, 27, 28, 29, 30, 31, 32, 33, 34, 35, 36, 37] (by decide +kernel) (by decide +kernel)
set_option maxRecDepth 20000 in
theorem gX1_pay_X1_get : GoodIn wsX1_pay (wsV RX1 76 RX1 yX1_get wsX1_get) := goodIn_app (goodIn_of _ (by decide +kernel)) ggX1_pay_X1_get
theorem dX1_pay_0 : decode cX1_pay 0 = .ok (.aload_n 0, 1) := by decide +kernel
theorem dX1_pay_1 : decode cX1_pay 1 = .ok (.iconst 0, 1) := by decide +kernel
theorem dX1_pay_2 : decode cX1_pay 2 = .ok (.putfield 35, 3) := by decide +kernel
theorem dX1_pay_5 : decode cX1_pay 5 = .ok (.aload_n 0, 1) := by decide +kernel
theorem dX1_pay_6 : decode cX1_pay 6 = .ok (.iload_n 1, 1) := by decide +kernel
theorem dX1_pay_7 : decode cX1_pay 7 = .ok (.invokevirtual 73, 3) := by decide +kernel
theorem dX1_pay_10 : decode cX1_pay 10 = .ok (.ifCond .ne 9, 3) := by decide +kernel
theorem dX1_pay_13 : decode cX1_pay 13 = .ok (.aload_n 0, 1) := by decide +kernel
theorem dX1_pay_14 : decode cX1_pay 14 = .ok (.iconst 1, 1) := by decide +kernel
theorem dX1_pay_15 : decode cX1_pay 15 = .ok (.invokevirtual 66, 3) := by decide +kernel
theorem dX1_pay_18 : decode cX1_pay 18 = .ok (.ireturn, 1) := by decide +kernel
theorem dX1_pay_19 : decode cX1_pay 19 = .ok (.iload_n 2, 1) := by decide +kernel
theorem dX1_pay_20 : decode cX1_pay 20 = .ok (.iconst 1, 1) := by decide +kernel
theorem dX1_pay_21 : decode cX1_pay 21 = .ok (.sipush 9999, 3) := by decide +kernel
theorem dX1_pay_24 : decode cX1_pay 24 = .ok (.invokestatic 42, 3) := by decide +kernel
theorem dX1_pay_27 : decode cX1_pay 27 = .ok (.ifCond .ne 9, 3) := by decide +kernel
theorem dX1_pay_30 : decode cX1_pay 30 = .ok (.aload_n 0, 1) := by decide +kernel
theorem dX1_pay_31 : decode cX1_pay 31 = .ok (.iconst 2, 1) := by decide +kernel
theorem dX1_pay_32 : decode cX1_pay 32 = .ok (.invokevirtual 66, 3) := by decide +kernel
theorem dX1_pay_35 : decode cX1_pay 35 = .ok (.ireturn, 1) := by decide +kernel
theorem dX1_pay_36 : decode cX1_pay 36 = .ok (.aload_n 0, 1) := by decide +kernel
theorem dX1_pay_37 : decode cX1_pay 37 = .ok (.getfield 28, 3) := by decide +kernel
theorem dX1_pay_40 : decode cX1_pay 40 = .ok (.iload_n 1, 1) := by decide +kernel
theorem dX1_pay_41 : decode cX1_pay 41 = .ok (.baload, 1) := by decide +kernel
theorem dX1_pay_42 : decode cX1_pay 42 = .ok (.ifCond .eq 9, 3) := by decide +kernel
theorem dX1_pay_45 : decode cX1_pay 45 = .ok (.aload_n 0, 1) := by decide +kernel
theorem dX1_pay_46 : decode cX1_pay 46 = .ok (.iconst 3, 1) := by decide +kernel
theorem dX1_pay_47 : decode cX1_pay 47 = .ok (.invokevirtual 66, 3) := by decide +kernel
theorem dX1_pay_50 : decode cX1_pay 50 = .ok (.ireturn, 1) := by decide +kernel
theorem dX1_pay_51 : decode cX1_pay 51 = .ok (.aload_n 0, 1) := by decide +kernel
theorem dX1_pay_52 : decode cX1_pay 52 = .ok (.iload_n 1, 1) := by decide +kernel
theorem dX1_pay_53 : decode cX1_pay 53 = .ok (.iload_n 2, 1) := by decide +kernel
theorem dX1_pay_54 : decode cX1_pay 54 = .ok (.invokevirtual 76, 3) := by decide +kernel
theorem dX1_pay_57 : decode cX1_pay 57 = .ok (.aload_n 0, 1) := by decide +kernel
theorem dX1_pay_58 : decode cX1_pay 58 = .ok (.getfield 19, 3) := by decide +kernel
theorem dX1_pay_61 : decode cX1_pay 61 = .ok (.iload_n 1, 1) := by decide +kernel
theorem dX1_pay_62 : decode cX1_pay 62 = .ok (.iaload, 1) := by decide +kernel
theorem dX1_pay_63 : decode cX1_pay 63 = .ok (.ireturn, 1) := by decide +kernel
set_option maxRecDepth 20000 in
theorem ggX1_grant_X1_isWatch : GoodIn wsX1_grant wsX1_isWatch := goodIn_r _ [8, 9, 10, 11, 7, 12, 13, 14, 15, 16, 33, 34, 35, 36, 37, 38, 39, 40, 41, 42, 43, 44, 45] (by decide +kernel) (by decide +kernel)
set_option maxRecDepth 20000 in
theorem gX1_grant_X1_isWatch : GoodIn wsX1_grant (wsV RX1 80 RX1 yX1_isWatch wsX1_isWatch) := goodIn_app (goodIn_of _ (by decide +kernel)) ggX1_grant_X1_isWatch
set_option maxRecDepth 20000 in
theorem ggX1_grant_X1_isPerson : GoodIn wsX1_grant wsX1_isPerson := goodIn_r _ [20, 21, 14, 15, 7, 16, 33, 34, 35, 36, 37, 38, 39, 40, 41, 42, 43, 44, 45] (by decide +kernel) (by decide +kernel)
set_option maxRecDepth 20000 in
theorem gX1_grant_X1_isPerson : GoodIn wsX1_grant (wsV RX1 73 RX1 yX1_isPerson wsX1_isPerson) := goodIn_app (goodIn_of _ (by decide +kernel)) ggX1_grant_X1_isPerson
set_option maxRecDepth 20000 in
theorem ggX1_grant_X1_no : GoodIn wsX1_grant wsX1_no := goodIn_r _ [25, 1, 33, 34, 35, 36, 37, 38, 39, 40, 41, 42, 43, 44, 45] (by decide +kernel) (by decide +kernel)
set_option maxRecDepth 20000 in
theorem gX1_grant_X1_no : GoodIn wsX1_grant (wsV RX1 66 RX1 yX1_no wsX1_no) := goodIn_app (goodIn_of _ (by decide +kernel)) ggX1_grant_X1_no
set_option maxRecDepth 20000 in
theorem ggX1_grant_X1_isIn : GoodIn wsX1_grant wsX1_isIn := goodIn_r _ [16] (by decide +kernel) (by decide +kernel)
set_option maxRecDepth 20000 in
theorem gX1_grant_X1_isIn : GoodIn wsX1_grant (va_wsS RX1 42 yX1_isIn wsX1_isIn) := goodIn_app (goodIn_of _ (by decide +kernel)) ggX1_grant_X1_isIn
set_option maxRecDepth 20000 in
theorem ggX1_grant_X1_crown : GoodIn wsX1_grant wsX1_crown := goodIn_r _ [29, 21, 3, 30, 31, 7, 32, 33, 34, 35, 36, 37, 38, 39, 40, 41, 42, 43, 44, 45] (by decide +kernel) (by decide +kernel)
set_option maxRecDepth 20000 in
theorem gX1_grant_X1_crown : GoodIn wsX1_grant (wsV RX1 84 RX1 yX1_crown wsX1_crown) := goodIn_app (goodIn_of _ (by decide +kernel)) ggX1_grant_X1_crown
set_option maxRecDepth 20000 in
theorem ggX1_grant_X1_at : GoodIn wsX1_grant wsX1_at := goodIn_r _ [32] (by decide +kernel) (by decide +kernel)
set_option maxRecDepth 20000 in
theorem gX1_grant_X1_at : GoodIn wsX1_grant (va_wsS RX1 53 yX1_at wsX1_at) := goodIn_app (goodIn_of _ (by decide +kernel)) ggX1_grant_X1_at
theorem dX1_grant_0 : decode cX1_grant 0 = .ok (.aload_n 0, 1) := by decide +kernel
theorem dX1_grant_1 : decode cX1_grant 1 = .ok (.iconst 0, 1) := by decide +kernel
theorem dX1_grant_2 : decode cX1_grant 2 = .ok (.putfield 35, 3) := by decide +kernel
theorem dX1_grant_5 : decode cX1_grant 5 = .ok (.aload_n 0, 1) := by decide +kernel
theorem dX1_grant_6 : decode cX1_grant 6 = .ok (.iload_n 1, 1) := by decide +kernel
theorem dX1_grant_7 : decode cX1_grant 7 = .ok (.iload_n 2, 1) := by decide +kernel
theorem dX1_grant_8 : decode cX1_grant 8 = .ok (.invokevirtual 80, 3) := by decide +kernel
theorem dX1_grant_11 : decode cX1_grant 11 = .ok (.ifCond .eq 11, 3) := by decide +kernel
theorem dX1_grant_14 : decode cX1_grant 14 = .ok (.aload_n 0, 1) := by decide +kernel
theorem dX1_grant_15 : decode cX1_grant 15 = .ok (.iload_n 3, 1) := by decide +kernel
theorem dX1_grant_16 : decode cX1_grant 16 = .ok (.invokevirtual 73, 3) := by decide +kernel
theorem dX1_grant_19 : decode cX1_grant 19 = .ok (.ifCond .ne 9, 3) := by decide +kernel
theorem dX1_grant_22 : decode cX1_grant 22 = .ok (.aload_n 0, 1) := by decide +kernel
theorem dX1_grant_23 : decode cX1_grant 23 = .ok (.iconst 1, 1) := by decide +kernel
theorem dX1_grant_24 : decode cX1_grant 24 = .ok (.invokevirtual 66, 3) := by decide +kernel
theorem dX1_grant_27 : decode cX1_grant 27 = .ok (.ireturn, 1) := by decide +kernel
theorem dX1_grant_28 : decode cX1_grant 28 = .ok (.iload 4, 2) := by decide +kernel
theorem dX1_grant_30 : decode cX1_grant 30 = .ok (.iconst 1, 1) := by decide +kernel
theorem dX1_grant_31 : decode cX1_grant 31 = .ok (.bipush 64, 2) := by decide +kernel
theorem dX1_grant_33 : decode cX1_grant 33 = .ok (.invokestatic 42, 3) := by decide +kernel
theorem dX1_grant_36 : decode cX1_grant 36 = .ok (.ifCond .ne 9, 3) := by decide +kernel
theorem dX1_grant_39 : decode cX1_grant 39 = .ok (.aload_n 0, 1) := by decide +kernel
theorem dX1_grant_40 : decode cX1_grant 40 = .ok (.iconst 2, 1) := by decide +kernel
theorem dX1_grant_41 : decode cX1_grant 41 = .ok (.invokevirtual 66, 3) := by decide +kernel
theorem dX1_grant_44 : decode cX1_grant 44 = .ok (.ireturn, 1) := by decide +kernel
theorem dX1_grant_45 : decode cX1_grant 45 = .ok (.aload_n 0, 1) := by decide +kernel
theorem dX1_grant_46 : decode cX1_grant 46 = .ok (.getfield 28, 3) := by decide +kernel
theorem dX1_grant_49 : decode cX1_grant 49 = .ok (.iload_n 3, 1) := by decide +kernel
theorem dX1_grant_50 : decode cX1_grant 50 = .ok (.baload, 1) := by decide +kernel
theorem dX1_grant_51 : decode cX1_grant 51 = .ok (.ifCond .ne 14, 3) := by decide +kernel
theorem dX1_grant_54 : decode cX1_grant 54 = .ok (.aload_n 0, 1) := by decide +kernel
theorem dX1_grant_55 : decode cX1_grant 55 = .ok (.iload_n 1, 1) := by decide +kernel
theorem dX1_grant_56 : decode cX1_grant 56 = .ok (.iload_n 2, 1) := by decide +kernel
theorem dX1_grant_57 : decode cX1_grant 57 = .ok (.invokevirtual 84, 3) := by decide +kernel
theorem dX1_grant_60 : decode cX1_grant 60 = .ok (.iload 4, 2) := by decide +kernel
theorem dX1_grant_62 : decode cX1_grant 62 = .ok (.if_icmp .ge 9, 3) := by decide +kernel
theorem dX1_grant_65 : decode cX1_grant 65 = .ok (.aload_n 0, 1) := by decide +kernel
theorem dX1_grant_66 : decode cX1_grant 66 = .ok (.iconst 3, 1) := by decide +kernel
theorem dX1_grant_67 : decode cX1_grant 67 = .ok (.invokevirtual 66, 3) := by decide +kernel
theorem dX1_grant_70 : decode cX1_grant 70 = .ok (.ireturn, 1) := by decide +kernel
theorem dX1_grant_71 : decode cX1_grant 71 = .ok (.aload_n 0, 1) := by decide +kernel
theorem dX1_grant_72 : decode cX1_grant 72 = .ok (.getfield 16, 3) := by decide +kernel
theorem dX1_grant_75 : decode cX1_grant 75 = .ok (.iload_n 1, 1) := by decide +kernel
theorem dX1_grant_76 : decode cX1_grant 76 = .ok (.iload_n 2, 1) := by decide +kernel
theorem dX1_grant_77 : decode cX1_grant 77 = .ok (.iload_n 3, 1) := by decide +kernel
theorem dX1_grant_78 : decode cX1_grant 78 = .ok (.invokestatic 53, 3) := by decide +kernel
theorem dX1_grant_81 : decode cX1_grant 81 = .ok (.dup2, 1) := by decide +kernel
theorem dX1_grant_82 : decode cX1_grant 82 = .ok (.iaload, 1) := by decide +kernel
theorem dX1_grant_83 : decode cX1_grant 83 = .ok (.iload 4, 2) := by decide +kernel
theorem dX1_grant_85 : decode cX1_grant 85 = .ok (.iadd, 1) := by decide +kernel
theorem dX1_grant_86 : decode cX1_grant 86 = .ok (.iastore, 1) := by decide +kernel
theorem dX1_grant_87 : decode cX1_grant 87 = .ok (.aload_n 0, 1) := by decide +kernel
theorem dX1_grant_88 : decode cX1_grant 88 = .ok (.iload_n 1, 1) := by decide +kernel
theorem dX1_grant_89 : decode cX1_grant 89 = .ok (.iload_n 2, 1) := by decide +kernel
theorem dX1_grant_90 : decode cX1_grant 90 = .ok (.invokevirtual 84, 3) := by decide +kernel
theorem dX1_grant_93 : decode cX1_grant 93 = .ok (.ireturn, 1) := by decide +kernel
set_option maxRecDepth 20000 in
theorem ggX1_give_X1_isPerson : GoodIn wsX1_give wsX1_isPerson := goodIn_r _ [8, 9, 10, 11, 7, 12, 29, 30, 31, 32, 33, 34, 35, 36, 37, 38, 39, 40, 41] (by decide +kernel) (by decide +kernel)
set_option maxRecDepth 20000 in
theorem gX1_give_X1_isPerson : GoodIn wsX1_give (wsV RX1 73 RX1 yX1_isPerson wsX1_isPerson) := goodIn_app (goodIn_of _ (by decide +kernel)) ggX1_give_X1_isPerson
set_option maxRecDepth 20000 in
theorem ggX1_give_X1_isWatch : GoodIn wsX1_give wsX1_isWatch := goodIn_r _ [16, 17, 18, 19, 7, 20, 21, 10, 11, 12, 29, 30, 31, 32, 33, 34, 35, 36, 37, 38, 39, 40, 41] (by decide +kernel) (by decide +kernel)
set_option maxRecDepth 20000 in
theorem gX1_give_X1_isWatch : GoodIn wsX1_give (wsV RX1 80 RX1 yX1_isWatch wsX1_isWatch) := goodIn_app (goodIn_of _ (by decide +kernel)) ggX1_give_X1_isWatch
set_option maxRecDepth 20000 in
theorem ggX1_give_X1_no : GoodIn wsX1_give wsX1_no := goodIn_r _ [25, 1, 29, 30, 31, 32, 33, 34, 35, 36, 37, 38, 39, 40, 41] (by decide +kernel) (by decide +kernel)
set_option maxRecDepth 20000 in
theorem gX1_give_X1_no : GoodIn wsX1_give (wsV RX1 66 RX1 yX1_no wsX1_no) := goodIn_app (goodIn_of _ (by decide +kernel)) ggX1_give_X1_no
set_option maxRecDepth 20000 in
theorem ggX1_give_X1_isIn : GoodIn wsX1_give wsX1_isIn := goodIn_r _ [12] (by decide +kernel) (by decide +kernel)
set_option maxRecDepth 20000 in
theorem gX1_give_X1_isIn : GoodIn wsX1_give (va_wsS RX1 42 yX1_isIn wsX1_isIn) := goodIn_app (goodIn_of _ (by decide +kernel)) ggX1_give_X1_isIn
set_option maxRecDepth 20000 in
theorem ggX1_give_X1_at : GoodIn wsX1_give wsX1_at := goodIn_r _ [28] (by decide +kernel) (by decide +kernel)
set_option maxRecDepth 20000 in
theorem gX1_give_X1_at : GoodIn wsX1_give (va_wsS RX1 53 yX1_at wsX1_at) := goodIn_app (goodIn_of _ (by decide +kernel)) ggX1_give_X1_at
theorem dX1_give_0 : decode cX1_give 0 = .ok (.aload_n 0, 1) := by decide +kernel
theorem dX1_give_1 : decode cX1_give 1 = .ok (.iconst 0, 1) := by decide +kernel
theorem dX1_give_2 : decode cX1_give 2 = .ok (.putfield 35, 3) := by decide +kernel
theorem dX1_give_5 : decode cX1_give 5 = .ok (.aload_n 0, 1) := by decide +kernel
theorem dX1_give_6 : decode cX1_give 6 = .ok (.iload_n 1, 1) := by decide +kernel
theorem dX1_give_7 : decode cX1_give 7 = .ok (.invokevirtual 73, 3) := by decide +kernel
theorem dX1_give_10 : decode cX1_give 10 = .ok (.ifCond .eq 21, 3) := by decide +kernel
theorem dX1_give_13 : decode cX1_give 13 = .ok (.aload_n 0, 1) := by decide +kernel
theorem dX1_give_14 : decode cX1_give 14 = .ok (.iload_n 2, 1) := by decide +kernel
theorem dX1_give_15 : decode cX1_give 15 = .ok (.invokevirtual 73, 3) := by decide +kernel
theorem dX1_give_18 : decode cX1_give 18 = .ok (.ifCond .eq 13, 3) := by decide +kernel
theorem dX1_give_21 : decode cX1_give 21 = .ok (.aload_n 0, 1) := by decide +kernel
theorem dX1_give_22 : decode cX1_give 22 = .ok (.iload_n 3, 1) := by decide +kernel
theorem dX1_give_23 : decode cX1_give 23 = .ok (.iload 4, 2) := by decide +kernel
theorem dX1_give_25 : decode cX1_give 25 = .ok (.invokevirtual 80, 3) := by decide +kernel
theorem dX1_give_28 : decode cX1_give 28 = .ok (.ifCond .ne 9, 3) := by decide +kernel
theorem dX1_give_31 : decode cX1_give 31 = .ok (.aload_n 0, 1) := by decide +kernel
theorem dX1_give_32 : decode cX1_give 32 = .ok (.iconst 1, 1) := by decide +kernel
theorem dX1_give_33 : decode cX1_give 33 = .ok (.invokevirtual 66, 3) := by decide +kernel
theorem dX1_give_36 : decode cX1_give 36 = .ok (.ireturn, 1) := by decide +kernel
theorem dX1_give_37 : decode cX1_give 37 = .ok (.iload 5, 2) := by decide +kernel
theorem dX1_give_39 : decode cX1_give 39 = .ok (.iconst 1, 1) := by decide +kernel
theorem dX1_give_40 : decode cX1_give 40 = .ok (.bipush 64, 2) := by decide +kernel
theorem dX1_give_42 : decode cX1_give 42 = .ok (.invokestatic 42, 3) := by decide +kernel
theorem dX1_give_45 : decode cX1_give 45 = .ok (.ifCond .eq 8, 3) := by decide +kernel
theorem dX1_give_48 : decode cX1_give 48 = .ok (.iload_n 1, 1) := by decide +kernel
theorem dX1_give_49 : decode cX1_give 49 = .ok (.iload_n 2, 1) := by decide +kernel
theorem dX1_give_50 : decode cX1_give 50 = .ok (.if_icmp .ne 9, 3) := by decide +kernel
theorem dX1_give_53 : decode cX1_give 53 = .ok (.aload_n 0, 1) := by decide +kernel
theorem dX1_give_54 : decode cX1_give 54 = .ok (.iconst 2, 1) := by decide +kernel
theorem dX1_give_55 : decode cX1_give 55 = .ok (.invokevirtual 66, 3) := by decide +kernel
theorem dX1_give_58 : decode cX1_give 58 = .ok (.ireturn, 1) := by decide +kernel
theorem dX1_give_59 : decode cX1_give 59 = .ok (.aload_n 0, 1) := by decide +kernel
theorem dX1_give_60 : decode cX1_give 60 = .ok (.getfield 28, 3) := by decide +kernel
theorem dX1_give_63 : decode cX1_give 63 = .ok (.iload_n 2, 1) := by decide +kernel
theorem dX1_give_64 : decode cX1_give 64 = .ok (.baload, 1) := by decide +kernel
theorem dX1_give_65 : decode cX1_give 65 = .ok (.ifCond .ne 20, 3) := by decide +kernel
theorem dX1_give_68 : decode cX1_give 68 = .ok (.aload_n 0, 1) := by decide +kernel
theorem dX1_give_69 : decode cX1_give 69 = .ok (.getfield 16, 3) := by decide +kernel
theorem dX1_give_72 : decode cX1_give 72 = .ok (.iload_n 3, 1) := by decide +kernel
theorem dX1_give_73 : decode cX1_give 73 = .ok (.iload 4, 2) := by decide +kernel
theorem dX1_give_75 : decode cX1_give 75 = .ok (.iload_n 1, 1) := by decide +kernel
theorem dX1_give_76 : decode cX1_give 76 = .ok (.invokestatic 53, 3) := by decide +kernel
theorem dX1_give_79 : decode cX1_give 79 = .ok (.iaload, 1) := by decide +kernel
theorem dX1_give_80 : decode cX1_give 80 = .ok (.iload 5, 2) := by decide +kernel
theorem dX1_give_82 : decode cX1_give 82 = .ok (.if_icmp .ge 9, 3) := by decide +kernel
theorem dX1_give_85 : decode cX1_give 85 = .ok (.aload_n 0, 1) := by decide +kernel
theorem dX1_give_86 : decode cX1_give 86 = .ok (.iconst 3, 1) := by decide +kernel
theorem dX1_give_87 : decode cX1_give 87 = .ok (.invokevirtual 66, 3) := by decide +kernel
theorem dX1_give_90 : decode cX1_give 90 = .ok (.ireturn, 1) := by decide +kernel
theorem dX1_give_91 : decode cX1_give 91 = .ok (.aload_n 0, 1) := by decide +kernel
theorem dX1_give_92 : decode cX1_give 92 = .ok (.getfield 16, 3) := by decide +kernel
theorem dX1_give_95 : decode cX1_give 95 = .ok (.iload_n 3, 1) := by decide +kernel
theorem dX1_give_96 : decode cX1_give 96 = .ok (.iload 4, 2) := by decide +kernel
theorem dX1_give_98 : decode cX1_give 98 = .ok (.iload_n 1, 1) := by decide +kernel
theorem dX1_give_99 : decode cX1_give 99 = .ok (.invokestatic 53, 3) := by decide +kernel
theorem dX1_give_102 : decode cX1_give 102 = .ok (.dup2, 1) := by decide +kernel
theorem dX1_give_103 : decode cX1_give 103 = .ok (.iaload, 1) := by decide +kernel
theorem dX1_give_104 : decode cX1_give 104 = .ok (.iload 5, 2) := by decide +kernel
theorem dX1_give_106 : decode cX1_give 106 = .ok (.isub, 1) := by decide +kernel
theorem dX1_give_107 : decode cX1_give 107 = .ok (.iastore, 1) := by decide +kernel
theorem dX1_give_108 : decode cX1_give 108 = .ok (.aload_n 0, 1) := by decide +kernel
theorem dX1_give_109 : decode cX1_give 109 = .ok (.getfield 16, 3) := by decide +kernel
theorem dX1_give_112 : decode cX1_give 112 = .ok (.iload_n 3, 1) := by decide +kernel
theorem dX1_give_113 : decode cX1_give 113 = .ok (.iload 4, 2) := by decide +kernel
theorem dX1_give_115 : decode cX1_give 115 = .ok (.iload_n 2, 1) := by decide +kernel
theorem dX1_give_116 : decode cX1_give 116 = .ok (.invokestatic 53, 3) := by decide +kernel
theorem dX1_give_119 : decode cX1_give 119 = .ok (.dup2, 1) := by decide +kernel
theorem dX1_give_120 : decode cX1_give 120 = .ok (.iaload, 1) := by decide +kernel
theorem dX1_give_121 : decode cX1_give 121 = .ok (.iload 5, 2) := by decide +kernel
theorem dX1_give_123 : decode cX1_give 123 = .ok (.iadd, 1) := by decide +kernel
theorem dX1_give_124 : decode cX1_give 124 = .ok (.iastore, 1) := by decide +kernel
theorem dX1_give_125 : decode cX1_give 125 = .ok (.aload_n 0, 1) := by decide +kernel
theorem dX1_give_126 : decode cX1_give 126 = .ok (.getfield 16, 3) := by decide +kernel
theorem dX1_give_129 : decode cX1_give 129 = .ok (.iload_n 3, 1) := by decide +kernel
theorem dX1_give_130 : decode cX1_give 130 = .ok (.iload 4, 2) := by decide +kernel
theorem dX1_give_132 : decode cX1_give 132 = .ok (.iload_n 2, 1) := by decide +kernel
theorem dX1_give_133 : decode cX1_give 133 = .ok (.invokestatic 53, 3) := by decide +kernel
theorem dX1_give_136 : decode cX1_give 136 = .ok (.iaload, 1) := by decide +kernel
theorem dX1_give_137 : decode cX1_give 137 = .ok (.ireturn, 1) := by decide +kernel
set_option maxRecDepth 20000 in
theorem ggX1_priceOf_X1_at : GoodIn wsX1_priceOf wsX1_at := goodIn_r _ [5] (by decide +kernel) (by decide +kernel)
set_option maxRecDepth 20000 in
theorem gX1_priceOf_X1_at : GoodIn wsX1_priceOf (va_wsS RX1 53 yX1_at wsX1_at) := goodIn_app (goodIn_of _ (by decide +kernel)) ggX1_priceOf_X1_at
set_option maxRecDepth 20000 in
theorem ggX1_priceOf_X1_worth : GoodIn wsX1_priceOf wsX1_worth := goodIn_r _ [9, 10, 11, 12, 13, 14, 15, 16, 17, 18, 19, 20, 21, 22, 23, 24] (by decide +kernel) (by decide +kernel)
set_option maxRecDepth 20000 in
theorem gX1_priceOf_X1_worth : GoodIn wsX1_priceOf (wsV RX1 87 RX1 yX1_worth wsX1_worth) := goodIn_app (goodIn_of _ (by decide +kernel)) ggX1_priceOf_X1_worth
theorem dX1_priceOf_0 : decode cX1_priceOf 0 = .ok (.aload_n 0, 1) := by decide +kernel
theorem dX1_priceOf_1 : decode cX1_priceOf 1 = .ok (.getfield 16, 3) := by decide +kernel
theorem dX1_priceOf_4 : decode cX1_priceOf 4 = .ok (.iload_n 2, 1) := by decide +kernel
theorem dX1_priceOf_5 : decode cX1_priceOf 5 = .ok (.iload_n 3, 1) := by decide +kernel
theorem dX1_priceOf_6 : decode cX1_priceOf 6 = .ok (.iload_n 1, 1) := by decide +kernel
theorem dX1_priceOf_7 : decode cX1_priceOf 7 = .ok (.invokestatic 53, 3) := by decide +kernel
theorem dX1_priceOf_10 : decode cX1_priceOf 10 = .ok (.iaload, 1) := by decide +kernel
theorem dX1_priceOf_11 : decode cX1_priceOf 11 = .ok (.aload_n 0, 1) := by decide +kernel
theorem dX1_priceOf_12 : decode cX1_priceOf 12 = .ok (.iload_n 2, 1) := by decide +kernel
theorem dX1_priceOf_13 : decode cX1_priceOf 13 = .ok (.iload_n 3, 1) := by decide +kernel
theorem dX1_priceOf_14 : decode cX1_priceOf 14 = .ok (.invokevirtual 87, 3) := by decide +kernel
theorem dX1_priceOf_17 : decode cX1_priceOf 17 = .ok (.imul, 1) := by decide +kernel
theorem dX1_priceOf_18 : decode cX1_priceOf 18 = .ok (.ireturn, 1) := by decide +kernel
set_option maxRecDepth 20000 in
theorem ggX1_isOtherAhead_X1_at : GoodIn wsX1_isOtherAhead wsX1_at := goodIn_r _ [7] (by decide +kernel) (by decide +kernel)
set_option maxRecDepth 20000 in
theorem gX1_isOtherAhead_X1_at : GoodIn wsX1_isOtherAhead (va_wsS RX1 53 yX1_at wsX1_at) := goodIn_app (goodIn_of _ (by decide +kernel)) ggX1_isOtherAhead_X1_at
theorem dX1_isOtherAhead_0 : decode cX1_isOtherAhead 0 = .ok (.iconst 0, 1) := by decide +kernel
theorem dX1_isOtherAhead_1 : decode cX1_isOtherAhead 1 = .ok (.istore 5, 2) := by decide +kernel
theorem dX1_isOtherAhead_3 : decode cX1_isOtherAhead 3 = .ok (.iload 5, 2) := by decide +kernel
theorem dX1_isOtherAhead_5 : decode cX1_isOtherAhead 5 = .ok (.aload_n 0, 1) := by decide +kernel
theorem dX1_isOtherAhead_6 : decode cX1_isOtherAhead 6 = .ok (.getfield 50, 3) := by decide +kernel
theorem dX1_isOtherAhead_9 : decode cX1_isOtherAhead 9 = .ok (.if_icmp .ge 44, 3) := by decide +kernel
theorem dX1_isOtherAhead_12 : decode cX1_isOtherAhead 12 = .ok (.iload 5, 2) := by decide +kernel
theorem dX1_isOtherAhead_14 : decode cX1_isOtherAhead 14 = .ok (.iload_n 1, 1) := by decide +kernel
theorem dX1_isOtherAhead_15 : decode cX1_isOtherAhead 15 = .ok (.if_icmp .eq 32, 3) := by decide +kernel
theorem dX1_isOtherAhead_18 : decode cX1_isOtherAhead 18 = .ok (.aload_n 0, 1) := by decide +kernel
theorem dX1_isOtherAhead_19 : decode cX1_isOtherAhead 19 = .ok (.getfield 16, 3) := by decide +kernel
theorem dX1_isOtherAhead_22 : decode cX1_isOtherAhead 22 = .ok (.iload_n 2, 1) := by decide +kernel
theorem dX1_isOtherAhead_23 : decode cX1_isOtherAhead 23 = .ok (.iload_n 3, 1) := by decide +kernel
theorem dX1_isOtherAhead_24 : decode cX1_isOtherAhead 24 = .ok (.iload 5, 2) := by decide +kernel
theorem dX1_isOtherAhead_26 : decode cX1_isOtherAhead 26 = .ok (.invokestatic 53, 3) := by decide +kernel
theorem dX1_isOtherAhead_29 : decode cX1_isOtherAhead 29 = .ok (.iaload, 1) := by decide +kernel
theorem dX1_isOtherAhead_30 : decode cX1_isOtherAhead 30 = .ok (.ifCond .le 17, 3) := by decide +kernel
theorem dX1_isOtherAhead_33 : decode cX1_isOtherAhead 33 = .ok (.aload_n 0, 1) := by decide +kernel
theorem dX1_isOtherAhead_34 : decode cX1_isOtherAhead 34 = .ok (.getfield 19, 3) := by decide +kernel
theorem dX1_isOtherAhead_37 : decode cX1_isOtherAhead 37 = .ok (.iload 5, 2) := by decide +kernel
theorem dX1_isOtherAhead_39 : decode cX1_isOtherAhead 39 = .ok (.iaload, 1) := by decide +kernel
theorem dX1_isOtherAhead_40 : decode cX1_isOtherAhead 40 = .ok (.iload 4, 2) := by decide +kernel
theorem dX1_isOtherAhead_42 : decode cX1_isOtherAhead 42 = .ok (.if_icmp .lt 5, 3) := by decide +kernel
theorem dX1_isOtherAhead_45 : decode cX1_isOtherAhead 45 = .ok (.iconst 1, 1) := by decide +kernel
theorem dX1_isOtherAhead_46 : decode cX1_isOtherAhead 46 = .ok (.ireturn, 1) := by decide +kernel
theorem dX1_isOtherAhead_47 : decode cX1_isOtherAhead 47 = .ok (.iinc 5 1, 3) := by decide +kernel
theorem dX1_isOtherAhead_50 : decode cX1_isOtherAhead 50 = .ok (.goto (-47), 3) := by decide +kernel
theorem dX1_isOtherAhead_53 : decode cX1_isOtherAhead 53 = .ok (.iconst 0, 1) := by decide +kernel
theorem dX1_isOtherAhead_54 : decode cX1_isOtherAhead 54 = .ok (.ireturn, 1) := by decide +kernel
set_option maxRecDepth 20000 in
theorem ggX1_buys_X1_priceOf : GoodIn wsX1_buys wsX1_priceOf := goodIn_r _ [8, 3, 9, 10, 7, 11, 12, 13, 14, 15, 16, 17, 23, 24, 25, 26, 27, 28, 29, 30, 31, 32, 33, 34, 35] (by decide +kernel) (by decide +kernel)
set_option maxRecDepth 20000 in
theorem gX1_buys_X1_priceOf : GoodIn wsX1_buys (wsV RX1 90 RX1 yX1_priceOf wsX1_priceOf) := goodIn_app (goodIn_of _ (by decide +kernel)) ggX1_buys_X1_priceOf
set_option maxRecDepth 20000 in
theorem ggX1_buys_X1_at : GoodIn wsX1_buys wsX1_at := goodIn_r _ [11] (by decide +kernel) (by decide +kernel)
set_option maxRecDepth 20000 in
theorem gX1_buys_X1_at : GoodIn wsX1_buys (va_wsS RX1 53 yX1_at wsX1_at) := goodIn_app (goodIn_of _ (by decide +kernel)) ggX1_buys_X1_at
set_option maxRecDepth 20000 in
theorem ggX1_buys_X1_isOtherAhead : GoodIn wsX1_buys wsX1_isOtherAhead := goodIn_r _ [21, 22, 3, 2, 9, 10, 7, 11, 23, 24, 25, 26, 27, 28, 29, 30, 31, 32, 33, 34, 35] (by decide +kernel) (by decide +kernel)
set_option maxRecDepth 20000 in
theorem gX1_buys_X1_isOtherAhead : GoodIn wsX1_buys (wsV RX1 93 RX1 yX1_isOtherAhead wsX1_isOtherAhead) := goodIn_app (goodIn_of _ (by decide +kernel)) ggX1_buys_X1_isOtherAhead
theorem dX1_buys_0 : decode cX1_buys 0 = .ok (.aload_n 0, 1) := by decide +kernel
theorem dX1_buys_1 : decode cX1_buys 1 = .ok (.iload_n 2, 1) := by decide +kernel
theorem dX1_buys_2 : decode cX1_buys 2 = .ok (.iload_n 3, 1) := by decide +kernel
theorem dX1_buys_3 : decode cX1_buys 3 = .ok (.iload 4, 2) := by decide +kernel
theorem dX1_buys_5 : decode cX1_buys 5 = .ok (.invokevirtual 90, 3) := by decide +kernel
theorem dX1_buys_8 : decode cX1_buys 8 = .ok (.istore 5, 2) := by decide +kernel
theorem dX1_buys_10 : decode cX1_buys 10 = .ok (.iload 5, 2) := by decide +kernel
theorem dX1_buys_12 : decode cX1_buys 12 = .ok (.ifCond .eq 28, 3) := by decide +kernel
theorem dX1_buys_15 : decode cX1_buys 15 = .ok (.iload_n 1, 1) := by decide +kernel
theorem dX1_buys_16 : decode cX1_buys 16 = .ok (.iload_n 2, 1) := by decide +kernel
theorem dX1_buys_17 : decode cX1_buys 17 = .ok (.if_icmp .eq 23, 3) := by decide +kernel
theorem dX1_buys_20 : decode cX1_buys 20 = .ok (.aload_n 0, 1) := by decide +kernel
theorem dX1_buys_21 : decode cX1_buys 21 = .ok (.getfield 28, 3) := by decide +kernel
theorem dX1_buys_24 : decode cX1_buys 24 = .ok (.iload_n 1, 1) := by decide +kernel
theorem dX1_buys_25 : decode cX1_buys 25 = .ok (.baload, 1) := by decide +kernel
theorem dX1_buys_26 : decode cX1_buys 26 = .ok (.ifCond .ne 14, 3) := by decide +kernel
theorem dX1_buys_29 : decode cX1_buys 29 = .ok (.aload_n 0, 1) := by decide +kernel
theorem dX1_buys_30 : decode cX1_buys 30 = .ok (.getfield 19, 3) := by decide +kernel
theorem dX1_buys_33 : decode cX1_buys 33 = .ok (.iload_n 1, 1) := by decide +kernel
theorem dX1_buys_34 : decode cX1_buys 34 = .ok (.iaload, 1) := by decide +kernel
theorem dX1_buys_35 : decode cX1_buys 35 = .ok (.iload 5, 2) := by decide +kernel
theorem dX1_buys_37 : decode cX1_buys 37 = .ok (.if_icmp .ge 5, 3) := by decide +kernel
theorem dX1_buys_40 : decode cX1_buys 40 = .ok (.iconst 0, 1) := by decide +kernel
theorem dX1_buys_41 : decode cX1_buys 41 = .ok (.ireturn, 1) := by decide +kernel
theorem dX1_buys_42 : decode cX1_buys 42 = .ok (.aload_n 0, 1) := by decide +kernel
theorem dX1_buys_43 : decode cX1_buys 43 = .ok (.getfield 16, 3) := by decide +kernel
theorem dX1_buys_46 : decode cX1_buys 46 = .ok (.iload_n 3, 1) := by decide +kernel
theorem dX1_buys_47 : decode cX1_buys 47 = .ok (.iload 4, 2) := by decide +kernel
theorem dX1_buys_49 : decode cX1_buys 49 = .ok (.iload_n 1, 1) := by decide +kernel
theorem dX1_buys_50 : decode cX1_buys 50 = .ok (.invokestatic 53, 3) := by decide +kernel
theorem dX1_buys_53 : decode cX1_buys 53 = .ok (.iaload, 1) := by decide +kernel
theorem dX1_buys_54 : decode cX1_buys 54 = .ok (.ifCond .gt 16, 3) := by decide +kernel
theorem dX1_buys_57 : decode cX1_buys 57 = .ok (.aload_n 0, 1) := by decide +kernel
theorem dX1_buys_58 : decode cX1_buys 58 = .ok (.iload_n 2, 1) := by decide +kernel
theorem dX1_buys_59 : decode cX1_buys 59 = .ok (.iload_n 3, 1) := by decide +kernel
theorem dX1_buys_60 : decode cX1_buys 60 = .ok (.iload 4, 2) := by decide +kernel
theorem dX1_buys_62 : decode cX1_buys 62 = .ok (.iload 5, 2) := by decide +kernel
theorem dX1_buys_64 : decode cX1_buys 64 = .ok (.invokevirtual 93, 3) := by decide +kernel
theorem dX1_buys_67 : decode cX1_buys 67 = .ok (.ifCond .ne 7, 3) := by decide +kernel
theorem dX1_buys_70 : decode cX1_buys 70 = .ok (.iconst 1, 1) := by decide +kernel
theorem dX1_buys_71 : decode cX1_buys 71 = .ok (.goto 4, 3) := by decide +kernel
theorem dX1_buys_74 : decode cX1_buys 74 = .ok (.iconst 0, 1) := by decide +kernel
theorem dX1_buys_75 : decode cX1_buys 75 = .ok (.ireturn, 1) := by decide +kernel
set_option maxRecDepth 20000 in
theorem ggX1_buy_X1_isPerson : GoodIn wsX1_buy wsX1_isPerson := goodIn_r _ [8, 9, 10, 11, 7, 12, 56, 57, 58, 59, 60, 61, 62, 63, 64, 65, 66, 67, 68] (by decide +kernel) (by decide +kernel)
set_option maxRecDepth 20000 in
theorem gX1_buy_X1_isPerson : GoodIn wsX1_buy (wsV RX1 73 RX1 yX1_isPerson wsX1_isPerson) := goodIn_app (goodIn_of _ (by decide +kernel)) ggX1_buy_X1_isPerson
set_option maxRecDepth 20000 in
theorem ggX1_buy_X1_isWatch : GoodIn wsX1_buy wsX1_isWatch := goodIn_r _ [16, 17, 18, 19, 7, 20, 21, 10, 11, 12, 56, 57, 58, 59, 60, 61, 62, 63, 64, 65, 66, 67, 68] (by decide +kernel) (by decide +kernel)
set_option maxRecDepth 20000 in
theorem gX1_buy_X1_isWatch : GoodIn wsX1_buy (wsV RX1 80 RX1 yX1_isWatch wsX1_isWatch) := goodIn_app (goodIn_of _ (by decide +kernel)) ggX1_buy_X1_isWatch
set_option maxRecDepth 20000 in
theorem ggX1_buy_X1_no : GoodIn wsX1_buy wsX1_no := goodIn_r _ [25, 1, 56, 57, 58, 59, 60, 61, 62, 63, 64, 65, 66, 67, 68] (by decide +kernel) (by decide +kernel)
set_option maxRecDepth 20000 in
theorem gX1_buy_X1_no : GoodIn wsX1_buy (wsV RX1 66 RX1 yX1_no wsX1_no) := goodIn_app (goodIn_of _ (by decide +kernel)) ggX1_buy_X1_no
set_option maxRecDepth 20000 in
theorem ggX1_buy_X1_buys : GoodIn wsX1_buy wsX1_buys := goodIn_r _ [29, 30, 2, 3, 31, 32, 33, 7, 34, 35, 36, 37, 38, 39, 40, 41, 42, 43, 44, 45, 46, 47, 9, 56, 57, 58, 59, 60, 61, 62, 63, 64, 65, 66, 67, 68] (by decide +kernel) (by decide +kernel)
set_option maxRecDepth 20000 in
theorem gX1_buy_X1_buys : GoodIn wsX1_buy (wsV RX1 97 RX1 yX1_buys wsX1_buys) := goodIn_app (goodIn_of _ (by decide +kernel)) ggX1_buy_X1_buys
set_option maxRecDepth 20000 in
theorem ggX1_buy_X1_priceOf : GoodIn wsX1_buy wsX1_priceOf := goodIn_r _ [34, 3, 35, 36, 7, 37, 38, 39, 40, 41, 42, 43, 56, 57, 58, 59, 60, 61, 62, 63, 64, 65, 66, 67, 68] (by decide +kernel) (by decide +kernel)
set_option maxRecDepth 20000 in
theorem gX1_buy_X1_priceOf : GoodIn wsX1_buy (wsV RX1 90 RX1 yX1_priceOf wsX1_priceOf) := goodIn_app (goodIn_of _ (by decide +kernel)) ggX1_buy_X1_priceOf
set_option maxRecDepth 20000 in
theorem ggX1_buy_X1_get : GoodIn wsX1_buy wsX1_get := goodIn_r _ [51, 2, 52, 53, 54, 55, 56, 57, 58, 59, 60, 61, 62, 63, 64, 65, 66, 67, 68] (by decide +kernel) (by decide +kernel)
set_option maxRecDepth 20000 in
theorem gX1_buy_X1_get : GoodIn wsX1_buy (wsV RX1 76 RX1 yX1_get wsX1_get) := goodIn_app (goodIn_of _ (by decide +kernel)) ggX1_buy_X1_get
set_option maxRecDepth 20000 in
theorem ggX1_buy_X1_at : GoodIn wsX1_buy wsX1_at := goodIn_r _ [37] (by decide +kernel) (by decide +kernel)
set_option maxRecDepth 20000 in
theorem gX1_buy_X1_at : GoodIn wsX1_buy (va_wsS RX1 53 yX1_at wsX1_at) := goodIn_app (goodIn_of _ (by decide +kernel)) ggX1_buy_X1_at
theorem dX1_buy_0 : decode cX1_buy 0 = .ok (.aload_n 0, 1) := by decide +kernel
theorem dX1_buy_1 : decode cX1_buy 1 = .ok (.iconst 0, 1) := by decide +kernel
theorem dX1_buy_2 : decode cX1_buy 2 = .ok (.putfield 35, 3) := by decide +kernel
theorem dX1_buy_5 : decode cX1_buy 5 = .ok (.aload_n 0, 1) := by decide +kernel
theorem dX1_buy_6 : decode cX1_buy 6 = .ok (.iload_n 1, 1) := by decide +kernel
theorem dX1_buy_7 : decode cX1_buy 7 = .ok (.invokevirtual 73, 3) := by decide +kernel
theorem dX1_buy_10 : decode cX1_buy 10 = .ok (.ifCond .eq 21, 3) := by decide +kernel
theorem dX1_buy_13 : decode cX1_buy 13 = .ok (.aload_n 0, 1) := by decide +kernel
theorem dX1_buy_14 : decode cX1_buy 14 = .ok (.iload_n 2, 1) := by decide +kernel
theorem dX1_buy_15 : decode cX1_buy 15 = .ok (.invokevirtual 73, 3) := by decide +kernel
theorem dX1_buy_18 : decode cX1_buy 18 = .ok (.ifCond .eq 13, 3) := by decide +kernel
theorem dX1_buy_21 : decode cX1_buy 21 = .ok (.aload_n 0, 1) := by decide +kernel
theorem dX1_buy_22 : decode cX1_buy 22 = .ok (.iload_n 3, 1) := by decide +kernel
theorem dX1_buy_23 : decode cX1_buy 23 = .ok (.iload 4, 2) := by decide +kernel
theorem dX1_buy_25 : decode cX1_buy 25 = .ok (.invokevirtual 80, 3) := by decide +kernel
theorem dX1_buy_28 : decode cX1_buy 28 = .ok (.ifCond .ne 9, 3) := by decide +kernel
theorem dX1_buy_31 : decode cX1_buy 31 = .ok (.aload_n 0, 1) := by decide +kernel
theorem dX1_buy_32 : decode cX1_buy 32 = .ok (.iconst 1, 1) := by decide +kernel
theorem dX1_buy_33 : decode cX1_buy 33 = .ok (.invokevirtual 66, 3) := by decide +kernel
theorem dX1_buy_36 : decode cX1_buy 36 = .ok (.ireturn, 1) := by decide +kernel
theorem dX1_buy_37 : decode cX1_buy 37 = .ok (.aload_n 0, 1) := by decide +kernel
theorem dX1_buy_38 : decode cX1_buy 38 = .ok (.iload_n 1, 1) := by decide +kernel
theorem dX1_buy_39 : decode cX1_buy 39 = .ok (.iload_n 2, 1) := by decide +kernel
theorem dX1_buy_40 : decode cX1_buy 40 = .ok (.iload_n 3, 1) := by decide +kernel
theorem dX1_buy_41 : decode cX1_buy 41 = .ok (.iload 4, 2) := by decide +kernel
theorem dX1_buy_43 : decode cX1_buy 43 = .ok (.invokevirtual 97, 3) := by decide +kernel
theorem dX1_buy_46 : decode cX1_buy 46 = .ok (.ifCond .ne 9, 3) := by decide +kernel
theorem dX1_buy_49 : decode cX1_buy 49 = .ok (.aload_n 0, 1) := by decide +kernel
theorem dX1_buy_50 : decode cX1_buy 50 = .ok (.iconst 2, 1) := by decide +kernel
theorem dX1_buy_51 : decode cX1_buy 51 = .ok (.invokevirtual 66, 3) := by decide +kernel
theorem dX1_buy_54 : decode cX1_buy 54 = .ok (.ireturn, 1) := by decide +kernel
theorem dX1_buy_55 : decode cX1_buy 55 = .ok (.aload_n 0, 1) := by decide +kernel
theorem dX1_buy_56 : decode cX1_buy 56 = .ok (.iload_n 2, 1) := by decide +kernel
theorem dX1_buy_57 : decode cX1_buy 57 = .ok (.iload_n 3, 1) := by decide +kernel
theorem dX1_buy_58 : decode cX1_buy 58 = .ok (.iload 4, 2) := by decide +kernel
theorem dX1_buy_60 : decode cX1_buy 60 = .ok (.invokevirtual 90, 3) := by decide +kernel
theorem dX1_buy_63 : decode cX1_buy 63 = .ok (.istore 5, 2) := by decide +kernel
theorem dX1_buy_65 : decode cX1_buy 65 = .ok (.aload_n 0, 1) := by decide +kernel
theorem dX1_buy_66 : decode cX1_buy 66 = .ok (.getfield 19, 3) := by decide +kernel
theorem dX1_buy_69 : decode cX1_buy 69 = .ok (.iload_n 1, 1) := by decide +kernel
theorem dX1_buy_70 : decode cX1_buy 70 = .ok (.dup2, 1) := by decide +kernel
theorem dX1_buy_71 : decode cX1_buy 71 = .ok (.iaload, 1) := by decide +kernel
theorem dX1_buy_72 : decode cX1_buy 72 = .ok (.iload 5, 2) := by decide +kernel
theorem dX1_buy_74 : decode cX1_buy 74 = .ok (.isub, 1) := by decide +kernel
theorem dX1_buy_75 : decode cX1_buy 75 = .ok (.iastore, 1) := by decide +kernel
theorem dX1_buy_76 : decode cX1_buy 76 = .ok (.aload_n 0, 1) := by decide +kernel
theorem dX1_buy_77 : decode cX1_buy 77 = .ok (.iload_n 2, 1) := by decide +kernel
theorem dX1_buy_78 : decode cX1_buy 78 = .ok (.iload 5, 2) := by decide +kernel
theorem dX1_buy_80 : decode cX1_buy 80 = .ok (.invokevirtual 76, 3) := by decide +kernel
theorem dX1_buy_83 : decode cX1_buy 83 = .ok (.aload_n 0, 1) := by decide +kernel
theorem dX1_buy_84 : decode cX1_buy 84 = .ok (.getfield 16, 3) := by decide +kernel
theorem dX1_buy_87 : decode cX1_buy 87 = .ok (.iload_n 3, 1) := by decide +kernel
theorem dX1_buy_88 : decode cX1_buy 88 = .ok (.iload 4, 2) := by decide +kernel
theorem dX1_buy_90 : decode cX1_buy 90 = .ok (.iload_n 1, 1) := by decide +kernel
theorem dX1_buy_91 : decode cX1_buy 91 = .ok (.invokestatic 53, 3) := by decide +kernel
theorem dX1_buy_94 : decode cX1_buy 94 = .ok (.dup2, 1) := by decide +kernel
theorem dX1_buy_95 : decode cX1_buy 95 = .ok (.iaload, 1) := by decide +kernel
theorem dX1_buy_96 : decode cX1_buy 96 = .ok (.aload_n 0, 1) := by decide +kernel
theorem dX1_buy_97 : decode cX1_buy 97 = .ok (.getfield 16, 3) := by decide +kernel
theorem dX1_buy_100 : decode cX1_buy 100 = .ok (.iload_n 3, 1) := by decide +kernel
theorem dX1_buy_101 : decode cX1_buy 101 = .ok (.iload 4, 2) := by decide +kernel
theorem dX1_buy_103 : decode cX1_buy 103 = .ok (.iload_n 2, 1) := by decide +kernel
theorem dX1_buy_104 : decode cX1_buy 104 = .ok (.invokestatic 53, 3) := by decide +kernel
theorem dX1_buy_107 : decode cX1_buy 107 = .ok (.iaload, 1) := by decide +kernel
theorem dX1_buy_108 : decode cX1_buy 108 = .ok (.iadd, 1) := by decide +kernel
theorem dX1_buy_109 : decode cX1_buy 109 = .ok (.iastore, 1) := by decide +kernel
theorem dX1_buy_110 : decode cX1_buy 110 = .ok (.aload_n 0, 1) := by decide +kernel
theorem dX1_buy_111 : decode cX1_buy 111 = .ok (.getfield 16, 3) := by decide +kernel
theorem dX1_buy_114 : decode cX1_buy 114 = .ok (.iload_n 3, 1) := by decide +kernel
theorem dX1_buy_115 : decode cX1_buy 115 = .ok (.iload 4, 2) := by decide +kernel
theorem dX1_buy_117 : decode cX1_buy 117 = .ok (.iload_n 2, 1) := by decide +kernel
theorem dX1_buy_118 : decode cX1_buy 118 = .ok (.invokestatic 53, 3) := by decide +kernel
theorem dX1_buy_121 : decode cX1_buy 121 = .ok (.iconst 0, 1) := by decide +kernel
theorem dX1_buy_122 : decode cX1_buy 122 = .ok (.iastore, 1) := by decide +kernel
theorem dX1_buy_123 : decode cX1_buy 123 = .ok (.iload 5, 2) := by decide +kernel
theorem dX1_buy_125 : decode cX1_buy 125 = .ok (.ireturn, 1) := by decide +kernel
set_option maxRecDepth 20000 in
theorem ggX1_inFerry_X1_at : GoodIn wsX1_inFerry wsX1_at := goodIn_r _ [5] (by decide +kernel) (by decide +kernel)
set_option maxRecDepth 20000 in
theorem gX1_inFerry_X1_at : GoodIn wsX1_inFerry (va_wsS RX1 53 yX1_at wsX1_at) := goodIn_app (goodIn_of _ (by decide +kernel)) ggX1_inFerry_X1_at
theorem dX1_inFerry_0 : decode cX1_inFerry 0 = .ok (.iconst 0, 1) := by decide +kernel
theorem dX1_inFerry_1 : decode cX1_inFerry 1 = .ok (.istore_n 3, 1) := by decide +kernel
theorem dX1_inFerry_2 : decode cX1_inFerry 2 = .ok (.iconst 0, 1) := by decide +kernel
theorem dX1_inFerry_3 : decode cX1_inFerry 3 = .ok (.istore 4, 2) := by decide +kernel
theorem dX1_inFerry_5 : decode cX1_inFerry 5 = .ok (.iload 4, 2) := by decide +kernel
theorem dX1_inFerry_7 : decode cX1_inFerry 7 = .ok (.iconst 4, 1) := by decide +kernel
theorem dX1_inFerry_8 : decode cX1_inFerry 8 = .ok (.if_icmp .ge 24, 3) := by decide +kernel
theorem dX1_inFerry_11 : decode cX1_inFerry 11 = .ok (.iload_n 3, 1) := by decide +kernel
theorem dX1_inFerry_12 : decode cX1_inFerry 12 = .ok (.aload_n 0, 1) := by decide +kernel
theorem dX1_inFerry_13 : decode cX1_inFerry 13 = .ok (.getfield 16, 3) := by decide +kernel
theorem dX1_inFerry_16 : decode cX1_inFerry 16 = .ok (.iload_n 1, 1) := by decide +kernel
theorem dX1_inFerry_17 : decode cX1_inFerry 17 = .ok (.iload 4, 2) := by decide +kernel
theorem dX1_inFerry_19 : decode cX1_inFerry 19 = .ok (.iload_n 2, 1) := by decide +kernel
theorem dX1_inFerry_20 : decode cX1_inFerry 20 = .ok (.invokestatic 53, 3) := by decide +kernel
theorem dX1_inFerry_23 : decode cX1_inFerry 23 = .ok (.iaload, 1) := by decide +kernel
theorem dX1_inFerry_24 : decode cX1_inFerry 24 = .ok (.iadd, 1) := by decide +kernel
theorem dX1_inFerry_25 : decode cX1_inFerry 25 = .ok (.istore_n 3, 1) := by decide +kernel
theorem dX1_inFerry_26 : decode cX1_inFerry 26 = .ok (.iinc 4 1, 3) := by decide +kernel
theorem dX1_inFerry_29 : decode cX1_inFerry 29 = .ok (.goto (-24), 3) := by decide +kernel
theorem dX1_inFerry_32 : decode cX1_inFerry 32 = .ok (.iload_n 3, 1) := by decide +kernel
theorem dX1_inFerry_33 : decode cX1_inFerry 33 = .ok (.ireturn, 1) := by decide +kernel
set_option maxRecDepth 20000 in
theorem ggX1_masterOf_X1_inFerry : GoodIn wsX1_masterOf wsX1_inFerry := goodIn_r _ [6, 7, 8, 9, 5, 10, 11, 12, 13, 14, 15, 16, 17, 18, 19, 20, 21, 22, 23] (by decide +kernel) (by decide +kernel)
set_option maxRecDepth 20000 in
theorem gX1_masterOf_X1_inFerry : GoodIn wsX1_masterOf (wsV RX1 100 RX1 yX1_inFerry wsX1_inFerry) := goodIn_app (goodIn_of _ (by decide +kernel)) ggX1_masterOf_X1_inFerry
theorem dX1_masterOf_0 : decode cX1_masterOf 0 = .ok (.iconst 0, 1) := by decide +kernel
theorem dX1_masterOf_1 : decode cX1_masterOf 1 = .ok (.istore_n 2, 1) := by decide +kernel
theorem dX1_masterOf_2 : decode cX1_masterOf 2 = .ok (.iload_n 2, 1) := by decide +kernel
theorem dX1_masterOf_3 : decode cX1_masterOf 3 = .ok (.aload_n 0, 1) := by decide +kernel
theorem dX1_masterOf_4 : decode cX1_masterOf 4 = .ok (.getfield 50, 3) := by decide +kernel
theorem dX1_masterOf_7 : decode cX1_masterOf 7 = .ok (.if_icmp .ge 25, 3) := by decide +kernel
theorem dX1_masterOf_10 : decode cX1_masterOf 10 = .ok (.iconst 2, 1) := by decide +kernel
theorem dX1_masterOf_11 : decode cX1_masterOf 11 = .ok (.aload_n 0, 1) := by decide +kernel
theorem dX1_masterOf_12 : decode cX1_masterOf 12 = .ok (.iload_n 1, 1) := by decide +kernel
theorem dX1_masterOf_13 : decode cX1_masterOf 13 = .ok (.iload_n 2, 1) := by decide +kernel
theorem dX1_masterOf_14 : decode cX1_masterOf 14 = .ok (.invokevirtual 100, 3) := by decide +kernel
theorem dX1_masterOf_17 : decode cX1_masterOf 17 = .ok (.imul, 1) := by decide +kernel
theorem dX1_masterOf_18 : decode cX1_masterOf 18 = .ok (.sipush 256, 3) := by decide +kernel
theorem dX1_masterOf_21 : decode cX1_masterOf 21 = .ok (.if_icmp .le 5, 3) := by decide +kernel
theorem dX1_masterOf_24 : decode cX1_masterOf 24 = .ok (.iload_n 2, 1) := by decide +kernel
theorem dX1_masterOf_25 : decode cX1_masterOf 25 = .ok (.ireturn, 1) := by decide +kernel
theorem dX1_masterOf_26 : decode cX1_masterOf 26 = .ok (.iinc 2 1, 3) := by decide +kernel
theorem dX1_masterOf_29 : decode cX1_masterOf 29 = .ok (.goto (-27), 3) := by decide +kernel
theorem dX1_masterOf_32 : decode cX1_masterOf 32 = .ok (.iconst (-1), 1) := by decide +kernel
theorem dX1_masterOf_33 : decode cX1_masterOf 33 = .ok (.ireturn, 1) := by decide +kernel
set_option maxRecDepth 20000 in
theorem ggX1_setToll_X1_isFerry : GoodIn wsX1_setToll wsX1_isFerry := goodIn_r _ [7, 8, 9, 10, 6, 11, 33, 34, 35, 36, 37, 38, 39, 40, 41, 42, 43, 44, 45] (by decide +kernel) (by decide +kernel)
set_option maxRecDepth 20000 in
theorem gX1_setToll_X1_isFerry : GoodIn wsX1_setToll (wsV RX1 46 RX1 yX1_isFerry wsX1_isFerry) := goodIn_app (goodIn_of _ (by decide +kernel)) ggX1_setToll_X1_isFerry
set_option maxRecDepth 20000 in
theorem ggX1_setToll_X1_isPerson : GoodIn wsX1_setToll wsX1_isPerson := goodIn_r _ [15, 16, 9, 10, 6, 11, 33, 34, 35, 36, 37, 38, 39, 40, 41, 42, 43, 44, 45] (by decide +kernel) (by decide +kernel)
set_option maxRecDepth 20000 in
theorem gX1_setToll_X1_isPerson : GoodIn wsX1_setToll (wsV RX1 73 RX1 yX1_isPerson wsX1_isPerson) := goodIn_app (goodIn_of _ (by decide +kernel)) ggX1_setToll_X1_isPerson
set_option maxRecDepth 20000 in
theorem ggX1_setToll_X1_no : GoodIn wsX1_setToll wsX1_no := goodIn_r _ [20, 1, 33, 34, 35, 36, 37, 38, 39, 40, 41, 42, 43, 44, 45] (by decide +kernel) (by decide +kernel)
set_option maxRecDepth 20000 in
theorem gX1_setToll_X1_no : GoodIn wsX1_setToll (wsV RX1 66 RX1 yX1_no wsX1_no) := goodIn_app (goodIn_of _ (by decide +kernel)) ggX1_setToll_X1_no
set_option maxRecDepth 20000 in
theorem ggX1_setToll_X1_isIn : GoodIn wsX1_setToll wsX1_isIn := goodIn_r _ [11] (by decide +kernel) (by decide +kernel)
set_option maxRecDepth 20000 in
theorem gX1_setToll_X1_isIn : GoodIn wsX1_setToll (va_wsS RX1 42 yX1_isIn wsX1_isIn) := goodIn_app (goodIn_of _ (by decide +kernel)) ggX1_setToll_X1_isIn
set_option maxRecDepth 20000 in
theorem ggX1_setToll_X1_masterOf : GoodIn wsX1_setToll wsX1_masterOf := goodIn_r _ [24, 16, 25, 26, 27, 6, 28, 29, 30, 31, 32, 33, 34, 35, 36, 37, 38, 39, 40, 41, 42, 43, 44, 45] (by decide +kernel) (by decide +kernel)
set_option maxRecDepth 20000 in
theorem gX1_setToll_X1_masterOf : GoodIn wsX1_setToll (wsV RX1 103 RX1 yX1_masterOf wsX1_masterOf) := goodIn_app (goodIn_of _ (by decide +kernel)) ggX1_setToll_X1_masterOf
theorem dX1_setToll_0 : decode cX1_setToll 0 = .ok (.aload_n 0, 1) := by decide +kernel
theorem dX1_setToll_1 : decode cX1_setToll 1 = .ok (.iconst 0, 1) := by decide +kernel
theorem dX1_setToll_2 : decode cX1_setToll 2 = .ok (.putfield 35, 3) := by decide +kernel
theorem dX1_setToll_5 : decode cX1_setToll 5 = .ok (.aload_n 0, 1) := by decide +kernel
theorem dX1_setToll_6 : decode cX1_setToll 6 = .ok (.iload_n 1, 1) := by decide +kernel
theorem dX1_setToll_7 : decode cX1_setToll 7 = .ok (.invokevirtual 46, 3) := by decide +kernel
theorem dX1_setToll_10 : decode cX1_setToll 10 = .ok (.ifCond .eq 11, 3) := by decide +kernel
theorem dX1_setToll_13 : decode cX1_setToll 13 = .ok (.aload_n 0, 1) := by decide +kernel
theorem dX1_setToll_14 : decode cX1_setToll 14 = .ok (.iload_n 2, 1) := by decide +kernel
theorem dX1_setToll_15 : decode cX1_setToll 15 = .ok (.invokevirtual 73, 3) := by decide +kernel
theorem dX1_setToll_18 : decode cX1_setToll 18 = .ok (.ifCond .ne 9, 3) := by decide +kernel
theorem dX1_setToll_21 : decode cX1_setToll 21 = .ok (.aload_n 0, 1) := by decide +kernel
theorem dX1_setToll_22 : decode cX1_setToll 22 = .ok (.iconst 1, 1) := by decide +kernel
theorem dX1_setToll_23 : decode cX1_setToll 23 = .ok (.invokevirtual 66, 3) := by decide +kernel
theorem dX1_setToll_26 : decode cX1_setToll 26 = .ok (.ireturn, 1) := by decide +kernel
theorem dX1_setToll_27 : decode cX1_setToll 27 = .ok (.iload_n 3, 1) := by decide +kernel
theorem dX1_setToll_28 : decode cX1_setToll 28 = .ok (.iconst 0, 1) := by decide +kernel
theorem dX1_setToll_29 : decode cX1_setToll 29 = .ok (.bipush 20, 2) := by decide +kernel
theorem dX1_setToll_31 : decode cX1_setToll 31 = .ok (.invokestatic 42, 3) := by decide +kernel
theorem dX1_setToll_34 : decode cX1_setToll 34 = .ok (.ifCond .ne 9, 3) := by decide +kernel
theorem dX1_setToll_37 : decode cX1_setToll 37 = .ok (.aload_n 0, 1) := by decide +kernel
theorem dX1_setToll_38 : decode cX1_setToll 38 = .ok (.iconst 2, 1) := by decide +kernel
theorem dX1_setToll_39 : decode cX1_setToll 39 = .ok (.invokevirtual 66, 3) := by decide +kernel
theorem dX1_setToll_42 : decode cX1_setToll 42 = .ok (.ireturn, 1) := by decide +kernel
theorem dX1_setToll_43 : decode cX1_setToll 43 = .ok (.aload_n 0, 1) := by decide +kernel
theorem dX1_setToll_44 : decode cX1_setToll 44 = .ok (.iload_n 1, 1) := by decide +kernel
theorem dX1_setToll_45 : decode cX1_setToll 45 = .ok (.invokevirtual 103, 3) := by decide +kernel
theorem dX1_setToll_48 : decode cX1_setToll 48 = .ok (.iload_n 2, 1) := by decide +kernel
theorem dX1_setToll_49 : decode cX1_setToll 49 = .ok (.if_icmp .eq 9, 3) := by decide +kernel
theorem dX1_setToll_52 : decode cX1_setToll 52 = .ok (.aload_n 0, 1) := by decide +kernel
theorem dX1_setToll_53 : decode cX1_setToll 53 = .ok (.iconst 3, 1) := by decide +kernel
theorem dX1_setToll_54 : decode cX1_setToll 54 = .ok (.invokevirtual 66, 3) := by decide +kernel
theorem dX1_setToll_57 : decode cX1_setToll 57 = .ok (.ireturn, 1) := by decide +kernel
theorem dX1_setToll_58 : decode cX1_setToll 58 = .ok (.aload_n 0, 1) := by decide +kernel
theorem dX1_setToll_59 : decode cX1_setToll 59 = .ok (.getfield 9, 3) := by decide +kernel
theorem dX1_setToll_62 : decode cX1_setToll 62 = .ok (.iload_n 1, 1) := by decide +kernel
theorem dX1_setToll_63 : decode cX1_setToll 63 = .ok (.iaload, 1) := by decide +kernel
theorem dX1_setToll_64 : decode cX1_setToll 64 = .ok (.istore 4, 2) := by decide +kernel
theorem dX1_setToll_66 : decode cX1_setToll 66 = .ok (.aload_n 0, 1) := by decide +kernel
theorem dX1_setToll_67 : decode cX1_setToll 67 = .ok (.getfield 9, 3) := by decide +kernel
theorem dX1_setToll_70 : decode cX1_setToll 70 = .ok (.iload_n 1, 1) := by decide +kernel
theorem dX1_setToll_71 : decode cX1_setToll 71 = .ok (.iload_n 3, 1) := by decide +kernel
theorem dX1_setToll_72 : decode cX1_setToll 72 = .ok (.iastore, 1) := by decide +kernel
theorem dX1_setToll_73 : decode cX1_setToll 73 = .ok (.iload 4, 2) := by decide +kernel
theorem dX1_setToll_75 : decode cX1_setToll 75 = .ok (.ireturn, 1) := by decide +kernel
set_option maxRecDepth 20000 in
theorem ggX1_part_X1_at : GoodIn wsX1_part wsX1_at := goodIn_r _ [6] (by decide +kernel) (by decide +kernel)
set_option maxRecDepth 20000 in
theorem gX1_part_X1_at : GoodIn wsX1_part (va_wsS RX1 53 yX1_at wsX1_at) := goodIn_app (goodIn_of _ (by decide +kernel)) ggX1_part_X1_at
theorem dX1_part_0 : decode cX1_part 0 = .ok (.iload 4, 2) := by decide +kernel
theorem dX1_part_2 : decode cX1_part 2 = .ok (.aload_n 0, 1) := by decide +kernel
theorem dX1_part_3 : decode cX1_part 3 = .ok (.getfield 9, 3) := by decide +kernel
theorem dX1_part_6 : decode cX1_part 6 = .ok (.iload_n 1, 1) := by decide +kernel
theorem dX1_part_7 : decode cX1_part 7 = .ok (.iaload, 1) := by decide +kernel
theorem dX1_part_8 : decode cX1_part 8 = .ok (.imul, 1) := by decide +kernel
theorem dX1_part_9 : decode cX1_part 9 = .ok (.aload_n 0, 1) := by decide +kernel
theorem dX1_part_10 : decode cX1_part 10 = .ok (.getfield 16, 3) := by decide +kernel
theorem dX1_part_13 : decode cX1_part 13 = .ok (.iload_n 1, 1) := by decide +kernel
theorem dX1_part_14 : decode cX1_part 14 = .ok (.iload_n 2, 1) := by decide +kernel
theorem dX1_part_15 : decode cX1_part 15 = .ok (.bipush 6, 2) := by decide +kernel
theorem dX1_part_17 : decode cX1_part 17 = .ok (.idiv, 1) := by decide +kernel
theorem dX1_part_18 : decode cX1_part 18 = .ok (.iload_n 3, 1) := by decide +kernel
theorem dX1_part_19 : decode cX1_part 19 = .ok (.invokestatic 53, 3) := by decide +kernel
theorem dX1_part_22 : decode cX1_part 22 = .ok (.iaload, 1) := by decide +kernel
theorem dX1_part_23 : decode cX1_part 23 = .ok (.imul, 1) := by decide +kernel
theorem dX1_part_24 : decode cX1_part 24 = .ok (.bipush 64, 2) := by decide +kernel
theorem dX1_part_26 : decode cX1_part 26 = .ok (.idiv, 1) := by decide +kernel
theorem dX1_part_27 : decode cX1_part 27 = .ok (.ireturn, 1) := by decide +kernel
set_option maxRecDepth 20000 in
theorem ggX1_carry_X1_isFerry : GoodIn wsX1_carry wsX1_isFerry := goodIn_r _ [11, 12, 13, 14, 10, 15, 37, 38, 39, 40, 41, 42, 43, 44, 45, 46, 47, 48, 49] (by decide +kernel) (by decide +kernel)
set_option maxRecDepth 20000 in
theorem gX1_carry_X1_isFerry : GoodIn wsX1_carry (wsV RX1 46 RX1 yX1_isFerry wsX1_isFerry) := goodIn_app (goodIn_of _ (by decide +kernel)) ggX1_carry_X1_isFerry
set_option maxRecDepth 20000 in
theorem ggX1_carry_X1_isIn : GoodIn wsX1_carry wsX1_isIn := goodIn_r _ [15] (by decide +kernel) (by decide +kernel)
set_option maxRecDepth 20000 in
theorem gX1_carry_X1_isIn : GoodIn wsX1_carry (va_wsS RX1 42 yX1_isIn wsX1_isIn) := goodIn_app (goodIn_of _ (by decide +kernel)) ggX1_carry_X1_isIn
set_option maxRecDepth 20000 in
theorem ggX1_carry_X1_no : GoodIn wsX1_carry wsX1_no := goodIn_r _ [19, 1, 37, 38, 39, 40, 41, 42, 43, 44, 45, 46, 47, 48, 49] (by decide +kernel) (by decide +kernel)
set_option maxRecDepth 20000 in
theorem gX1_carry_X1_no : GoodIn wsX1_carry (wsV RX1 66 RX1 yX1_no wsX1_no) := goodIn_app (goodIn_of _ (by decide +kernel)) ggX1_carry_X1_no
set_option maxRecDepth 20000 in
theorem ggX1_carry_X1_part : GoodIn wsX1_carry wsX1_part := goodIn_r _ [23, 2, 24, 25, 26, 10, 27, 37, 38, 39, 40, 41, 42, 43, 44, 45, 46, 47, 48, 49] (by decide +kernel) (by decide +kernel)
set_option maxRecDepth 20000 in
theorem gX1_carry_X1_part : GoodIn wsX1_carry (wsV RX1 106 RX1 yX1_part wsX1_part) := goodIn_app (goodIn_of _ (by decide +kernel)) ggX1_carry_X1_part
set_option maxRecDepth 20000 in
theorem ggX1_carry_X1_get : GoodIn wsX1_carry wsX1_get := goodIn_r _ [31, 32, 33, 34, 35, 36, 37, 38, 39, 40, 41, 42, 43, 44, 45, 46, 47, 48, 49] (by decide +kernel) (by decide +kernel)
set_option maxRecDepth 20000 in
theorem gX1_carry_X1_get : GoodIn wsX1_carry (wsV RX1 76 RX1 yX1_get wsX1_get) := goodIn_app (goodIn_of _ (by decide +kernel)) ggX1_carry_X1_get
theorem dX1_carry_0 : decode cX1_carry 0 = .ok (.aload_n 0, 1) := by decide +kernel
theorem dX1_carry_1 : decode cX1_carry 1 = .ok (.iconst 0, 1) := by decide +kernel
theorem dX1_carry_2 : decode cX1_carry 2 = .ok (.putfield 35, 3) := by decide +kernel
theorem dX1_carry_5 : decode cX1_carry 5 = .ok (.aload_n 0, 1) := by decide +kernel
theorem dX1_carry_6 : decode cX1_carry 6 = .ok (.iload_n 1, 1) := by decide +kernel
theorem dX1_carry_7 : decode cX1_carry 7 = .ok (.invokevirtual 46, 3) := by decide +kernel
theorem dX1_carry_10 : decode cX1_carry 10 = .ok (.ifCond .eq 13, 3) := by decide +kernel
theorem dX1_carry_13 : decode cX1_carry 13 = .ok (.iload_n 2, 1) := by decide +kernel
theorem dX1_carry_14 : decode cX1_carry 14 = .ok (.iconst 0, 1) := by decide +kernel
theorem dX1_carry_15 : decode cX1_carry 15 = .ok (.bipush 23, 2) := by decide +kernel
theorem dX1_carry_17 : decode cX1_carry 17 = .ok (.invokestatic 42, 3) := by decide +kernel
theorem dX1_carry_20 : decode cX1_carry 20 = .ok (.ifCond .ne 9, 3) := by decide +kernel
theorem dX1_carry_23 : decode cX1_carry 23 = .ok (.aload_n 0, 1) := by decide +kernel
theorem dX1_carry_24 : decode cX1_carry 24 = .ok (.iconst 1, 1) := by decide +kernel
theorem dX1_carry_25 : decode cX1_carry 25 = .ok (.invokevirtual 66, 3) := by decide +kernel
theorem dX1_carry_28 : decode cX1_carry 28 = .ok (.ireturn, 1) := by decide +kernel
theorem dX1_carry_29 : decode cX1_carry 29 = .ok (.iload_n 3, 1) := by decide +kernel
theorem dX1_carry_30 : decode cX1_carry 30 = .ok (.iconst 1, 1) := by decide +kernel
theorem dX1_carry_31 : decode cX1_carry 31 = .ok (.sipush 200, 3) := by decide +kernel
theorem dX1_carry_34 : decode cX1_carry 34 = .ok (.invokestatic 42, 3) := by decide +kernel
theorem dX1_carry_37 : decode cX1_carry 37 = .ok (.ifCond .ne 9, 3) := by decide +kernel
theorem dX1_carry_40 : decode cX1_carry 40 = .ok (.aload_n 0, 1) := by decide +kernel
theorem dX1_carry_41 : decode cX1_carry 41 = .ok (.iconst 2, 1) := by decide +kernel
theorem dX1_carry_42 : decode cX1_carry 42 = .ok (.invokevirtual 66, 3) := by decide +kernel
theorem dX1_carry_45 : decode cX1_carry 45 = .ok (.ireturn, 1) := by decide +kernel
theorem dX1_carry_46 : decode cX1_carry 46 = .ok (.iload_n 3, 1) := by decide +kernel
theorem dX1_carry_47 : decode cX1_carry 47 = .ok (.aload_n 0, 1) := by decide +kernel
theorem dX1_carry_48 : decode cX1_carry 48 = .ok (.getfield 9, 3) := by decide +kernel
theorem dX1_carry_51 : decode cX1_carry 51 = .ok (.iload_n 1, 1) := by decide +kernel
theorem dX1_carry_52 : decode cX1_carry 52 = .ok (.iaload, 1) := by decide +kernel
theorem dX1_carry_53 : decode cX1_carry 53 = .ok (.imul, 1) := by decide +kernel
theorem dX1_carry_54 : decode cX1_carry 54 = .ok (.istore 4, 2) := by decide +kernel
theorem dX1_carry_56 : decode cX1_carry 56 = .ok (.iconst 0, 1) := by decide +kernel
theorem dX1_carry_57 : decode cX1_carry 57 = .ok (.istore 5, 2) := by decide +kernel
theorem dX1_carry_59 : decode cX1_carry 59 = .ok (.iload 5, 2) := by decide +kernel
theorem dX1_carry_61 : decode cX1_carry 61 = .ok (.aload_n 0, 1) := by decide +kernel
theorem dX1_carry_62 : decode cX1_carry 62 = .ok (.getfield 50, 3) := by decide +kernel
theorem dX1_carry_65 : decode cX1_carry 65 = .ok (.if_icmp .ge 47, 3) := by decide +kernel
theorem dX1_carry_68 : decode cX1_carry 68 = .ok (.aload_n 0, 1) := by decide +kernel
theorem dX1_carry_69 : decode cX1_carry 69 = .ok (.iload_n 1, 1) := by decide +kernel
theorem dX1_carry_70 : decode cX1_carry 70 = .ok (.iload_n 2, 1) := by decide +kernel
theorem dX1_carry_71 : decode cX1_carry 71 = .ok (.iload 5, 2) := by decide +kernel
theorem dX1_carry_73 : decode cX1_carry 73 = .ok (.iload_n 3, 1) := by decide +kernel
theorem dX1_carry_74 : decode cX1_carry 74 = .ok (.invokevirtual 106, 3) := by decide +kernel
theorem dX1_carry_77 : decode cX1_carry 77 = .ok (.istore 6, 2) := by decide +kernel
theorem dX1_carry_79 : decode cX1_carry 79 = .ok (.iload 4, 2) := by decide +kernel
theorem dX1_carry_81 : decode cX1_carry 81 = .ok (.iload 6, 2) := by decide +kernel
theorem dX1_carry_83 : decode cX1_carry 83 = .ok (.isub, 1) := by decide +kernel
theorem dX1_carry_84 : decode cX1_carry 84 = .ok (.istore 4, 2) := by decide +kernel
theorem dX1_carry_86 : decode cX1_carry 86 = .ok (.aload_n 0, 1) := by decide +kernel
theorem dX1_carry_87 : decode cX1_carry 87 = .ok (.getfield 22, 3) := by decide +kernel
theorem dX1_carry_90 : decode cX1_carry 90 = .ok (.iload 5, 2) := by decide +kernel
theorem dX1_carry_92 : decode cX1_carry 92 = .ok (.dup2, 1) := by decide +kernel
theorem dX1_carry_93 : decode cX1_carry 93 = .ok (.iaload, 1) := by decide +kernel
theorem dX1_carry_94 : decode cX1_carry 94 = .ok (.iload 6, 2) := by decide +kernel
theorem dX1_carry_96 : decode cX1_carry 96 = .ok (.iadd, 1) := by decide +kernel
theorem dX1_carry_97 : decode cX1_carry 97 = .ok (.iastore, 1) := by decide +kernel
theorem dX1_carry_98 : decode cX1_carry 98 = .ok (.aload_n 0, 1) := by decide +kernel
theorem dX1_carry_99 : decode cX1_carry 99 = .ok (.iload 5, 2) := by decide +kernel
theorem dX1_carry_101 : decode cX1_carry 101 = .ok (.iload 6, 2) := by decide +kernel
theorem dX1_carry_103 : decode cX1_carry 103 = .ok (.invokevirtual 76, 3) := by decide +kernel
theorem dX1_carry_106 : decode cX1_carry 106 = .ok (.iinc 5 1, 3) := by decide +kernel
theorem dX1_carry_109 : decode cX1_carry 109 = .ok (.goto (-50), 3) := by decide +kernel
theorem dX1_carry_112 : decode cX1_carry 112 = .ok (.aload_n 0, 1) := by decide +kernel
theorem dX1_carry_113 : decode cX1_carry 113 = .ok (.getfield 13, 3) := by decide +kernel
theorem dX1_carry_116 : decode cX1_carry 116 = .ok (.iload_n 1, 1) := by decide +kernel
theorem dX1_carry_117 : decode cX1_carry 117 = .ok (.dup2, 1) := by decide +kernel
theorem dX1_carry_118 : decode cX1_carry 118 = .ok (.iaload, 1) := by decide +kernel
theorem dX1_carry_119 : decode cX1_carry 119 = .ok (.iload_n 3, 1) := by decide +kernel
theorem dX1_carry_120 : decode cX1_carry 120 = .ok (.iadd, 1) := by decide +kernel
theorem dX1_carry_121 : decode cX1_carry 121 = .ok (.iastore, 1) := by decide +kernel
theorem dX1_carry_122 : decode cX1_carry 122 = .ok (.aload_n 0, 1) := by decide +kernel
theorem dX1_carry_123 : decode cX1_carry 123 = .ok (.dup, 1) := by decide +kernel
theorem dX1_carry_124 : decode cX1_carry 124 = .ok (.getfield 110, 3) := by decide +kernel
theorem dX1_carry_127 : decode cX1_carry 127 = .ok (.iload 4, 2) := by decide +kernel
theorem dX1_carry_129 : decode cX1_carry 129 = .ok (.iadd, 1) := by decide +kernel
theorem dX1_carry_130 : decode cX1_carry 130 = .ok (.putfield 110, 3) := by decide +kernel
theorem dX1_carry_133 : decode cX1_carry 133 = .ok (.iload 4, 2) := by decide +kernel
theorem dX1_carry_135 : decode cX1_carry 135 = .ok (.ireturn, 1) := by decide +kernel
set_option maxRecDepth 20000 in
theorem ggX1_lookForHeirs_X1_addHeir : GoodIn wsX1_lookForHeirs wsX1_addHeir := goodIn_r _ [9, 10, 1, 11, 12, 13, 14, 15, 16, 17, 18, 19, 20, 21, 22, 23] (by decide +kernel) (by decide +kernel)
set_option maxRecDepth 20000 in
theorem gX1_lookForHeirs_X1_addHeir : GoodIn wsX1_lookForHeirs (wsV RX1 116 RX1 yX1_addHeir wsX1_addHeir) := goodIn_app (goodIn_of _ (by decide +kernel)) ggX1_lookForHeirs_X1_addHeir
theorem dX1_lookForHeirs_0 : decode cX1_lookForHeirs 0 = .ok (.aload_n 0, 1) := by decide +kernel
theorem dX1_lookForHeirs_1 : decode cX1_lookForHeirs 1 = .ok (.iconst 0, 1) := by decide +kernel
theorem dX1_lookForHeirs_2 : decode cX1_lookForHeirs 2 = .ok (.putfield 113, 3) := by decide +kernel
theorem dX1_lookForHeirs_5 : decode cX1_lookForHeirs 5 = .ok (.iconst 0, 1) := by decide +kernel
theorem dX1_lookForHeirs_6 : decode cX1_lookForHeirs 6 = .ok (.istore_n 2, 1) := by decide +kernel
theorem dX1_lookForHeirs_7 : decode cX1_lookForHeirs 7 = .ok (.iload_n 2, 1) := by decide +kernel
theorem dX1_lookForHeirs_8 : decode cX1_lookForHeirs 8 = .ok (.aload_n 0, 1) := by decide +kernel
theorem dX1_lookForHeirs_9 : decode cX1_lookForHeirs 9 = .ok (.getfield 50, 3) := by decide +kernel
theorem dX1_lookForHeirs_12 : decode cX1_lookForHeirs 12 = .ok (.if_icmp .ge 33, 3) := by decide +kernel
theorem dX1_lookForHeirs_15 : decode cX1_lookForHeirs 15 = .ok (.aload_n 0, 1) := by decide +kernel
theorem dX1_lookForHeirs_16 : decode cX1_lookForHeirs 16 = .ok (.getfield 25, 3) := by decide +kernel
theorem dX1_lookForHeirs_19 : decode cX1_lookForHeirs 19 = .ok (.iload_n 2, 1) := by decide +kernel
theorem dX1_lookForHeirs_20 : decode cX1_lookForHeirs 20 = .ok (.iaload, 1) := by decide +kernel
theorem dX1_lookForHeirs_21 : decode cX1_lookForHeirs 21 = .ok (.iload_n 1, 1) := by decide +kernel
theorem dX1_lookForHeirs_22 : decode cX1_lookForHeirs 22 = .ok (.if_icmp .ne 17, 3) := by decide +kernel
theorem dX1_lookForHeirs_25 : decode cX1_lookForHeirs 25 = .ok (.aload_n 0, 1) := by decide +kernel
theorem dX1_lookForHeirs_26 : decode cX1_lookForHeirs 26 = .ok (.getfield 28, 3) := by decide +kernel
theorem dX1_lookForHeirs_29 : decode cX1_lookForHeirs 29 = .ok (.iload_n 2, 1) := by decide +kernel
theorem dX1_lookForHeirs_30 : decode cX1_lookForHeirs 30 = .ok (.baload, 1) := by decide +kernel
theorem dX1_lookForHeirs_31 : decode cX1_lookForHeirs 31 = .ok (.ifCond .ne 8, 3) := by decide +kernel
theorem dX1_lookForHeirs_34 : decode cX1_lookForHeirs 34 = .ok (.aload_n 0, 1) := by decide +kernel
theorem dX1_lookForHeirs_35 : decode cX1_lookForHeirs 35 = .ok (.iload_n 2, 1) := by decide +kernel
theorem dX1_lookForHeirs_36 : decode cX1_lookForHeirs 36 = .ok (.invokevirtual 116, 3) := by decide +kernel
theorem dX1_lookForHeirs_39 : decode cX1_lookForHeirs 39 = .ok (.iinc 2 1, 3) := by decide +kernel
theorem dX1_lookForHeirs_42 : decode cX1_lookForHeirs 42 = .ok (.goto (-35), 3) := by decide +kernel
theorem dX1_lookForHeirs_45 : decode cX1_lookForHeirs 45 = .ok (.aload_n 0, 1) := by decide +kernel
theorem dX1_lookForHeirs_46 : decode cX1_lookForHeirs 46 = .ok (.getfield 113, 3) := by decide +kernel
theorem dX1_lookForHeirs_49 : decode cX1_lookForHeirs 49 = .ok (.ifCond .gt 13, 3) := by decide +kernel
theorem dX1_lookForHeirs_52 : decode cX1_lookForHeirs 52 = .ok (.aload_n 0, 1) := by decide +kernel
theorem dX1_lookForHeirs_53 : decode cX1_lookForHeirs 53 = .ok (.getfield 25, 3) := by decide +kernel
theorem dX1_lookForHeirs_56 : decode cX1_lookForHeirs 56 = .ok (.iload_n 1, 1) := by decide +kernel
theorem dX1_lookForHeirs_57 : decode cX1_lookForHeirs 57 = .ok (.iaload, 1) := by decide +kernel
theorem dX1_lookForHeirs_58 : decode cX1_lookForHeirs 58 = .ok (.iconst (-1), 1) := by decide +kernel
theorem dX1_lookForHeirs_59 : decode cX1_lookForHeirs 59 = .ok (.if_icmp .ne 4, 3) := by decide +kernel
theorem dX1_lookForHeirs_62 : decode cX1_lookForHeirs 62 = .ok (.return_, 1) := by decide +kernel
theorem dX1_lookForHeirs_63 : decode cX1_lookForHeirs 63 = .ok (.iconst 0, 1) := by decide +kernel
theorem dX1_lookForHeirs_64 : decode cX1_lookForHeirs 64 = .ok (.istore_n 2, 1) := by decide +kernel
theorem dX1_lookForHeirs_65 : decode cX1_lookForHeirs 65 = .ok (.iload_n 2, 1) := by decide +kernel
theorem dX1_lookForHeirs_66 : decode cX1_lookForHeirs 66 = .ok (.aload_n 0, 1) := by decide +kernel
theorem dX1_lookForHeirs_67 : decode cX1_lookForHeirs 67 = .ok (.getfield 50, 3) := by decide +kernel
theorem dX1_lookForHeirs_70 : decode cX1_lookForHeirs 70 = .ok (.if_icmp .ge 43, 3) := by decide +kernel
theorem dX1_lookForHeirs_73 : decode cX1_lookForHeirs 73 = .ok (.iload_n 2, 1) := by decide +kernel
theorem dX1_lookForHeirs_74 : decode cX1_lookForHeirs 74 = .ok (.iload_n 1, 1) := by decide +kernel
theorem dX1_lookForHeirs_75 : decode cX1_lookForHeirs 75 = .ok (.if_icmp .eq 32, 3) := by decide +kernel
theorem dX1_lookForHeirs_78 : decode cX1_lookForHeirs 78 = .ok (.aload_n 0, 1) := by decide +kernel
theorem dX1_lookForHeirs_79 : decode cX1_lookForHeirs 79 = .ok (.getfield 25, 3) := by decide +kernel
theorem dX1_lookForHeirs_82 : decode cX1_lookForHeirs 82 = .ok (.iload_n 2, 1) := by decide +kernel
theorem dX1_lookForHeirs_83 : decode cX1_lookForHeirs 83 = .ok (.iaload, 1) := by decide +kernel
theorem dX1_lookForHeirs_84 : decode cX1_lookForHeirs 84 = .ok (.aload_n 0, 1) := by decide +kernel
theorem dX1_lookForHeirs_85 : decode cX1_lookForHeirs 85 = .ok (.getfield 25, 3) := by decide +kernel
theorem dX1_lookForHeirs_88 : decode cX1_lookForHeirs 88 = .ok (.iload_n 1, 1) := by decide +kernel
theorem dX1_lookForHeirs_89 : decode cX1_lookForHeirs 89 = .ok (.iaload, 1) := by decide +kernel
theorem dX1_lookForHeirs_90 : decode cX1_lookForHeirs 90 = .ok (.if_icmp .ne 17, 3) := by decide +kernel
theorem dX1_lookForHeirs_93 : decode cX1_lookForHeirs 93 = .ok (.aload_n 0, 1) := by decide +kernel
theorem dX1_lookForHeirs_94 : decode cX1_lookForHeirs 94 = .ok (.getfield 28, 3) := by decide +kernel
theorem dX1_lookForHeirs_97 : decode cX1_lookForHeirs 97 = .ok (.iload_n 2, 1) := by decide +kernel
theorem dX1_lookForHeirs_98 : decode cX1_lookForHeirs 98 = .ok (.baload, 1) := by decide +kernel
theorem dX1_lookForHeirs_99 : decode cX1_lookForHeirs 99 = .ok (.ifCond .ne 8, 3) := by decide +kernel
theorem dX1_lookForHeirs_102 : decode cX1_lookForHeirs 102 = .ok (.aload_n 0, 1) := by decide +kernel
theorem dX1_lookForHeirs_103 : decode cX1_lookForHeirs 103 = .ok (.iload_n 2, 1) := by decide +kernel
theorem dX1_lookForHeirs_104 : decode cX1_lookForHeirs 104 = .ok (.invokevirtual 116, 3) := by decide +kernel
theorem dX1_lookForHeirs_107 : decode cX1_lookForHeirs 107 = .ok (.iinc 2 1, 3) := by decide +kernel
theorem dX1_lookForHeirs_110 : decode cX1_lookForHeirs 110 = .ok (.goto (-45), 3) := by decide +kernel
theorem dX1_lookForHeirs_113 : decode cX1_lookForHeirs 113 = .ok (.return_, 1) := by decide +kernel
theorem dX1_addHeir_0 : decode cX1_addHeir 0 = .ok (.aload_n 0, 1) := by decide +kernel
theorem dX1_addHeir_1 : decode cX1_addHeir 1 = .ok (.getfield 32, 3) := by decide +kernel
theorem dX1_addHeir_4 : decode cX1_addHeir 4 = .ok (.aload_n 0, 1) := by decide +kernel
theorem dX1_addHeir_5 : decode cX1_addHeir 5 = .ok (.getfield 113, 3) := by decide +kernel
theorem dX1_addHeir_8 : decode cX1_addHeir 8 = .ok (.iload_n 1, 1) := by decide +kernel
theorem dX1_addHeir_9 : decode cX1_addHeir 9 = .ok (.iastore, 1) := by decide +kernel
theorem dX1_addHeir_10 : decode cX1_addHeir 10 = .ok (.aload_n 0, 1) := by decide +kernel
theorem dX1_addHeir_11 : decode cX1_addHeir 11 = .ok (.dup, 1) := by decide +kernel
theorem dX1_addHeir_12 : decode cX1_addHeir 12 = .ok (.getfield 113, 3) := by decide +kernel
theorem dX1_addHeir_15 : decode cX1_addHeir 15 = .ok (.iconst 1, 1) := by decide +kernel
theorem dX1_addHeir_16 : decode cX1_addHeir 16 = .ok (.iadd, 1) := by decide +kernel
theorem dX1_addHeir_17 : decode cX1_addHeir 17 = .ok (.putfield 113, 3) := by decide +kernel
theorem dX1_addHeir_20 : decode cX1_addHeir 20 = .ok (.return_, 1) := by decide +kernel
theorem dX1_partOf_0 : decode cX1_partOf 0 = .ok (.aload_n 0, 1) := by decide +kernel
theorem dX1_partOf_1 : decode cX1_partOf 1 = .ok (.getfield 113, 3) := by decide +kernel
theorem dX1_partOf_4 : decode cX1_partOf 4 = .ok (.iconst 1, 1) := by decide +kernel
theorem dX1_partOf_5 : decode cX1_partOf 5 = .ok (.if_icmp .ne 5, 3) := by decide +kernel
theorem dX1_partOf_8 : decode cX1_partOf 8 = .ok (.iload_n 1, 1) := by decide +kernel
theorem dX1_partOf_9 : decode cX1_partOf 9 = .ok (.ireturn, 1) := by decide +kernel
theorem dX1_partOf_10 : decode cX1_partOf 10 = .ok (.iload_n 1, 1) := by decide +kernel
theorem dX1_partOf_11 : decode cX1_partOf 11 = .ok (.iconst 2, 1) := by decide +kernel
theorem dX1_partOf_12 : decode cX1_partOf 12 = .ok (.idiv, 1) := by decide +kernel
theorem dX1_partOf_13 : decode cX1_partOf 13 = .ok (.istore_n 3, 1) := by decide +kernel
theorem dX1_partOf_14 : decode cX1_partOf 14 = .ok (.iload_n 2, 1) := by decide +kernel
theorem dX1_partOf_15 : decode cX1_partOf 15 = .ok (.ifCond .ne 7, 3) := by decide +kernel
theorem dX1_partOf_18 : decode cX1_partOf 18 = .ok (.iload_n 1, 1) := by decide +kernel
theorem dX1_partOf_19 : decode cX1_partOf 19 = .ok (.iload_n 3, 1) := by decide +kernel
theorem dX1_partOf_20 : decode cX1_partOf 20 = .ok (.isub, 1) := by decide +kernel
theorem dX1_partOf_21 : decode cX1_partOf 21 = .ok (.ireturn, 1) := by decide +kernel
theorem dX1_partOf_22 : decode cX1_partOf 22 = .ok (.iload_n 3, 1) := by decide +kernel
theorem dX1_partOf_23 : decode cX1_partOf 23 = .ok (.aload_n 0, 1) := by decide +kernel
theorem dX1_partOf_24 : decode cX1_partOf 24 = .ok (.getfield 113, 3) := by decide +kernel
theorem dX1_partOf_27 : decode cX1_partOf 27 = .ok (.iconst 1, 1) := by decide +kernel
theorem dX1_partOf_28 : decode cX1_partOf 28 = .ok (.isub, 1) := by decide +kernel
theorem dX1_partOf_29 : decode cX1_partOf 29 = .ok (.idiv, 1) := by decide +kernel
theorem dX1_partOf_30 : decode cX1_partOf 30 = .ok (.iload_n 2, 1) := by decide +kernel
theorem dX1_partOf_31 : decode cX1_partOf 31 = .ok (.iconst 1, 1) := by decide +kernel
theorem dX1_partOf_32 : decode cX1_partOf 32 = .ok (.isub, 1) := by decide +kernel
theorem dX1_partOf_33 : decode cX1_partOf 33 = .ok (.iload_n 3, 1) := by decide +kernel
theorem dX1_partOf_34 : decode cX1_partOf 34 = .ok (.aload_n 0, 1) := by decide +kernel
theorem dX1_partOf_35 : decode cX1_partOf 35 = .ok (.getfield 113, 3) := by decide +kernel
theorem dX1_partOf_38 : decode cX1_partOf 38 = .ok (.iconst 1, 1) := by decide +kernel
theorem dX1_partOf_39 : decode cX1_partOf 39 = .ok (.isub, 1) := by decide +kernel
theorem dX1_partOf_40 : decode cX1_partOf 40 = .ok (.irem, 1) := by decide +kernel
theorem dX1_partOf_41 : decode cX1_partOf 41 = .ok (.if_icmp .ge 7, 3) := by decide +kernel
theorem dX1_partOf_44 : decode cX1_partOf 44 = .ok (.iconst 1, 1) := by decide +kernel
theorem dX1_partOf_45 : decode cX1_partOf 45 = .ok (.goto 4, 3) := by decide +kernel
theorem dX1_partOf_48 : decode cX1_partOf 48 = .ok (.iconst 0, 1) := by decide +kernel
theorem dX1_partOf_49 : decode cX1_partOf 49 = .ok (.iadd, 1) := by decide +kernel
theorem dX1_partOf_50 : decode cX1_partOf 50 = .ok (.ireturn, 1) := by decide +kernel
set_option maxRecDepth 20000 in
theorem ggX1_die_X1_isPerson : GoodIn wsX1_die wsX1_isPerson := goodIn_r _ [13, 14, 15, 16, 12, 17, 43, 44, 45, 46, 47, 48, 49, 50, 51, 52, 53, 54, 55] (by decide +kernel) (by decide +kernel)
set_option maxRecDepth 20000 in
theorem gX1_die_X1_isPerson : GoodIn wsX1_die (wsV RX1 73 RX1 yX1_isPerson wsX1_isPerson) := goodIn_app (goodIn_of _ (by decide +kernel)) ggX1_die_X1_isPerson
set_option maxRecDepth 20000 in
theorem ggX1_die_X1_no : GoodIn wsX1_die wsX1_no := goodIn_r _ [21, 1, 43, 44, 45, 46, 47, 48, 49, 50, 51, 52, 53, 54, 55] (by decide +kernel) (by decide +kernel)
set_option maxRecDepth 20000 in
theorem gX1_die_X1_no : GoodIn wsX1_die (wsV RX1 66 RX1 yX1_no wsX1_no) := goodIn_app (goodIn_of _ (by decide +kernel)) ggX1_die_X1_no
set_option maxRecDepth 20000 in
theorem ggX1_die_X1_lookForHeirs : GoodIn wsX1_die wsX1_lookForHeirs := goodIn_r _ [25, 5, 14, 26, 2, 27, 28, 29, 12, 30, 6, 43, 44, 45, 46, 47, 48, 49, 50, 51, 52, 53, 54, 55] (by decide +kernel) (by decide +kernel)
set_option maxRecDepth 20000 in
theorem gX1_die_X1_lookForHeirs : GoodIn wsX1_die (wsV RX1 120 RX1 yX1_lookForHeirs wsX1_lookForHeirs) := goodIn_app (goodIn_of _ (by decide +kernel)) ggX1_die_X1_lookForHeirs
set_option maxRecDepth 20000 in
theorem ggX1_die_X1_partOf : GoodIn wsX1_die wsX1_partOf := goodIn_r _ [34, 5, 43, 44, 45, 46, 47, 48, 49, 50, 51, 52, 53, 54, 55] (by decide +kernel) (by decide +kernel)
set_option maxRecDepth 20000 in
theorem gX1_die_X1_partOf : GoodIn wsX1_die (wsV RX1 123 RX1 yX1_partOf wsX1_partOf) := goodIn_app (goodIn_of _ (by decide +kernel)) ggX1_die_X1_partOf
set_option maxRecDepth 20000 in
theorem ggX1_die_X1_get : GoodIn wsX1_die wsX1_get := goodIn_r _ [38, 7, 39, 40, 41, 42, 43, 44, 45, 46, 47, 48, 49, 50, 51, 52, 53, 54, 55] (by decide +kernel) (by decide +kernel)
set_option maxRecDepth 20000 in
theorem gX1_die_X1_get : GoodIn wsX1_die (wsV RX1 76 RX1 yX1_get wsX1_get) := goodIn_app (goodIn_of _ (by decide +kernel)) ggX1_die_X1_get
theorem dX1_die_0 : decode cX1_die 0 = .ok (.aload_n 0, 1) := by decide +kernel
theorem dX1_die_1 : decode cX1_die 1 = .ok (.iconst 0, 1) := by decide +kernel
theorem dX1_die_2 : decode cX1_die 2 = .ok (.putfield 35, 3) := by decide +kernel
theorem dX1_die_5 : decode cX1_die 5 = .ok (.aload_n 0, 1) := by decide +kernel
theorem dX1_die_6 : decode cX1_die 6 = .ok (.iload_n 1, 1) := by decide +kernel
theorem dX1_die_7 : decode cX1_die 7 = .ok (.invokevirtual 73, 3) := by decide +kernel
theorem dX1_die_10 : decode cX1_die 10 = .ok (.ifCond .ne 9, 3) := by decide +kernel
theorem dX1_die_13 : decode cX1_die 13 = .ok (.aload_n 0, 1) := by decide +kernel
theorem dX1_die_14 : decode cX1_die 14 = .ok (.iconst 1, 1) := by decide +kernel
theorem dX1_die_15 : decode cX1_die 15 = .ok (.invokevirtual 66, 3) := by decide +kernel
theorem dX1_die_18 : decode cX1_die 18 = .ok (.ireturn, 1) := by decide +kernel
theorem dX1_die_19 : decode cX1_die 19 = .ok (.aload_n 0, 1) := by decide +kernel
theorem dX1_die_20 : decode cX1_die 20 = .ok (.getfield 28, 3) := by decide +kernel
theorem dX1_die_23 : decode cX1_die 23 = .ok (.iload_n 1, 1) := by decide +kernel
theorem dX1_die_24 : decode cX1_die 24 = .ok (.baload, 1) := by decide +kernel
theorem dX1_die_25 : decode cX1_die 25 = .ok (.ifCond .eq 9, 3) := by decide +kernel
theorem dX1_die_28 : decode cX1_die 28 = .ok (.aload_n 0, 1) := by decide +kernel
theorem dX1_die_29 : decode cX1_die 29 = .ok (.iconst 2, 1) := by decide +kernel
theorem dX1_die_30 : decode cX1_die 30 = .ok (.invokevirtual 66, 3) := by decide +kernel
theorem dX1_die_33 : decode cX1_die 33 = .ok (.ireturn, 1) := by decide +kernel
theorem dX1_die_34 : decode cX1_die 34 = .ok (.aload_n 0, 1) := by decide +kernel
theorem dX1_die_35 : decode cX1_die 35 = .ok (.iload_n 1, 1) := by decide +kernel
theorem dX1_die_36 : decode cX1_die 36 = .ok (.invokevirtual 120, 3) := by decide +kernel
theorem dX1_die_39 : decode cX1_die 39 = .ok (.iconst 0, 1) := by decide +kernel
theorem dX1_die_40 : decode cX1_die 40 = .ok (.istore_n 2, 1) := by decide +kernel
theorem dX1_die_41 : decode cX1_die 41 = .ok (.iload_n 2, 1) := by decide +kernel
theorem dX1_die_42 : decode cX1_die 42 = .ok (.aload_n 0, 1) := by decide +kernel
theorem dX1_die_43 : decode cX1_die 43 = .ok (.getfield 39, 3) := by decide +kernel
theorem dX1_die_46 : decode cX1_die 46 = .ok (.iconst 4, 1) := by decide +kernel
theorem dX1_die_47 : decode cX1_die 47 = .ok (.imul, 1) := by decide +kernel
theorem dX1_die_48 : decode cX1_die 48 = .ok (.if_icmp .ge 78, 3) := by decide +kernel
theorem dX1_die_51 : decode cX1_die 51 = .ok (.aload_n 0, 1) := by decide +kernel
theorem dX1_die_52 : decode cX1_die 52 = .ok (.getfield 16, 3) := by decide +kernel
theorem dX1_die_55 : decode cX1_die 55 = .ok (.bipush 12, 2) := by decide +kernel
theorem dX1_die_57 : decode cX1_die 57 = .ok (.iload_n 2, 1) := by decide +kernel
theorem dX1_die_58 : decode cX1_die 58 = .ok (.imul, 1) := by decide +kernel
theorem dX1_die_59 : decode cX1_die 59 = .ok (.iload_n 1, 1) := by decide +kernel
theorem dX1_die_60 : decode cX1_die 60 = .ok (.iadd, 1) := by decide +kernel
theorem dX1_die_61 : decode cX1_die 61 = .ok (.iaload, 1) := by decide +kernel
theorem dX1_die_62 : decode cX1_die 62 = .ok (.istore_n 3, 1) := by decide +kernel
theorem dX1_die_63 : decode cX1_die 63 = .ok (.aload_n 0, 1) := by decide +kernel
theorem dX1_die_64 : decode cX1_die 64 = .ok (.getfield 16, 3) := by decide +kernel
theorem dX1_die_67 : decode cX1_die 67 = .ok (.bipush 12, 2) := by decide +kernel
theorem dX1_die_69 : decode cX1_die 69 = .ok (.iload_n 2, 1) := by decide +kernel
theorem dX1_die_70 : decode cX1_die 70 = .ok (.imul, 1) := by decide +kernel
theorem dX1_die_71 : decode cX1_die 71 = .ok (.iload_n 1, 1) := by decide +kernel
theorem dX1_die_72 : decode cX1_die 72 = .ok (.iadd, 1) := by decide +kernel
theorem dX1_die_73 : decode cX1_die 73 = .ok (.iconst 0, 1) := by decide +kernel
theorem dX1_die_74 : decode cX1_die 74 = .ok (.iastore, 1) := by decide +kernel
theorem dX1_die_75 : decode cX1_die 75 = .ok (.iconst 0, 1) := by decide +kernel
theorem dX1_die_76 : decode cX1_die 76 = .ok (.istore 4, 2) := by decide +kernel
theorem dX1_die_78 : decode cX1_die 78 = .ok (.iload 4, 2) := by decide +kernel
theorem dX1_die_80 : decode cX1_die 80 = .ok (.aload_n 0, 1) := by decide +kernel
theorem dX1_die_81 : decode cX1_die 81 = .ok (.getfield 113, 3) := by decide +kernel
theorem dX1_die_84 : decode cX1_die 84 = .ok (.if_icmp .ge 36, 3) := by decide +kernel
theorem dX1_die_87 : decode cX1_die 87 = .ok (.aload_n 0, 1) := by decide +kernel
theorem dX1_die_88 : decode cX1_die 88 = .ok (.getfield 16, 3) := by decide +kernel
theorem dX1_die_91 : decode cX1_die 91 = .ok (.bipush 12, 2) := by decide +kernel
theorem dX1_die_93 : decode cX1_die 93 = .ok (.iload_n 2, 1) := by decide +kernel
theorem dX1_die_94 : decode cX1_die 94 = .ok (.imul, 1) := by decide +kernel
theorem dX1_die_95 : decode cX1_die 95 = .ok (.aload_n 0, 1) := by decide +kernel
theorem dX1_die_96 : decode cX1_die 96 = .ok (.getfield 32, 3) := by decide +kernel
theorem dX1_die_99 : decode cX1_die 99 = .ok (.iload 4, 2) := by decide +kernel
theorem dX1_die_101 : decode cX1_die 101 = .ok (.iaload, 1) := by decide +kernel
theorem dX1_die_102 : decode cX1_die 102 = .ok (.iadd, 1) := by decide +kernel
theorem dX1_die_103 : decode cX1_die 103 = .ok (.dup2, 1) := by decide +kernel
theorem dX1_die_104 : decode cX1_die 104 = .ok (.iaload, 1) := by decide +kernel
theorem dX1_die_105 : decode cX1_die 105 = .ok (.aload_n 0, 1) := by decide +kernel
theorem dX1_die_106 : decode cX1_die 106 = .ok (.iload_n 3, 1) := by decide +kernel
theorem dX1_die_107 : decode cX1_die 107 = .ok (.iload 4, 2) := by decide +kernel
theorem dX1_die_109 : decode cX1_die 109 = .ok (.invokevirtual 123, 3) := by decide +kernel
theorem dX1_die_112 : decode cX1_die 112 = .ok (.iadd, 1) := by decide +kernel
theorem dX1_die_113 : decode cX1_die 113 = .ok (.iastore, 1) := by decide +kernel
theorem dX1_die_114 : decode cX1_die 114 = .ok (.iinc 4 1, 3) := by decide +kernel
theorem dX1_die_117 : decode cX1_die 117 = .ok (.goto (-39), 3) := by decide +kernel
theorem dX1_die_120 : decode cX1_die 120 = .ok (.iinc 2 1, 3) := by decide +kernel
theorem dX1_die_123 : decode cX1_die 123 = .ok (.goto (-82), 3) := by decide +kernel
theorem dX1_die_126 : decode cX1_die 126 = .ok (.iconst 0, 1) := by decide +kernel
theorem dX1_die_127 : decode cX1_die 127 = .ok (.istore_n 2, 1) := by decide +kernel
theorem dX1_die_128 : decode cX1_die 128 = .ok (.iload_n 2, 1) := by decide +kernel
theorem dX1_die_129 : decode cX1_die 129 = .ok (.aload_n 0, 1) := by decide +kernel
theorem dX1_die_130 : decode cX1_die 130 = .ok (.getfield 113, 3) := by decide +kernel
theorem dX1_die_133 : decode cX1_die 133 = .ok (.if_icmp .ge 30, 3) := by decide +kernel
theorem dX1_die_136 : decode cX1_die 136 = .ok (.aload_n 0, 1) := by decide +kernel
theorem dX1_die_137 : decode cX1_die 137 = .ok (.aload_n 0, 1) := by decide +kernel
theorem dX1_die_138 : decode cX1_die 138 = .ok (.getfield 32, 3) := by decide +kernel
theorem dX1_die_141 : decode cX1_die 141 = .ok (.iload_n 2, 1) := by decide +kernel
theorem dX1_die_142 : decode cX1_die 142 = .ok (.iaload, 1) := by decide +kernel
theorem dX1_die_143 : decode cX1_die 143 = .ok (.aload_n 0, 1) := by decide +kernel
theorem dX1_die_144 : decode cX1_die 144 = .ok (.aload_n 0, 1) := by decide +kernel
theorem dX1_die_145 : decode cX1_die 145 = .ok (.getfield 19, 3) := by decide +kernel
theorem dX1_die_148 : decode cX1_die 148 = .ok (.iload_n 1, 1) := by decide +kernel
theorem dX1_die_149 : decode cX1_die 149 = .ok (.iaload, 1) := by decide +kernel
theorem dX1_die_150 : decode cX1_die 150 = .ok (.iload_n 2, 1) := by decide +kernel
theorem dX1_die_151 : decode cX1_die 151 = .ok (.invokevirtual 123, 3) := by decide +kernel
theorem dX1_die_154 : decode cX1_die 154 = .ok (.invokevirtual 76, 3) := by decide +kernel
theorem dX1_die_157 : decode cX1_die 157 = .ok (.iinc 2 1, 3) := by decide +kernel
theorem dX1_die_160 : decode cX1_die 160 = .ok (.goto (-32), 3) := by decide +kernel
theorem dX1_die_163 : decode cX1_die 163 = .ok (.aload_n 0, 1) := by decide +kernel
theorem dX1_die_164 : decode cX1_die 164 = .ok (.getfield 113, 3) := by decide +kernel
theorem dX1_die_167 : decode cX1_die 167 = .ok (.ifCond .ne 18, 3) := by decide +kernel
theorem dX1_die_170 : decode cX1_die 170 = .ok (.aload_n 0, 1) := by decide +kernel
theorem dX1_die_171 : decode cX1_die 171 = .ok (.dup, 1) := by decide +kernel
theorem dX1_die_172 : decode cX1_die 172 = .ok (.getfield 110, 3) := by decide +kernel
theorem dX1_die_175 : decode cX1_die 175 = .ok (.aload_n 0, 1) := by decide +kernel
theorem dX1_die_176 : decode cX1_die 176 = .ok (.getfield 19, 3) := by decide +kernel
theorem dX1_die_179 : decode cX1_die 179 = .ok (.iload_n 1, 1) := by decide +kernel
theorem dX1_die_180 : decode cX1_die 180 = .ok (.iaload, 1) := by decide +kernel
theorem dX1_die_181 : decode cX1_die 181 = .ok (.iadd, 1) := by decide +kernel
theorem dX1_die_182 : decode cX1_die 182 = .ok (.putfield 110, 3) := by decide +kernel
theorem dX1_die_185 : decode cX1_die 185 = .ok (.aload_n 0, 1) := by decide +kernel
theorem dX1_die_186 : decode cX1_die 186 = .ok (.getfield 19, 3) := by decide +kernel
theorem dX1_die_189 : decode cX1_die 189 = .ok (.iload_n 1, 1) := by decide +kernel
theorem dX1_die_190 : decode cX1_die 190 = .ok (.iconst 0, 1) := by decide +kernel
theorem dX1_die_191 : decode cX1_die 191 = .ok (.iastore, 1) := by decide +kernel
theorem dX1_die_192 : decode cX1_die 192 = .ok (.aload_n 0, 1) := by decide +kernel
theorem dX1_die_193 : decode cX1_die 193 = .ok (.getfield 28, 3) := by decide +kernel
theorem dX1_die_196 : decode cX1_die 196 = .ok (.iload_n 1, 1) := by decide +kernel
theorem dX1_die_197 : decode cX1_die 197 = .ok (.iconst 1, 1) := by decide +kernel
theorem dX1_die_198 : decode cX1_die 198 = .ok (.bastore, 1) := by decide +kernel
theorem dX1_die_199 : decode cX1_die 199 = .ok (.aload_n 0, 1) := by decide +kernel
theorem dX1_die_200 : decode cX1_die 200 = .ok (.getfield 113, 3) := by decide +kernel
theorem dX1_die_203 : decode cX1_die 203 = .ok (.ireturn, 1) := by decide +kernel
theorem dX1_ferries_0 : decode cX1_ferries 0 = .ok (.aload_n 0, 1) := by decide +kernel
theorem dX1_ferries_1 : decode cX1_ferries 1 = .ok (.iconst 0, 1) := by decide +kernel
theorem dX1_ferries_2 : decode cX1_ferries 2 = .ok (.putfield 35, 3) := by decide +kernel
theorem dX1_ferries_5 : decode cX1_ferries 5 = .ok (.aload_n 0, 1) := by decide +kernel
theorem dX1_ferries_6 : decode cX1_ferries 6 = .ok (.getfield 39, 3) := by decide +kernel
theorem dX1_ferries_9 : decode cX1_ferries 9 = .ok (.ireturn, 1) := by decide +kernel
set_option maxRecDepth 20000 in
theorem ggX1_toll_X1_isFerry : GoodIn wsX1_toll wsX1_isFerry := goodIn_r _ [7, 8, 9, 10, 6, 11, 16, 17, 18, 19, 20, 21, 22, 23, 24, 25, 26, 27, 28] (by decide +kernel) (by decide +kernel)
set_option maxRecDepth 20000 in
theorem gX1_toll_X1_isFerry : GoodIn wsX1_toll (wsV RX1 46 RX1 yX1_isFerry wsX1_isFerry) := goodIn_app (goodIn_of _ (by decide +kernel)) ggX1_toll_X1_isFerry
set_option maxRecDepth 20000 in
theorem ggX1_toll_X1_no : GoodIn wsX1_toll wsX1_no := goodIn_r _ [15, 1, 16, 17, 18, 19, 20, 21, 22, 23, 24, 25, 26, 27, 28] (by decide +kernel) (by decide +kernel)
set_option maxRecDepth 20000 in
theorem gX1_toll_X1_no : GoodIn wsX1_toll (wsV RX1 66 RX1 yX1_no wsX1_no) := goodIn_app (goodIn_of _ (by decide +kernel)) ggX1_toll_X1_no
theorem dX1_toll_0 : decode cX1_toll 0 = .ok (.aload_n 0, 1) := by decide +kernel
theorem dX1_toll_1 : decode cX1_toll 1 = .ok (.iconst 0, 1) := by decide +kernel
theorem dX1_toll_2 : decode cX1_toll 2 = .ok (.putfield 35, 3) := by decide +kernel
theorem dX1_toll_5 : decode cX1_toll 5 = .ok (.aload_n 0, 1) := by decide +kernel
theorem dX1_toll_6 : decode cX1_toll 6 = .ok (.iload_n 1, 1) := by decide +kernel
theorem dX1_toll_7 : decode cX1_toll 7 = .ok (.invokevirtual 46, 3) := by decide +kernel
theorem dX1_toll_10 : decode cX1_toll 10 = .ok (.ifCond .eq 12, 3) := by decide +kernel
theorem dX1_toll_13 : decode cX1_toll 13 = .ok (.aload_n 0, 1) := by decide +kernel
theorem dX1_toll_14 : decode cX1_toll 14 = .ok (.getfield 9, 3) := by decide +kernel
theorem dX1_toll_17 : decode cX1_toll 17 = .ok (.iload_n 1, 1) := by decide +kernel
theorem dX1_toll_18 : decode cX1_toll 18 = .ok (.iaload, 1) := by decide +kernel
theorem dX1_toll_19 : decode cX1_toll 19 = .ok (.goto 8, 3) := by decide +kernel
theorem dX1_toll_22 : decode cX1_toll 22 = .ok (.aload_n 0, 1) := by decide +kernel
theorem dX1_toll_23 : decode cX1_toll 23 = .ok (.iconst 1, 1) := by decide +kernel
theorem dX1_toll_24 : decode cX1_toll 24 = .ok (.invokevirtual 66, 3) := by decide +kernel
theorem dX1_toll_27 : decode cX1_toll 27 = .ok (.ireturn, 1) := by decide +kernel
set_option maxRecDepth 20000 in
theorem ggX1_carried_X1_isFerry : GoodIn wsX1_carried wsX1_isFerry := goodIn_r _ [7, 8, 9, 10, 6, 11, 16, 17, 18, 19, 20, 21, 22, 23, 24, 25, 26, 27, 28] (by decide +kernel) (by decide +kernel)
set_option maxRecDepth 20000 in
theorem gX1_carried_X1_isFerry : GoodIn wsX1_carried (wsV RX1 46 RX1 yX1_isFerry wsX1_isFerry) := goodIn_app (goodIn_of _ (by decide +kernel)) ggX1_carried_X1_isFerry
set_option maxRecDepth 20000 in
theorem ggX1_carried_X1_no : GoodIn wsX1_carried wsX1_no := goodIn_r _ [15, 1, 16, 17, 18, 19, 20, 21, 22, 23, 24, 25, 26, 27, 28] (by decide +kernel) (by decide +kernel)
set_option maxRecDepth 20000 in
theorem gX1_carried_X1_no : GoodIn wsX1_carried (wsV RX1 66 RX1 yX1_no wsX1_no) := goodIn_app (goodIn_of _ (by decide +kernel)) ggX1_carried_X1_no
theorem dX1_carried_0 : decode cX1_carried 0 = .ok (.aload_n 0, 1) := by decide +kernel
theorem dX1_carried_1 : decode cX1_carried 1 = .ok (.iconst 0, 1) := by decide +kernel
theorem dX1_carried_2 : decode cX1_carried 2 = .ok (.putfield 35, 3) := by decide +kernel
theorem dX1_carried_5 : decode cX1_carried 5 = .ok (.aload_n 0, 1) := by decide +kernel
theorem dX1_carried_6 : decode cX1_carried 6 = .ok (.iload_n 1, 1) := by decide +kernel
theorem dX1_carried_7 : decode cX1_carried 7 = .ok (.invokevirtual 46, 3) := by decide +kernel
theorem dX1_carried_10 : decode cX1_carried 10 = .ok (.ifCond .eq 12, 3) := by decide +kernel
theorem dX1_carried_13 : decode cX1_carried 13 = .ok (.aload_n 0, 1) := by decide +kernel
theorem dX1_carried_14 : decode cX1_carried 14 = .ok (.getfield 13, 3) := by decide +kernel
theorem dX1_carried_17 : decode cX1_carried 17 = .ok (.iload_n 1, 1) := by decide +kernel
theorem dX1_carried_18 : decode cX1_carried 18 = .ok (.iaload, 1) := by decide +kernel
theorem dX1_carried_19 : decode cX1_carried 19 = .ok (.goto 8, 3) := by decide +kernel
theorem dX1_carried_22 : decode cX1_carried 22 = .ok (.aload_n 0, 1) := by decide +kernel
theorem dX1_carried_23 : decode cX1_carried 23 = .ok (.iconst 1, 1) := by decide +kernel
theorem dX1_carried_24 : decode cX1_carried 24 = .ok (.invokevirtual 66, 3) := by decide +kernel
theorem dX1_carried_27 : decode cX1_carried 27 = .ok (.ireturn, 1) := by decide +kernel
set_option maxRecDepth 20000 in
theorem ggX1_shares_X1_isWatch : GoodIn wsX1_shares wsX1_isWatch := goodIn_r _ [7, 8, 9, 10, 6, 11, 12, 13, 14, 15, 28, 29, 30, 31, 32, 33, 34, 35, 36, 37, 38, 39, 40] (by decide +kernel) (by decide +kernel)
set_option maxRecDepth 20000 in
theorem gX1_shares_X1_isWatch : GoodIn wsX1_shares (wsV RX1 80 RX1 yX1_isWatch wsX1_isWatch) := goodIn_app (goodIn_of _ (by decide +kernel)) ggX1_shares_X1_isWatch
set_option maxRecDepth 20000 in
theorem ggX1_shares_X1_isPerson : GoodIn wsX1_shares wsX1_isPerson := goodIn_r _ [19, 20, 13, 14, 6, 15, 28, 29, 30, 31, 32, 33, 34, 35, 36, 37, 38, 39, 40] (by decide +kernel) (by decide +kernel)
set_option maxRecDepth 20000 in
theorem gX1_shares_X1_isPerson : GoodIn wsX1_shares (wsV RX1 73 RX1 yX1_isPerson wsX1_isPerson) := goodIn_app (goodIn_of _ (by decide +kernel)) ggX1_shares_X1_isPerson
set_option maxRecDepth 20000 in
theorem ggX1_shares_X1_at : GoodIn wsX1_shares wsX1_at := goodIn_r _ [23] (by decide +kernel) (by decide +kernel)
set_option maxRecDepth 20000 in
theorem gX1_shares_X1_at : GoodIn wsX1_shares (va_wsS RX1 53 yX1_at wsX1_at) := goodIn_app (goodIn_of _ (by decide +kernel)) ggX1_shares_X1_at
set_option maxRecDepth 20000 in
theorem ggX1_shares_X1_no : GoodIn wsX1_shares wsX1_no := goodIn_r _ [27, 1, 28, 29, 30, 31, 32, 33, 34, 35, 36, 37, 38, 39, 40] (by decide +kernel) (by decide +kernel)
set_option maxRecDepth 20000 in
theorem gX1_shares_X1_no : GoodIn wsX1_shares (wsV RX1 66 RX1 yX1_no wsX1_no) := goodIn_app (goodIn_of _ (by decide +kernel)) ggX1_shares_X1_no
theorem dX1_shares_0 : decode cX1_shares 0 = .ok (.aload_n 0, 1) := by decide +kernel
theorem dX1_shares_1 : decode cX1_shares 1 = .ok (.iconst 0, 1) := by decide +kernel
theorem dX1_shares_2 : decode cX1_shares 2 = .ok (.putfield 35, 3) := by decide +kernel
theorem dX1_shares_5 : decode cX1_shares 5 = .ok (.aload_n 0, 1) := by decide +kernel
theorem dX1_shares_6 : decode cX1_shares 6 = .ok (.iload_n 1, 1) := by decide +kernel
theorem dX1_shares_7 : decode cX1_shares 7 = .ok (.iload_n 2, 1) := by decide +kernel
theorem dX1_shares_8 : decode cX1_shares 8 = .ok (.invokevirtual 80, 3) := by decide +kernel
theorem dX1_shares_11 : decode cX1_shares 11 = .ok (.ifCond .eq 25, 3) := by decide +kernel
theorem dX1_shares_14 : decode cX1_shares 14 = .ok (.aload_n 0, 1) := by decide +kernel
theorem dX1_shares_15 : decode cX1_shares 15 = .ok (.iload_n 3, 1) := by decide +kernel
theorem dX1_shares_16 : decode cX1_shares 16 = .ok (.invokevirtual 73, 3) := by decide +kernel
theorem dX1_shares_19 : decode cX1_shares 19 = .ok (.ifCond .eq 17, 3) := by decide +kernel
theorem dX1_shares_22 : decode cX1_shares 22 = .ok (.aload_n 0, 1) := by decide +kernel
theorem dX1_shares_23 : decode cX1_shares 23 = .ok (.getfield 16, 3) := by decide +kernel
theorem dX1_shares_26 : decode cX1_shares 26 = .ok (.iload_n 1, 1) := by decide +kernel
theorem dX1_shares_27 : decode cX1_shares 27 = .ok (.iload_n 2, 1) := by decide +kernel
theorem dX1_shares_28 : decode cX1_shares 28 = .ok (.iload_n 3, 1) := by decide +kernel
theorem dX1_shares_29 : decode cX1_shares 29 = .ok (.invokestatic 53, 3) := by decide +kernel
theorem dX1_shares_32 : decode cX1_shares 32 = .ok (.iaload, 1) := by decide +kernel
theorem dX1_shares_33 : decode cX1_shares 33 = .ok (.goto 8, 3) := by decide +kernel
theorem dX1_shares_36 : decode cX1_shares 36 = .ok (.aload_n 0, 1) := by decide +kernel
theorem dX1_shares_37 : decode cX1_shares 37 = .ok (.iconst 1, 1) := by decide +kernel
theorem dX1_shares_38 : decode cX1_shares 38 = .ok (.invokevirtual 66, 3) := by decide +kernel
theorem dX1_shares_41 : decode cX1_shares 41 = .ok (.ireturn, 1) := by decide +kernel
set_option maxRecDepth 20000 in
theorem ggX1_crownShares_X1_isWatch : GoodIn wsX1_crownShares wsX1_isWatch := goodIn_r _ [6, 7, 8, 9, 5, 10, 11, 12, 13, 14, 28, 29, 30, 31, 32, 33, 34, 35, 36, 37, 38, 39, 40] (by decide +kernel) (by decide +kernel)
set_option maxRecDepth 20000 in
theorem gX1_crownShares_X1_isWatch : GoodIn wsX1_crownShares (wsV RX1 80 RX1 yX1_isWatch wsX1_isWatch) := goodIn_app (goodIn_of _ (by decide +kernel)) ggX1_crownShares_X1_isWatch
set_option maxRecDepth 20000 in
theorem ggX1_crownShares_X1_crown : GoodIn wsX1_crownShares wsX1_crown := goodIn_r _ [18, 19, 20, 21, 22, 5, 23, 28, 29, 30, 31, 32, 33, 34, 35, 36, 37, 38, 39, 40] (by decide +kernel) (by decide +kernel)
set_option maxRecDepth 20000 in
theorem gX1_crownShares_X1_crown : GoodIn wsX1_crownShares (wsV RX1 84 RX1 yX1_crown wsX1_crown) := goodIn_app (goodIn_of _ (by decide +kernel)) ggX1_crownShares_X1_crown
set_option maxRecDepth 20000 in
theorem ggX1_crownShares_X1_no : GoodIn wsX1_crownShares wsX1_no := goodIn_r _ [27, 1, 28, 29, 30, 31, 32, 33, 34, 35, 36, 37, 38, 39, 40] (by decide +kernel) (by decide +kernel)
set_option maxRecDepth 20000 in
theorem gX1_crownShares_X1_no : GoodIn wsX1_crownShares (wsV RX1 66 RX1 yX1_no wsX1_no) := goodIn_app (goodIn_of _ (by decide +kernel)) ggX1_crownShares_X1_no
theorem dX1_crownShares_0 : decode cX1_crownShares 0 = .ok (.aload_n 0, 1) := by decide +kernel
theorem dX1_crownShares_1 : decode cX1_crownShares 1 = .ok (.iconst 0, 1) := by decide +kernel
theorem dX1_crownShares_2 : decode cX1_crownShares 2 = .ok (.putfield 35, 3) := by decide +kernel
theorem dX1_crownShares_5 : decode cX1_crownShares 5 = .ok (.aload_n 0, 1) := by decide +kernel
theorem dX1_crownShares_6 : decode cX1_crownShares 6 = .ok (.iload_n 1, 1) := by decide +kernel
theorem dX1_crownShares_7 : decode cX1_crownShares 7 = .ok (.iload_n 2, 1) := by decide +kernel
theorem dX1_crownShares_8 : decode cX1_crownShares 8 = .ok (.invokevirtual 80, 3) := by decide +kernel
theorem dX1_crownShares_11 : decode cX1_crownShares 11 = .ok (.ifCond .eq 12, 3) := by decide +kernel
theorem dX1_crownShares_14 : decode cX1_crownShares 14 = .ok (.aload_n 0, 1) := by decide +kernel
theorem dX1_crownShares_15 : decode cX1_crownShares 15 = .ok (.iload_n 1, 1) := by decide +kernel
theorem dX1_crownShares_16 : decode cX1_crownShares 16 = .ok (.iload_n 2, 1) := by decide +kernel
theorem dX1_crownShares_17 : decode cX1_crownShares 17 = .ok (.invokevirtual 84, 3) := by decide +kernel
theorem dX1_crownShares_20 : decode cX1_crownShares 20 = .ok (.goto 8, 3) := by decide +kernel
theorem dX1_crownShares_23 : decode cX1_crownShares 23 = .ok (.aload_n 0, 1) := by decide +kernel
theorem dX1_crownShares_24 : decode cX1_crownShares 24 = .ok (.iconst 1, 1) := by decide +kernel
theorem dX1_crownShares_25 : decode cX1_crownShares 25 = .ok (.invokevirtual 66, 3) := by decide +kernel
theorem dX1_crownShares_28 : decode cX1_crownShares 28 = .ok (.ireturn, 1) := by decide +kernel
set_option maxRecDepth 20000 in
theorem ggX1_owners_X1_isWatch : GoodIn wsX1_owners wsX1_isWatch := goodIn_r _ [8, 9, 10, 11, 7, 12, 13, 14, 15, 16, 24, 25, 26, 27, 28, 29, 30, 31, 32, 33, 34, 35, 36] (by decide +kernel) (by decide +kernel)
set_option maxRecDepth 20000 in
theorem gX1_owners_X1_isWatch : GoodIn wsX1_owners (wsV RX1 80 RX1 yX1_isWatch wsX1_isWatch) := goodIn_app (goodIn_of _ (by decide +kernel)) ggX1_owners_X1_isWatch
set_option maxRecDepth 20000 in
theorem ggX1_owners_X1_no : GoodIn wsX1_owners wsX1_no := goodIn_r _ [20, 1, 24, 25, 26, 27, 28, 29, 30, 31, 32, 33, 34, 35, 36] (by decide +kernel) (by decide +kernel)
set_option maxRecDepth 20000 in
theorem gX1_owners_X1_no : GoodIn wsX1_owners (wsV RX1 66 RX1 yX1_no wsX1_no) := goodIn_app (goodIn_of _ (by decide +kernel)) ggX1_owners_X1_no
set_option maxRecDepth 20000 in
theorem ggX1_owners_X1_at : GoodIn wsX1_owners wsX1_at := goodIn_r _ [23] (by decide +kernel) (by decide +kernel)
set_option maxRecDepth 20000 in
theorem gX1_owners_X1_at : GoodIn wsX1_owners (va_wsS RX1 53 yX1_at wsX1_at) := goodIn_app (goodIn_of _ (by decide +kernel)) ggX1_owners_X1_at
theorem dX1_owners_0 : decode cX1_owners 0 = .ok (.aload_n 0, 1) := by decide +kernel
theorem dX1_owners_1 : decode cX1_owners 1 = .ok (.iconst 0, 1) := by decide +kernel
theorem dX1_owners_2 : decode cX1_owners 2 = .ok (.putfield 35, 3) := by decide +kernel
theorem dX1_owners_5 : decode cX1_owners 5 = .ok (.aload_n 0, 1) := by decide +kernel
theorem dX1_owners_6 : decode cX1_owners 6 = .ok (.iload_n 1, 1) := by decide +kernel
theorem dX1_owners_7 : decode cX1_owners 7 = .ok (.iload_n 2, 1) := by decide +kernel
theorem dX1_owners_8 : decode cX1_owners 8 = .ok (.invokevirtual 80, 3) := by decide +kernel
theorem dX1_owners_11 : decode cX1_owners 11 = .ok (.ifCond .ne 9, 3) := by decide +kernel
theorem dX1_owners_14 : decode cX1_owners 14 = .ok (.aload_n 0, 1) := by decide +kernel
theorem dX1_owners_15 : decode cX1_owners 15 = .ok (.iconst 1, 1) := by decide +kernel
theorem dX1_owners_16 : decode cX1_owners 16 = .ok (.invokevirtual 66, 3) := by decide +kernel
theorem dX1_owners_19 : decode cX1_owners 19 = .ok (.ireturn, 1) := by decide +kernel
theorem dX1_owners_20 : decode cX1_owners 20 = .ok (.iconst 0, 1) := by decide +kernel
theorem dX1_owners_21 : decode cX1_owners 21 = .ok (.istore_n 3, 1) := by decide +kernel
theorem dX1_owners_22 : decode cX1_owners 22 = .ok (.iconst 0, 1) := by decide +kernel
theorem dX1_owners_23 : decode cX1_owners 23 = .ok (.istore 4, 2) := by decide +kernel
theorem dX1_owners_25 : decode cX1_owners 25 = .ok (.iload 4, 2) := by decide +kernel
theorem dX1_owners_27 : decode cX1_owners 27 = .ok (.aload_n 0, 1) := by decide +kernel
theorem dX1_owners_28 : decode cX1_owners 28 = .ok (.getfield 50, 3) := by decide +kernel
theorem dX1_owners_31 : decode cX1_owners 31 = .ok (.if_icmp .ge 32, 3) := by decide +kernel
theorem dX1_owners_34 : decode cX1_owners 34 = .ok (.iload_n 3, 1) := by decide +kernel
theorem dX1_owners_35 : decode cX1_owners 35 = .ok (.aload_n 0, 1) := by decide +kernel
theorem dX1_owners_36 : decode cX1_owners 36 = .ok (.getfield 16, 3) := by decide +kernel
theorem dX1_owners_39 : decode cX1_owners 39 = .ok (.iload_n 1, 1) := by decide +kernel
theorem dX1_owners_40 : decode cX1_owners 40 = .ok (.iload_n 2, 1) := by decide +kernel
theorem dX1_owners_41 : decode cX1_owners 41 = .ok (.iload 4, 2) := by decide +kernel
theorem dX1_owners_43 : decode cX1_owners 43 = .ok (.invokestatic 53, 3) := by decide +kernel
theorem dX1_owners_46 : decode cX1_owners 46 = .ok (.iaload, 1) := by decide +kernel
theorem dX1_owners_47 : decode cX1_owners 47 = .ok (.ifCond .le 7, 3) := by decide +kernel
theorem dX1_owners_50 : decode cX1_owners 50 = .ok (.iconst 1, 1) := by decide +kernel
theorem dX1_owners_51 : decode cX1_owners 51 = .ok (.goto 4, 3) := by decide +kernel
theorem dX1_owners_54 : decode cX1_owners 54 = .ok (.iconst 0, 1) := by decide +kernel
theorem dX1_owners_55 : decode cX1_owners 55 = .ok (.iadd, 1) := by decide +kernel
theorem dX1_owners_56 : decode cX1_owners 56 = .ok (.istore_n 3, 1) := by decide +kernel
theorem dX1_owners_57 : decode cX1_owners 57 = .ok (.iinc 4 1, 3) := by decide +kernel
theorem dX1_owners_60 : decode cX1_owners 60 = .ok (.goto (-35), 3) := by decide +kernel
theorem dX1_owners_63 : decode cX1_owners 63 = .ok (.iload_n 3, 1) := by decide +kernel
theorem dX1_owners_64 : decode cX1_owners 64 = .ok (.ireturn, 1) := by decide +kernel
set_option maxRecDepth 20000 in
theorem ggX1_holder_X1_isWatch : GoodIn wsX1_holder wsX1_isWatch := goodIn_r _ [8, 9, 10, 11, 7, 12, 13, 14, 15, 16, 24, 25, 26, 27, 28, 29, 30, 31, 32, 33, 34, 35, 36] (by decide +kernel) (by decide +kernel)
set_option maxRecDepth 20000 in
theorem gX1_holder_X1_isWatch : GoodIn wsX1_holder (wsV RX1 80 RX1 yX1_isWatch wsX1_isWatch) := goodIn_app (goodIn_of _ (by decide +kernel)) ggX1_holder_X1_isWatch
set_option maxRecDepth 20000 in
theorem ggX1_holder_X1_no : GoodIn wsX1_holder wsX1_no := goodIn_r _ [20, 1, 24, 25, 26, 27, 28, 29, 30, 31, 32, 33, 34, 35, 36] (by decide +kernel) (by decide +kernel)
set_option maxRecDepth 20000 in
theorem gX1_holder_X1_no : GoodIn wsX1_holder (wsV RX1 66 RX1 yX1_no wsX1_no) := goodIn_app (goodIn_of _ (by decide +kernel)) ggX1_holder_X1_no
set_option maxRecDepth 20000 in
theorem ggX1_holder_X1_at : GoodIn wsX1_holder wsX1_at := goodIn_r _ [23] (by decide +kernel) (by decide +kernel)
set_option maxRecDepth 20000 in
theorem gX1_holder_X1_at : GoodIn wsX1_holder (va_wsS RX1 53 yX1_at wsX1_at) := goodIn_app (goodIn_of _ (by decide +kernel)) ggX1_holder_X1_at
theorem dX1_holder_0 : decode cX1_holder 0 = .ok (.aload_n 0, 1) := by decide +kernel
theorem dX1_holder_1 : decode cX1_holder 1 = .ok (.iconst 0, 1) := by decide +kernel
theorem dX1_holder_2 : decode cX1_holder 2 = .ok (.putfield 35, 3) := by decide +kernel
theorem dX1_holder_5 : decode cX1_holder 5 = .ok (.aload_n 0, 1) := by decide +kernel
theorem dX1_holder_6 : decode cX1_holder 6 = .ok (.iload_n 1, 1) := by decide +kernel
theorem dX1_holder_7 : decode cX1_holder 7 = .ok (.iload_n 2, 1) := by decide +kernel
theorem dX1_holder_8 : decode cX1_holder 8 = .ok (.invokevirtual 80, 3) := by decide +kernel
theorem dX1_holder_11 : decode cX1_holder 11 = .ok (.ifCond .ne 9, 3) := by decide +kernel
theorem dX1_holder_14 : decode cX1_holder 14 = .ok (.aload_n 0, 1) := by decide +kernel
theorem dX1_holder_15 : decode cX1_holder 15 = .ok (.iconst 1, 1) := by decide +kernel
theorem dX1_holder_16 : decode cX1_holder 16 = .ok (.invokevirtual 66, 3) := by decide +kernel
theorem dX1_holder_19 : decode cX1_holder 19 = .ok (.ireturn, 1) := by decide +kernel
theorem dX1_holder_20 : decode cX1_holder 20 = .ok (.iconst (-1), 1) := by decide +kernel
theorem dX1_holder_21 : decode cX1_holder 21 = .ok (.istore_n 3, 1) := by decide +kernel
theorem dX1_holder_22 : decode cX1_holder 22 = .ok (.iconst 0, 1) := by decide +kernel
theorem dX1_holder_23 : decode cX1_holder 23 = .ok (.istore 4, 2) := by decide +kernel
theorem dX1_holder_25 : decode cX1_holder 25 = .ok (.iconst 0, 1) := by decide +kernel
theorem dX1_holder_26 : decode cX1_holder 26 = .ok (.istore 5, 2) := by decide +kernel
theorem dX1_holder_28 : decode cX1_holder 28 = .ok (.iload 5, 2) := by decide +kernel
theorem dX1_holder_30 : decode cX1_holder 30 = .ok (.aload_n 0, 1) := by decide +kernel
theorem dX1_holder_31 : decode cX1_holder 31 = .ok (.getfield 50, 3) := by decide +kernel
theorem dX1_holder_34 : decode cX1_holder 34 = .ok (.if_icmp .ge 46, 3) := by decide +kernel
theorem dX1_holder_37 : decode cX1_holder 37 = .ok (.aload_n 0, 1) := by decide +kernel
theorem dX1_holder_38 : decode cX1_holder 38 = .ok (.getfield 16, 3) := by decide +kernel
theorem dX1_holder_41 : decode cX1_holder 41 = .ok (.iload_n 1, 1) := by decide +kernel
theorem dX1_holder_42 : decode cX1_holder 42 = .ok (.iload_n 2, 1) := by decide +kernel
theorem dX1_holder_43 : decode cX1_holder 43 = .ok (.iload 5, 2) := by decide +kernel
theorem dX1_holder_45 : decode cX1_holder 45 = .ok (.invokestatic 53, 3) := by decide +kernel
theorem dX1_holder_48 : decode cX1_holder 48 = .ok (.iaload, 1) := by decide +kernel
theorem dX1_holder_49 : decode cX1_holder 49 = .ok (.iload 4, 2) := by decide +kernel
theorem dX1_holder_51 : decode cX1_holder 51 = .ok (.if_icmp .gt 6, 3) := by decide +kernel
theorem dX1_holder_54 : decode cX1_holder 54 = .ok (.goto 20, 3) := by decide +kernel
theorem dX1_holder_57 : decode cX1_holder 57 = .ok (.iload 5, 2) := by decide +kernel
theorem dX1_holder_59 : decode cX1_holder 59 = .ok (.istore_n 3, 1) := by decide +kernel
theorem dX1_holder_60 : decode cX1_holder 60 = .ok (.aload_n 0, 1) := by decide +kernel
theorem dX1_holder_61 : decode cX1_holder 61 = .ok (.getfield 16, 3) := by decide +kernel
theorem dX1_holder_64 : decode cX1_holder 64 = .ok (.iload_n 1, 1) := by decide +kernel
theorem dX1_holder_65 : decode cX1_holder 65 = .ok (.iload_n 2, 1) := by decide +kernel
theorem dX1_holder_66 : decode cX1_holder 66 = .ok (.iload 5, 2) := by decide +kernel
theorem dX1_holder_68 : decode cX1_holder 68 = .ok (.invokestatic 53, 3) := by decide +kernel
theorem dX1_holder_71 : decode cX1_holder 71 = .ok (.iaload, 1) := by decide +kernel
theorem dX1_holder_72 : decode cX1_holder 72 = .ok (.istore 4, 2) := by decide +kernel
theorem dX1_holder_74 : decode cX1_holder 74 = .ok (.iinc 5 1, 3) := by decide +kernel
theorem dX1_holder_77 : decode cX1_holder 77 = .ok (.goto (-49), 3) := by decide +kernel
theorem dX1_holder_80 : decode cX1_holder 80 = .ok (.iload_n 3, 1) := by decide +kernel
theorem dX1_holder_81 : decode cX1_holder 81 = .ok (.iconst (-1), 1) := by decide +kernel
theorem dX1_holder_82 : decode cX1_holder 82 = .ok (.if_icmp .ne 11, 3) := by decide +kernel
theorem dX1_holder_85 : decode cX1_holder 85 = .ok (.aload_n 0, 1) := by decide +kernel
theorem dX1_holder_86 : decode cX1_holder 86 = .ok (.iconst 2, 1) := by decide +kernel
theorem dX1_holder_87 : decode cX1_holder 87 = .ok (.invokevirtual 66, 3) := by decide +kernel
theorem dX1_holder_90 : decode cX1_holder 90 = .ok (.goto 4, 3) := by decide +kernel
theorem dX1_holder_93 : decode cX1_holder 93 = .ok (.iload_n 3, 1) := by decide +kernel
theorem dX1_holder_94 : decode cX1_holder 94 = .ok (.ireturn, 1) := by decide +kernel
set_option maxRecDepth 20000 in
theorem ggX1_master_X1_isFerry : GoodIn wsX1_master wsX1_isFerry := goodIn_r _ [6, 7, 8, 9, 5, 10, 28, 29, 30, 31, 32, 33, 34, 35, 36, 37, 38, 39, 40] (by decide +kernel) (by decide +kernel)
set_option maxRecDepth 20000 in
theorem gX1_master_X1_isFerry : GoodIn wsX1_master (wsV RX1 46 RX1 yX1_isFerry wsX1_isFerry) := goodIn_app (goodIn_of _ (by decide +kernel)) ggX1_master_X1_isFerry
set_option maxRecDepth 20000 in
theorem ggX1_master_X1_no : GoodIn wsX1_master wsX1_no := goodIn_r _ [14, 1, 28, 29, 30, 31, 32, 33, 34, 35, 36, 37, 38, 39, 40] (by decide +kernel) (by decide +kernel)
set_option maxRecDepth 20000 in
theorem gX1_master_X1_no : GoodIn wsX1_master (wsV RX1 66 RX1 yX1_no wsX1_no) := goodIn_app (goodIn_of _ (by decide +kernel)) ggX1_master_X1_no
set_option maxRecDepth 20000 in
theorem ggX1_master_X1_masterOf : GoodIn wsX1_master wsX1_masterOf := goodIn_r _ [18, 19, 20, 21, 22, 5, 23, 24, 25, 26, 27, 28, 29, 30, 31, 32, 33, 34, 35, 36, 37, 38, 39, 40] (by decide +kernel) (by decide +kernel)
set_option maxRecDepth 20000 in
theorem gX1_master_X1_masterOf : GoodIn wsX1_master (wsV RX1 103 RX1 yX1_masterOf wsX1_masterOf) := goodIn_app (goodIn_of _ (by decide +kernel)) ggX1_master_X1_masterOf
theorem dX1_master_0 : decode cX1_master 0 = .ok (.aload_n 0, 1) := by decide +kernel
theorem dX1_master_1 : decode cX1_master 1 = .ok (.iconst 0, 1) := by decide +kernel
theorem dX1_master_2 : decode cX1_master 2 = .ok (.putfield 35, 3) := by decide +kernel
theorem dX1_master_5 : decode cX1_master 5 = .ok (.aload_n 0, 1) := by decide +kernel
theorem dX1_master_6 : decode cX1_master 6 = .ok (.iload_n 1, 1) := by decide +kernel
theorem dX1_master_7 : decode cX1_master 7 = .ok (.invokevirtual 46, 3) := by decide +kernel
theorem dX1_master_10 : decode cX1_master 10 = .ok (.ifCond .ne 9, 3) := by decide +kernel
theorem dX1_master_13 : decode cX1_master 13 = .ok (.aload_n 0, 1) := by decide +kernel
theorem dX1_master_14 : decode cX1_master 14 = .ok (.iconst 1, 1) := by decide +kernel
theorem dX1_master_15 : decode cX1_master 15 = .ok (.invokevirtual 66, 3) := by decide +kernel
theorem dX1_master_18 : decode cX1_master 18 = .ok (.ireturn, 1) := by decide +kernel
theorem dX1_master_19 : decode cX1_master 19 = .ok (.aload_n 0, 1) := by decide +kernel
theorem dX1_master_20 : decode cX1_master 20 = .ok (.iload_n 1, 1) := by decide +kernel
theorem dX1_master_21 : decode cX1_master 21 = .ok (.invokevirtual 103, 3) := by decide +kernel
theorem dX1_master_24 : decode cX1_master 24 = .ok (.istore_n 2, 1) := by decide +kernel
theorem dX1_master_25 : decode cX1_master 25 = .ok (.iload_n 2, 1) := by decide +kernel
theorem dX1_master_26 : decode cX1_master 26 = .ok (.iconst (-1), 1) := by decide +kernel
theorem dX1_master_27 : decode cX1_master 27 = .ok (.if_icmp .ne 11, 3) := by decide +kernel
theorem dX1_master_30 : decode cX1_master 30 = .ok (.aload_n 0, 1) := by decide +kernel
theorem dX1_master_31 : decode cX1_master 31 = .ok (.iconst 2, 1) := by decide +kernel
theorem dX1_master_32 : decode cX1_master 32 = .ok (.invokevirtual 66, 3) := by decide +kernel
theorem dX1_master_35 : decode cX1_master 35 = .ok (.goto 4, 3) := by decide +kernel
theorem dX1_master_38 : decode cX1_master 38 = .ok (.iload_n 2, 1) := by decide +kernel
theorem dX1_master_39 : decode cX1_master 39 = .ok (.ireturn, 1) := by decide +kernel
set_option maxRecDepth 20000 in
theorem ggX1_hasMaster_X1_isFerry : GoodIn wsX1_hasMaster wsX1_isFerry := goodIn_r _ [6, 7, 8, 9, 5, 10, 28, 29, 30, 31, 32, 33, 34, 35, 36, 37, 38, 39, 40] (by decide +kernel) (by decide +kernel)
set_option maxRecDepth 20000 in
theorem gX1_hasMaster_X1_isFerry : GoodIn wsX1_hasMaster (wsV RX1 46 RX1 yX1_isFerry wsX1_isFerry) := goodIn_app (goodIn_of _ (by decide +kernel)) ggX1_hasMaster_X1_isFerry
set_option maxRecDepth 20000 in
theorem ggX1_hasMaster_X1_masterOf : GoodIn wsX1_hasMaster wsX1_masterOf := goodIn_r _ [14, 15, 16, 17, 18, 5, 19, 20, 21, 22, 23, 28, 29, 30, 31, 32, 33, 34, 35, 36, 37, 38, 39, 40] (by decide +kernel) (by decide +kernel)
set_option maxRecDepth 20000 in
theorem gX1_hasMaster_X1_masterOf : GoodIn wsX1_hasMaster (wsV RX1 103 RX1 yX1_masterOf wsX1_masterOf) := goodIn_app (goodIn_of _ (by decide +kernel)) ggX1_hasMaster_X1_masterOf
set_option maxRecDepth 20000 in
theorem ggX1_hasMaster_X1_isNot : GoodIn wsX1_hasMaster wsX1_isNot := goodIn_r _ [27, 1, 28, 29, 30, 31, 32, 33, 34, 35, 36, 37, 38, 39, 40] (by decide +kernel) (by decide +kernel)
set_option maxRecDepth 20000 in
theorem gX1_hasMaster_X1_isNot : GoodIn wsX1_hasMaster (wsV RX1 126 RX1 yX1_isNot wsX1_isNot) := goodIn_app (goodIn_of _ (by decide +kernel)) ggX1_hasMaster_X1_isNot
theorem dX1_hasMaster_0 : decode cX1_hasMaster 0 = .ok (.aload_n 0, 1) := by decide +kernel
theorem dX1_hasMaster_1 : decode cX1_hasMaster 1 = .ok (.iconst 0, 1) := by decide +kernel
theorem dX1_hasMaster_2 : decode cX1_hasMaster 2 = .ok (.putfield 35, 3) := by decide +kernel
theorem dX1_hasMaster_5 : decode cX1_hasMaster 5 = .ok (.aload_n 0, 1) := by decide +kernel
theorem dX1_hasMaster_6 : decode cX1_hasMaster 6 = .ok (.iload_n 1, 1) := by decide +kernel
theorem dX1_hasMaster_7 : decode cX1_hasMaster 7 = .ok (.invokevirtual 46, 3) := by decide +kernel
theorem dX1_hasMaster_10 : decode cX1_hasMaster 10 = .ok (.ifCond .eq 20, 3) := by decide +kernel
theorem dX1_hasMaster_13 : decode cX1_hasMaster 13 = .ok (.aload_n 0, 1) := by decide +kernel
theorem dX1_hasMaster_14 : decode cX1_hasMaster 14 = .ok (.iload_n 1, 1) := by decide +kernel
theorem dX1_hasMaster_15 : decode cX1_hasMaster 15 = .ok (.invokevirtual 103, 3) := by decide +kernel
theorem dX1_hasMaster_18 : decode cX1_hasMaster 18 = .ok (.iconst (-1), 1) := by decide +kernel
theorem dX1_hasMaster_19 : decode cX1_hasMaster 19 = .ok (.if_icmp .eq 7, 3) := by decide +kernel
theorem dX1_hasMaster_22 : decode cX1_hasMaster 22 = .ok (.iconst 1, 1) := by decide +kernel
theorem dX1_hasMaster_23 : decode cX1_hasMaster 23 = .ok (.goto 12, 3) := by decide +kernel
theorem dX1_hasMaster_26 : decode cX1_hasMaster 26 = .ok (.iconst 0, 1) := by decide +kernel
theorem dX1_hasMaster_27 : decode cX1_hasMaster 27 = .ok (.goto 8, 3) := by decide +kernel
theorem dX1_hasMaster_30 : decode cX1_hasMaster 30 = .ok (.aload_n 0, 1) := by decide +kernel
theorem dX1_hasMaster_31 : decode cX1_hasMaster 31 = .ok (.iconst 1, 1) := by decide +kernel
theorem dX1_hasMaster_32 : decode cX1_hasMaster 32 = .ok (.invokevirtual 126, 3) := by decide +kernel
theorem dX1_hasMaster_35 : decode cX1_hasMaster 35 = .ok (.ireturn, 1) := by decide +kernel
set_option maxRecDepth 20000 in
theorem ggX1_shareValue_X1_isWatch : GoodIn wsX1_shareValue wsX1_isWatch := goodIn_r _ [6, 7, 8, 9, 5, 10, 11, 12, 13, 14, 25, 26, 27, 28, 29, 30, 31, 32, 33, 34, 35, 36, 37] (by decide +kernel) (by decide +kernel)
set_option maxRecDepth 20000 in
theorem gX1_shareValue_X1_isWatch : GoodIn wsX1_shareValue (wsV RX1 80 RX1 yX1_isWatch wsX1_isWatch) := goodIn_app (goodIn_of _ (by decide +kernel)) ggX1_shareValue_X1_isWatch
set_option maxRecDepth 20000 in
theorem ggX1_shareValue_X1_worth : GoodIn wsX1_shareValue wsX1_worth := goodIn_r _ [18, 19, 20, 25, 26, 27, 28, 29, 30, 31, 32, 33, 34, 35, 36, 37] (by decide +kernel) (by decide +kernel)
set_option maxRecDepth 20000 in
theorem gX1_shareValue_X1_worth : GoodIn wsX1_shareValue (wsV RX1 87 RX1 yX1_worth wsX1_worth) := goodIn_app (goodIn_of _ (by decide +kernel)) ggX1_shareValue_X1_worth
set_option maxRecDepth 20000 in
theorem ggX1_shareValue_X1_no : GoodIn wsX1_shareValue wsX1_no := goodIn_r _ [24, 1, 25, 26, 27, 28, 29, 30, 31, 32, 33, 34, 35, 36, 37] (by decide +kernel) (by decide +kernel)
set_option maxRecDepth 20000 in
theorem gX1_shareValue_X1_no : GoodIn wsX1_shareValue (wsV RX1 66 RX1 yX1_no wsX1_no) := goodIn_app (goodIn_of _ (by decide +kernel)) ggX1_shareValue_X1_no
theorem dX1_shareValue_0 : decode cX1_shareValue 0 = .ok (.aload_n 0, 1) := by decide +kernel
theorem dX1_shareValue_1 : decode cX1_shareValue 1 = .ok (.iconst 0, 1) := by decide +kernel
theorem dX1_shareValue_2 : decode cX1_shareValue 2 = .ok (.putfield 35, 3) := by decide +kernel
theorem dX1_shareValue_5 : decode cX1_shareValue 5 = .ok (.aload_n 0, 1) := by decide +kernel
theorem dX1_shareValue_6 : decode cX1_shareValue 6 = .ok (.iload_n 1, 1) := by decide +kernel
theorem dX1_shareValue_7 : decode cX1_shareValue 7 = .ok (.iload_n 2, 1) := by decide +kernel
theorem dX1_shareValue_8 : decode cX1_shareValue 8 = .ok (.invokevirtual 80, 3) := by decide +kernel
theorem dX1_shareValue_11 : decode cX1_shareValue 11 = .ok (.ifCond .eq 12, 3) := by decide +kernel
theorem dX1_shareValue_14 : decode cX1_shareValue 14 = .ok (.aload_n 0, 1) := by decide +kernel
theorem dX1_shareValue_15 : decode cX1_shareValue 15 = .ok (.iload_n 1, 1) := by decide +kernel
theorem dX1_shareValue_16 : decode cX1_shareValue 16 = .ok (.iload_n 2, 1) := by decide +kernel
theorem dX1_shareValue_17 : decode cX1_shareValue 17 = .ok (.invokevirtual 87, 3) := by decide +kernel
theorem dX1_shareValue_20 : decode cX1_shareValue 20 = .ok (.goto 8, 3) := by decide +kernel
theorem dX1_shareValue_23 : decode cX1_shareValue 23 = .ok (.aload_n 0, 1) := by decide +kernel
theorem dX1_shareValue_24 : decode cX1_shareValue 24 = .ok (.iconst 1, 1) := by decide +kernel
theorem dX1_shareValue_25 : decode cX1_shareValue 25 = .ok (.invokevirtual 66, 3) := by decide +kernel
theorem dX1_shareValue_28 : decode cX1_shareValue 28 = .ok (.ireturn, 1) := by decide +kernel
set_option maxRecDepth 20000 in
theorem ggX1_watchAt_X1_isIn : GoodIn wsX1_watchAt wsX1_isIn := goodIn_r _ [5] (by decide +kernel) (by decide +kernel)
set_option maxRecDepth 20000 in
theorem gX1_watchAt_X1_isIn : GoodIn wsX1_watchAt (va_wsS RX1 42 yX1_isIn wsX1_isIn) := goodIn_app (goodIn_of _ (by decide +kernel)) ggX1_watchAt_X1_isIn
set_option maxRecDepth 20000 in
theorem ggX1_watchAt_X1_no : GoodIn wsX1_watchAt wsX1_no := goodIn_r _ [9, 1, 10, 11, 12, 13, 14, 15, 16, 17, 18, 19, 20, 21, 22] (by decide +kernel) (by decide +kernel)
set_option maxRecDepth 20000 in
theorem gX1_watchAt_X1_no : GoodIn wsX1_watchAt (wsV RX1 66 RX1 yX1_no wsX1_no) := goodIn_app (goodIn_of _ (by decide +kernel)) ggX1_watchAt_X1_no
theorem dX1_watchAt_0 : decode cX1_watchAt 0 = .ok (.aload_n 0, 1) := by decide +kernel
theorem dX1_watchAt_1 : decode cX1_watchAt 1 = .ok (.iconst 0, 1) := by decide +kernel
theorem dX1_watchAt_2 : decode cX1_watchAt 2 = .ok (.putfield 35, 3) := by decide +kernel
theorem dX1_watchAt_5 : decode cX1_watchAt 5 = .ok (.iload_n 1, 1) := by decide +kernel
theorem dX1_watchAt_6 : decode cX1_watchAt 6 = .ok (.iconst 0, 1) := by decide +kernel
theorem dX1_watchAt_7 : decode cX1_watchAt 7 = .ok (.bipush 23, 2) := by decide +kernel
theorem dX1_watchAt_9 : decode cX1_watchAt 9 = .ok (.invokestatic 42, 3) := by decide +kernel
theorem dX1_watchAt_12 : decode cX1_watchAt 12 = .ok (.ifCond .eq 10, 3) := by decide +kernel
theorem dX1_watchAt_15 : decode cX1_watchAt 15 = .ok (.iload_n 1, 1) := by decide +kernel
theorem dX1_watchAt_16 : decode cX1_watchAt 16 = .ok (.bipush 6, 2) := by decide +kernel
theorem dX1_watchAt_18 : decode cX1_watchAt 18 = .ok (.idiv, 1) := by decide +kernel
theorem dX1_watchAt_19 : decode cX1_watchAt 19 = .ok (.goto 8, 3) := by decide +kernel
theorem dX1_watchAt_22 : decode cX1_watchAt 22 = .ok (.aload_n 0, 1) := by decide +kernel
theorem dX1_watchAt_23 : decode cX1_watchAt 23 = .ok (.iconst 1, 1) := by decide +kernel
theorem dX1_watchAt_24 : decode cX1_watchAt 24 = .ok (.invokevirtual 66, 3) := by decide +kernel
theorem dX1_watchAt_27 : decode cX1_watchAt 27 = .ok (.ireturn, 1) := by decide +kernel
theorem dX1_people_0 : decode cX1_people 0 = .ok (.aload_n 0, 1) := by decide +kernel
theorem dX1_people_1 : decode cX1_people 1 = .ok (.iconst 0, 1) := by decide +kernel
theorem dX1_people_2 : decode cX1_people 2 = .ok (.putfield 35, 3) := by decide +kernel
theorem dX1_people_5 : decode cX1_people 5 = .ok (.aload_n 0, 1) := by decide +kernel
theorem dX1_people_6 : decode cX1_people 6 = .ok (.getfield 50, 3) := by decide +kernel
theorem dX1_people_9 : decode cX1_people 9 = .ok (.ireturn, 1) := by decide +kernel
theorem dX1_alive_0 : decode cX1_alive 0 = .ok (.iconst 0, 1) := by decide +kernel
theorem dX1_alive_1 : decode cX1_alive 1 = .ok (.istore_n 1, 1) := by decide +kernel
theorem dX1_alive_2 : decode cX1_alive 2 = .ok (.iconst 0, 1) := by decide +kernel
theorem dX1_alive_3 : decode cX1_alive 3 = .ok (.istore_n 2, 1) := by decide +kernel
theorem dX1_alive_4 : decode cX1_alive 4 = .ok (.iload_n 2, 1) := by decide +kernel
theorem dX1_alive_5 : decode cX1_alive 5 = .ok (.aload_n 0, 1) := by decide +kernel
theorem dX1_alive_6 : decode cX1_alive 6 = .ok (.getfield 50, 3) := by decide +kernel
theorem dX1_alive_9 : decode cX1_alive 9 = .ok (.if_icmp .ge 26, 3) := by decide +kernel
theorem dX1_alive_12 : decode cX1_alive 12 = .ok (.iload_n 1, 1) := by decide +kernel
theorem dX1_alive_13 : decode cX1_alive 13 = .ok (.aload_n 0, 1) := by decide +kernel
theorem dX1_alive_14 : decode cX1_alive 14 = .ok (.getfield 28, 3) := by decide +kernel
theorem dX1_alive_17 : decode cX1_alive 17 = .ok (.iload_n 2, 1) := by decide +kernel
theorem dX1_alive_18 : decode cX1_alive 18 = .ok (.baload, 1) := by decide +kernel
theorem dX1_alive_19 : decode cX1_alive 19 = .ok (.ifCond .eq 7, 3) := by decide +kernel
theorem dX1_alive_22 : decode cX1_alive 22 = .ok (.iconst 0, 1) := by decide +kernel
theorem dX1_alive_23 : decode cX1_alive 23 = .ok (.goto 4, 3) := by decide +kernel
theorem dX1_alive_26 : decode cX1_alive 26 = .ok (.iconst 1, 1) := by decide +kernel
theorem dX1_alive_27 : decode cX1_alive 27 = .ok (.iadd, 1) := by decide +kernel
theorem dX1_alive_28 : decode cX1_alive 28 = .ok (.istore_n 1, 1) := by decide +kernel
theorem dX1_alive_29 : decode cX1_alive 29 = .ok (.iinc 2 1, 3) := by decide +kernel
theorem dX1_alive_32 : decode cX1_alive 32 = .ok (.goto (-28), 3) := by decide +kernel
theorem dX1_alive_35 : decode cX1_alive 35 = .ok (.iload_n 1, 1) := by decide +kernel
theorem dX1_alive_36 : decode cX1_alive 36 = .ok (.ireturn, 1) := by decide +kernel
set_option maxRecDepth 20000 in
theorem ggX1_living_X1_alive : GoodIn wsX1_living wsX1_alive := goodIn_r _ [6, 7, 8, 9, 10, 11, 12, 13, 14, 15, 16, 17, 18, 19, 20, 21] (by decide +kernel) (by decide +kernel)
set_option maxRecDepth 20000 in
theorem gX1_living_X1_alive : GoodIn wsX1_living (wsV RX1 129 RX1 yX1_alive wsX1_alive) := goodIn_app (goodIn_of _ (by decide +kernel)) ggX1_living_X1_alive
theorem dX1_living_0 : decode cX1_living 0 = .ok (.aload_n 0, 1) := by decide +kernel
theorem dX1_living_1 : decode cX1_living 1 = .ok (.iconst 0, 1) := by decide +kernel
theorem dX1_living_2 : decode cX1_living 2 = .ok (.putfield 35, 3) := by decide +kernel
theorem dX1_living_5 : decode cX1_living 5 = .ok (.aload_n 0, 1) := by decide +kernel
theorem dX1_living_6 : decode cX1_living 6 = .ok (.invokevirtual 129, 3) := by decide +kernel
theorem dX1_living_9 : decode cX1_living 9 = .ok (.ireturn, 1) := by decide +kernel
set_option maxRecDepth 20000 in
theorem ggX1_isAlive_X1_isPerson : GoodIn wsX1_isAlive wsX1_isPerson := goodIn_r _ [7, 8, 9, 10, 6, 11, 16, 17, 18, 19, 20, 21, 22, 23, 24, 25, 26, 27, 28] (by decide +kernel) (by decide +kernel)
set_option maxRecDepth 20000 in
theorem gX1_isAlive_X1_isPerson : GoodIn wsX1_isAlive (wsV RX1 73 RX1 yX1_isPerson wsX1_isPerson) := goodIn_app (goodIn_of _ (by decide +kernel)) ggX1_isAlive_X1_isPerson
set_option maxRecDepth 20000 in
theorem ggX1_isAlive_X1_isNot : GoodIn wsX1_isAlive wsX1_isNot := goodIn_r _ [15, 1, 16, 17, 18, 19, 20, 21, 22, 23, 24, 25, 26, 27, 28] (by decide +kernel) (by decide +kernel)
set_option maxRecDepth 20000 in
theorem gX1_isAlive_X1_isNot : GoodIn wsX1_isAlive (wsV RX1 126 RX1 yX1_isNot wsX1_isNot) := goodIn_app (goodIn_of _ (by decide +kernel)) ggX1_isAlive_X1_isNot
theorem dX1_isAlive_0 : decode cX1_isAlive 0 = .ok (.aload_n 0, 1) := by decide +kernel
theorem dX1_isAlive_1 : decode cX1_isAlive 1 = .ok (.iconst 0, 1) := by decide +kernel
theorem dX1_isAlive_2 : decode cX1_isAlive 2 = .ok (.putfield 35, 3) := by decide +kernel
theorem dX1_isAlive_5 : decode cX1_isAlive 5 = .ok (.aload_n 0, 1) := by decide +kernel
theorem dX1_isAlive_6 : decode cX1_isAlive 6 = .ok (.iload_n 1, 1) := by decide +kernel
theorem dX1_isAlive_7 : decode cX1_isAlive 7 = .ok (.invokevirtual 73, 3) := by decide +kernel
theorem dX1_isAlive_10 : decode cX1_isAlive 10 = .ok (.ifCond .eq 20, 3) := by decide +kernel
theorem dX1_isAlive_13 : decode cX1_isAlive 13 = .ok (.aload_n 0, 1) := by decide +kernel
theorem dX1_isAlive_14 : decode cX1_isAlive 14 = .ok (.getfield 28, 3) := by decide +kernel
theorem dX1_isAlive_17 : decode cX1_isAlive 17 = .ok (.iload_n 1, 1) := by decide +kernel
theorem dX1_isAlive_18 : decode cX1_isAlive 18 = .ok (.baload, 1) := by decide +kernel
theorem dX1_isAlive_19 : decode cX1_isAlive 19 = .ok (.ifCond .ne 7, 3) := by decide +kernel
theorem dX1_isAlive_22 : decode cX1_isAlive 22 = .ok (.iconst 1, 1) := by decide +kernel
theorem dX1_isAlive_23 : decode cX1_isAlive 23 = .ok (.goto 12, 3) := by decide +kernel
theorem dX1_isAlive_26 : decode cX1_isAlive 26 = .ok (.iconst 0, 1) := by decide +kernel
theorem dX1_isAlive_27 : decode cX1_isAlive 27 = .ok (.goto 8, 3) := by decide +kernel
theorem dX1_isAlive_30 : decode cX1_isAlive 30 = .ok (.aload_n 0, 1) := by decide +kernel
theorem dX1_isAlive_31 : decode cX1_isAlive 31 = .ok (.iconst 1, 1) := by decide +kernel
theorem dX1_isAlive_32 : decode cX1_isAlive 32 = .ok (.invokevirtual 126, 3) := by decide +kernel
theorem dX1_isAlive_35 : decode cX1_isAlive 35 = .ok (.ireturn, 1) := by decide +kernel
set_option maxRecDepth 20000 in
theorem ggX1_coins_X1_isPerson : GoodIn wsX1_coins wsX1_isPerson := goodIn_r _ [7, 8, 9, 10, 6, 11, 16, 17, 18, 19, 20, 21, 22, 23, 24, 25, 26, 27, 28] (by decide +kernel) (by decide +kernel)
set_option maxRecDepth 20000 in
theorem gX1_coins_X1_isPerson : GoodIn wsX1_coins (wsV RX1 73 RX1 yX1_isPerson wsX1_isPerson) := goodIn_app (goodIn_of _ (by decide +kernel)) ggX1_coins_X1_isPerson
set_option maxRecDepth 20000 in
theorem ggX1_coins_X1_no : GoodIn wsX1_coins wsX1_no := goodIn_r _ [15, 1, 16, 17, 18, 19, 20, 21, 22, 23, 24, 25, 26, 27, 28] (by decide +kernel) (by decide +kernel)
set_option maxRecDepth 20000 in
theorem gX1_coins_X1_no : GoodIn wsX1_coins (wsV RX1 66 RX1 yX1_no wsX1_no) := goodIn_app (goodIn_of _ (by decide +kernel)) ggX1_coins_X1_no
theorem dX1_coins_0 : decode cX1_coins 0 = .ok (.aload_n 0, 1) := by decide +kernel
theorem dX1_coins_1 : decode cX1_coins 1 = .ok (.iconst 0, 1) := by decide +kernel
theorem dX1_coins_2 : decode cX1_coins 2 = .ok (.putfield 35, 3) := by decide +kernel
theorem dX1_coins_5 : decode cX1_coins 5 = .ok (.aload_n 0, 1) := by decide +kernel
theorem dX1_coins_6 : decode cX1_coins 6 = .ok (.iload_n 1, 1) := by decide +kernel
theorem dX1_coins_7 : decode cX1_coins 7 = .ok (.invokevirtual 73, 3) := by decide +kernel
theorem dX1_coins_10 : decode cX1_coins 10 = .ok (.ifCond .eq 12, 3) := by decide +kernel
theorem dX1_coins_13 : decode cX1_coins 13 = .ok (.aload_n 0, 1) := by decide +kernel
theorem dX1_coins_14 : decode cX1_coins 14 = .ok (.getfield 19, 3) := by decide +kernel
theorem dX1_coins_17 : decode cX1_coins 17 = .ok (.iload_n 1, 1) := by decide +kernel
theorem dX1_coins_18 : decode cX1_coins 18 = .ok (.iaload, 1) := by decide +kernel
theorem dX1_coins_19 : decode cX1_coins 19 = .ok (.goto 8, 3) := by decide +kernel
theorem dX1_coins_22 : decode cX1_coins 22 = .ok (.aload_n 0, 1) := by decide +kernel
theorem dX1_coins_23 : decode cX1_coins 23 = .ok (.iconst 1, 1) := by decide +kernel
theorem dX1_coins_24 : decode cX1_coins 24 = .ok (.invokevirtual 66, 3) := by decide +kernel
theorem dX1_coins_27 : decode cX1_coins 27 = .ok (.ireturn, 1) := by decide +kernel
set_option maxRecDepth 20000 in
theorem ggX1_earned_X1_isPerson : GoodIn wsX1_earned wsX1_isPerson := goodIn_r _ [7, 8, 9, 10, 6, 11, 16, 17, 18, 19, 20, 21, 22, 23, 24, 25, 26, 27, 28] (by decide +kernel) (by decide +kernel)
set_option maxRecDepth 20000 in
theorem gX1_earned_X1_isPerson : GoodIn wsX1_earned (wsV RX1 73 RX1 yX1_isPerson wsX1_isPerson) := goodIn_app (goodIn_of _ (by decide +kernel)) ggX1_earned_X1_isPerson
set_option maxRecDepth 20000 in
theorem ggX1_earned_X1_no : GoodIn wsX1_earned wsX1_no := goodIn_r _ [15, 1, 16, 17, 18, 19, 20, 21, 22, 23, 24, 25, 26, 27, 28] (by decide +kernel) (by decide +kernel)
set_option maxRecDepth 20000 in
theorem gX1_earned_X1_no : GoodIn wsX1_earned (wsV RX1 66 RX1 yX1_no wsX1_no) := goodIn_app (goodIn_of _ (by decide +kernel)) ggX1_earned_X1_no
theorem dX1_earned_0 : decode cX1_earned 0 = .ok (.aload_n 0, 1) := by decide +kernel
theorem dX1_earned_1 : decode cX1_earned 1 = .ok (.iconst 0, 1) := by decide +kernel
theorem dX1_earned_2 : decode cX1_earned 2 = .ok (.putfield 35, 3) := by decide +kernel
theorem dX1_earned_5 : decode cX1_earned 5 = .ok (.aload_n 0, 1) := by decide +kernel
theorem dX1_earned_6 : decode cX1_earned 6 = .ok (.iload_n 1, 1) := by decide +kernel
theorem dX1_earned_7 : decode cX1_earned 7 = .ok (.invokevirtual 73, 3) := by decide +kernel
theorem dX1_earned_10 : decode cX1_earned 10 = .ok (.ifCond .eq 12, 3) := by decide +kernel
theorem dX1_earned_13 : decode cX1_earned 13 = .ok (.aload_n 0, 1) := by decide +kernel
theorem dX1_earned_14 : decode cX1_earned 14 = .ok (.getfield 22, 3) := by decide +kernel
theorem dX1_earned_17 : decode cX1_earned 17 = .ok (.iload_n 1, 1) := by decide +kernel
theorem dX1_earned_18 : decode cX1_earned 18 = .ok (.iaload, 1) := by decide +kernel
theorem dX1_earned_19 : decode cX1_earned 19 = .ok (.goto 8, 3) := by decide +kernel
theorem dX1_earned_22 : decode cX1_earned 22 = .ok (.aload_n 0, 1) := by decide +kernel
theorem dX1_earned_23 : decode cX1_earned 23 = .ok (.iconst 1, 1) := by decide +kernel
theorem dX1_earned_24 : decode cX1_earned 24 = .ok (.invokevirtual 66, 3) := by decide +kernel
theorem dX1_earned_27 : decode cX1_earned 27 = .ok (.ireturn, 1) := by decide +kernel
set_option maxRecDepth 20000 in
theorem ggX1_allOf_X1_inFerry : GoodIn wsX1_allOf wsX1_inFerry := goodIn_r _ [6, 7, 8, 9, 5, 10, 11, 12, 13, 14, 15, 16, 17, 18, 19, 20, 21, 22, 23] (by decide +kernel) (by decide +kernel)
set_option maxRecDepth 20000 in
theorem gX1_allOf_X1_inFerry : GoodIn wsX1_allOf (wsV RX1 100 RX1 yX1_inFerry wsX1_inFerry) := goodIn_app (goodIn_of _ (by decide +kernel)) ggX1_allOf_X1_inFerry
theorem dX1_allOf_0 : decode cX1_allOf 0 = .ok (.iconst 0, 1) := by decide +kernel
theorem dX1_allOf_1 : decode cX1_allOf 1 = .ok (.istore_n 2, 1) := by decide +kernel
theorem dX1_allOf_2 : decode cX1_allOf 2 = .ok (.iconst 0, 1) := by decide +kernel
theorem dX1_allOf_3 : decode cX1_allOf 3 = .ok (.istore_n 3, 1) := by decide +kernel
theorem dX1_allOf_4 : decode cX1_allOf 4 = .ok (.iload_n 3, 1) := by decide +kernel
theorem dX1_allOf_5 : decode cX1_allOf 5 = .ok (.aload_n 0, 1) := by decide +kernel
theorem dX1_allOf_6 : decode cX1_allOf 6 = .ok (.getfield 39, 3) := by decide +kernel
theorem dX1_allOf_9 : decode cX1_allOf 9 = .ok (.if_icmp .ge 18, 3) := by decide +kernel
theorem dX1_allOf_12 : decode cX1_allOf 12 = .ok (.iload_n 2, 1) := by decide +kernel
theorem dX1_allOf_13 : decode cX1_allOf 13 = .ok (.aload_n 0, 1) := by decide +kernel
theorem dX1_allOf_14 : decode cX1_allOf 14 = .ok (.iload_n 3, 1) := by decide +kernel
theorem dX1_allOf_15 : decode cX1_allOf 15 = .ok (.iload_n 1, 1) := by decide +kernel
theorem dX1_allOf_16 : decode cX1_allOf 16 = .ok (.invokevirtual 100, 3) := by decide +kernel
theorem dX1_allOf_19 : decode cX1_allOf 19 = .ok (.iadd, 1) := by decide +kernel
theorem dX1_allOf_20 : decode cX1_allOf 20 = .ok (.istore_n 2, 1) := by decide +kernel
theorem dX1_allOf_21 : decode cX1_allOf 21 = .ok (.iinc 3 1, 3) := by decide +kernel
theorem dX1_allOf_24 : decode cX1_allOf 24 = .ok (.goto (-20), 3) := by decide +kernel
theorem dX1_allOf_27 : decode cX1_allOf 27 = .ok (.iload_n 2, 1) := by decide +kernel
theorem dX1_allOf_28 : decode cX1_allOf 28 = .ok (.ireturn, 1) := by decide +kernel
set_option maxRecDepth 20000 in
theorem ggX1_allShares_X1_isPerson : GoodIn wsX1_allShares wsX1_isPerson := goodIn_r _ [6, 7, 8, 9, 5, 10, 28, 29, 30, 31, 32, 33, 34, 35, 36, 37, 38, 39, 40] (by decide +kernel) (by decide +kernel)
set_option maxRecDepth 20000 in
theorem gX1_allShares_X1_isPerson : GoodIn wsX1_allShares (wsV RX1 73 RX1 yX1_isPerson wsX1_isPerson) := goodIn_app (goodIn_of _ (by decide +kernel)) ggX1_allShares_X1_isPerson
set_option maxRecDepth 20000 in
theorem ggX1_allShares_X1_allOf : GoodIn wsX1_allShares wsX1_allOf := goodIn_r _ [14, 15, 16, 17, 18, 5, 19, 20, 21, 22, 23, 28, 29, 30, 31, 32, 33, 34, 35, 36, 37, 38, 39, 40] (by decide +kernel) (by decide +kernel)
set_option maxRecDepth 20000 in
theorem gX1_allShares_X1_allOf : GoodIn wsX1_allShares (wsV RX1 133 RX1 yX1_allOf wsX1_allOf) := goodIn_app (goodIn_of _ (by decide +kernel)) ggX1_allShares_X1_allOf
set_option maxRecDepth 20000 in
theorem ggX1_allShares_X1_no : GoodIn wsX1_allShares wsX1_no := goodIn_r _ [27, 1, 28, 29, 30, 31, 32, 33, 34, 35, 36, 37, 38, 39, 40] (by decide +kernel) (by decide +kernel)
set_option maxRecDepth 20000 in
theorem gX1_allShares_X1_no : GoodIn wsX1_allShares (wsV RX1 66 RX1 yX1_no wsX1_no) := goodIn_app (goodIn_of _ (by decide +kernel)) ggX1_allShares_X1_no
theorem dX1_allShares_0 : decode cX1_allShares 0 = .ok (.aload_n 0, 1) := by decide +kernel
theorem dX1_allShares_1 : decode cX1_allShares 1 = .ok (.iconst 0, 1) := by decide +kernel
theorem dX1_allShares_2 : decode cX1_allShares 2 = .ok (.putfield 35, 3) := by decide +kernel
theorem dX1_allShares_5 : decode cX1_allShares 5 = .ok (.aload_n 0, 1) := by decide +kernel
theorem dX1_allShares_6 : decode cX1_allShares 6 = .ok (.iload_n 1, 1) := by decide +kernel
theorem dX1_allShares_7 : decode cX1_allShares 7 = .ok (.invokevirtual 73, 3) := by decide +kernel
theorem dX1_allShares_10 : decode cX1_allShares 10 = .ok (.ifCond .eq 11, 3) := by decide +kernel
theorem dX1_allShares_13 : decode cX1_allShares 13 = .ok (.aload_n 0, 1) := by decide +kernel
theorem dX1_allShares_14 : decode cX1_allShares 14 = .ok (.iload_n 1, 1) := by decide +kernel
theorem dX1_allShares_15 : decode cX1_allShares 15 = .ok (.invokevirtual 133, 3) := by decide +kernel
theorem dX1_allShares_18 : decode cX1_allShares 18 = .ok (.goto 8, 3) := by decide +kernel
theorem dX1_allShares_21 : decode cX1_allShares 21 = .ok (.aload_n 0, 1) := by decide +kernel
theorem dX1_allShares_22 : decode cX1_allShares 22 = .ok (.iconst 1, 1) := by decide +kernel
theorem dX1_allShares_23 : decode cX1_allShares 23 = .ok (.invokevirtual 66, 3) := by decide +kernel
theorem dX1_allShares_26 : decode cX1_allShares 26 = .ok (.ireturn, 1) := by decide +kernel
set_option maxRecDepth 20000 in
theorem ggX1_hasParent_X1_isPerson : GoodIn wsX1_hasParent wsX1_isPerson := goodIn_r _ [7, 8, 9, 10, 6, 11, 16, 17, 18, 19, 20, 21, 22, 23, 24, 25, 26, 27, 28] (by decide +kernel) (by decide +kernel)
set_option maxRecDepth 20000 in
theorem gX1_hasParent_X1_isPerson : GoodIn wsX1_hasParent (wsV RX1 73 RX1 yX1_isPerson wsX1_isPerson) := goodIn_app (goodIn_of _ (by decide +kernel)) ggX1_hasParent_X1_isPerson
set_option maxRecDepth 20000 in
theorem ggX1_hasParent_X1_isNot : GoodIn wsX1_hasParent wsX1_isNot := goodIn_r _ [15, 1, 16, 17, 18, 19, 20, 21, 22, 23, 24, 25, 26, 27, 28] (by decide +kernel) (by decide +kernel)
set_option maxRecDepth 20000 in
theorem gX1_hasParent_X1_isNot : GoodIn wsX1_hasParent (wsV RX1 126 RX1 yX1_isNot wsX1_isNot) := goodIn_app (goodIn_of _ (by decide +kernel)) ggX1_hasParent_X1_isNot
theorem dX1_hasParent_0 : decode cX1_hasParent 0 = .ok (.aload_n 0, 1) := by decide +kernel
theorem dX1_hasParent_1 : decode cX1_hasParent 1 = .ok (.iconst 0, 1) := by decide +kernel
theorem dX1_hasParent_2 : decode cX1_hasParent 2 = .ok (.putfield 35, 3) := by decide +kernel
theorem dX1_hasParent_5 : decode cX1_hasParent 5 = .ok (.aload_n 0, 1) := by decide +kernel
theorem dX1_hasParent_6 : decode cX1_hasParent 6 = .ok (.iload_n 1, 1) := by decide +kernel
theorem dX1_hasParent_7 : decode cX1_hasParent 7 = .ok (.invokevirtual 73, 3) := by decide +kernel
theorem dX1_hasParent_10 : decode cX1_hasParent 10 = .ok (.ifCond .eq 21, 3) := by decide +kernel
theorem dX1_hasParent_13 : decode cX1_hasParent 13 = .ok (.aload_n 0, 1) := by decide +kernel
theorem dX1_hasParent_14 : decode cX1_hasParent 14 = .ok (.getfield 25, 3) := by decide +kernel
theorem dX1_hasParent_17 : decode cX1_hasParent 17 = .ok (.iload_n 1, 1) := by decide +kernel
theorem dX1_hasParent_18 : decode cX1_hasParent 18 = .ok (.iaload, 1) := by decide +kernel
theorem dX1_hasParent_19 : decode cX1_hasParent 19 = .ok (.iconst (-1), 1) := by decide +kernel
theorem dX1_hasParent_20 : decode cX1_hasParent 20 = .ok (.if_icmp .eq 7, 3) := by decide +kernel
theorem dX1_hasParent_23 : decode cX1_hasParent 23 = .ok (.iconst 1, 1) := by decide +kernel
theorem dX1_hasParent_24 : decode cX1_hasParent 24 = .ok (.goto 12, 3) := by decide +kernel
theorem dX1_hasParent_27 : decode cX1_hasParent 27 = .ok (.iconst 0, 1) := by decide +kernel
theorem dX1_hasParent_28 : decode cX1_hasParent 28 = .ok (.goto 8, 3) := by decide +kernel
theorem dX1_hasParent_31 : decode cX1_hasParent 31 = .ok (.aload_n 0, 1) := by decide +kernel
theorem dX1_hasParent_32 : decode cX1_hasParent 32 = .ok (.iconst 1, 1) := by decide +kernel
theorem dX1_hasParent_33 : decode cX1_hasParent 33 = .ok (.invokevirtual 126, 3) := by decide +kernel
theorem dX1_hasParent_36 : decode cX1_hasParent 36 = .ok (.ireturn, 1) := by decide +kernel
set_option maxRecDepth 20000 in
theorem ggX1_parent_X1_isPerson : GoodIn wsX1_parent wsX1_isPerson := goodIn_r _ [7, 8, 9, 10, 6, 11, 16, 17, 18, 19, 20, 21, 22, 23, 24, 25, 26, 27, 28] (by decide +kernel) (by decide +kernel)
set_option maxRecDepth 20000 in
theorem gX1_parent_X1_isPerson : GoodIn wsX1_parent (wsV RX1 73 RX1 yX1_isPerson wsX1_isPerson) := goodIn_app (goodIn_of _ (by decide +kernel)) ggX1_parent_X1_isPerson
set_option maxRecDepth 20000 in
theorem ggX1_parent_X1_no : GoodIn wsX1_parent wsX1_no := goodIn_r _ [15, 1, 16, 17, 18, 19, 20, 21, 22, 23, 24, 25, 26, 27, 28] (by decide +kernel) (by decide +kernel)
set_option maxRecDepth 20000 in
theorem gX1_parent_X1_no : GoodIn wsX1_parent (wsV RX1 66 RX1 yX1_no wsX1_no) := goodIn_app (goodIn_of _ (by decide +kernel)) ggX1_parent_X1_no
theorem dX1_parent_0 : decode cX1_parent 0 = .ok (.aload_n 0, 1) := by decide +kernel
theorem dX1_parent_1 : decode cX1_parent 1 = .ok (.iconst 0, 1) := by decide +kernel
theorem dX1_parent_2 : decode cX1_parent 2 = .ok (.putfield 35, 3) := by decide +kernel
theorem dX1_parent_5 : decode cX1_parent 5 = .ok (.aload_n 0, 1) := by decide +kernel
theorem dX1_parent_6 : decode cX1_parent 6 = .ok (.iload_n 1, 1) := by decide +kernel
theorem dX1_parent_7 : decode cX1_parent 7 = .ok (.invokevirtual 73, 3) := by decide +kernel
theorem dX1_parent_10 : decode cX1_parent 10 = .ok (.ifCond .ne 9, 3) := by decide +kernel
theorem dX1_parent_13 : decode cX1_parent 13 = .ok (.aload_n 0, 1) := by decide +kernel
theorem dX1_parent_14 : decode cX1_parent 14 = .ok (.iconst 1, 1) := by decide +kernel
theorem dX1_parent_15 : decode cX1_parent 15 = .ok (.invokevirtual 66, 3) := by decide +kernel
theorem dX1_parent_18 : decode cX1_parent 18 = .ok (.ireturn, 1) := by decide +kernel
theorem dX1_parent_19 : decode cX1_parent 19 = .ok (.aload_n 0, 1) := by decide +kernel
theorem dX1_parent_20 : decode cX1_parent 20 = .ok (.getfield 25, 3) := by decide +kernel
theorem dX1_parent_23 : decode cX1_parent 23 = .ok (.iload_n 1, 1) := by decide +kernel
theorem dX1_parent_24 : decode cX1_parent 24 = .ok (.iaload, 1) := by decide +kernel
theorem dX1_parent_25 : decode cX1_parent 25 = .ok (.iconst (-1), 1) := by decide +kernel
theorem dX1_parent_26 : decode cX1_parent 26 = .ok (.if_icmp .ne 11, 3) := by decide +kernel
theorem dX1_parent_29 : decode cX1_parent 29 = .ok (.aload_n 0, 1) := by decide +kernel
theorem dX1_parent_30 : decode cX1_parent 30 = .ok (.iconst 2, 1) := by decide +kernel
theorem dX1_parent_31 : decode cX1_parent 31 = .ok (.invokevirtual 66, 3) := by decide +kernel
theorem dX1_parent_34 : decode cX1_parent 34 = .ok (.goto 9, 3) := by decide +kernel
theorem dX1_parent_37 : decode cX1_parent 37 = .ok (.aload_n 0, 1) := by decide +kernel
theorem dX1_parent_38 : decode cX1_parent 38 = .ok (.getfield 25, 3) := by decide +kernel
theorem dX1_parent_41 : decode cX1_parent 41 = .ok (.iload_n 1, 1) := by decide +kernel
theorem dX1_parent_42 : decode cX1_parent 42 = .ok (.iaload, 1) := by decide +kernel
theorem dX1_parent_43 : decode cX1_parent 43 = .ok (.ireturn, 1) := by decide +kernel
theorem dX1_childrenOf_0 : decode cX1_childrenOf 0 = .ok (.iconst 0, 1) := by decide +kernel
theorem dX1_childrenOf_1 : decode cX1_childrenOf 1 = .ok (.istore_n 2, 1) := by decide +kernel
theorem dX1_childrenOf_2 : decode cX1_childrenOf 2 = .ok (.iconst 0, 1) := by decide +kernel
theorem dX1_childrenOf_3 : decode cX1_childrenOf 3 = .ok (.istore_n 3, 1) := by decide +kernel
theorem dX1_childrenOf_4 : decode cX1_childrenOf 4 = .ok (.iload_n 3, 1) := by decide +kernel
theorem dX1_childrenOf_5 : decode cX1_childrenOf 5 = .ok (.aload_n 0, 1) := by decide +kernel
theorem dX1_childrenOf_6 : decode cX1_childrenOf 6 = .ok (.getfield 50, 3) := by decide +kernel
theorem dX1_childrenOf_9 : decode cX1_childrenOf 9 = .ok (.if_icmp .ge 27, 3) := by decide +kernel
theorem dX1_childrenOf_12 : decode cX1_childrenOf 12 = .ok (.iload_n 2, 1) := by decide +kernel
theorem dX1_childrenOf_13 : decode cX1_childrenOf 13 = .ok (.aload_n 0, 1) := by decide +kernel
theorem dX1_childrenOf_14 : decode cX1_childrenOf 14 = .ok (.getfield 25, 3) := by decide +kernel
theorem dX1_childrenOf_17 : decode cX1_childrenOf 17 = .ok (.iload_n 3, 1) := by decide +kernel
theorem dX1_childrenOf_18 : decode cX1_childrenOf 18 = .ok (.iaload, 1) := by decide +kernel
theorem dX1_childrenOf_19 : decode cX1_childrenOf 19 = .ok (.iload_n 1, 1) := by decide +kernel
theorem dX1_childrenOf_20 : decode cX1_childrenOf 20 = .ok (.if_icmp .ne 7, 3) := by decide +kernel
theorem dX1_childrenOf_23 : decode cX1_childrenOf 23 = .ok (.iconst 1, 1) := by decide +kernel
theorem dX1_childrenOf_24 : decode cX1_childrenOf 24 = .ok (.goto 4, 3) := by decide +kernel
theorem dX1_childrenOf_27 : decode cX1_childrenOf 27 = .ok (.iconst 0, 1) := by decide +kernel
theorem dX1_childrenOf_28 : decode cX1_childrenOf 28 = .ok (.iadd, 1) := by decide +kernel
theorem dX1_childrenOf_29 : decode cX1_childrenOf 29 = .ok (.istore_n 2, 1) := by decide +kernel
theorem dX1_childrenOf_30 : decode cX1_childrenOf 30 = .ok (.iinc 3 1, 3) := by decide +kernel
theorem dX1_childrenOf_33 : decode cX1_childrenOf 33 = .ok (.goto (-29), 3) := by decide +kernel
theorem dX1_childrenOf_36 : decode cX1_childrenOf 36 = .ok (.iload_n 2, 1) := by decide +kernel
theorem dX1_childrenOf_37 : decode cX1_childrenOf 37 = .ok (.ireturn, 1) := by decide +kernel
set_option maxRecDepth 20000 in
theorem ggX1_children_X1_isPerson : GoodIn wsX1_children wsX1_isPerson := goodIn_r _ [6, 7, 8, 9, 5, 10, 20, 21, 22, 23, 24, 25, 26, 27, 28, 29, 30, 31, 32] (by decide +kernel) (by decide +kernel)
set_option maxRecDepth 20000 in
theorem gX1_children_X1_isPerson : GoodIn wsX1_children (wsV RX1 73 RX1 yX1_isPerson wsX1_isPerson) := goodIn_app (goodIn_of _ (by decide +kernel)) ggX1_children_X1_isPerson
set_option maxRecDepth 20000 in
theorem ggX1_children_X1_childrenOf : GoodIn wsX1_children wsX1_childrenOf := goodIn_r _ [14, 7, 15, 20, 21, 22, 23, 24, 25, 26, 27, 28, 29, 30, 31, 32] (by decide +kernel) (by decide +kernel)
set_option maxRecDepth 20000 in
theorem gX1_children_X1_childrenOf : GoodIn wsX1_children (wsV RX1 136 RX1 yX1_childrenOf wsX1_childrenOf) := goodIn_app (goodIn_of _ (by decide +kernel)) ggX1_children_X1_childrenOf
set_option maxRecDepth 20000 in
theorem ggX1_children_X1_no : GoodIn wsX1_children wsX1_no := goodIn_r _ [19, 1, 20, 21, 22, 23, 24, 25, 26, 27, 28, 29, 30, 31, 32] (by decide +kernel) (by decide +kernel)
set_option maxRecDepth 20000 in
theorem gX1_children_X1_no : GoodIn wsX1_children (wsV RX1 66 RX1 yX1_no wsX1_no) := goodIn_app (goodIn_of _ (by decide +kernel)) ggX1_children_X1_no
theorem dX1_children_0 : decode cX1_children 0 = .ok (.aload_n 0, 1) := by decide +kernel
theorem dX1_children_1 : decode cX1_children 1 = .ok (.iconst 0, 1) := by decide +kernel
theorem dX1_children_2 : decode cX1_children 2 = .ok (.putfield 35, 3) := by decide +kernel
theorem dX1_children_5 : decode cX1_children 5 = .ok (.aload_n 0, 1) := by decide +kernel
theorem dX1_children_6 : decode cX1_children 6 = .ok (.iload_n 1, 1) := by decide +kernel
theorem dX1_children_7 : decode cX1_children 7 = .ok (.invokevirtual 73, 3) := by decide +kernel
theorem dX1_children_10 : decode cX1_children 10 = .ok (.ifCond .eq 11, 3) := by decide +kernel
theorem dX1_children_13 : decode cX1_children 13 = .ok (.aload_n 0, 1) := by decide +kernel
theorem dX1_children_14 : decode cX1_children 14 = .ok (.iload_n 1, 1) := by decide +kernel
theorem dX1_children_15 : decode cX1_children 15 = .ok (.invokevirtual 136, 3) := by decide +kernel
theorem dX1_children_18 : decode cX1_children 18 = .ok (.goto 8, 3) := by decide +kernel
theorem dX1_children_21 : decode cX1_children 21 = .ok (.aload_n 0, 1) := by decide +kernel
theorem dX1_children_22 : decode cX1_children 22 = .ok (.iconst 1, 1) := by decide +kernel
theorem dX1_children_23 : decode cX1_children 23 = .ok (.invokevirtual 66, 3) := by decide +kernel
theorem dX1_children_26 : decode cX1_children 26 = .ok (.ireturn, 1) := by decide +kernel
set_option maxRecDepth 20000 in
theorem ggX1_heirsOf_X1_lookForHeirs : GoodIn wsX1_heirsOf wsX1_lookForHeirs := goodIn_r _ [6, 1, 7, 8, 9, 10, 11, 12, 5, 13, 14, 15, 16, 17, 18, 19, 20, 21, 22, 23, 24, 25, 26, 27] (by decide +kernel) (by decide +kernel)
set_option maxRecDepth 20000 in
theorem gX1_heirsOf_X1_lookForHeirs : GoodIn wsX1_heirsOf (wsV RX1 120 RX1 yX1_lookForHeirs wsX1_lookForHeirs) := goodIn_app (goodIn_of _ (by decide +kernel)) ggX1_heirsOf_X1_lookForHeirs
theorem dX1_heirsOf_0 : decode cX1_heirsOf 0 = .ok (.aload_n 0, 1) := by decide +kernel
theorem dX1_heirsOf_1 : decode cX1_heirsOf 1 = .ok (.iload_n 1, 1) := by decide +kernel
theorem dX1_heirsOf_2 : decode cX1_heirsOf 2 = .ok (.invokevirtual 120, 3) := by decide +kernel
theorem dX1_heirsOf_5 : decode cX1_heirsOf 5 = .ok (.aload_n 0, 1) := by decide +kernel
theorem dX1_heirsOf_6 : decode cX1_heirsOf 6 = .ok (.getfield 113, 3) := by decide +kernel
theorem dX1_heirsOf_9 : decode cX1_heirsOf 9 = .ok (.ireturn, 1) := by decide +kernel
set_option maxRecDepth 20000 in
theorem ggX1_heirs_X1_isPerson : GoodIn wsX1_heirs wsX1_isPerson := goodIn_r _ [6, 7, 8, 9, 5, 10, 31, 32, 33, 34, 35, 36, 37, 38, 39, 40, 41, 42, 43] (by decide +kernel) (by decide +kernel)
set_option maxRecDepth 20000 in
theorem gX1_heirs_X1_isPerson : GoodIn wsX1_heirs (wsV RX1 73 RX1 yX1_isPerson wsX1_isPerson) := goodIn_app (goodIn_of _ (by decide +kernel)) ggX1_heirs_X1_isPerson
set_option maxRecDepth 20000 in
theorem ggX1_heirs_X1_heirsOf : GoodIn wsX1_heirs wsX1_heirsOf := goodIn_r _ [14, 15, 16, 17, 18, 5, 19, 7, 20, 21, 22, 23, 24, 25, 26, 31, 32, 33, 34, 35, 36, 37, 38, 39, 40, 41, 42, 43] (by decide +kernel) (by decide +kernel)
set_option maxRecDepth 20000 in
theorem gX1_heirs_X1_heirsOf : GoodIn wsX1_heirs (wsV RX1 139 RX1 yX1_heirsOf wsX1_heirsOf) := goodIn_app (goodIn_of _ (by decide +kernel)) ggX1_heirs_X1_heirsOf
set_option maxRecDepth 20000 in
theorem ggX1_heirs_X1_no : GoodIn wsX1_heirs wsX1_no := goodIn_r _ [30, 1, 31, 32, 33, 34, 35, 36, 37, 38, 39, 40, 41, 42, 43] (by decide +kernel) (by decide +kernel)
set_option maxRecDepth 20000 in
theorem gX1_heirs_X1_no : GoodIn wsX1_heirs (wsV RX1 66 RX1 yX1_no wsX1_no) := goodIn_app (goodIn_of _ (by decide +kernel)) ggX1_heirs_X1_no
theorem dX1_heirs_0 : decode cX1_heirs 0 = .ok (.aload_n 0, 1) := by decide +kernel
theorem dX1_heirs_1 : decode cX1_heirs 1 = .ok (.iconst 0, 1) := by decide +kernel
theorem dX1_heirs_2 : decode cX1_heirs 2 = .ok (.putfield 35, 3) := by decide +kernel
theorem dX1_heirs_5 : decode cX1_heirs 5 = .ok (.aload_n 0, 1) := by decide +kernel
theorem dX1_heirs_6 : decode cX1_heirs 6 = .ok (.iload_n 1, 1) := by decide +kernel
theorem dX1_heirs_7 : decode cX1_heirs 7 = .ok (.invokevirtual 73, 3) := by decide +kernel
theorem dX1_heirs_10 : decode cX1_heirs 10 = .ok (.ifCond .eq 11, 3) := by decide +kernel
theorem dX1_heirs_13 : decode cX1_heirs 13 = .ok (.aload_n 0, 1) := by decide +kernel
theorem dX1_heirs_14 : decode cX1_heirs 14 = .ok (.iload_n 1, 1) := by decide +kernel
theorem dX1_heirs_15 : decode cX1_heirs 15 = .ok (.invokevirtual 139, 3) := by decide +kernel
theorem dX1_heirs_18 : decode cX1_heirs 18 = .ok (.goto 8, 3) := by decide +kernel
theorem dX1_heirs_21 : decode cX1_heirs 21 = .ok (.aload_n 0, 1) := by decide +kernel
theorem dX1_heirs_22 : decode cX1_heirs 22 = .ok (.iconst 1, 1) := by decide +kernel
theorem dX1_heirs_23 : decode cX1_heirs 23 = .ok (.invokevirtual 66, 3) := by decide +kernel
theorem dX1_heirs_26 : decode cX1_heirs 26 = .ok (.ireturn, 1) := by decide +kernel
set_option maxRecDepth 20000 in
theorem ggX1_heir_X1_isPerson : GoodIn wsX1_heir wsX1_isPerson := goodIn_r _ [7, 8, 9, 10, 6, 11, 31, 32, 33, 34, 35, 36, 37, 38, 39, 40, 41, 42, 43] (by decide +kernel) (by decide +kernel)
set_option maxRecDepth 20000 in
theorem gX1_heir_X1_isPerson : GoodIn wsX1_heir (wsV RX1 73 RX1 yX1_isPerson wsX1_isPerson) := goodIn_app (goodIn_of _ (by decide +kernel)) ggX1_heir_X1_isPerson
set_option maxRecDepth 20000 in
theorem ggX1_heir_X1_heirsOf : GoodIn wsX1_heir wsX1_heirsOf := goodIn_r _ [15, 16, 17, 18, 19, 6, 20, 8, 21, 22, 23, 24, 25, 26, 2, 31, 32, 33, 34, 35, 36, 37, 38, 39, 40, 41, 42, 43] (by decide +kernel) (by decide +kernel)
set_option maxRecDepth 20000 in
theorem gX1_heir_X1_heirsOf : GoodIn wsX1_heir (wsV RX1 139 RX1 yX1_heirsOf wsX1_heirsOf) := goodIn_app (goodIn_of _ (by decide +kernel)) ggX1_heir_X1_heirsOf
set_option maxRecDepth 20000 in
theorem ggX1_heir_X1_isIn : GoodIn wsX1_heir wsX1_isIn := goodIn_r _ [11] (by decide +kernel) (by decide +kernel)
set_option maxRecDepth 20000 in
theorem gX1_heir_X1_isIn : GoodIn wsX1_heir (va_wsS RX1 42 yX1_isIn wsX1_isIn) := goodIn_app (goodIn_of _ (by decide +kernel)) ggX1_heir_X1_isIn
set_option maxRecDepth 20000 in
theorem ggX1_heir_X1_no : GoodIn wsX1_heir wsX1_no := goodIn_r _ [30, 1, 31, 32, 33, 34, 35, 36, 37, 38, 39, 40, 41, 42, 43] (by decide +kernel) (by decide +kernel)
set_option maxRecDepth 20000 in
theorem gX1_heir_X1_no : GoodIn wsX1_heir (wsV RX1 66 RX1 yX1_no wsX1_no) := goodIn_app (goodIn_of _ (by decide +kernel)) ggX1_heir_X1_no
theorem dX1_heir_0 : decode cX1_heir 0 = .ok (.aload_n 0, 1) := by decide +kernel
theorem dX1_heir_1 : decode cX1_heir 1 = .ok (.iconst 0, 1) := by decide +kernel
theorem dX1_heir_2 : decode cX1_heir 2 = .ok (.putfield 35, 3) := by decide +kernel
theorem dX1_heir_5 : decode cX1_heir 5 = .ok (.aload_n 0, 1) := by decide +kernel
theorem dX1_heir_6 : decode cX1_heir 6 = .ok (.iload_n 1, 1) := by decide +kernel
theorem dX1_heir_7 : decode cX1_heir 7 = .ok (.invokevirtual 73, 3) := by decide +kernel
theorem dX1_heir_10 : decode cX1_heir 10 = .ok (.ifCond .eq 27, 3) := by decide +kernel
theorem dX1_heir_13 : decode cX1_heir 13 = .ok (.iload_n 2, 1) := by decide +kernel
theorem dX1_heir_14 : decode cX1_heir 14 = .ok (.iconst 0, 1) := by decide +kernel
theorem dX1_heir_15 : decode cX1_heir 15 = .ok (.aload_n 0, 1) := by decide +kernel
theorem dX1_heir_16 : decode cX1_heir 16 = .ok (.iload_n 1, 1) := by decide +kernel
theorem dX1_heir_17 : decode cX1_heir 17 = .ok (.invokevirtual 139, 3) := by decide +kernel
theorem dX1_heir_20 : decode cX1_heir 20 = .ok (.iconst 1, 1) := by decide +kernel
theorem dX1_heir_21 : decode cX1_heir 21 = .ok (.isub, 1) := by decide +kernel
theorem dX1_heir_22 : decode cX1_heir 22 = .ok (.invokestatic 42, 3) := by decide +kernel
theorem dX1_heir_25 : decode cX1_heir 25 = .ok (.ifCond .eq 12, 3) := by decide +kernel
theorem dX1_heir_28 : decode cX1_heir 28 = .ok (.aload_n 0, 1) := by decide +kernel
theorem dX1_heir_29 : decode cX1_heir 29 = .ok (.getfield 32, 3) := by decide +kernel
theorem dX1_heir_32 : decode cX1_heir 32 = .ok (.iload_n 2, 1) := by decide +kernel
theorem dX1_heir_33 : decode cX1_heir 33 = .ok (.iaload, 1) := by decide +kernel
theorem dX1_heir_34 : decode cX1_heir 34 = .ok (.goto 8, 3) := by decide +kernel
theorem dX1_heir_37 : decode cX1_heir 37 = .ok (.aload_n 0, 1) := by decide +kernel
theorem dX1_heir_38 : decode cX1_heir 38 = .ok (.iconst 1, 1) := by decide +kernel
theorem dX1_heir_39 : decode cX1_heir 39 = .ok (.invokevirtual 66, 3) := by decide +kernel
theorem dX1_heir_42 : decode cX1_heir 42 = .ok (.ireturn, 1) := by decide +kernel
theorem dX1_crownCoins_0 : decode cX1_crownCoins 0 = .ok (.aload_n 0, 1) := by decide +kernel
theorem dX1_crownCoins_1 : decode cX1_crownCoins 1 = .ok (.iconst 0, 1) := by decide +kernel
theorem dX1_crownCoins_2 : decode cX1_crownCoins 2 = .ok (.putfield 35, 3) := by decide +kernel
theorem dX1_crownCoins_5 : decode cX1_crownCoins 5 = .ok (.aload_n 0, 1) := by decide +kernel
theorem dX1_crownCoins_6 : decode cX1_crownCoins 6 = .ok (.getfield 110, 3) := by decide +kernel
theorem dX1_crownCoins_9 : decode cX1_crownCoins 9 = .ok (.ireturn, 1) := by decide +kernel
set_option maxRecDepth 20000 in
theorem ggX1_price_X1_isPerson : GoodIn wsX1_price wsX1_isPerson := goodIn_r _ [6, 7, 8, 9, 5, 10, 38, 39, 40, 41, 42, 43, 44, 45, 46, 47, 48, 49, 50] (by decide +kernel) (by decide +kernel)
set_option maxRecDepth 20000 in
theorem gX1_price_X1_isPerson : GoodIn wsX1_price (wsV RX1 73 RX1 yX1_isPerson wsX1_isPerson) := goodIn_app (goodIn_of _ (by decide +kernel)) ggX1_price_X1_isPerson
set_option maxRecDepth 20000 in
theorem ggX1_price_X1_isWatch : GoodIn wsX1_price wsX1_isWatch := goodIn_r _ [14, 15, 16, 17, 5, 18, 19, 8, 9, 10, 38, 39, 40, 41, 42, 43, 44, 45, 46, 47, 48, 49, 50] (by decide +kernel) (by decide +kernel)
set_option maxRecDepth 20000 in
theorem gX1_price_X1_isWatch : GoodIn wsX1_price (wsV RX1 80 RX1 yX1_isWatch wsX1_isWatch) := goodIn_app (goodIn_of _ (by decide +kernel)) ggX1_price_X1_isWatch
set_option maxRecDepth 20000 in
theorem ggX1_price_X1_priceOf : GoodIn wsX1_price wsX1_priceOf := goodIn_r _ [23, 24, 25, 26, 5, 27, 28, 29, 30, 31, 32, 33, 38, 39, 40, 41, 42, 43, 44, 45, 46, 47, 48, 49, 50] (by decide +kernel) (by decide +kernel)
set_option maxRecDepth 20000 in
theorem gX1_price_X1_priceOf : GoodIn wsX1_price (wsV RX1 90 RX1 yX1_priceOf wsX1_priceOf) := goodIn_app (goodIn_of _ (by decide +kernel)) ggX1_price_X1_priceOf
set_option maxRecDepth 20000 in
theorem ggX1_price_X1_no : GoodIn wsX1_price wsX1_no := goodIn_r _ [37, 1, 38, 39, 40, 41, 42, 43, 44, 45, 46, 47, 48, 49, 50] (by decide +kernel) (by decide +kernel)
set_option maxRecDepth 20000 in
theorem gX1_price_X1_no : GoodIn wsX1_price (wsV RX1 66 RX1 yX1_no wsX1_no) := goodIn_app (goodIn_of _ (by decide +kernel)) ggX1_price_X1_no
theorem dX1_price_0 : decode cX1_price 0 = .ok (.aload_n 0, 1) := by decide +kernel
theorem dX1_price_1 : decode cX1_price 1 = .ok (.iconst 0, 1) := by decide +kernel
theorem dX1_price_2 : decode cX1_price 2 = .ok (.putfield 35, 3) := by decide +kernel
theorem dX1_price_5 : decode cX1_price 5 = .ok (.aload_n 0, 1) := by decide +kernel
theorem dX1_price_6 : decode cX1_price 6 = .ok (.iload_n 1, 1) := by decide +kernel
theorem dX1_price_7 : decode cX1_price 7 = .ok (.invokevirtual 73, 3) := by decide +kernel
theorem dX1_price_10 : decode cX1_price 10 = .ok (.ifCond .eq 22, 3) := by decide +kernel
theorem dX1_price_13 : decode cX1_price 13 = .ok (.aload_n 0, 1) := by decide +kernel
theorem dX1_price_14 : decode cX1_price 14 = .ok (.iload_n 2, 1) := by decide +kernel
theorem dX1_price_15 : decode cX1_price 15 = .ok (.iload_n 3, 1) := by decide +kernel
theorem dX1_price_16 : decode cX1_price 16 = .ok (.invokevirtual 80, 3) := by decide +kernel
theorem dX1_price_19 : decode cX1_price 19 = .ok (.ifCond .eq 13, 3) := by decide +kernel
theorem dX1_price_22 : decode cX1_price 22 = .ok (.aload_n 0, 1) := by decide +kernel
theorem dX1_price_23 : decode cX1_price 23 = .ok (.iload_n 1, 1) := by decide +kernel
theorem dX1_price_24 : decode cX1_price 24 = .ok (.iload_n 2, 1) := by decide +kernel
theorem dX1_price_25 : decode cX1_price 25 = .ok (.iload_n 3, 1) := by decide +kernel
theorem dX1_price_26 : decode cX1_price 26 = .ok (.invokevirtual 90, 3) := by decide +kernel
theorem dX1_price_29 : decode cX1_price 29 = .ok (.goto 8, 3) := by decide +kernel
theorem dX1_price_32 : decode cX1_price 32 = .ok (.aload_n 0, 1) := by decide +kernel
theorem dX1_price_33 : decode cX1_price 33 = .ok (.iconst 1, 1) := by decide +kernel
theorem dX1_price_34 : decode cX1_price 34 = .ok (.invokevirtual 66, 3) := by decide +kernel
theorem dX1_price_37 : decode cX1_price 37 = .ok (.ireturn, 1) := by decide +kernel
set_option maxRecDepth 20000 in
theorem ggX1_canBuy_X1_isPerson : GoodIn wsX1_canBuy wsX1_isPerson := goodIn_r _ [6, 7, 8, 9, 5, 10, 48, 49, 50, 51, 52, 53, 54, 55, 56, 57, 58, 59, 60] (by decide +kernel) (by decide +kernel)
set_option maxRecDepth 20000 in
theorem gX1_canBuy_X1_isPerson : GoodIn wsX1_canBuy (wsV RX1 73 RX1 yX1_isPerson wsX1_isPerson) := goodIn_app (goodIn_of _ (by decide +kernel)) ggX1_canBuy_X1_isPerson
set_option maxRecDepth 20000 in
theorem ggX1_canBuy_X1_isWatch : GoodIn wsX1_canBuy wsX1_isWatch := goodIn_r _ [14, 15, 16, 17, 5, 18, 19, 8, 9, 10, 48, 49, 50, 51, 52, 53, 54, 55, 56, 57, 58, 59, 60] (by decide +kernel) (by decide +kernel)
set_option maxRecDepth 20000 in
theorem gX1_canBuy_X1_isWatch : GoodIn wsX1_canBuy (wsV RX1 80 RX1 yX1_isWatch wsX1_isWatch) := goodIn_app (goodIn_of _ (by decide +kernel)) ggX1_canBuy_X1_isWatch
set_option maxRecDepth 20000 in
theorem ggX1_canBuy_X1_buys : GoodIn wsX1_canBuy wsX1_buys := goodIn_r _ [23, 24, 25, 26, 27, 28, 29, 5, 30, 31, 32, 33, 34, 35, 36, 37, 38, 39, 40, 41, 42, 43, 7, 48, 49, 50, 51, 52, 53, 54, 55, 56, 57, 58, 59, 60] (by decide +kernel) (by decide +kernel)
set_option maxRecDepth 20000 in
theorem gX1_canBuy_X1_buys : GoodIn wsX1_canBuy (wsV RX1 97 RX1 yX1_buys wsX1_buys) := goodIn_app (goodIn_of _ (by decide +kernel)) ggX1_canBuy_X1_buys
set_option maxRecDepth 20000 in
theorem ggX1_canBuy_X1_isNot : GoodIn wsX1_canBuy wsX1_isNot := goodIn_r _ [47, 1, 48, 49, 50, 51, 52, 53, 54, 55, 56, 57, 58, 59, 60] (by decide +kernel) (by decide +kernel)
set_option maxRecDepth 20000 in
theorem gX1_canBuy_X1_isNot : GoodIn wsX1_canBuy (wsV RX1 126 RX1 yX1_isNot wsX1_isNot) := goodIn_app (goodIn_of _ (by decide +kernel)) ggX1_canBuy_X1_isNot
theorem dX1_canBuy_0 : decode cX1_canBuy 0 = .ok (.aload_n 0, 1) := by decide +kernel
theorem dX1_canBuy_1 : decode cX1_canBuy 1 = .ok (.iconst 0, 1) := by decide +kernel
theorem dX1_canBuy_2 : decode cX1_canBuy 2 = .ok (.putfield 35, 3) := by decide +kernel
theorem dX1_canBuy_5 : decode cX1_canBuy 5 = .ok (.aload_n 0, 1) := by decide +kernel
theorem dX1_canBuy_6 : decode cX1_canBuy 6 = .ok (.iload_n 1, 1) := by decide +kernel
theorem dX1_canBuy_7 : decode cX1_canBuy 7 = .ok (.invokevirtual 73, 3) := by decide +kernel
theorem dX1_canBuy_10 : decode cX1_canBuy 10 = .ok (.ifCond .eq 33, 3) := by decide +kernel
theorem dX1_canBuy_13 : decode cX1_canBuy 13 = .ok (.aload_n 0, 1) := by decide +kernel
theorem dX1_canBuy_14 : decode cX1_canBuy 14 = .ok (.iload_n 2, 1) := by decide +kernel
theorem dX1_canBuy_15 : decode cX1_canBuy 15 = .ok (.invokevirtual 73, 3) := by decide +kernel
theorem dX1_canBuy_18 : decode cX1_canBuy 18 = .ok (.ifCond .eq 25, 3) := by decide +kernel
theorem dX1_canBuy_21 : decode cX1_canBuy 21 = .ok (.aload_n 0, 1) := by decide +kernel
theorem dX1_canBuy_22 : decode cX1_canBuy 22 = .ok (.iload_n 3, 1) := by decide +kernel
theorem dX1_canBuy_23 : decode cX1_canBuy 23 = .ok (.iload 4, 2) := by decide +kernel
theorem dX1_canBuy_25 : decode cX1_canBuy 25 = .ok (.invokevirtual 80, 3) := by decide +kernel
theorem dX1_canBuy_28 : decode cX1_canBuy 28 = .ok (.ifCond .eq 15, 3) := by decide +kernel
theorem dX1_canBuy_31 : decode cX1_canBuy 31 = .ok (.aload_n 0, 1) := by decide +kernel
theorem dX1_canBuy_32 : decode cX1_canBuy 32 = .ok (.iload_n 1, 1) := by decide +kernel
theorem dX1_canBuy_33 : decode cX1_canBuy 33 = .ok (.iload_n 2, 1) := by decide +kernel
theorem dX1_canBuy_34 : decode cX1_canBuy 34 = .ok (.iload_n 3, 1) := by decide +kernel
theorem dX1_canBuy_35 : decode cX1_canBuy 35 = .ok (.iload 4, 2) := by decide +kernel
theorem dX1_canBuy_37 : decode cX1_canBuy 37 = .ok (.invokevirtual 97, 3) := by decide +kernel
theorem dX1_canBuy_40 : decode cX1_canBuy 40 = .ok (.goto 8, 3) := by decide +kernel
theorem dX1_canBuy_43 : decode cX1_canBuy 43 = .ok (.aload_n 0, 1) := by decide +kernel
theorem dX1_canBuy_44 : decode cX1_canBuy 44 = .ok (.iconst 1, 1) := by decide +kernel
theorem dX1_canBuy_45 : decode cX1_canBuy 45 = .ok (.invokevirtual 126, 3) := by decide +kernel
theorem dX1_canBuy_48 : decode cX1_canBuy 48 = .ok (.ireturn, 1) := by decide +kernel
set_option maxRecDepth 20000 in
theorem ggX1_inheritance_X1_isPerson : GoodIn wsX1_inheritance wsX1_isPerson := goodIn_r _ [9, 10, 11, 12, 8, 13, 44, 45, 46, 47, 48, 49, 50, 51, 52, 53, 54, 55, 56] (by decide +kernel) (by decide +kernel)
set_option maxRecDepth 20000 in
theorem gX1_inheritance_X1_isPerson : GoodIn wsX1_inheritance (wsV RX1 73 RX1 yX1_isPerson wsX1_isPerson) := goodIn_app (goodIn_of _ (by decide +kernel)) ggX1_inheritance_X1_isPerson
set_option maxRecDepth 20000 in
theorem ggX1_inheritance_X1_isWatch : GoodIn wsX1_inheritance wsX1_isWatch := goodIn_r _ [17, 18, 19, 20, 8, 21, 22, 11, 12, 13, 44, 45, 46, 47, 48, 49, 50, 51, 52, 53, 54, 55, 56] (by decide +kernel) (by decide +kernel)
set_option maxRecDepth 20000 in
theorem gX1_inheritance_X1_isWatch : GoodIn wsX1_inheritance (wsV RX1 80 RX1 yX1_isWatch wsX1_isWatch) := goodIn_app (goodIn_of _ (by decide +kernel)) ggX1_inheritance_X1_isWatch
set_option maxRecDepth 20000 in
theorem ggX1_inheritance_X1_no : GoodIn wsX1_inheritance wsX1_no := goodIn_r _ [26, 1, 44, 45, 46, 47, 48, 49, 50, 51, 52, 53, 54, 55, 56] (by decide +kernel) (by decide +kernel)
set_option maxRecDepth 20000 in
theorem gX1_inheritance_X1_no : GoodIn wsX1_inheritance (wsV RX1 66 RX1 yX1_no wsX1_no) := goodIn_app (goodIn_of _ (by decide +kernel)) ggX1_inheritance_X1_no
set_option maxRecDepth 20000 in
theorem ggX1_inheritance_X1_lookForHeirs : GoodIn wsX1_inheritance wsX1_lookForHeirs := goodIn_r _ [30, 2, 10, 31, 32, 33, 34, 35, 8, 36, 3, 44, 45, 46, 47, 48, 49, 50, 51, 52, 53, 54, 55, 56] (by decide +kernel) (by decide +kernel)
set_option maxRecDepth 20000 in
theorem gX1_inheritance_X1_lookForHeirs : GoodIn wsX1_inheritance (wsV RX1 120 RX1 yX1_lookForHeirs wsX1_lookForHeirs) := goodIn_app (goodIn_of _ (by decide +kernel)) ggX1_inheritance_X1_lookForHeirs
set_option maxRecDepth 20000 in
theorem ggX1_inheritance_X1_at : GoodIn wsX1_inheritance wsX1_at := goodIn_r _ [39] (by decide +kernel) (by decide +kernel)
set_option maxRecDepth 20000 in
theorem gX1_inheritance_X1_at : GoodIn wsX1_inheritance (va_wsS RX1 53 yX1_at wsX1_at) := goodIn_app (goodIn_of _ (by decide +kernel)) ggX1_inheritance_X1_at
set_option maxRecDepth 20000 in
theorem ggX1_inheritance_X1_partOf : GoodIn wsX1_inheritance wsX1_partOf := goodIn_r _ [43, 2, 44, 45, 46, 47, 48, 49, 50, 51, 52, 53, 54, 55, 56] (by decide +kernel) (by decide +kernel)
set_option maxRecDepth 20000 in
theorem gX1_inheritance_X1_partOf : GoodIn wsX1_inheritance (wsV RX1 123 RX1 yX1_partOf wsX1_partOf) := goodIn_app (goodIn_of _ (by decide +kernel)) ggX1_inheritance_X1_partOf
theorem dX1_inheritance_0 : decode cX1_inheritance 0 = .ok (.aload_n 0, 1) := by decide +kernel
theorem dX1_inheritance_1 : decode cX1_inheritance 1 = .ok (.iconst 0, 1) := by decide +kernel
theorem dX1_inheritance_2 : decode cX1_inheritance 2 = .ok (.putfield 35, 3) := by decide +kernel
theorem dX1_inheritance_5 : decode cX1_inheritance 5 = .ok (.aload_n 0, 1) := by decide +kernel
theorem dX1_inheritance_6 : decode cX1_inheritance 6 = .ok (.iload_n 1, 1) := by decide +kernel
theorem dX1_inheritance_7 : decode cX1_inheritance 7 = .ok (.invokevirtual 73, 3) := by decide +kernel
theorem dX1_inheritance_10 : decode cX1_inheritance 10 = .ok (.ifCond .eq 21, 3) := by decide +kernel
theorem dX1_inheritance_13 : decode cX1_inheritance 13 = .ok (.aload_n 0, 1) := by decide +kernel
theorem dX1_inheritance_14 : decode cX1_inheritance 14 = .ok (.iload_n 2, 1) := by decide +kernel
theorem dX1_inheritance_15 : decode cX1_inheritance 15 = .ok (.invokevirtual 73, 3) := by decide +kernel
theorem dX1_inheritance_18 : decode cX1_inheritance 18 = .ok (.ifCond .eq 13, 3) := by decide +kernel
theorem dX1_inheritance_21 : decode cX1_inheritance 21 = .ok (.aload_n 0, 1) := by decide +kernel
theorem dX1_inheritance_22 : decode cX1_inheritance 22 = .ok (.iload_n 3, 1) := by decide +kernel
theorem dX1_inheritance_23 : decode cX1_inheritance 23 = .ok (.iload 4, 2) := by decide +kernel
theorem dX1_inheritance_25 : decode cX1_inheritance 25 = .ok (.invokevirtual 80, 3) := by decide +kernel
theorem dX1_inheritance_28 : decode cX1_inheritance 28 = .ok (.ifCond .ne 9, 3) := by decide +kernel
theorem dX1_inheritance_31 : decode cX1_inheritance 31 = .ok (.aload_n 0, 1) := by decide +kernel
theorem dX1_inheritance_32 : decode cX1_inheritance 32 = .ok (.iconst 1, 1) := by decide +kernel
theorem dX1_inheritance_33 : decode cX1_inheritance 33 = .ok (.invokevirtual 66, 3) := by decide +kernel
theorem dX1_inheritance_36 : decode cX1_inheritance 36 = .ok (.ireturn, 1) := by decide +kernel
theorem dX1_inheritance_37 : decode cX1_inheritance 37 = .ok (.aload_n 0, 1) := by decide +kernel
theorem dX1_inheritance_38 : decode cX1_inheritance 38 = .ok (.iload_n 1, 1) := by decide +kernel
theorem dX1_inheritance_39 : decode cX1_inheritance 39 = .ok (.invokevirtual 120, 3) := by decide +kernel
theorem dX1_inheritance_42 : decode cX1_inheritance 42 = .ok (.iconst 0, 1) := by decide +kernel
theorem dX1_inheritance_43 : decode cX1_inheritance 43 = .ok (.istore 5, 2) := by decide +kernel
theorem dX1_inheritance_45 : decode cX1_inheritance 45 = .ok (.iload 5, 2) := by decide +kernel
theorem dX1_inheritance_47 : decode cX1_inheritance 47 = .ok (.aload_n 0, 1) := by decide +kernel
theorem dX1_inheritance_48 : decode cX1_inheritance 48 = .ok (.getfield 113, 3) := by decide +kernel
theorem dX1_inheritance_51 : decode cX1_inheritance 51 = .ok (.if_icmp .ge 39, 3) := by decide +kernel
theorem dX1_inheritance_54 : decode cX1_inheritance 54 = .ok (.aload_n 0, 1) := by decide +kernel
theorem dX1_inheritance_55 : decode cX1_inheritance 55 = .ok (.getfield 32, 3) := by decide +kernel
theorem dX1_inheritance_58 : decode cX1_inheritance 58 = .ok (.iload 5, 2) := by decide +kernel
theorem dX1_inheritance_60 : decode cX1_inheritance 60 = .ok (.iaload, 1) := by decide +kernel
theorem dX1_inheritance_61 : decode cX1_inheritance 61 = .ok (.iload_n 2, 1) := by decide +kernel
theorem dX1_inheritance_62 : decode cX1_inheritance 62 = .ok (.if_icmp .ne 22, 3) := by decide +kernel
theorem dX1_inheritance_65 : decode cX1_inheritance 65 = .ok (.aload_n 0, 1) := by decide +kernel
theorem dX1_inheritance_66 : decode cX1_inheritance 66 = .ok (.aload_n 0, 1) := by decide +kernel
theorem dX1_inheritance_67 : decode cX1_inheritance 67 = .ok (.getfield 16, 3) := by decide +kernel
theorem dX1_inheritance_70 : decode cX1_inheritance 70 = .ok (.iload_n 3, 1) := by decide +kernel
theorem dX1_inheritance_71 : decode cX1_inheritance 71 = .ok (.iload 4, 2) := by decide +kernel
theorem dX1_inheritance_73 : decode cX1_inheritance 73 = .ok (.iload_n 1, 1) := by decide +kernel
theorem dX1_inheritance_74 : decode cX1_inheritance 74 = .ok (.invokestatic 53, 3) := by decide +kernel
theorem dX1_inheritance_77 : decode cX1_inheritance 77 = .ok (.iaload, 1) := by decide +kernel
theorem dX1_inheritance_78 : decode cX1_inheritance 78 = .ok (.iload 5, 2) := by decide +kernel
theorem dX1_inheritance_80 : decode cX1_inheritance 80 = .ok (.invokevirtual 123, 3) := by decide +kernel
theorem dX1_inheritance_83 : decode cX1_inheritance 83 = .ok (.ireturn, 1) := by decide +kernel
theorem dX1_inheritance_84 : decode cX1_inheritance 84 = .ok (.iinc 5 1, 3) := by decide +kernel
theorem dX1_inheritance_87 : decode cX1_inheritance 87 = .ok (.goto (-42), 3) := by decide +kernel
theorem dX1_inheritance_90 : decode cX1_inheritance 90 = .ok (.iconst 0, 1) := by decide +kernel
theorem dX1_inheritance_91 : decode cX1_inheritance 91 = .ok (.ireturn, 1) := by decide +kernel
set_option maxRecDepth 20000 in
theorem ggX1_fare_X1_isPerson : GoodIn wsX1_fare wsX1_isPerson := goodIn_r _ [6, 7, 8, 9, 5, 10, 29, 30, 31, 32, 33, 34, 35, 36, 37, 38, 39, 40, 41] (by decide +kernel) (by decide +kernel)
set_option maxRecDepth 20000 in
theorem gX1_fare_X1_isPerson : GoodIn wsX1_fare (wsV RX1 73 RX1 yX1_isPerson wsX1_isPerson) := goodIn_app (goodIn_of _ (by decide +kernel)) ggX1_fare_X1_isPerson
set_option maxRecDepth 20000 in
theorem ggX1_fare_X1_isFerry : GoodIn wsX1_fare wsX1_isFerry := goodIn_r _ [14, 15, 8, 9, 5, 10, 29, 30, 31, 32, 33, 34, 35, 36, 37, 38, 39, 40, 41] (by decide +kernel) (by decide +kernel)
set_option maxRecDepth 20000 in
theorem gX1_fare_X1_isFerry : GoodIn wsX1_fare (wsV RX1 46 RX1 yX1_isFerry wsX1_isFerry) := goodIn_app (goodIn_of _ (by decide +kernel)) ggX1_fare_X1_isFerry
set_option maxRecDepth 20000 in
theorem ggX1_fare_X1_isIn : GoodIn wsX1_fare wsX1_isIn := goodIn_r _ [10] (by decide +kernel) (by decide +kernel)
set_option maxRecDepth 20000 in
theorem gX1_fare_X1_isIn : GoodIn wsX1_fare (va_wsS RX1 42 yX1_isIn wsX1_isIn) := goodIn_app (goodIn_of _ (by decide +kernel)) ggX1_fare_X1_isIn
set_option maxRecDepth 20000 in
theorem ggX1_fare_X1_no : GoodIn wsX1_fare wsX1_no := goodIn_r _ [19, 1, 29, 30, 31, 32, 33, 34, 35, 36, 37, 38, 39, 40, 41] (by decide +kernel) (by decide +kernel)
set_option maxRecDepth 20000 in
theorem gX1_fare_X1_no : GoodIn wsX1_fare (wsV RX1 66 RX1 yX1_no wsX1_no) := goodIn_app (goodIn_of _ (by decide +kernel)) ggX1_fare_X1_no
set_option maxRecDepth 20000 in
theorem ggX1_fare_X1_part : GoodIn wsX1_fare wsX1_part := goodIn_r _ [23, 24, 25, 26, 27, 5, 28, 29, 30, 31, 32, 33, 34, 35, 36, 37, 38, 39, 40, 41] (by decide +kernel) (by decide +kernel)
set_option maxRecDepth 20000 in
theorem gX1_fare_X1_part : GoodIn wsX1_fare (wsV RX1 106 RX1 yX1_part wsX1_part) := goodIn_app (goodIn_of _ (by decide +kernel)) ggX1_fare_X1_part
theorem dX1_fare_0 : decode cX1_fare 0 = .ok (.aload_n 0, 1) := by decide +kernel
theorem dX1_fare_1 : decode cX1_fare 1 = .ok (.iconst 0, 1) := by decide +kernel
theorem dX1_fare_2 : decode cX1_fare 2 = .ok (.putfield 35, 3) := by decide +kernel
theorem dX1_fare_5 : decode cX1_fare 5 = .ok (.aload_n 0, 1) := by decide +kernel
theorem dX1_fare_6 : decode cX1_fare 6 = .ok (.iload_n 1, 1) := by decide +kernel
theorem dX1_fare_7 : decode cX1_fare 7 = .ok (.invokevirtual 73, 3) := by decide +kernel
theorem dX1_fare_10 : decode cX1_fare 10 = .ok (.ifCond .eq 21, 3) := by decide +kernel
theorem dX1_fare_13 : decode cX1_fare 13 = .ok (.aload_n 0, 1) := by decide +kernel
theorem dX1_fare_14 : decode cX1_fare 14 = .ok (.iload_n 2, 1) := by decide +kernel
theorem dX1_fare_15 : decode cX1_fare 15 = .ok (.invokevirtual 46, 3) := by decide +kernel
theorem dX1_fare_18 : decode cX1_fare 18 = .ok (.ifCond .eq 13, 3) := by decide +kernel
theorem dX1_fare_21 : decode cX1_fare 21 = .ok (.iload_n 3, 1) := by decide +kernel
theorem dX1_fare_22 : decode cX1_fare 22 = .ok (.iconst 0, 1) := by decide +kernel
theorem dX1_fare_23 : decode cX1_fare 23 = .ok (.bipush 23, 2) := by decide +kernel
theorem dX1_fare_25 : decode cX1_fare 25 = .ok (.invokestatic 42, 3) := by decide +kernel
theorem dX1_fare_28 : decode cX1_fare 28 = .ok (.ifCond .ne 9, 3) := by decide +kernel
theorem dX1_fare_31 : decode cX1_fare 31 = .ok (.aload_n 0, 1) := by decide +kernel
theorem dX1_fare_32 : decode cX1_fare 32 = .ok (.iconst 1, 1) := by decide +kernel
theorem dX1_fare_33 : decode cX1_fare 33 = .ok (.invokevirtual 66, 3) := by decide +kernel
theorem dX1_fare_36 : decode cX1_fare 36 = .ok (.ireturn, 1) := by decide +kernel
theorem dX1_fare_37 : decode cX1_fare 37 = .ok (.iload 4, 2) := by decide +kernel
theorem dX1_fare_39 : decode cX1_fare 39 = .ok (.iconst 1, 1) := by decide +kernel
theorem dX1_fare_40 : decode cX1_fare 40 = .ok (.sipush 200, 3) := by decide +kernel
theorem dX1_fare_43 : decode cX1_fare 43 = .ok (.invokestatic 42, 3) := by decide +kernel
theorem dX1_fare_46 : decode cX1_fare 46 = .ok (.ifCond .eq 15, 3) := by decide +kernel
theorem dX1_fare_49 : decode cX1_fare 49 = .ok (.aload_n 0, 1) := by decide +kernel
theorem dX1_fare_50 : decode cX1_fare 50 = .ok (.iload_n 2, 1) := by decide +kernel
theorem dX1_fare_51 : decode cX1_fare 51 = .ok (.iload_n 3, 1) := by decide +kernel
theorem dX1_fare_52 : decode cX1_fare 52 = .ok (.iload_n 1, 1) := by decide +kernel
theorem dX1_fare_53 : decode cX1_fare 53 = .ok (.iload 4, 2) := by decide +kernel
theorem dX1_fare_55 : decode cX1_fare 55 = .ok (.invokevirtual 106, 3) := by decide +kernel
theorem dX1_fare_58 : decode cX1_fare 58 = .ok (.goto 8, 3) := by decide +kernel
theorem dX1_fare_61 : decode cX1_fare 61 = .ok (.aload_n 0, 1) := by decide +kernel
theorem dX1_fare_62 : decode cX1_fare 62 = .ok (.iconst 2, 1) := by decide +kernel
theorem dX1_fare_63 : decode cX1_fare 63 = .ok (.invokevirtual 66, 3) := by decide +kernel
theorem dX1_fare_66 : decode cX1_fare 66 = .ok (.ireturn, 1) := by decide +kernel
set_option maxRecDepth 20000 in
theorem ggX1_richest_X1_no : GoodIn wsX1_richest wsX1_no := goodIn_r _ [9, 1, 10, 11, 12, 13, 14, 15, 16, 17, 18, 19, 20, 21, 22] (by decide +kernel) (by decide +kernel)
set_option maxRecDepth 20000 in
theorem gX1_richest_X1_no : GoodIn wsX1_richest (wsV RX1 66 RX1 yX1_no wsX1_no) := goodIn_app (goodIn_of _ (by decide +kernel)) ggX1_richest_X1_no
theorem dX1_richest_0 : decode cX1_richest 0 = .ok (.aload_n 0, 1) := by decide +kernel
theorem dX1_richest_1 : decode cX1_richest 1 = .ok (.iconst 0, 1) := by decide +kernel
theorem dX1_richest_2 : decode cX1_richest 2 = .ok (.putfield 35, 3) := by decide +kernel
theorem dX1_richest_5 : decode cX1_richest 5 = .ok (.iconst (-1), 1) := by decide +kernel
theorem dX1_richest_6 : decode cX1_richest 6 = .ok (.istore_n 1, 1) := by decide +kernel
theorem dX1_richest_7 : decode cX1_richest 7 = .ok (.iconst 0, 1) := by decide +kernel
theorem dX1_richest_8 : decode cX1_richest 8 = .ok (.istore_n 2, 1) := by decide +kernel
theorem dX1_richest_9 : decode cX1_richest 9 = .ok (.iload_n 2, 1) := by decide +kernel
theorem dX1_richest_10 : decode cX1_richest 10 = .ok (.aload_n 0, 1) := by decide +kernel
theorem dX1_richest_11 : decode cX1_richest 11 = .ok (.getfield 50, 3) := by decide +kernel
theorem dX1_richest_14 : decode cX1_richest 14 = .ok (.if_icmp .ge 40, 3) := by decide +kernel
theorem dX1_richest_17 : decode cX1_richest 17 = .ok (.aload_n 0, 1) := by decide +kernel
theorem dX1_richest_18 : decode cX1_richest 18 = .ok (.getfield 28, 3) := by decide +kernel
theorem dX1_richest_21 : decode cX1_richest 21 = .ok (.iload_n 2, 1) := by decide +kernel
theorem dX1_richest_22 : decode cX1_richest 22 = .ok (.baload, 1) := by decide +kernel
theorem dX1_richest_23 : decode cX1_richest 23 = .ok (.ifCond .ne 25, 3) := by decide +kernel
theorem dX1_richest_26 : decode cX1_richest 26 = .ok (.iload_n 1, 1) := by decide +kernel
theorem dX1_richest_27 : decode cX1_richest 27 = .ok (.iconst (-1), 1) := by decide +kernel
theorem dX1_richest_28 : decode cX1_richest 28 = .ok (.if_icmp .eq 18, 3) := by decide +kernel
theorem dX1_richest_31 : decode cX1_richest 31 = .ok (.aload_n 0, 1) := by decide +kernel
theorem dX1_richest_32 : decode cX1_richest 32 = .ok (.getfield 19, 3) := by decide +kernel
theorem dX1_richest_35 : decode cX1_richest 35 = .ok (.iload_n 2, 1) := by decide +kernel
theorem dX1_richest_36 : decode cX1_richest 36 = .ok (.iaload, 1) := by decide +kernel
theorem dX1_richest_37 : decode cX1_richest 37 = .ok (.aload_n 0, 1) := by decide +kernel
theorem dX1_richest_38 : decode cX1_richest 38 = .ok (.getfield 19, 3) := by decide +kernel
theorem dX1_richest_41 : decode cX1_richest 41 = .ok (.iload_n 1, 1) := by decide +kernel
theorem dX1_richest_42 : decode cX1_richest 42 = .ok (.iaload, 1) := by decide +kernel
theorem dX1_richest_43 : decode cX1_richest 43 = .ok (.if_icmp .le 5, 3) := by decide +kernel
theorem dX1_richest_46 : decode cX1_richest 46 = .ok (.iload_n 2, 1) := by decide +kernel
theorem dX1_richest_47 : decode cX1_richest 47 = .ok (.istore_n 1, 1) := by decide +kernel
theorem dX1_richest_48 : decode cX1_richest 48 = .ok (.iinc 2 1, 3) := by decide +kernel
theorem dX1_richest_51 : decode cX1_richest 51 = .ok (.goto (-42), 3) := by decide +kernel
theorem dX1_richest_54 : decode cX1_richest 54 = .ok (.iload_n 1, 1) := by decide +kernel
theorem dX1_richest_55 : decode cX1_richest 55 = .ok (.iconst (-1), 1) := by decide +kernel
theorem dX1_richest_56 : decode cX1_richest 56 = .ok (.if_icmp .ne 11, 3) := by decide +kernel
theorem dX1_richest_59 : decode cX1_richest 59 = .ok (.aload_n 0, 1) := by decide +kernel
theorem dX1_richest_60 : decode cX1_richest 60 = .ok (.iconst 1, 1) := by decide +kernel
theorem dX1_richest_61 : decode cX1_richest 61 = .ok (.invokevirtual 66, 3) := by decide +kernel
theorem dX1_richest_64 : decode cX1_richest 64 = .ok (.goto 4, 3) := by decide +kernel
theorem dX1_richest_67 : decode cX1_richest 67 = .ok (.iload_n 1, 1) := by decide +kernel
theorem dX1_richest_68 : decode cX1_richest 68 = .ok (.ireturn, 1) := by decide +kernel
set_option maxRecDepth 20000 in
theorem ggX1_meanCoins_X1_alive : GoodIn wsX1_meanCoins wsX1_alive := goodIn_r _ [8, 2, 9, 10, 11, 12, 13, 14, 15, 16, 17, 18, 19, 20, 21, 22] (by decide +kernel) (by decide +kernel)
set_option maxRecDepth 20000 in
theorem gX1_meanCoins_X1_alive : GoodIn wsX1_meanCoins (wsV RX1 129 RX1 yX1_alive wsX1_alive) := goodIn_app (goodIn_of _ (by decide +kernel)) ggX1_meanCoins_X1_alive
theorem dX1_meanCoins_0 : decode cX1_meanCoins 0 = .ok (.aload_n 0, 1) := by decide +kernel
theorem dX1_meanCoins_1 : decode cX1_meanCoins 1 = .ok (.iconst 0, 1) := by decide +kernel
theorem dX1_meanCoins_2 : decode cX1_meanCoins 2 = .ok (.putfield 35, 3) := by decide +kernel
theorem dX1_meanCoins_5 : decode cX1_meanCoins 5 = .ok (.iconst 0, 1) := by decide +kernel
theorem dX1_meanCoins_6 : decode cX1_meanCoins 6 = .ok (.istore_n 1, 1) := by decide +kernel
theorem dX1_meanCoins_7 : decode cX1_meanCoins 7 = .ok (.iconst 0, 1) := by decide +kernel
theorem dX1_meanCoins_8 : decode cX1_meanCoins 8 = .ok (.istore_n 2, 1) := by decide +kernel
theorem dX1_meanCoins_9 : decode cX1_meanCoins 9 = .ok (.iload_n 2, 1) := by decide +kernel
theorem dX1_meanCoins_10 : decode cX1_meanCoins 10 = .ok (.aload_n 0, 1) := by decide +kernel
theorem dX1_meanCoins_11 : decode cX1_meanCoins 11 = .ok (.getfield 50, 3) := by decide +kernel
theorem dX1_meanCoins_14 : decode cX1_meanCoins 14 = .ok (.if_icmp .ge 18, 3) := by decide +kernel
theorem dX1_meanCoins_17 : decode cX1_meanCoins 17 = .ok (.iload_n 1, 1) := by decide +kernel
theorem dX1_meanCoins_18 : decode cX1_meanCoins 18 = .ok (.aload_n 0, 1) := by decide +kernel
theorem dX1_meanCoins_19 : decode cX1_meanCoins 19 = .ok (.getfield 19, 3) := by decide +kernel
theorem dX1_meanCoins_22 : decode cX1_meanCoins 22 = .ok (.iload_n 2, 1) := by decide +kernel
theorem dX1_meanCoins_23 : decode cX1_meanCoins 23 = .ok (.iaload, 1) := by decide +kernel
theorem dX1_meanCoins_24 : decode cX1_meanCoins 24 = .ok (.iadd, 1) := by decide +kernel
theorem dX1_meanCoins_25 : decode cX1_meanCoins 25 = .ok (.istore_n 1, 1) := by decide +kernel
theorem dX1_meanCoins_26 : decode cX1_meanCoins 26 = .ok (.iinc 2 1, 3) := by decide +kernel
theorem dX1_meanCoins_29 : decode cX1_meanCoins 29 = .ok (.goto (-20), 3) := by decide +kernel
theorem dX1_meanCoins_32 : decode cX1_meanCoins 32 = .ok (.aload_n 0, 1) := by decide +kernel
theorem dX1_meanCoins_33 : decode cX1_meanCoins 33 = .ok (.invokevirtual 129, 3) := by decide +kernel
theorem dX1_meanCoins_36 : decode cX1_meanCoins 36 = .ok (.ifCond .ne 7, 3) := by decide +kernel
theorem dX1_meanCoins_39 : decode cX1_meanCoins 39 = .ok (.dconst 0, 1) := by decide +kernel
theorem dX1_meanCoins_40 : decode cX1_meanCoins 40 = .ok (.goto 11, 3) := by decide +kernel
theorem dX1_meanCoins_43 : decode cX1_meanCoins 43 = .ok (.iload_n 1, 1) := by decide +kernel
theorem dX1_meanCoins_44 : decode cX1_meanCoins 44 = .ok (.i2d, 1) := by decide +kernel
theorem dX1_meanCoins_45 : decode cX1_meanCoins 45 = .ok (.aload_n 0, 1) := by decide +kernel
theorem dX1_meanCoins_46 : decode cX1_meanCoins 46 = .ok (.invokevirtual 129, 3) := by decide +kernel
theorem dX1_meanCoins_49 : decode cX1_meanCoins 49 = .ok (.i2d, 1) := by decide +kernel
theorem dX1_meanCoins_50 : decode cX1_meanCoins 50 = .ok (.ddiv, 1) := by decide +kernel
theorem dX1_meanCoins_51 : decode cX1_meanCoins 51 = .ok (.dreturn, 1) := by decide +kernel
set_option maxRecDepth 20000 in
theorem ggX1_digest_X1_alive : GoodIn wsX1_digest wsX1_alive := goodIn_r _ [17, 5, 10, 48, 49, 50, 51, 52, 53, 54, 55, 56, 57, 58, 59, 60] (by decide +kernel) (by decide +kernel)
set_option maxRecDepth 20000 in
theorem gX1_digest_X1_alive : GoodIn wsX1_digest (wsV RX1 129 RX1 yX1_alive wsX1_alive) := goodIn_app (goodIn_of _ (by decide +kernel)) ggX1_digest_X1_alive
set_option maxRecDepth 20000 in
theorem ggX1_digest_X1_at : GoodIn wsX1_digest wsX1_at := goodIn_r _ [20] (by decide +kernel) (by decide +kernel)
set_option maxRecDepth 20000 in
theorem gX1_digest_X1_at : GoodIn wsX1_digest (va_wsS RX1 53 yX1_at wsX1_at) := goodIn_app (goodIn_of _ (by decide +kernel)) ggX1_digest_X1_at
set_option maxRecDepth 20000 in
theorem ggX1_digest_X1_allOf : GoodIn wsX1_digest wsX1_allOf := goodIn_r _ [24, 4, 25, 26, 27, 16, 28, 9, 18, 19, 20, 48, 49, 50, 51, 52, 53, 54, 55, 56, 57, 58, 59, 60] (by decide +kernel) (by decide +kernel)
set_option maxRecDepth 20000 in
theorem gX1_digest_X1_allOf : GoodIn wsX1_digest (wsV RX1 133 RX1 yX1_allOf wsX1_allOf) := goodIn_app (goodIn_of _ (by decide +kernel)) ggX1_digest_X1_allOf
set_option maxRecDepth 20000 in
theorem ggX1_digest_X1_childrenOf : GoodIn wsX1_digest wsX1_childrenOf := goodIn_r _ [32, 5, 33, 48, 49, 50, 51, 52, 53, 54, 55, 56, 57, 58, 59, 60] (by decide +kernel) (by decide +kernel)
set_option maxRecDepth 20000 in
theorem gX1_digest_X1_childrenOf : GoodIn wsX1_digest (wsV RX1 136 RX1 yX1_childrenOf wsX1_childrenOf) := goodIn_app (goodIn_of _ (by decide +kernel)) ggX1_digest_X1_childrenOf
set_option maxRecDepth 20000 in
theorem ggX1_digest_X1_heirsOf : GoodIn wsX1_digest wsX1_heirsOf := goodIn_r _ [37, 38, 39, 40, 41, 16, 42, 5, 33, 10, 43, 44, 45, 46, 47, 48, 49, 50, 51, 52, 53, 54, 55, 56, 57, 58, 59, 60] (by decide +kernel) (by decide +kernel)
set_option maxRecDepth 20000 in
theorem gX1_digest_X1_heirsOf : GoodIn wsX1_digest (wsV RX1 139 RX1 yX1_heirsOf wsX1_heirsOf) := goodIn_app (goodIn_of _ (by decide +kernel)) ggX1_digest_X1_heirsOf
theorem dX1_digest_0 : decode cX1_digest 0 = .ok (.aload_n 0, 1) := by decide +kernel
theorem dX1_digest_1 : decode cX1_digest 1 = .ok (.iconst 0, 1) := by decide +kernel
theorem dX1_digest_2 : decode cX1_digest 2 = .ok (.putfield 35, 3) := by decide +kernel
theorem dX1_digest_5 : decode cX1_digest 5 = .ok (.ldc2_w 142, 3) := by decide +kernel
theorem dX1_digest_8 : decode cX1_digest 8 = .ok (.lstore_n 1, 1) := by decide +kernel
theorem dX1_digest_9 : decode cX1_digest 9 = .ok (.lload_n 1, 1) := by decide +kernel
theorem dX1_digest_10 : decode cX1_digest 10 = .ok (.ldc2_w 144, 3) := by decide +kernel
theorem dX1_digest_13 : decode cX1_digest 13 = .ok (.lmul, 1) := by decide +kernel
theorem dX1_digest_14 : decode cX1_digest 14 = .ok (.aload_n 0, 1) := by decide +kernel
theorem dX1_digest_15 : decode cX1_digest 15 = .ok (.getfield 39, 3) := by decide +kernel
theorem dX1_digest_18 : decode cX1_digest 18 = .ok (.i2l, 1) := by decide +kernel
theorem dX1_digest_19 : decode cX1_digest 19 = .ok (.ladd, 1) := by decide +kernel
theorem dX1_digest_20 : decode cX1_digest 20 = .ok (.ldc2_w 144, 3) := by decide +kernel
theorem dX1_digest_23 : decode cX1_digest 23 = .ok (.lmul, 1) := by decide +kernel
theorem dX1_digest_24 : decode cX1_digest 24 = .ok (.aload_n 0, 1) := by decide +kernel
theorem dX1_digest_25 : decode cX1_digest 25 = .ok (.getfield 50, 3) := by decide +kernel
theorem dX1_digest_28 : decode cX1_digest 28 = .ok (.i2l, 1) := by decide +kernel
theorem dX1_digest_29 : decode cX1_digest 29 = .ok (.ladd, 1) := by decide +kernel
theorem dX1_digest_30 : decode cX1_digest 30 = .ok (.lstore_n 1, 1) := by decide +kernel
theorem dX1_digest_31 : decode cX1_digest 31 = .ok (.lload_n 1, 1) := by decide +kernel
theorem dX1_digest_32 : decode cX1_digest 32 = .ok (.ldc2_w 144, 3) := by decide +kernel
theorem dX1_digest_35 : decode cX1_digest 35 = .ok (.lmul, 1) := by decide +kernel
theorem dX1_digest_36 : decode cX1_digest 36 = .ok (.aload_n 0, 1) := by decide +kernel
theorem dX1_digest_37 : decode cX1_digest 37 = .ok (.invokevirtual 129, 3) := by decide +kernel
theorem dX1_digest_40 : decode cX1_digest 40 = .ok (.i2l, 1) := by decide +kernel
theorem dX1_digest_41 : decode cX1_digest 41 = .ok (.ladd, 1) := by decide +kernel
theorem dX1_digest_42 : decode cX1_digest 42 = .ok (.ldc2_w 144, 3) := by decide +kernel
theorem dX1_digest_45 : decode cX1_digest 45 = .ok (.lmul, 1) := by decide +kernel
theorem dX1_digest_46 : decode cX1_digest 46 = .ok (.aload_n 0, 1) := by decide +kernel
theorem dX1_digest_47 : decode cX1_digest 47 = .ok (.getfield 110, 3) := by decide +kernel
theorem dX1_digest_50 : decode cX1_digest 50 = .ok (.i2l, 1) := by decide +kernel
theorem dX1_digest_51 : decode cX1_digest 51 = .ok (.ladd, 1) := by decide +kernel
theorem dX1_digest_52 : decode cX1_digest 52 = .ok (.lstore_n 1, 1) := by decide +kernel
theorem dX1_digest_53 : decode cX1_digest 53 = .ok (.iconst 0, 1) := by decide +kernel
theorem dX1_digest_54 : decode cX1_digest 54 = .ok (.istore_n 3, 1) := by decide +kernel
theorem dX1_digest_55 : decode cX1_digest 55 = .ok (.iload_n 3, 1) := by decide +kernel
theorem dX1_digest_56 : decode cX1_digest 56 = .ok (.aload_n 0, 1) := by decide +kernel
theorem dX1_digest_57 : decode cX1_digest 57 = .ok (.getfield 39, 3) := by decide +kernel
theorem dX1_digest_60 : decode cX1_digest 60 = .ok (.if_icmp .ge 89, 3) := by decide +kernel
theorem dX1_digest_63 : decode cX1_digest 63 = .ok (.lload_n 1, 1) := by decide +kernel
theorem dX1_digest_64 : decode cX1_digest 64 = .ok (.ldc2_w 144, 3) := by decide +kernel
theorem dX1_digest_67 : decode cX1_digest 67 = .ok (.lmul, 1) := by decide +kernel
theorem dX1_digest_68 : decode cX1_digest 68 = .ok (.aload_n 0, 1) := by decide +kernel
theorem dX1_digest_69 : decode cX1_digest 69 = .ok (.getfield 9, 3) := by decide +kernel
theorem dX1_digest_72 : decode cX1_digest 72 = .ok (.iload_n 3, 1) := by decide +kernel
theorem dX1_digest_73 : decode cX1_digest 73 = .ok (.iaload, 1) := by decide +kernel
theorem dX1_digest_74 : decode cX1_digest 74 = .ok (.i2l, 1) := by decide +kernel
theorem dX1_digest_75 : decode cX1_digest 75 = .ok (.ladd, 1) := by decide +kernel
theorem dX1_digest_76 : decode cX1_digest 76 = .ok (.ldc2_w 144, 3) := by decide +kernel
theorem dX1_digest_79 : decode cX1_digest 79 = .ok (.lmul, 1) := by decide +kernel
theorem dX1_digest_80 : decode cX1_digest 80 = .ok (.aload_n 0, 1) := by decide +kernel
theorem dX1_digest_81 : decode cX1_digest 81 = .ok (.getfield 13, 3) := by decide +kernel
theorem dX1_digest_84 : decode cX1_digest 84 = .ok (.iload_n 3, 1) := by decide +kernel
theorem dX1_digest_85 : decode cX1_digest 85 = .ok (.iaload, 1) := by decide +kernel
theorem dX1_digest_86 : decode cX1_digest 86 = .ok (.i2l, 1) := by decide +kernel
theorem dX1_digest_87 : decode cX1_digest 87 = .ok (.ladd, 1) := by decide +kernel
theorem dX1_digest_88 : decode cX1_digest 88 = .ok (.lstore_n 1, 1) := by decide +kernel
theorem dX1_digest_89 : decode cX1_digest 89 = .ok (.iconst 0, 1) := by decide +kernel
theorem dX1_digest_90 : decode cX1_digest 90 = .ok (.istore 4, 2) := by decide +kernel
theorem dX1_digest_92 : decode cX1_digest 92 = .ok (.iload 4, 2) := by decide +kernel
theorem dX1_digest_94 : decode cX1_digest 94 = .ok (.iconst 4, 1) := by decide +kernel
theorem dX1_digest_95 : decode cX1_digest 95 = .ok (.if_icmp .ge 48, 3) := by decide +kernel
theorem dX1_digest_98 : decode cX1_digest 98 = .ok (.iconst 0, 1) := by decide +kernel
theorem dX1_digest_99 : decode cX1_digest 99 = .ok (.istore 5, 2) := by decide +kernel
theorem dX1_digest_101 : decode cX1_digest 101 = .ok (.iload 5, 2) := by decide +kernel
theorem dX1_digest_103 : decode cX1_digest 103 = .ok (.aload_n 0, 1) := by decide +kernel
theorem dX1_digest_104 : decode cX1_digest 104 = .ok (.getfield 50, 3) := by decide +kernel
theorem dX1_digest_107 : decode cX1_digest 107 = .ok (.if_icmp .ge 30, 3) := by decide +kernel
theorem dX1_digest_110 : decode cX1_digest 110 = .ok (.lload_n 1, 1) := by decide +kernel
theorem dX1_digest_111 : decode cX1_digest 111 = .ok (.ldc2_w 144, 3) := by decide +kernel
theorem dX1_digest_114 : decode cX1_digest 114 = .ok (.lmul, 1) := by decide +kernel
theorem dX1_digest_115 : decode cX1_digest 115 = .ok (.aload_n 0, 1) := by decide +kernel
theorem dX1_digest_116 : decode cX1_digest 116 = .ok (.getfield 16, 3) := by decide +kernel
theorem dX1_digest_119 : decode cX1_digest 119 = .ok (.iload_n 3, 1) := by decide +kernel
theorem dX1_digest_120 : decode cX1_digest 120 = .ok (.iload 4, 2) := by decide +kernel
theorem dX1_digest_122 : decode cX1_digest 122 = .ok (.iload 5, 2) := by decide +kernel
theorem dX1_digest_124 : decode cX1_digest 124 = .ok (.invokestatic 53, 3) := by decide +kernel
theorem dX1_digest_127 : decode cX1_digest 127 = .ok (.iaload, 1) := by decide +kernel
theorem dX1_digest_128 : decode cX1_digest 128 = .ok (.i2l, 1) := by decide +kernel
theorem dX1_digest_129 : decode cX1_digest 129 = .ok (.ladd, 1) := by decide +kernel
theorem dX1_digest_130 : decode cX1_digest 130 = .ok (.lstore_n 1, 1) := by decide +kernel
theorem dX1_digest_131 : decode cX1_digest 131 = .ok (.iinc 5 1, 3) := by decide +kernel
theorem dX1_digest_134 : decode cX1_digest 134 = .ok (.goto (-33), 3) := by decide +kernel
theorem dX1_digest_137 : decode cX1_digest 137 = .ok (.iinc 4 1, 3) := by decide +kernel
theorem dX1_digest_140 : decode cX1_digest 140 = .ok (.goto (-48), 3) := by decide +kernel
theorem dX1_digest_143 : decode cX1_digest 143 = .ok (.iinc 3 1, 3) := by decide +kernel
theorem dX1_digest_146 : decode cX1_digest 146 = .ok (.goto (-91), 3) := by decide +kernel
theorem dX1_digest_149 : decode cX1_digest 149 = .ok (.iconst 0, 1) := by decide +kernel
theorem dX1_digest_150 : decode cX1_digest 150 = .ok (.istore_n 3, 1) := by decide +kernel
theorem dX1_digest_151 : decode cX1_digest 151 = .ok (.iload_n 3, 1) := by decide +kernel
theorem dX1_digest_152 : decode cX1_digest 152 = .ok (.aload_n 0, 1) := by decide +kernel
theorem dX1_digest_153 : decode cX1_digest 153 = .ok (.getfield 50, 3) := by decide +kernel
theorem dX1_digest_156 : decode cX1_digest 156 = .ok (.if_icmp .ge 92, 3) := by decide +kernel
theorem dX1_digest_159 : decode cX1_digest 159 = .ok (.lload_n 1, 1) := by decide +kernel
theorem dX1_digest_160 : decode cX1_digest 160 = .ok (.ldc2_w 144, 3) := by decide +kernel
theorem dX1_digest_163 : decode cX1_digest 163 = .ok (.lmul, 1) := by decide +kernel
theorem dX1_digest_164 : decode cX1_digest 164 = .ok (.aload_n 0, 1) := by decide +kernel
theorem dX1_digest_165 : decode cX1_digest 165 = .ok (.getfield 28, 3) := by decide +kernel
theorem dX1_digest_168 : decode cX1_digest 168 = .ok (.iload_n 3, 1) := by decide +kernel
theorem dX1_digest_169 : decode cX1_digest 169 = .ok (.baload, 1) := by decide +kernel
theorem dX1_digest_170 : decode cX1_digest 170 = .ok (.ifCond .eq 7, 3) := by decide +kernel
theorem dX1_digest_173 : decode cX1_digest 173 = .ok (.iconst 0, 1) := by decide +kernel
theorem dX1_digest_174 : decode cX1_digest 174 = .ok (.goto 4, 3) := by decide +kernel
theorem dX1_digest_177 : decode cX1_digest 177 = .ok (.iconst 1, 1) := by decide +kernel
theorem dX1_digest_178 : decode cX1_digest 178 = .ok (.i2l, 1) := by decide +kernel
theorem dX1_digest_179 : decode cX1_digest 179 = .ok (.ladd, 1) := by decide +kernel
theorem dX1_digest_180 : decode cX1_digest 180 = .ok (.ldc2_w 144, 3) := by decide +kernel
theorem dX1_digest_183 : decode cX1_digest 183 = .ok (.lmul, 1) := by decide +kernel
theorem dX1_digest_184 : decode cX1_digest 184 = .ok (.aload_n 0, 1) := by decide +kernel
theorem dX1_digest_185 : decode cX1_digest 185 = .ok (.getfield 19, 3) := by decide +kernel
theorem dX1_digest_188 : decode cX1_digest 188 = .ok (.iload_n 3, 1) := by decide +kernel
theorem dX1_digest_189 : decode cX1_digest 189 = .ok (.iaload, 1) := by decide +kernel
theorem dX1_digest_190 : decode cX1_digest 190 = .ok (.i2l, 1) := by decide +kernel
theorem dX1_digest_191 : decode cX1_digest 191 = .ok (.ladd, 1) := by decide +kernel
theorem dX1_digest_192 : decode cX1_digest 192 = .ok (.lstore_n 1, 1) := by decide +kernel
theorem dX1_digest_193 : decode cX1_digest 193 = .ok (.lload_n 1, 1) := by decide +kernel
theorem dX1_digest_194 : decode cX1_digest 194 = .ok (.ldc2_w 144, 3) := by decide +kernel
theorem dX1_digest_197 : decode cX1_digest 197 = .ok (.lmul, 1) := by decide +kernel
theorem dX1_digest_198 : decode cX1_digest 198 = .ok (.aload_n 0, 1) := by decide +kernel
theorem dX1_digest_199 : decode cX1_digest 199 = .ok (.getfield 22, 3) := by decide +kernel
theorem dX1_digest_202 : decode cX1_digest 202 = .ok (.iload_n 3, 1) := by decide +kernel
theorem dX1_digest_203 : decode cX1_digest 203 = .ok (.iaload, 1) := by decide +kernel
theorem dX1_digest_204 : decode cX1_digest 204 = .ok (.i2l, 1) := by decide +kernel
theorem dX1_digest_205 : decode cX1_digest 205 = .ok (.ladd, 1) := by decide +kernel
theorem dX1_digest_206 : decode cX1_digest 206 = .ok (.ldc2_w 144, 3) := by decide +kernel
theorem dX1_digest_209 : decode cX1_digest 209 = .ok (.lmul, 1) := by decide +kernel
theorem dX1_digest_210 : decode cX1_digest 210 = .ok (.aload_n 0, 1) := by decide +kernel
theorem dX1_digest_211 : decode cX1_digest 211 = .ok (.iload_n 3, 1) := by decide +kernel
theorem dX1_digest_212 : decode cX1_digest 212 = .ok (.invokevirtual 133, 3) := by decide +kernel
theorem dX1_digest_215 : decode cX1_digest 215 = .ok (.i2l, 1) := by decide +kernel
theorem dX1_digest_216 : decode cX1_digest 216 = .ok (.ladd, 1) := by decide +kernel
theorem dX1_digest_217 : decode cX1_digest 217 = .ok (.lstore_n 1, 1) := by decide +kernel
theorem dX1_digest_218 : decode cX1_digest 218 = .ok (.lload_n 1, 1) := by decide +kernel
theorem dX1_digest_219 : decode cX1_digest 219 = .ok (.ldc2_w 144, 3) := by decide +kernel
theorem dX1_digest_222 : decode cX1_digest 222 = .ok (.lmul, 1) := by decide +kernel
theorem dX1_digest_223 : decode cX1_digest 223 = .ok (.aload_n 0, 1) := by decide +kernel
theorem dX1_digest_224 : decode cX1_digest 224 = .ok (.iload_n 3, 1) := by decide +kernel
theorem dX1_digest_225 : decode cX1_digest 225 = .ok (.invokevirtual 136, 3) := by decide +kernel
theorem dX1_digest_228 : decode cX1_digest 228 = .ok (.i2l, 1) := by decide +kernel
theorem dX1_digest_229 : decode cX1_digest 229 = .ok (.ladd, 1) := by decide +kernel
theorem dX1_digest_230 : decode cX1_digest 230 = .ok (.ldc2_w 144, 3) := by decide +kernel
theorem dX1_digest_233 : decode cX1_digest 233 = .ok (.lmul, 1) := by decide +kernel
theorem dX1_digest_234 : decode cX1_digest 234 = .ok (.aload_n 0, 1) := by decide +kernel
theorem dX1_digest_235 : decode cX1_digest 235 = .ok (.iload_n 3, 1) := by decide +kernel
theorem dX1_digest_236 : decode cX1_digest 236 = .ok (.invokevirtual 139, 3) := by decide +kernel
theorem dX1_digest_239 : decode cX1_digest 239 = .ok (.i2l, 1) := by decide +kernel
theorem dX1_digest_240 : decode cX1_digest 240 = .ok (.ladd, 1) := by decide +kernel
theorem dX1_digest_241 : decode cX1_digest 241 = .ok (.lstore_n 1, 1) := by decide +kernel
theorem dX1_digest_242 : decode cX1_digest 242 = .ok (.iinc 3 1, 3) := by decide +kernel
theorem dX1_digest_245 : decode cX1_digest 245 = .ok (.goto (-94), 3) := by decide +kernel
theorem dX1_digest_248 : decode cX1_digest 248 = .ok (.lload_n 1, 1) := by decide +kernel
theorem dX1_digest_249 : decode cX1_digest 249 = .ok (.lreturn, 1) := by decide +kernel
theorem dJ9_min_7cf53_0 : decode cJ9_min_7cf53 0 = .ok (.iload_n 0, 1) := by decide +kernel
theorem dJ9_min_7cf53_1 : decode cJ9_min_7cf53 1 = .ok (.iload_n 1, 1) := by decide +kernel
theorem dJ9_min_7cf53_2 : decode cJ9_min_7cf53 2 = .ok (.if_icmp .gt 7, 3) := by decide +kernel
theorem dJ9_min_7cf53_5 : decode cJ9_min_7cf53 5 = .ok (.iload_n 0, 1) := by decide +kernel
theorem dJ9_min_7cf53_6 : decode cJ9_min_7cf53 6 = .ok (.goto 4, 3) := by decide +kernel
theorem dJ9_min_7cf53_9 : decode cJ9_min_7cf53 9 = .ok (.iload_n 1, 1) := by decide +kernel
theorem dJ9_min_7cf53_10 : decode cJ9_min_7cf53 10 = .ok (.ireturn, 1) := by decide +kernel
set_option maxRecDepth 20000 in
theorem ggL_addFerry_X0_addFerry : GoodIn wsL_addFerry wsX0_addFerry := goodIn_ca (goodIn_ca (goodIn_r _ [7, 8, 9, 10, 11, 12, 13, 6, 14, 15, 16, 17, 18, 19, 20, 21, 22, 23, 24, 25, 26] (by decide +kernel) (by decide +kernel)) (goodIn_sub (fun _ h => List.mem_cons_of_mem _ (List.mem_append_left _ (List.mem_append_right _ h))) (by decide +kernel))) (goodIn_sub (fun _ h => List.mem_cons_of_mem _ (List.mem_append_right _ h)) (by decide +kernel))
set_option maxRecDepth 20000 in
theorem gL_addFerry_X0_addFerry : GoodIn wsL_addFerry (wsV RL 7 RX0 yX0_addFerry wsX0_addFerry) := goodIn_app (goodIn_of _ (by decide +kernel)) ggL_addFerry_X0_addFerry
theorem dL_addFerry_0 : decode cL_addFerry 0 = .ok (.aload_n 2, 1) := by decide +kernel
theorem dL_addFerry_1 : decode cL_addFerry 1 = .ok (.iconst 0, 1) := by decide +kernel
theorem dL_addFerry_2 : decode cL_addFerry 2 = .ok (.aload_n 0, 1) := by decide +kernel
theorem dL_addFerry_3 : decode cL_addFerry 3 = .ok (.iload_n 1, 1) := by decide +kernel
theorem dL_addFerry_4 : decode cL_addFerry 4 = .ok (.invokevirtual 7, 3) := by decide +kernel
theorem dL_addFerry_7 : decode cL_addFerry 7 = .ok (.i2l, 1) := by decide +kernel
theorem dL_addFerry_8 : decode cL_addFerry 8 = .ok (.lastore, 1) := by decide +kernel
theorem dL_addFerry_9 : decode cL_addFerry 9 = .ok (.goto 9, 3) := by decide +kernel
theorem dL_addFerry_12 : decode cL_addFerry 12 = .ok (.astore_n 3, 1) := by decide +kernel
theorem dL_addFerry_13 : decode cL_addFerry 13 = .ok (.iconst 1, 1) := by decide +kernel
theorem dL_addFerry_14 : decode cL_addFerry 14 = .ok (.ireturn, 1) := by decide +kernel
theorem dL_addFerry_15 : decode cL_addFerry 15 = .ok (.astore_n 3, 1) := by decide +kernel
theorem dL_addFerry_16 : decode cL_addFerry 16 = .ok (.iconst 2, 1) := by decide +kernel
theorem dL_addFerry_17 : decode cL_addFerry 17 = .ok (.ireturn, 1) := by decide +kernel
theorem dL_addFerry_18 : decode cL_addFerry 18 = .ok (.iconst 0, 1) := by decide +kernel
theorem dL_addFerry_19 : decode cL_addFerry 19 = .ok (.ireturn, 1) := by decide +kernel
set_option maxRecDepth 20000 in
theorem ggL_addPerson_X0_addPerson : GoodIn wsL_addPerson wsX0_addPerson := goodIn_ca (goodIn_r _ [6, 7, 8, 9, 5, 10, 11, 12, 13, 14, 15, 16, 17, 18, 19, 20, 21, 22, 23, 24, 25, 26, 27, 28, 29] (by decide +kernel) (by decide +kernel)) (goodIn_sub (fun _ h => List.mem_cons_of_mem _ (List.mem_append_right _ h)) (by decide +kernel))
set_option maxRecDepth 20000 in
theorem gL_addPerson_X0_addPerson : GoodIn wsL_addPerson (wsV RL 17 RX0 yX0_addPerson wsX0_addPerson) := goodIn_app (goodIn_of _ (by decide +kernel)) ggL_addPerson_X0_addPerson
theorem dL_addPerson_0 : decode cL_addPerson 0 = .ok (.aload_n 1, 1) := by decide +kernel
theorem dL_addPerson_1 : decode cL_addPerson 1 = .ok (.iconst 0, 1) := by decide +kernel
theorem dL_addPerson_2 : decode cL_addPerson 2 = .ok (.aload_n 0, 1) := by decide +kernel
theorem dL_addPerson_3 : decode cL_addPerson 3 = .ok (.invokevirtual 17, 3) := by decide +kernel
theorem dL_addPerson_6 : decode cL_addPerson 6 = .ok (.i2l, 1) := by decide +kernel
theorem dL_addPerson_7 : decode cL_addPerson 7 = .ok (.lastore, 1) := by decide +kernel
theorem dL_addPerson_8 : decode cL_addPerson 8 = .ok (.goto 6, 3) := by decide +kernel
theorem dL_addPerson_11 : decode cL_addPerson 11 = .ok (.astore_n 2, 1) := by decide +kernel
theorem dL_addPerson_12 : decode cL_addPerson 12 = .ok (.iconst 1, 1) := by decide +kernel
theorem dL_addPerson_13 : decode cL_addPerson 13 = .ok (.ireturn, 1) := by decide +kernel
theorem dL_addPerson_14 : decode cL_addPerson 14 = .ok (.iconst 0, 1) := by decide +kernel
theorem dL_addPerson_15 : decode cL_addPerson 15 = .ok (.ireturn, 1) := by decide +kernel
set_option maxRecDepth 20000 in
theorem ggL_addChild_X0_addChild : GoodIn wsL_addChild wsX0_addChild := goodIn_ca (goodIn_ca (goodIn_r _ [7, 8, 9, 10, 6, 11, 12, 13, 14, 15, 16, 17, 18, 19, 20, 21, 22, 23, 24, 25, 26, 27, 28, 29, 30, 31, 32, 33, 34, 35, 36, 37, 38, 39, 40] (by decide +kernel) (by decide +kernel)) (goodIn_sub (fun _ h => List.mem_cons_of_mem _ (List.mem_append_left _ (List.mem_append_right _ h))) (by decide +kernel))) (goodIn_sub (fun _ h => List.mem_cons_of_mem _ (List.mem_append_right _ h)) (by decide +kernel))
set_option maxRecDepth 20000 in
theorem gL_addChild_X0_addChild : GoodIn wsL_addChild (wsV RL 21 RX0 yX0_addChild wsX0_addChild) := goodIn_app (goodIn_of _ (by decide +kernel)) ggL_addChild_X0_addChild
theorem dL_addChild_0 : decode cL_addChild 0 = .ok (.aload_n 2, 1) := by decide +kernel
theorem dL_addChild_1 : decode cL_addChild 1 = .ok (.iconst 0, 1) := by decide +kernel
theorem dL_addChild_2 : decode cL_addChild 2 = .ok (.aload_n 0, 1) := by decide +kernel
theorem dL_addChild_3 : decode cL_addChild 3 = .ok (.iload_n 1, 1) := by decide +kernel
theorem dL_addChild_4 : decode cL_addChild 4 = .ok (.invokevirtual 21, 3) := by decide +kernel
theorem dL_addChild_7 : decode cL_addChild 7 = .ok (.i2l, 1) := by decide +kernel
theorem dL_addChild_8 : decode cL_addChild 8 = .ok (.lastore, 1) := by decide +kernel
theorem dL_addChild_9 : decode cL_addChild 9 = .ok (.goto 9, 3) := by decide +kernel
theorem dL_addChild_12 : decode cL_addChild 12 = .ok (.astore_n 3, 1) := by decide +kernel
theorem dL_addChild_13 : decode cL_addChild 13 = .ok (.iconst 1, 1) := by decide +kernel
theorem dL_addChild_14 : decode cL_addChild 14 = .ok (.ireturn, 1) := by decide +kernel
theorem dL_addChild_15 : decode cL_addChild 15 = .ok (.astore_n 3, 1) := by decide +kernel
theorem dL_addChild_16 : decode cL_addChild 16 = .ok (.iconst 2, 1) := by decide +kernel
theorem dL_addChild_17 : decode cL_addChild 17 = .ok (.ireturn, 1) := by decide +kernel
theorem dL_addChild_18 : decode cL_addChild 18 = .ok (.iconst 0, 1) := by decide +kernel
theorem dL_addChild_19 : decode cL_addChild 19 = .ok (.ireturn, 1) := by decide +kernel
set_option maxRecDepth 20000 in
theorem ggL_pay_X0_pay : GoodIn wsL_pay wsX0_pay := goodIn_ca (goodIn_ca (goodIn_ca (goodIn_r _ [8, 9, 10, 11, 12, 13, 14, 7, 15, 16, 17, 18, 19, 20, 21, 22, 23, 24, 25, 26, 27, 28, 29, 30, 31, 32, 33, 34, 35, 36, 37, 38, 39, 40, 41, 42, 43] (by decide +kernel) (by decide +kernel)) (goodIn_sub (fun _ h => List.mem_cons_of_mem _ (List.mem_append_left _ (List.mem_append_left _ (List.mem_append_right _ h)))) (by decide +kernel))) (goodIn_sub (fun _ h => List.mem_cons_of_mem _ (List.mem_append_left _ (List.mem_append_right _ h))) (by decide +kernel))) (goodIn_sub (fun _ h => List.mem_cons_of_mem _ (List.mem_append_right _ h)) (by decide +kernel))
set_option maxRecDepth 20000 in
theorem gL_pay_X0_pay : GoodIn wsL_pay (wsV RL 26 RX0 yX0_pay wsX0_pay) := goodIn_app (goodIn_of _ (by decide +kernel)) ggL_pay_X0_pay
theorem dL_pay_0 : decode cL_pay 0 = .ok (.aload_n 3, 1) := by decide +kernel
theorem dL_pay_1 : decode cL_pay 1 = .ok (.iconst 0, 1) := by decide +kernel
theorem dL_pay_2 : decode cL_pay 2 = .ok (.aload_n 0, 1) := by decide +kernel
theorem dL_pay_3 : decode cL_pay 3 = .ok (.iload_n 1, 1) := by decide +kernel
theorem dL_pay_4 : decode cL_pay 4 = .ok (.iload_n 2, 1) := by decide +kernel
theorem dL_pay_5 : decode cL_pay 5 = .ok (.invokevirtual 26, 3) := by decide +kernel
theorem dL_pay_8 : decode cL_pay 8 = .ok (.i2l, 1) := by decide +kernel
theorem dL_pay_9 : decode cL_pay 9 = .ok (.lastore, 1) := by decide +kernel
theorem dL_pay_10 : decode cL_pay 10 = .ok (.goto 15, 3) := by decide +kernel
theorem dL_pay_13 : decode cL_pay 13 = .ok (.astore 4, 2) := by decide +kernel
theorem dL_pay_15 : decode cL_pay 15 = .ok (.iconst 1, 1) := by decide +kernel
theorem dL_pay_16 : decode cL_pay 16 = .ok (.ireturn, 1) := by decide +kernel
theorem dL_pay_17 : decode cL_pay 17 = .ok (.astore 4, 2) := by decide +kernel
theorem dL_pay_19 : decode cL_pay 19 = .ok (.iconst 2, 1) := by decide +kernel
theorem dL_pay_20 : decode cL_pay 20 = .ok (.ireturn, 1) := by decide +kernel
theorem dL_pay_21 : decode cL_pay 21 = .ok (.astore 4, 2) := by decide +kernel
theorem dL_pay_23 : decode cL_pay 23 = .ok (.iconst 3, 1) := by decide +kernel
theorem dL_pay_24 : decode cL_pay 24 = .ok (.ireturn, 1) := by decide +kernel
theorem dL_pay_25 : decode cL_pay 25 = .ok (.iconst 0, 1) := by decide +kernel
theorem dL_pay_26 : decode cL_pay 26 = .ok (.ireturn, 1) := by decide +kernel
set_option maxRecDepth 20000 in
theorem ggL_grant_X0_grant : GoodIn wsL_grant wsX0_grant := goodIn_ca (goodIn_ca (goodIn_ca (goodIn_r _ [8, 9, 10, 11, 12, 13, 7, 14, 15, 16, 17, 18, 19, 20, 21, 22, 23, 24, 25, 26, 27, 28, 29, 30, 31, 32, 33, 34, 35, 36, 37, 38, 39, 40, 41, 42, 43, 44, 45, 46, 47, 48, 49, 50, 51, 52, 53, 54, 55, 56, 57, 58, 59, 60, 61] (by decide +kernel) (by decide +kernel)) (goodIn_sub (fun _ h => List.mem_cons_of_mem _ (List.mem_append_left _ (List.mem_append_left _ (List.mem_append_right _ h)))) (by decide +kernel))) (goodIn_sub (fun _ h => List.mem_cons_of_mem _ (List.mem_append_left _ (List.mem_append_right _ h))) (by decide +kernel))) (goodIn_sub (fun _ h => List.mem_cons_of_mem _ (List.mem_append_right _ h)) (by decide +kernel))
set_option maxRecDepth 20000 in
theorem gL_grant_X0_grant : GoodIn wsL_grant (wsV RL 30 RX0 yX0_grant wsX0_grant) := goodIn_app (goodIn_of _ (by decide +kernel)) ggL_grant_X0_grant
theorem dL_grant_0 : decode cL_grant 0 = .ok (.aload 5, 2) := by decide +kernel
theorem dL_grant_2 : decode cL_grant 2 = .ok (.iconst 0, 1) := by decide +kernel
theorem dL_grant_3 : decode cL_grant 3 = .ok (.aload_n 0, 1) := by decide +kernel
theorem dL_grant_4 : decode cL_grant 4 = .ok (.iload_n 1, 1) := by decide +kernel
theorem dL_grant_5 : decode cL_grant 5 = .ok (.iload_n 2, 1) := by decide +kernel
theorem dL_grant_6 : decode cL_grant 6 = .ok (.iload_n 3, 1) := by decide +kernel
theorem dL_grant_7 : decode cL_grant 7 = .ok (.iload 4, 2) := by decide +kernel
theorem dL_grant_9 : decode cL_grant 9 = .ok (.invokevirtual 30, 3) := by decide +kernel
theorem dL_grant_12 : decode cL_grant 12 = .ok (.i2l, 1) := by decide +kernel
theorem dL_grant_13 : decode cL_grant 13 = .ok (.lastore, 1) := by decide +kernel
theorem dL_grant_14 : decode cL_grant 14 = .ok (.goto 15, 3) := by decide +kernel
theorem dL_grant_17 : decode cL_grant 17 = .ok (.astore 6, 2) := by decide +kernel
theorem dL_grant_19 : decode cL_grant 19 = .ok (.iconst 1, 1) := by decide +kernel
theorem dL_grant_20 : decode cL_grant 20 = .ok (.ireturn, 1) := by decide +kernel
theorem dL_grant_21 : decode cL_grant 21 = .ok (.astore 6, 2) := by decide +kernel
theorem dL_grant_23 : decode cL_grant 23 = .ok (.iconst 2, 1) := by decide +kernel
theorem dL_grant_24 : decode cL_grant 24 = .ok (.ireturn, 1) := by decide +kernel
theorem dL_grant_25 : decode cL_grant 25 = .ok (.astore 6, 2) := by decide +kernel
theorem dL_grant_27 : decode cL_grant 27 = .ok (.iconst 3, 1) := by decide +kernel
theorem dL_grant_28 : decode cL_grant 28 = .ok (.ireturn, 1) := by decide +kernel
theorem dL_grant_29 : decode cL_grant 29 = .ok (.iconst 0, 1) := by decide +kernel
theorem dL_grant_30 : decode cL_grant 30 = .ok (.ireturn, 1) := by decide +kernel
set_option maxRecDepth 20000 in
theorem ggL_give_X0_give : GoodIn wsL_give wsX0_give := goodIn_ca (goodIn_ca (goodIn_ca (goodIn_r _ [8, 9, 10, 11, 12, 13, 14, 15, 7, 16, 17, 18, 19, 20, 21, 22, 23, 24, 25, 26, 27, 28, 29, 30, 31, 32, 33, 34, 35, 36, 37, 38, 39, 40, 41, 42, 43, 44, 45, 46, 47, 48, 49, 50, 51, 52, 53, 54, 55, 56, 57] (by decide +kernel) (by decide +kernel)) (goodIn_sub (fun _ h => List.mem_cons_of_mem _ (List.mem_append_left _ (List.mem_append_left _ (List.mem_append_right _ h)))) (by decide +kernel))) (goodIn_sub (fun _ h => List.mem_cons_of_mem _ (List.mem_append_left _ (List.mem_append_right _ h))) (by decide +kernel))) (goodIn_sub (fun _ h => List.mem_cons_of_mem _ (List.mem_append_right _ h)) (by decide +kernel))
set_option maxRecDepth 20000 in
theorem gL_give_X0_give : GoodIn wsL_give (wsV RL 34 RX0 yX0_give wsX0_give) := goodIn_app (goodIn_of _ (by decide +kernel)) ggL_give_X0_give
theorem dL_give_0 : decode cL_give 0 = .ok (.aload 6, 2) := by decide +kernel
theorem dL_give_2 : decode cL_give 2 = .ok (.iconst 0, 1) := by decide +kernel
theorem dL_give_3 : decode cL_give 3 = .ok (.aload_n 0, 1) := by decide +kernel
theorem dL_give_4 : decode cL_give 4 = .ok (.iload_n 1, 1) := by decide +kernel
theorem dL_give_5 : decode cL_give 5 = .ok (.iload_n 2, 1) := by decide +kernel
theorem dL_give_6 : decode cL_give 6 = .ok (.iload_n 3, 1) := by decide +kernel
theorem dL_give_7 : decode cL_give 7 = .ok (.iload 4, 2) := by decide +kernel
theorem dL_give_9 : decode cL_give 9 = .ok (.iload 5, 2) := by decide +kernel
theorem dL_give_11 : decode cL_give 11 = .ok (.invokevirtual 34, 3) := by decide +kernel
theorem dL_give_14 : decode cL_give 14 = .ok (.i2l, 1) := by decide +kernel
theorem dL_give_15 : decode cL_give 15 = .ok (.lastore, 1) := by decide +kernel
theorem dL_give_16 : decode cL_give 16 = .ok (.goto 15, 3) := by decide +kernel
theorem dL_give_19 : decode cL_give 19 = .ok (.astore 7, 2) := by decide +kernel
theorem dL_give_21 : decode cL_give 21 = .ok (.iconst 1, 1) := by decide +kernel
theorem dL_give_22 : decode cL_give 22 = .ok (.ireturn, 1) := by decide +kernel
theorem dL_give_23 : decode cL_give 23 = .ok (.astore 7, 2) := by decide +kernel
theorem dL_give_25 : decode cL_give 25 = .ok (.iconst 2, 1) := by decide +kernel
theorem dL_give_26 : decode cL_give 26 = .ok (.ireturn, 1) := by decide +kernel
theorem dL_give_27 : decode cL_give 27 = .ok (.astore 7, 2) := by decide +kernel
theorem dL_give_29 : decode cL_give 29 = .ok (.iconst 3, 1) := by decide +kernel
theorem dL_give_30 : decode cL_give 30 = .ok (.ireturn, 1) := by decide +kernel
theorem dL_give_31 : decode cL_give 31 = .ok (.iconst 0, 1) := by decide +kernel
theorem dL_give_32 : decode cL_give 32 = .ok (.ireturn, 1) := by decide +kernel
set_option maxRecDepth 20000 in
theorem ggL_buy_X0_buy : GoodIn wsL_buy wsX0_buy := goodIn_ca (goodIn_ca (goodIn_r _ [7, 8, 9, 10, 11, 12, 13, 6, 14, 15, 16, 17, 18, 19, 20, 21, 22, 23, 24, 25, 26, 27, 28, 29, 30, 31, 32, 33, 34, 35, 36, 37, 38, 39, 40, 41, 42, 43, 44, 45, 46, 47, 48, 49, 50, 51, 52, 53, 54, 55, 56, 57, 58, 59, 60, 61, 62, 63, 64, 65, 66, 67, 68, 69, 70, 71, 72, 73, 74, 75, 76, 77, 78] (by decide +kernel) (by decide +kernel)) (goodIn_sub (fun _ h => List.mem_cons_of_mem _ (List.mem_append_left _ (List.mem_append_right _ h))) (by decide +kernel))) (goodIn_sub (fun _ h => List.mem_cons_of_mem _ (List.mem_append_right _ h)) (by decide +kernel))
set_option maxRecDepth 20000 in
theorem gL_buy_X0_buy : GoodIn wsL_buy (wsV RL 38 RX0 yX0_buy wsX0_buy) := goodIn_app (goodIn_of _ (by decide +kernel)) ggL_buy_X0_buy
theorem dL_buy_0 : decode cL_buy 0 = .ok (.aload 5, 2) := by decide +kernel
theorem dL_buy_2 : decode cL_buy 2 = .ok (.iconst 0, 1) := by decide +kernel
theorem dL_buy_3 : decode cL_buy 3 = .ok (.aload_n 0, 1) := by decide +kernel
theorem dL_buy_4 : decode cL_buy 4 = .ok (.iload_n 1, 1) := by decide +kernel
theorem dL_buy_5 : decode cL_buy 5 = .ok (.iload_n 2, 1) := by decide +kernel
theorem dL_buy_6 : decode cL_buy 6 = .ok (.iload_n 3, 1) := by decide +kernel
theorem dL_buy_7 : decode cL_buy 7 = .ok (.iload 4, 2) := by decide +kernel
theorem dL_buy_9 : decode cL_buy 9 = .ok (.invokevirtual 38, 3) := by decide +kernel
theorem dL_buy_12 : decode cL_buy 12 = .ok (.i2l, 1) := by decide +kernel
theorem dL_buy_13 : decode cL_buy 13 = .ok (.lastore, 1) := by decide +kernel
theorem dL_buy_14 : decode cL_buy 14 = .ok (.goto 11, 3) := by decide +kernel
theorem dL_buy_17 : decode cL_buy 17 = .ok (.astore 6, 2) := by decide +kernel
theorem dL_buy_19 : decode cL_buy 19 = .ok (.iconst 1, 1) := by decide +kernel
theorem dL_buy_20 : decode cL_buy 20 = .ok (.ireturn, 1) := by decide +kernel
theorem dL_buy_21 : decode cL_buy 21 = .ok (.astore 6, 2) := by decide +kernel
theorem dL_buy_23 : decode cL_buy 23 = .ok (.iconst 2, 1) := by decide +kernel
theorem dL_buy_24 : decode cL_buy 24 = .ok (.ireturn, 1) := by decide +kernel
theorem dL_buy_25 : decode cL_buy 25 = .ok (.iconst 0, 1) := by decide +kernel
theorem dL_buy_26 : decode cL_buy 26 = .ok (.ireturn, 1) := by decide +kernel
set_option maxRecDepth 20000 in
theorem ggL_setToll_X0_setToll : GoodIn wsL_setToll wsX0_setToll := goodIn_ca (goodIn_ca (goodIn_ca (goodIn_r _ [8, 9, 10, 11, 12, 13, 14, 7, 15, 16, 17, 18, 19, 20, 21, 22, 23, 24, 25, 26, 27, 28, 29, 30, 31, 32, 33, 34, 35, 36, 37, 38, 39, 40, 41, 42, 43, 44, 45, 46, 47, 48, 49, 50, 51, 52, 53, 54] (by decide +kernel) (by decide +kernel)) (goodIn_sub (fun _ h => List.mem_cons_of_mem _ (List.mem_append_left _ (List.mem_append_left _ (List.mem_append_right _ h)))) (by decide +kernel))) (goodIn_sub (fun _ h => List.mem_cons_of_mem _ (List.mem_append_left _ (List.mem_append_right _ h))) (by decide +kernel))) (goodIn_sub (fun _ h => List.mem_cons_of_mem _ (List.mem_append_right _ h)) (by decide +kernel))
set_option maxRecDepth 20000 in
theorem gL_setToll_X0_setToll : GoodIn wsL_setToll (wsV RL 41 RX0 yX0_setToll wsX0_setToll) := goodIn_app (goodIn_of _ (by decide +kernel)) ggL_setToll_X0_setToll
theorem dL_setToll_0 : decode cL_setToll 0 = .ok (.aload 4, 2) := by decide +kernel
theorem dL_setToll_2 : decode cL_setToll 2 = .ok (.iconst 0, 1) := by decide +kernel
theorem dL_setToll_3 : decode cL_setToll 3 = .ok (.aload_n 0, 1) := by decide +kernel
theorem dL_setToll_4 : decode cL_setToll 4 = .ok (.iload_n 1, 1) := by decide +kernel
theorem dL_setToll_5 : decode cL_setToll 5 = .ok (.iload_n 2, 1) := by decide +kernel
theorem dL_setToll_6 : decode cL_setToll 6 = .ok (.iload_n 3, 1) := by decide +kernel
theorem dL_setToll_7 : decode cL_setToll 7 = .ok (.invokevirtual 41, 3) := by decide +kernel
theorem dL_setToll_10 : decode cL_setToll 10 = .ok (.i2l, 1) := by decide +kernel
theorem dL_setToll_11 : decode cL_setToll 11 = .ok (.lastore, 1) := by decide +kernel
theorem dL_setToll_12 : decode cL_setToll 12 = .ok (.goto 15, 3) := by decide +kernel
theorem dL_setToll_15 : decode cL_setToll 15 = .ok (.astore 5, 2) := by decide +kernel
theorem dL_setToll_17 : decode cL_setToll 17 = .ok (.iconst 1, 1) := by decide +kernel
theorem dL_setToll_18 : decode cL_setToll 18 = .ok (.ireturn, 1) := by decide +kernel
theorem dL_setToll_19 : decode cL_setToll 19 = .ok (.astore 5, 2) := by decide +kernel
theorem dL_setToll_21 : decode cL_setToll 21 = .ok (.iconst 2, 1) := by decide +kernel
theorem dL_setToll_22 : decode cL_setToll 22 = .ok (.ireturn, 1) := by decide +kernel
theorem dL_setToll_23 : decode cL_setToll 23 = .ok (.astore 5, 2) := by decide +kernel
theorem dL_setToll_25 : decode cL_setToll 25 = .ok (.iconst 3, 1) := by decide +kernel
theorem dL_setToll_26 : decode cL_setToll 26 = .ok (.ireturn, 1) := by decide +kernel
theorem dL_setToll_27 : decode cL_setToll 27 = .ok (.iconst 0, 1) := by decide +kernel
theorem dL_setToll_28 : decode cL_setToll 28 = .ok (.ireturn, 1) := by decide +kernel
set_option maxRecDepth 20000 in
theorem ggL_carry_X0_carry : GoodIn wsL_carry wsX0_carry := goodIn_ca (goodIn_ca (goodIn_r _ [7, 8, 9, 10, 11, 12, 13, 14, 15, 6, 16, 17, 18, 19, 20, 21, 22, 23, 24, 25, 26, 27, 28, 29, 30, 31, 32, 33, 34, 35, 36, 37, 38, 39, 40, 41, 42, 43, 44, 45, 46, 47, 48, 49, 50, 51, 52, 53, 54, 55, 56, 57, 58] (by decide +kernel) (by decide +kernel)) (goodIn_sub (fun _ h => List.mem_cons_of_mem _ (List.mem_append_left _ (List.mem_append_right _ h))) (by decide +kernel))) (goodIn_sub (fun _ h => List.mem_cons_of_mem _ (List.mem_append_right _ h)) (by decide +kernel))
set_option maxRecDepth 20000 in
theorem gL_carry_X0_carry : GoodIn wsL_carry (wsV RL 45 RX0 yX0_carry wsX0_carry) := goodIn_app (goodIn_of _ (by decide +kernel)) ggL_carry_X0_carry
theorem dL_carry_0 : decode cL_carry 0 = .ok (.aload 4, 2) := by decide +kernel
theorem dL_carry_2 : decode cL_carry 2 = .ok (.iconst 0, 1) := by decide +kernel
theorem dL_carry_3 : decode cL_carry 3 = .ok (.aload_n 0, 1) := by decide +kernel
theorem dL_carry_4 : decode cL_carry 4 = .ok (.iload_n 1, 1) := by decide +kernel
theorem dL_carry_5 : decode cL_carry 5 = .ok (.iload_n 2, 1) := by decide +kernel
theorem dL_carry_6 : decode cL_carry 6 = .ok (.iload_n 3, 1) := by decide +kernel
theorem dL_carry_7 : decode cL_carry 7 = .ok (.invokevirtual 45, 3) := by decide +kernel
theorem dL_carry_10 : decode cL_carry 10 = .ok (.i2l, 1) := by decide +kernel
theorem dL_carry_11 : decode cL_carry 11 = .ok (.lastore, 1) := by decide +kernel
theorem dL_carry_12 : decode cL_carry 12 = .ok (.goto 11, 3) := by decide +kernel
theorem dL_carry_15 : decode cL_carry 15 = .ok (.astore 5, 2) := by decide +kernel
theorem dL_carry_17 : decode cL_carry 17 = .ok (.iconst 1, 1) := by decide +kernel
theorem dL_carry_18 : decode cL_carry 18 = .ok (.ireturn, 1) := by decide +kernel
theorem dL_carry_19 : decode cL_carry 19 = .ok (.astore 5, 2) := by decide +kernel
theorem dL_carry_21 : decode cL_carry 21 = .ok (.iconst 2, 1) := by decide +kernel
theorem dL_carry_22 : decode cL_carry 22 = .ok (.ireturn, 1) := by decide +kernel
theorem dL_carry_23 : decode cL_carry 23 = .ok (.iconst 0, 1) := by decide +kernel
theorem dL_carry_24 : decode cL_carry 24 = .ok (.ireturn, 1) := by decide +kernel
set_option maxRecDepth 20000 in
theorem ggL_die_X0_die : GoodIn wsL_die wsX0_die := goodIn_ca (goodIn_ca (goodIn_r _ [7, 8, 9, 10, 11, 12, 13, 6, 14, 15, 16, 17, 18, 19, 20, 21, 22, 23, 24, 25, 26, 27, 28, 29, 30, 31, 32, 33, 34, 35, 36, 37, 38, 39, 40, 41, 42, 43, 44, 45, 46, 47, 48, 49, 50, 51, 52, 53, 54, 55, 56, 57, 58, 59, 60, 61, 62, 63, 64, 65, 66, 67, 68, 69, 70, 71, 72, 73, 74, 75, 76, 77, 78, 79, 80, 81, 82] (by decide +kernel) (by decide +kernel)) (goodIn_sub (fun _ h => List.mem_cons_of_mem _ (List.mem_append_left _ (List.mem_append_right _ h))) (by decide +kernel))) (goodIn_sub (fun _ h => List.mem_cons_of_mem _ (List.mem_append_right _ h)) (by decide +kernel))
set_option maxRecDepth 20000 in
theorem gL_die_X0_die : GoodIn wsL_die (wsV RL 48 RX0 yX0_die wsX0_die) := goodIn_app (goodIn_of _ (by decide +kernel)) ggL_die_X0_die
theorem dL_die_0 : decode cL_die 0 = .ok (.aload_n 2, 1) := by decide +kernel
theorem dL_die_1 : decode cL_die 1 = .ok (.iconst 0, 1) := by decide +kernel
theorem dL_die_2 : decode cL_die 2 = .ok (.aload_n 0, 1) := by decide +kernel
theorem dL_die_3 : decode cL_die 3 = .ok (.iload_n 1, 1) := by decide +kernel
theorem dL_die_4 : decode cL_die 4 = .ok (.invokevirtual 48, 3) := by decide +kernel
theorem dL_die_7 : decode cL_die 7 = .ok (.i2l, 1) := by decide +kernel
theorem dL_die_8 : decode cL_die 8 = .ok (.lastore, 1) := by decide +kernel
theorem dL_die_9 : decode cL_die 9 = .ok (.goto 9, 3) := by decide +kernel
theorem dL_die_12 : decode cL_die 12 = .ok (.astore_n 3, 1) := by decide +kernel
theorem dL_die_13 : decode cL_die 13 = .ok (.iconst 1, 1) := by decide +kernel
theorem dL_die_14 : decode cL_die 14 = .ok (.ireturn, 1) := by decide +kernel
theorem dL_die_15 : decode cL_die 15 = .ok (.astore_n 3, 1) := by decide +kernel
theorem dL_die_16 : decode cL_die 16 = .ok (.iconst 2, 1) := by decide +kernel
theorem dL_die_17 : decode cL_die 17 = .ok (.ireturn, 1) := by decide +kernel
theorem dL_die_18 : decode cL_die 18 = .ok (.iconst 0, 1) := by decide +kernel
theorem dL_die_19 : decode cL_die 19 = .ok (.ireturn, 1) := by decide +kernel
set_option maxRecDepth 20000 in
theorem ggL_toll_X0_toll : GoodIn wsL_toll wsX0_toll := goodIn_ca (goodIn_r _ [6, 7, 8, 9, 10, 5, 11, 12, 13, 14, 15, 16, 17, 18, 19, 20, 21, 22, 23, 24] (by decide +kernel) (by decide +kernel)) (goodIn_sub (fun _ h => List.mem_cons_of_mem _ (List.mem_append_right _ h)) (by decide +kernel))
set_option maxRecDepth 20000 in
theorem gL_toll_X0_toll : GoodIn wsL_toll (wsV RL 51 RX0 yX0_toll wsX0_toll) := goodIn_app (goodIn_of _ (by decide +kernel)) ggL_toll_X0_toll
theorem dL_toll_0 : decode cL_toll 0 = .ok (.aload_n 2, 1) := by decide +kernel
theorem dL_toll_1 : decode cL_toll 1 = .ok (.iconst 0, 1) := by decide +kernel
theorem dL_toll_2 : decode cL_toll 2 = .ok (.aload_n 0, 1) := by decide +kernel
theorem dL_toll_3 : decode cL_toll 3 = .ok (.iload_n 1, 1) := by decide +kernel
theorem dL_toll_4 : decode cL_toll 4 = .ok (.invokevirtual 51, 3) := by decide +kernel
theorem dL_toll_7 : decode cL_toll 7 = .ok (.i2l, 1) := by decide +kernel
theorem dL_toll_8 : decode cL_toll 8 = .ok (.lastore, 1) := by decide +kernel
theorem dL_toll_9 : decode cL_toll 9 = .ok (.goto 6, 3) := by decide +kernel
theorem dL_toll_12 : decode cL_toll 12 = .ok (.astore_n 3, 1) := by decide +kernel
theorem dL_toll_13 : decode cL_toll 13 = .ok (.iconst 1, 1) := by decide +kernel
theorem dL_toll_14 : decode cL_toll 14 = .ok (.ireturn, 1) := by decide +kernel
theorem dL_toll_15 : decode cL_toll 15 = .ok (.iconst 0, 1) := by decide +kernel
theorem dL_toll_16 : decode cL_toll 16 = .ok (.ireturn, 1) := by decide +kernel
set_option maxRecDepth 20000 in
theorem ggL_carried_X0_carried : GoodIn wsL_carried wsX0_carried := goodIn_ca (goodIn_r _ [6, 7, 8, 9, 10, 5, 11, 12, 13, 14, 15, 16, 17, 18, 19, 20, 21, 22, 23, 24] (by decide +kernel) (by decide +kernel)) (goodIn_sub (fun _ h => List.mem_cons_of_mem _ (List.mem_append_right _ h)) (by decide +kernel))
set_option maxRecDepth 20000 in
theorem gL_carried_X0_carried : GoodIn wsL_carried (wsV RL 54 RX0 yX0_carried wsX0_carried) := goodIn_app (goodIn_of _ (by decide +kernel)) ggL_carried_X0_carried
theorem dL_carried_0 : decode cL_carried 0 = .ok (.aload_n 2, 1) := by decide +kernel
theorem dL_carried_1 : decode cL_carried 1 = .ok (.iconst 0, 1) := by decide +kernel
theorem dL_carried_2 : decode cL_carried 2 = .ok (.aload_n 0, 1) := by decide +kernel
theorem dL_carried_3 : decode cL_carried 3 = .ok (.iload_n 1, 1) := by decide +kernel
theorem dL_carried_4 : decode cL_carried 4 = .ok (.invokevirtual 54, 3) := by decide +kernel
theorem dL_carried_7 : decode cL_carried 7 = .ok (.i2l, 1) := by decide +kernel
theorem dL_carried_8 : decode cL_carried 8 = .ok (.lastore, 1) := by decide +kernel
theorem dL_carried_9 : decode cL_carried 9 = .ok (.goto 6, 3) := by decide +kernel
theorem dL_carried_12 : decode cL_carried 12 = .ok (.astore_n 3, 1) := by decide +kernel
theorem dL_carried_13 : decode cL_carried 13 = .ok (.iconst 1, 1) := by decide +kernel
theorem dL_carried_14 : decode cL_carried 14 = .ok (.ireturn, 1) := by decide +kernel
theorem dL_carried_15 : decode cL_carried 15 = .ok (.iconst 0, 1) := by decide +kernel
theorem dL_carried_16 : decode cL_carried 16 = .ok (.ireturn, 1) := by decide +kernel
set_option maxRecDepth 20000 in
theorem ggL_shares_X0_shares : GoodIn wsL_shares wsX0_shares := goodIn_ca (goodIn_r _ [6, 7, 8, 9, 5, 10, 11, 12, 13, 14, 15, 16, 17, 18, 19, 20, 21, 22, 23, 24, 25, 26, 27, 28, 29, 30, 31, 32, 33, 34, 35, 36, 37, 38, 39] (by decide +kernel) (by decide +kernel)) (goodIn_sub (fun _ h => List.mem_cons_of_mem _ (List.mem_append_right _ h)) (by decide +kernel))
set_option maxRecDepth 20000 in
theorem gL_shares_X0_shares : GoodIn wsL_shares (wsV RL 57 RX0 yX0_shares wsX0_shares) := goodIn_app (goodIn_of _ (by decide +kernel)) ggL_shares_X0_shares
theorem dL_shares_0 : decode cL_shares 0 = .ok (.aload 4, 2) := by decide +kernel
theorem dL_shares_2 : decode cL_shares 2 = .ok (.iconst 0, 1) := by decide +kernel
theorem dL_shares_3 : decode cL_shares 3 = .ok (.aload_n 0, 1) := by decide +kernel
theorem dL_shares_4 : decode cL_shares 4 = .ok (.iload_n 1, 1) := by decide +kernel
theorem dL_shares_5 : decode cL_shares 5 = .ok (.iload_n 2, 1) := by decide +kernel
theorem dL_shares_6 : decode cL_shares 6 = .ok (.iload_n 3, 1) := by decide +kernel
theorem dL_shares_7 : decode cL_shares 7 = .ok (.invokevirtual 57, 3) := by decide +kernel
theorem dL_shares_10 : decode cL_shares 10 = .ok (.i2l, 1) := by decide +kernel
theorem dL_shares_11 : decode cL_shares 11 = .ok (.lastore, 1) := by decide +kernel
theorem dL_shares_12 : decode cL_shares 12 = .ok (.goto 7, 3) := by decide +kernel
theorem dL_shares_15 : decode cL_shares 15 = .ok (.astore 5, 2) := by decide +kernel
theorem dL_shares_17 : decode cL_shares 17 = .ok (.iconst 1, 1) := by decide +kernel
theorem dL_shares_18 : decode cL_shares 18 = .ok (.ireturn, 1) := by decide +kernel
theorem dL_shares_19 : decode cL_shares 19 = .ok (.iconst 0, 1) := by decide +kernel
theorem dL_shares_20 : decode cL_shares 20 = .ok (.ireturn, 1) := by decide +kernel
set_option maxRecDepth 20000 in
theorem ggL_crownShares_X0_crownShares : GoodIn wsL_crownShares wsX0_crownShares := goodIn_ca (goodIn_r _ [6, 7, 8, 9, 5, 10, 11, 12, 13, 14, 15, 16, 17, 18, 19, 20, 21, 22, 23, 24, 25, 26, 27, 28, 29, 30, 31, 32, 33, 34, 35, 36, 37, 38, 39] (by decide +kernel) (by decide +kernel)) (goodIn_sub (fun _ h => List.mem_cons_of_mem _ (List.mem_append_right _ h)) (by decide +kernel))
set_option maxRecDepth 20000 in
theorem gL_crownShares_X0_crownShares : GoodIn wsL_crownShares (wsV RL 60 RX0 yX0_crownShares wsX0_crownShares) := goodIn_app (goodIn_of _ (by decide +kernel)) ggL_crownShares_X0_crownShares
theorem dL_crownShares_0 : decode cL_crownShares 0 = .ok (.aload_n 3, 1) := by decide +kernel
theorem dL_crownShares_1 : decode cL_crownShares 1 = .ok (.iconst 0, 1) := by decide +kernel
theorem dL_crownShares_2 : decode cL_crownShares 2 = .ok (.aload_n 0, 1) := by decide +kernel
theorem dL_crownShares_3 : decode cL_crownShares 3 = .ok (.iload_n 1, 1) := by decide +kernel
theorem dL_crownShares_4 : decode cL_crownShares 4 = .ok (.iload_n 2, 1) := by decide +kernel
theorem dL_crownShares_5 : decode cL_crownShares 5 = .ok (.invokevirtual 60, 3) := by decide +kernel
theorem dL_crownShares_8 : decode cL_crownShares 8 = .ok (.i2l, 1) := by decide +kernel
theorem dL_crownShares_9 : decode cL_crownShares 9 = .ok (.lastore, 1) := by decide +kernel
theorem dL_crownShares_10 : decode cL_crownShares 10 = .ok (.goto 7, 3) := by decide +kernel
theorem dL_crownShares_13 : decode cL_crownShares 13 = .ok (.astore 4, 2) := by decide +kernel
theorem dL_crownShares_15 : decode cL_crownShares 15 = .ok (.iconst 1, 1) := by decide +kernel
theorem dL_crownShares_16 : decode cL_crownShares 16 = .ok (.ireturn, 1) := by decide +kernel
theorem dL_crownShares_17 : decode cL_crownShares 17 = .ok (.iconst 0, 1) := by decide +kernel
theorem dL_crownShares_18 : decode cL_crownShares 18 = .ok (.ireturn, 1) := by decide +kernel
set_option maxRecDepth 20000 in
theorem ggL_owners_X0_owners : GoodIn wsL_owners wsX0_owners := goodIn_ca (goodIn_r _ [6, 7, 8, 9, 10, 5, 11, 12, 13, 14, 15, 16, 17, 18, 19, 20, 21, 22, 23, 24, 25, 26, 27, 28, 29, 30, 31, 32, 33, 34, 35] (by decide +kernel) (by decide +kernel)) (goodIn_sub (fun _ h => List.mem_cons_of_mem _ (List.mem_append_right _ h)) (by decide +kernel))
set_option maxRecDepth 20000 in
theorem gL_owners_X0_owners : GoodIn wsL_owners (wsV RL 63 RX0 yX0_owners wsX0_owners) := goodIn_app (goodIn_of _ (by decide +kernel)) ggL_owners_X0_owners
theorem dL_owners_0 : decode cL_owners 0 = .ok (.aload_n 3, 1) := by decide +kernel
theorem dL_owners_1 : decode cL_owners 1 = .ok (.iconst 0, 1) := by decide +kernel
theorem dL_owners_2 : decode cL_owners 2 = .ok (.aload_n 0, 1) := by decide +kernel
theorem dL_owners_3 : decode cL_owners 3 = .ok (.iload_n 1, 1) := by decide +kernel
theorem dL_owners_4 : decode cL_owners 4 = .ok (.iload_n 2, 1) := by decide +kernel
theorem dL_owners_5 : decode cL_owners 5 = .ok (.invokevirtual 63, 3) := by decide +kernel
theorem dL_owners_8 : decode cL_owners 8 = .ok (.i2l, 1) := by decide +kernel
theorem dL_owners_9 : decode cL_owners 9 = .ok (.lastore, 1) := by decide +kernel
theorem dL_owners_10 : decode cL_owners 10 = .ok (.goto 7, 3) := by decide +kernel
theorem dL_owners_13 : decode cL_owners 13 = .ok (.astore 4, 2) := by decide +kernel
theorem dL_owners_15 : decode cL_owners 15 = .ok (.iconst 1, 1) := by decide +kernel
theorem dL_owners_16 : decode cL_owners 16 = .ok (.ireturn, 1) := by decide +kernel
theorem dL_owners_17 : decode cL_owners 17 = .ok (.iconst 0, 1) := by decide +kernel
theorem dL_owners_18 : decode cL_owners 18 = .ok (.ireturn, 1) := by decide +kernel
set_option maxRecDepth 20000 in
theorem ggL_holder_X0_holder : GoodIn wsL_holder wsX0_holder := goodIn_ca (goodIn_ca (goodIn_r _ [7, 8, 9, 10, 11, 12, 13, 6, 14, 15, 16, 17, 18, 19, 20, 21, 22, 23, 24, 25, 26, 27, 28, 29, 30, 31, 32, 33, 34, 35, 36, 37, 38] (by decide +kernel) (by decide +kernel)) (goodIn_sub (fun _ h => List.mem_cons_of_mem _ (List.mem_append_left _ (List.mem_append_right _ h))) (by decide +kernel))) (goodIn_sub (fun _ h => List.mem_cons_of_mem _ (List.mem_append_right _ h)) (by decide +kernel))
set_option maxRecDepth 20000 in
theorem gL_holder_X0_holder : GoodIn wsL_holder (wsV RL 66 RX0 yX0_holder wsX0_holder) := goodIn_app (goodIn_of _ (by decide +kernel)) ggL_holder_X0_holder
theorem dL_holder_0 : decode cL_holder 0 = .ok (.aload_n 3, 1) := by decide +kernel
theorem dL_holder_1 : decode cL_holder 1 = .ok (.iconst 0, 1) := by decide +kernel
theorem dL_holder_2 : decode cL_holder 2 = .ok (.aload_n 0, 1) := by decide +kernel
theorem dL_holder_3 : decode cL_holder 3 = .ok (.iload_n 1, 1) := by decide +kernel
theorem dL_holder_4 : decode cL_holder 4 = .ok (.iload_n 2, 1) := by decide +kernel
theorem dL_holder_5 : decode cL_holder 5 = .ok (.invokevirtual 66, 3) := by decide +kernel
theorem dL_holder_8 : decode cL_holder 8 = .ok (.i2l, 1) := by decide +kernel
theorem dL_holder_9 : decode cL_holder 9 = .ok (.lastore, 1) := by decide +kernel
theorem dL_holder_10 : decode cL_holder 10 = .ok (.goto 11, 3) := by decide +kernel
theorem dL_holder_13 : decode cL_holder 13 = .ok (.astore 4, 2) := by decide +kernel
theorem dL_holder_15 : decode cL_holder 15 = .ok (.iconst 1, 1) := by decide +kernel
theorem dL_holder_16 : decode cL_holder 16 = .ok (.ireturn, 1) := by decide +kernel
theorem dL_holder_17 : decode cL_holder 17 = .ok (.astore 4, 2) := by decide +kernel
theorem dL_holder_19 : decode cL_holder 19 = .ok (.iconst 2, 1) := by decide +kernel
theorem dL_holder_20 : decode cL_holder 20 = .ok (.ireturn, 1) := by decide +kernel
theorem dL_holder_21 : decode cL_holder 21 = .ok (.iconst 0, 1) := by decide +kernel
theorem dL_holder_22 : decode cL_holder 22 = .ok (.ireturn, 1) := by decide +kernel
set_option maxRecDepth 20000 in
theorem ggL_master_X0_master : GoodIn wsL_master wsX0_master := goodIn_ca (goodIn_ca (goodIn_r _ [7, 8, 9, 10, 11, 12, 6, 13, 14, 15, 16, 17, 18, 19, 20, 21, 22, 23, 24, 25, 26, 27, 28, 29, 30, 31, 32, 33, 34, 35, 36, 37, 38, 39, 40, 41, 42, 43] (by decide +kernel) (by decide +kernel)) (goodIn_sub (fun _ h => List.mem_cons_of_mem _ (List.mem_append_left _ (List.mem_append_right _ h))) (by decide +kernel))) (goodIn_sub (fun _ h => List.mem_cons_of_mem _ (List.mem_append_right _ h)) (by decide +kernel))
set_option maxRecDepth 20000 in
theorem gL_master_X0_master : GoodIn wsL_master (wsV RL 69 RX0 yX0_master wsX0_master) := goodIn_app (goodIn_of _ (by decide +kernel)) ggL_master_X0_master
theorem dL_master_0 : decode cL_master 0 = .ok (.aload_n 2, 1) := by decide +kernel
theorem dL_master_1 : decode cL_master 1 = .ok (.iconst 0, 1) := by decide +kernel
theorem dL_master_2 : decode cL_master 2 = .ok (.aload_n 0, 1) := by decide +kernel
theorem dL_master_3 : decode cL_master 3 = .ok (.iload_n 1, 1) := by decide +kernel
theorem dL_master_4 : decode cL_master 4 = .ok (.invokevirtual 69, 3) := by decide +kernel
theorem dL_master_7 : decode cL_master 7 = .ok (.i2l, 1) := by decide +kernel
theorem dL_master_8 : decode cL_master 8 = .ok (.lastore, 1) := by decide +kernel
theorem dL_master_9 : decode cL_master 9 = .ok (.goto 9, 3) := by decide +kernel
theorem dL_master_12 : decode cL_master 12 = .ok (.astore_n 3, 1) := by decide +kernel
theorem dL_master_13 : decode cL_master 13 = .ok (.iconst 1, 1) := by decide +kernel
theorem dL_master_14 : decode cL_master 14 = .ok (.ireturn, 1) := by decide +kernel
theorem dL_master_15 : decode cL_master 15 = .ok (.astore_n 3, 1) := by decide +kernel
theorem dL_master_16 : decode cL_master 16 = .ok (.iconst 2, 1) := by decide +kernel
theorem dL_master_17 : decode cL_master 17 = .ok (.ireturn, 1) := by decide +kernel
theorem dL_master_18 : decode cL_master 18 = .ok (.iconst 0, 1) := by decide +kernel
theorem dL_master_19 : decode cL_master 19 = .ok (.ireturn, 1) := by decide +kernel
set_option maxRecDepth 20000 in
theorem ggL_hasMaster_X0_hasMaster : GoodIn wsL_hasMaster wsX0_hasMaster := goodIn_ca (goodIn_r _ [6, 7, 8, 9, 5, 10, 11, 12, 13, 14, 15, 16, 17, 18, 19, 20, 21, 22, 23, 24, 25, 26, 27, 28, 29, 30, 31, 32, 33, 34, 35, 36, 37, 38, 39, 40] (by decide +kernel) (by decide +kernel)) (goodIn_sub (fun _ h => List.mem_cons_of_mem _ (List.mem_append_right _ h)) (by decide +kernel))
set_option maxRecDepth 20000 in
theorem gL_hasMaster_X0_hasMaster : GoodIn wsL_hasMaster (wsV RL 72 RX0 yX0_hasMaster wsX0_hasMaster) := goodIn_app (goodIn_of _ (by decide +kernel)) ggL_hasMaster_X0_hasMaster
theorem dL_hasMaster_0 : decode cL_hasMaster 0 = .ok (.aload_n 2, 1) := by decide +kernel
theorem dL_hasMaster_1 : decode cL_hasMaster 1 = .ok (.iconst 0, 1) := by decide +kernel
theorem dL_hasMaster_2 : decode cL_hasMaster 2 = .ok (.aload_n 0, 1) := by decide +kernel
theorem dL_hasMaster_3 : decode cL_hasMaster 3 = .ok (.iload_n 1, 1) := by decide +kernel
theorem dL_hasMaster_4 : decode cL_hasMaster 4 = .ok (.invokevirtual 72, 3) := by decide +kernel
theorem dL_hasMaster_7 : decode cL_hasMaster 7 = .ok (.ifCond .eq 7, 3) := by decide +kernel
theorem dL_hasMaster_10 : decode cL_hasMaster 10 = .ok (.lconst 1, 1) := by decide +kernel
theorem dL_hasMaster_11 : decode cL_hasMaster 11 = .ok (.goto 4, 3) := by decide +kernel
theorem dL_hasMaster_14 : decode cL_hasMaster 14 = .ok (.lconst 0, 1) := by decide +kernel
theorem dL_hasMaster_15 : decode cL_hasMaster 15 = .ok (.lastore, 1) := by decide +kernel
theorem dL_hasMaster_16 : decode cL_hasMaster 16 = .ok (.goto 6, 3) := by decide +kernel
theorem dL_hasMaster_19 : decode cL_hasMaster 19 = .ok (.astore_n 3, 1) := by decide +kernel
theorem dL_hasMaster_20 : decode cL_hasMaster 20 = .ok (.iconst 1, 1) := by decide +kernel
theorem dL_hasMaster_21 : decode cL_hasMaster 21 = .ok (.ireturn, 1) := by decide +kernel
theorem dL_hasMaster_22 : decode cL_hasMaster 22 = .ok (.iconst 0, 1) := by decide +kernel
theorem dL_hasMaster_23 : decode cL_hasMaster 23 = .ok (.ireturn, 1) := by decide +kernel
set_option maxRecDepth 20000 in
theorem ggL_shareValue_X0_shareValue : GoodIn wsL_shareValue wsX0_shareValue := goodIn_ca (goodIn_r _ [6, 7, 8, 9, 5, 10, 11, 12, 13, 14, 15, 16, 17, 18, 19, 20, 21, 22, 23, 24, 25, 26, 27, 28, 29, 30, 31, 32] (by decide +kernel) (by decide +kernel)) (goodIn_sub (fun _ h => List.mem_cons_of_mem _ (List.mem_append_right _ h)) (by decide +kernel))
set_option maxRecDepth 20000 in
theorem gL_shareValue_X0_shareValue : GoodIn wsL_shareValue (wsV RL 76 RX0 yX0_shareValue wsX0_shareValue) := goodIn_app (goodIn_of _ (by decide +kernel)) ggL_shareValue_X0_shareValue
theorem dL_shareValue_0 : decode cL_shareValue 0 = .ok (.aload_n 3, 1) := by decide +kernel
theorem dL_shareValue_1 : decode cL_shareValue 1 = .ok (.iconst 0, 1) := by decide +kernel
theorem dL_shareValue_2 : decode cL_shareValue 2 = .ok (.aload_n 0, 1) := by decide +kernel
theorem dL_shareValue_3 : decode cL_shareValue 3 = .ok (.iload_n 1, 1) := by decide +kernel
theorem dL_shareValue_4 : decode cL_shareValue 4 = .ok (.iload_n 2, 1) := by decide +kernel
theorem dL_shareValue_5 : decode cL_shareValue 5 = .ok (.invokevirtual 76, 3) := by decide +kernel
theorem dL_shareValue_8 : decode cL_shareValue 8 = .ok (.i2l, 1) := by decide +kernel
theorem dL_shareValue_9 : decode cL_shareValue 9 = .ok (.lastore, 1) := by decide +kernel
theorem dL_shareValue_10 : decode cL_shareValue 10 = .ok (.goto 7, 3) := by decide +kernel
theorem dL_shareValue_13 : decode cL_shareValue 13 = .ok (.astore 4, 2) := by decide +kernel
theorem dL_shareValue_15 : decode cL_shareValue 15 = .ok (.iconst 1, 1) := by decide +kernel
theorem dL_shareValue_16 : decode cL_shareValue 16 = .ok (.ireturn, 1) := by decide +kernel
theorem dL_shareValue_17 : decode cL_shareValue 17 = .ok (.iconst 0, 1) := by decide +kernel
theorem dL_shareValue_18 : decode cL_shareValue 18 = .ok (.ireturn, 1) := by decide +kernel
set_option maxRecDepth 20000 in
theorem ggL_watchAt_X0_watchAt : GoodIn wsL_watchAt wsX0_watchAt := goodIn_ca (goodIn_r _ [6, 7, 8, 5, 9, 10, 11] (by decide +kernel) (by decide +kernel)) (goodIn_sub (fun _ h => List.mem_cons_of_mem _ (List.mem_append_right _ h)) (by decide +kernel))
set_option maxRecDepth 20000 in
theorem gL_watchAt_X0_watchAt : GoodIn wsL_watchAt (wsV RL 79 RX0 yX0_watchAt wsX0_watchAt) := goodIn_app (goodIn_of _ (by decide +kernel)) ggL_watchAt_X0_watchAt
theorem dL_watchAt_0 : decode cL_watchAt 0 = .ok (.aload_n 2, 1) := by decide +kernel
theorem dL_watchAt_1 : decode cL_watchAt 1 = .ok (.iconst 0, 1) := by decide +kernel
theorem dL_watchAt_2 : decode cL_watchAt 2 = .ok (.aload_n 0, 1) := by decide +kernel
theorem dL_watchAt_3 : decode cL_watchAt 3 = .ok (.iload_n 1, 1) := by decide +kernel
theorem dL_watchAt_4 : decode cL_watchAt 4 = .ok (.invokevirtual 79, 3) := by decide +kernel
theorem dL_watchAt_7 : decode cL_watchAt 7 = .ok (.i2l, 1) := by decide +kernel
theorem dL_watchAt_8 : decode cL_watchAt 8 = .ok (.lastore, 1) := by decide +kernel
theorem dL_watchAt_9 : decode cL_watchAt 9 = .ok (.goto 6, 3) := by decide +kernel
theorem dL_watchAt_12 : decode cL_watchAt 12 = .ok (.astore_n 3, 1) := by decide +kernel
theorem dL_watchAt_13 : decode cL_watchAt 13 = .ok (.iconst 1, 1) := by decide +kernel
theorem dL_watchAt_14 : decode cL_watchAt 14 = .ok (.ireturn, 1) := by decide +kernel
theorem dL_watchAt_15 : decode cL_watchAt 15 = .ok (.iconst 0, 1) := by decide +kernel
theorem dL_watchAt_16 : decode cL_watchAt 16 = .ok (.ireturn, 1) := by decide +kernel
set_option maxRecDepth 20000 in
theorem ggL_isAlive_X0_isAlive : GoodIn wsL_isAlive wsX0_isAlive := goodIn_ca (goodIn_r _ [6, 7, 8, 9, 10, 5, 11, 12, 13, 14, 15, 16, 17, 18, 19, 20, 21, 22, 23, 24] (by decide +kernel) (by decide +kernel)) (goodIn_sub (fun _ h => List.mem_cons_of_mem _ (List.mem_append_right _ h)) (by decide +kernel))
set_option maxRecDepth 20000 in
theorem gL_isAlive_X0_isAlive : GoodIn wsL_isAlive (wsV RL 82 RX0 yX0_isAlive wsX0_isAlive) := goodIn_app (goodIn_of _ (by decide +kernel)) ggL_isAlive_X0_isAlive
theorem dL_isAlive_0 : decode cL_isAlive 0 = .ok (.aload_n 2, 1) := by decide +kernel
theorem dL_isAlive_1 : decode cL_isAlive 1 = .ok (.iconst 0, 1) := by decide +kernel
theorem dL_isAlive_2 : decode cL_isAlive 2 = .ok (.aload_n 0, 1) := by decide +kernel
theorem dL_isAlive_3 : decode cL_isAlive 3 = .ok (.iload_n 1, 1) := by decide +kernel
theorem dL_isAlive_4 : decode cL_isAlive 4 = .ok (.invokevirtual 82, 3) := by decide +kernel
theorem dL_isAlive_7 : decode cL_isAlive 7 = .ok (.ifCond .eq 7, 3) := by decide +kernel
theorem dL_isAlive_10 : decode cL_isAlive 10 = .ok (.lconst 1, 1) := by decide +kernel
theorem dL_isAlive_11 : decode cL_isAlive 11 = .ok (.goto 4, 3) := by decide +kernel
theorem dL_isAlive_14 : decode cL_isAlive 14 = .ok (.lconst 0, 1) := by decide +kernel
theorem dL_isAlive_15 : decode cL_isAlive 15 = .ok (.lastore, 1) := by decide +kernel
theorem dL_isAlive_16 : decode cL_isAlive 16 = .ok (.goto 6, 3) := by decide +kernel
theorem dL_isAlive_19 : decode cL_isAlive 19 = .ok (.astore_n 3, 1) := by decide +kernel
theorem dL_isAlive_20 : decode cL_isAlive 20 = .ok (.iconst 1, 1) := by decide +kernel
theorem dL_isAlive_21 : decode cL_isAlive 21 = .ok (.ireturn, 1) := by decide +kernel
theorem dL_isAlive_22 : decode cL_isAlive 22 = .ok (.iconst 0, 1) := by decide +kernel
theorem dL_isAlive_23 : decode cL_isAlive 23 = .ok (.ireturn, 1) := by decide +kernel
set_option maxRecDepth 20000 in
theorem ggL_coins_X0_coins : GoodIn wsL_coins wsX0_coins := goodIn_ca (goodIn_r _ [6, 7, 8, 9, 10, 5, 11, 12, 13, 14, 15, 16, 17, 18, 19, 20, 21, 22, 23, 24] (by decide +kernel) (by decide +kernel)) (goodIn_sub (fun _ h => List.mem_cons_of_mem _ (List.mem_append_right _ h)) (by decide +kernel))
set_option maxRecDepth 20000 in
theorem gL_coins_X0_coins : GoodIn wsL_coins (wsV RL 85 RX0 yX0_coins wsX0_coins) := goodIn_app (goodIn_of _ (by decide +kernel)) ggL_coins_X0_coins
theorem dL_coins_0 : decode cL_coins 0 = .ok (.aload_n 2, 1) := by decide +kernel
theorem dL_coins_1 : decode cL_coins 1 = .ok (.iconst 0, 1) := by decide +kernel
theorem dL_coins_2 : decode cL_coins 2 = .ok (.aload_n 0, 1) := by decide +kernel
theorem dL_coins_3 : decode cL_coins 3 = .ok (.iload_n 1, 1) := by decide +kernel
theorem dL_coins_4 : decode cL_coins 4 = .ok (.invokevirtual 85, 3) := by decide +kernel
theorem dL_coins_7 : decode cL_coins 7 = .ok (.i2l, 1) := by decide +kernel
theorem dL_coins_8 : decode cL_coins 8 = .ok (.lastore, 1) := by decide +kernel
theorem dL_coins_9 : decode cL_coins 9 = .ok (.goto 6, 3) := by decide +kernel
theorem dL_coins_12 : decode cL_coins 12 = .ok (.astore_n 3, 1) := by decide +kernel
theorem dL_coins_13 : decode cL_coins 13 = .ok (.iconst 1, 1) := by decide +kernel
theorem dL_coins_14 : decode cL_coins 14 = .ok (.ireturn, 1) := by decide +kernel
theorem dL_coins_15 : decode cL_coins 15 = .ok (.iconst 0, 1) := by decide +kernel
theorem dL_coins_16 : decode cL_coins 16 = .ok (.ireturn, 1) := by decide +kernel
set_option maxRecDepth 20000 in
theorem ggL_earned_X0_earned : GoodIn wsL_earned wsX0_earned := goodIn_ca (goodIn_r _ [6, 7, 8, 9, 10, 5, 11, 12, 13, 14, 15, 16, 17, 18, 19, 20, 21, 22, 23, 24] (by decide +kernel) (by decide +kernel)) (goodIn_sub (fun _ h => List.mem_cons_of_mem _ (List.mem_append_right _ h)) (by decide +kernel))
set_option maxRecDepth 20000 in
theorem gL_earned_X0_earned : GoodIn wsL_earned (wsV RL 88 RX0 yX0_earned wsX0_earned) := goodIn_app (goodIn_of _ (by decide +kernel)) ggL_earned_X0_earned
theorem dL_earned_0 : decode cL_earned 0 = .ok (.aload_n 2, 1) := by decide +kernel
theorem dL_earned_1 : decode cL_earned 1 = .ok (.iconst 0, 1) := by decide +kernel
theorem dL_earned_2 : decode cL_earned 2 = .ok (.aload_n 0, 1) := by decide +kernel
theorem dL_earned_3 : decode cL_earned 3 = .ok (.iload_n 1, 1) := by decide +kernel
theorem dL_earned_4 : decode cL_earned 4 = .ok (.invokevirtual 88, 3) := by decide +kernel
theorem dL_earned_7 : decode cL_earned 7 = .ok (.i2l, 1) := by decide +kernel
theorem dL_earned_8 : decode cL_earned 8 = .ok (.lastore, 1) := by decide +kernel
theorem dL_earned_9 : decode cL_earned 9 = .ok (.goto 6, 3) := by decide +kernel
theorem dL_earned_12 : decode cL_earned 12 = .ok (.astore_n 3, 1) := by decide +kernel
theorem dL_earned_13 : decode cL_earned 13 = .ok (.iconst 1, 1) := by decide +kernel
theorem dL_earned_14 : decode cL_earned 14 = .ok (.ireturn, 1) := by decide +kernel
theorem dL_earned_15 : decode cL_earned 15 = .ok (.iconst 0, 1) := by decide +kernel
theorem dL_earned_16 : decode cL_earned 16 = .ok (.ireturn, 1) := by decide +kernel
set_option maxRecDepth 20000 in
theorem ggL_allShares_X0_allShares : GoodIn wsL_allShares wsX0_allShares := goodIn_ca (goodIn_r _ [6, 7, 8, 9, 5, 10, 11, 12, 13, 14, 15, 16, 17, 18, 19, 20, 21, 22, 23, 24, 25, 26, 27, 28, 29, 30, 31, 32, 33, 34, 35, 36, 37, 38, 39, 40] (by decide +kernel) (by decide +kernel)) (goodIn_sub (fun _ h => List.mem_cons_of_mem _ (List.mem_append_right _ h)) (by decide +kernel))
set_option maxRecDepth 20000 in
theorem gL_allShares_X0_allShares : GoodIn wsL_allShares (wsV RL 91 RX0 yX0_allShares wsX0_allShares) := goodIn_app (goodIn_of _ (by decide +kernel)) ggL_allShares_X0_allShares
theorem dL_allShares_0 : decode cL_allShares 0 = .ok (.aload_n 2, 1) := by decide +kernel
theorem dL_allShares_1 : decode cL_allShares 1 = .ok (.iconst 0, 1) := by decide +kernel
theorem dL_allShares_2 : decode cL_allShares 2 = .ok (.aload_n 0, 1) := by decide +kernel
theorem dL_allShares_3 : decode cL_allShares 3 = .ok (.iload_n 1, 1) := by decide +kernel
theorem dL_allShares_4 : decode cL_allShares 4 = .ok (.invokevirtual 91, 3) := by decide +kernel
theorem dL_allShares_7 : decode cL_allShares 7 = .ok (.i2l, 1) := by decide +kernel
theorem dL_allShares_8 : decode cL_allShares 8 = .ok (.lastore, 1) := by decide +kernel
theorem dL_allShares_9 : decode cL_allShares 9 = .ok (.goto 6, 3) := by decide +kernel
theorem dL_allShares_12 : decode cL_allShares 12 = .ok (.astore_n 3, 1) := by decide +kernel
theorem dL_allShares_13 : decode cL_allShares 13 = .ok (.iconst 1, 1) := by decide +kernel
theorem dL_allShares_14 : decode cL_allShares 14 = .ok (.ireturn, 1) := by decide +kernel
theorem dL_allShares_15 : decode cL_allShares 15 = .ok (.iconst 0, 1) := by decide +kernel
theorem dL_allShares_16 : decode cL_allShares 16 = .ok (.ireturn, 1) := by decide +kernel
set_option maxRecDepth 20000 in
theorem ggL_hasParent_X0_hasParent : GoodIn wsL_hasParent wsX0_hasParent := goodIn_ca (goodIn_r _ [6, 7, 8, 9, 10, 5, 11, 12, 13, 14, 15, 16, 17, 18, 19, 20, 21, 22, 23, 24] (by decide +kernel) (by decide +kernel)) (goodIn_sub (fun _ h => List.mem_cons_of_mem _ (List.mem_append_right _ h)) (by decide +kernel))
set_option maxRecDepth 20000 in
theorem gL_hasParent_X0_hasParent : GoodIn wsL_hasParent (wsV RL 94 RX0 yX0_hasParent wsX0_hasParent) := goodIn_app (goodIn_of _ (by decide +kernel)) ggL_hasParent_X0_hasParent
theorem dL_hasParent_0 : decode cL_hasParent 0 = .ok (.aload_n 2, 1) := by decide +kernel
theorem dL_hasParent_1 : decode cL_hasParent 1 = .ok (.iconst 0, 1) := by decide +kernel
theorem dL_hasParent_2 : decode cL_hasParent 2 = .ok (.aload_n 0, 1) := by decide +kernel
theorem dL_hasParent_3 : decode cL_hasParent 3 = .ok (.iload_n 1, 1) := by decide +kernel
theorem dL_hasParent_4 : decode cL_hasParent 4 = .ok (.invokevirtual 94, 3) := by decide +kernel
theorem dL_hasParent_7 : decode cL_hasParent 7 = .ok (.ifCond .eq 7, 3) := by decide +kernel
theorem dL_hasParent_10 : decode cL_hasParent 10 = .ok (.lconst 1, 1) := by decide +kernel
theorem dL_hasParent_11 : decode cL_hasParent 11 = .ok (.goto 4, 3) := by decide +kernel
theorem dL_hasParent_14 : decode cL_hasParent 14 = .ok (.lconst 0, 1) := by decide +kernel
theorem dL_hasParent_15 : decode cL_hasParent 15 = .ok (.lastore, 1) := by decide +kernel
theorem dL_hasParent_16 : decode cL_hasParent 16 = .ok (.goto 6, 3) := by decide +kernel
theorem dL_hasParent_19 : decode cL_hasParent 19 = .ok (.astore_n 3, 1) := by decide +kernel
theorem dL_hasParent_20 : decode cL_hasParent 20 = .ok (.iconst 1, 1) := by decide +kernel
theorem dL_hasParent_21 : decode cL_hasParent 21 = .ok (.ireturn, 1) := by decide +kernel
theorem dL_hasParent_22 : decode cL_hasParent 22 = .ok (.iconst 0, 1) := by decide +kernel
theorem dL_hasParent_23 : decode cL_hasParent 23 = .ok (.ireturn, 1) := by decide +kernel
set_option maxRecDepth 20000 in
theorem ggL_parent_X0_parent : GoodIn wsL_parent wsX0_parent := goodIn_ca (goodIn_ca (goodIn_r _ [7, 8, 9, 10, 11, 12, 13, 6, 14, 15, 16, 17, 18, 19, 20, 21, 22, 23, 24, 25, 26, 27] (by decide +kernel) (by decide +kernel)) (goodIn_sub (fun _ h => List.mem_cons_of_mem _ (List.mem_append_left _ (List.mem_append_right _ h))) (by decide +kernel))) (goodIn_sub (fun _ h => List.mem_cons_of_mem _ (List.mem_append_right _ h)) (by decide +kernel))
set_option maxRecDepth 20000 in
theorem gL_parent_X0_parent : GoodIn wsL_parent (wsV RL 97 RX0 yX0_parent wsX0_parent) := goodIn_app (goodIn_of _ (by decide +kernel)) ggL_parent_X0_parent
theorem dL_parent_0 : decode cL_parent 0 = .ok (.aload_n 2, 1) := by decide +kernel
theorem dL_parent_1 : decode cL_parent 1 = .ok (.iconst 0, 1) := by decide +kernel
theorem dL_parent_2 : decode cL_parent 2 = .ok (.aload_n 0, 1) := by decide +kernel
theorem dL_parent_3 : decode cL_parent 3 = .ok (.iload_n 1, 1) := by decide +kernel
theorem dL_parent_4 : decode cL_parent 4 = .ok (.invokevirtual 97, 3) := by decide +kernel
theorem dL_parent_7 : decode cL_parent 7 = .ok (.i2l, 1) := by decide +kernel
theorem dL_parent_8 : decode cL_parent 8 = .ok (.lastore, 1) := by decide +kernel
theorem dL_parent_9 : decode cL_parent 9 = .ok (.goto 9, 3) := by decide +kernel
theorem dL_parent_12 : decode cL_parent 12 = .ok (.astore_n 3, 1) := by decide +kernel
theorem dL_parent_13 : decode cL_parent 13 = .ok (.iconst 1, 1) := by decide +kernel
theorem dL_parent_14 : decode cL_parent 14 = .ok (.ireturn, 1) := by decide +kernel
theorem dL_parent_15 : decode cL_parent 15 = .ok (.astore_n 3, 1) := by decide +kernel
theorem dL_parent_16 : decode cL_parent 16 = .ok (.iconst 2, 1) := by decide +kernel
theorem dL_parent_17 : decode cL_parent 17 = .ok (.ireturn, 1) := by decide +kernel
theorem dL_parent_18 : decode cL_parent 18 = .ok (.iconst 0, 1) := by decide +kernel
theorem dL_parent_19 : decode cL_parent 19 = .ok (.ireturn, 1) := by decide +kernel
set_option maxRecDepth 20000 in
theorem ggL_children_X0_children : GoodIn wsL_children wsX0_children := goodIn_ca (goodIn_r _ [6, 7, 8, 9, 5, 10, 11, 12, 13, 14, 15, 16, 17, 18, 19, 20, 21, 22, 23, 24, 25, 26, 27, 28] (by decide +kernel) (by decide +kernel)) (goodIn_sub (fun _ h => List.mem_cons_of_mem _ (List.mem_append_right _ h)) (by decide +kernel))
set_option maxRecDepth 20000 in
theorem gL_children_X0_children : GoodIn wsL_children (wsV RL 100 RX0 yX0_children wsX0_children) := goodIn_app (goodIn_of _ (by decide +kernel)) ggL_children_X0_children
theorem dL_children_0 : decode cL_children 0 = .ok (.aload_n 2, 1) := by decide +kernel
theorem dL_children_1 : decode cL_children 1 = .ok (.iconst 0, 1) := by decide +kernel
theorem dL_children_2 : decode cL_children 2 = .ok (.aload_n 0, 1) := by decide +kernel
theorem dL_children_3 : decode cL_children 3 = .ok (.iload_n 1, 1) := by decide +kernel
theorem dL_children_4 : decode cL_children 4 = .ok (.invokevirtual 100, 3) := by decide +kernel
theorem dL_children_7 : decode cL_children 7 = .ok (.i2l, 1) := by decide +kernel
theorem dL_children_8 : decode cL_children 8 = .ok (.lastore, 1) := by decide +kernel
theorem dL_children_9 : decode cL_children 9 = .ok (.goto 6, 3) := by decide +kernel
theorem dL_children_12 : decode cL_children 12 = .ok (.astore_n 3, 1) := by decide +kernel
theorem dL_children_13 : decode cL_children 13 = .ok (.iconst 1, 1) := by decide +kernel
theorem dL_children_14 : decode cL_children 14 = .ok (.ireturn, 1) := by decide +kernel
theorem dL_children_15 : decode cL_children 15 = .ok (.iconst 0, 1) := by decide +kernel
theorem dL_children_16 : decode cL_children 16 = .ok (.ireturn, 1) := by decide +kernel
set_option maxRecDepth 20000 in
theorem ggL_heirs_X0_heirs : GoodIn wsL_heirs wsX0_heirs := goodIn_ca (goodIn_r _ [6, 7, 8, 9, 5, 10, 11, 12, 13, 14, 15, 16, 17, 18, 19, 20, 21, 22, 23, 24, 25, 26, 27, 28, 29, 30, 31, 32, 33, 34, 35, 36, 37, 38, 39, 40, 41] (by decide +kernel) (by decide +kernel)) (goodIn_sub (fun _ h => List.mem_cons_of_mem _ (List.mem_append_right _ h)) (by decide +kernel))
set_option maxRecDepth 20000 in
theorem gL_heirs_X0_heirs : GoodIn wsL_heirs (wsV RL 103 RX0 yX0_heirs wsX0_heirs) := goodIn_app (goodIn_of _ (by decide +kernel)) ggL_heirs_X0_heirs
theorem dL_heirs_0 : decode cL_heirs 0 = .ok (.aload_n 2, 1) := by decide +kernel
theorem dL_heirs_1 : decode cL_heirs 1 = .ok (.iconst 0, 1) := by decide +kernel
theorem dL_heirs_2 : decode cL_heirs 2 = .ok (.aload_n 0, 1) := by decide +kernel
theorem dL_heirs_3 : decode cL_heirs 3 = .ok (.iload_n 1, 1) := by decide +kernel
theorem dL_heirs_4 : decode cL_heirs 4 = .ok (.invokevirtual 103, 3) := by decide +kernel
theorem dL_heirs_7 : decode cL_heirs 7 = .ok (.i2l, 1) := by decide +kernel
theorem dL_heirs_8 : decode cL_heirs 8 = .ok (.lastore, 1) := by decide +kernel
theorem dL_heirs_9 : decode cL_heirs 9 = .ok (.goto 6, 3) := by decide +kernel
theorem dL_heirs_12 : decode cL_heirs 12 = .ok (.astore_n 3, 1) := by decide +kernel
theorem dL_heirs_13 : decode cL_heirs 13 = .ok (.iconst 1, 1) := by decide +kernel
theorem dL_heirs_14 : decode cL_heirs 14 = .ok (.ireturn, 1) := by decide +kernel
theorem dL_heirs_15 : decode cL_heirs 15 = .ok (.iconst 0, 1) := by decide +kernel
theorem dL_heirs_16 : decode cL_heirs 16 = .ok (.ireturn, 1) := by decide +kernel
set_option maxRecDepth 20000 in
theorem ggL_heir_X0_heir : GoodIn wsL_heir wsX0_heir := goodIn_ca (goodIn_r _ [6, 7, 8, 9, 10, 11, 5, 12, 13, 14, 15, 16, 17, 18, 19, 20, 21, 22, 23, 24, 25, 26, 27, 28, 29, 30, 31, 32, 33, 34, 35, 36, 37] (by decide +kernel) (by decide +kernel)) (goodIn_sub (fun _ h => List.mem_cons_of_mem _ (List.mem_append_right _ h)) (by decide +kernel))
set_option maxRecDepth 20000 in
theorem gL_heir_X0_heir : GoodIn wsL_heir (wsV RL 106 RX0 yX0_heir wsX0_heir) := goodIn_app (goodIn_of _ (by decide +kernel)) ggL_heir_X0_heir
theorem dL_heir_0 : decode cL_heir 0 = .ok (.aload_n 3, 1) := by decide +kernel
theorem dL_heir_1 : decode cL_heir 1 = .ok (.iconst 0, 1) := by decide +kernel
theorem dL_heir_2 : decode cL_heir 2 = .ok (.aload_n 0, 1) := by decide +kernel
theorem dL_heir_3 : decode cL_heir 3 = .ok (.iload_n 1, 1) := by decide +kernel
theorem dL_heir_4 : decode cL_heir 4 = .ok (.iload_n 2, 1) := by decide +kernel
theorem dL_heir_5 : decode cL_heir 5 = .ok (.invokevirtual 106, 3) := by decide +kernel
theorem dL_heir_8 : decode cL_heir 8 = .ok (.i2l, 1) := by decide +kernel
theorem dL_heir_9 : decode cL_heir 9 = .ok (.lastore, 1) := by decide +kernel
theorem dL_heir_10 : decode cL_heir 10 = .ok (.goto 7, 3) := by decide +kernel
theorem dL_heir_13 : decode cL_heir 13 = .ok (.astore 4, 2) := by decide +kernel
theorem dL_heir_15 : decode cL_heir 15 = .ok (.iconst 1, 1) := by decide +kernel
theorem dL_heir_16 : decode cL_heir 16 = .ok (.ireturn, 1) := by decide +kernel
theorem dL_heir_17 : decode cL_heir 17 = .ok (.iconst 0, 1) := by decide +kernel
theorem dL_heir_18 : decode cL_heir 18 = .ok (.ireturn, 1) := by decide +kernel
set_option maxRecDepth 20000 in
theorem ggL_price_X0_price : GoodIn wsL_price wsX0_price := goodIn_ca (goodIn_r _ [6, 7, 8, 9, 5, 10, 11, 12, 13, 14, 15, 16, 17, 18, 19, 20, 21, 22, 23, 24, 25, 26, 27, 28, 29, 30, 31, 32, 33, 34, 35, 36, 37, 38, 39, 40, 41, 42, 43, 44, 45, 46, 47, 48, 49] (by decide +kernel) (by decide +kernel)) (goodIn_sub (fun _ h => List.mem_cons_of_mem _ (List.mem_append_right _ h)) (by decide +kernel))
set_option maxRecDepth 20000 in
theorem gL_price_X0_price : GoodIn wsL_price (wsV RL 109 RX0 yX0_price wsX0_price) := goodIn_app (goodIn_of _ (by decide +kernel)) ggL_price_X0_price
theorem dL_price_0 : decode cL_price 0 = .ok (.aload 4, 2) := by decide +kernel
theorem dL_price_2 : decode cL_price 2 = .ok (.iconst 0, 1) := by decide +kernel
theorem dL_price_3 : decode cL_price 3 = .ok (.aload_n 0, 1) := by decide +kernel
theorem dL_price_4 : decode cL_price 4 = .ok (.iload_n 1, 1) := by decide +kernel
theorem dL_price_5 : decode cL_price 5 = .ok (.iload_n 2, 1) := by decide +kernel
theorem dL_price_6 : decode cL_price 6 = .ok (.iload_n 3, 1) := by decide +kernel
theorem dL_price_7 : decode cL_price 7 = .ok (.invokevirtual 109, 3) := by decide +kernel
theorem dL_price_10 : decode cL_price 10 = .ok (.i2l, 1) := by decide +kernel
theorem dL_price_11 : decode cL_price 11 = .ok (.lastore, 1) := by decide +kernel
theorem dL_price_12 : decode cL_price 12 = .ok (.goto 7, 3) := by decide +kernel
theorem dL_price_15 : decode cL_price 15 = .ok (.astore 5, 2) := by decide +kernel
theorem dL_price_17 : decode cL_price 17 = .ok (.iconst 1, 1) := by decide +kernel
theorem dL_price_18 : decode cL_price 18 = .ok (.ireturn, 1) := by decide +kernel
theorem dL_price_19 : decode cL_price 19 = .ok (.iconst 0, 1) := by decide +kernel
theorem dL_price_20 : decode cL_price 20 = .ok (.ireturn, 1) := by decide +kernel
set_option maxRecDepth 20000 in
theorem ggL_canBuy_X0_canBuy : GoodIn wsL_canBuy wsX0_canBuy := goodIn_ca (goodIn_r _ [6, 7, 8, 9, 5, 10, 11, 12, 13, 14, 15, 16, 17, 18, 19, 20, 21, 22, 23, 24, 25, 26, 27, 28, 29, 30, 31, 32, 33, 34, 35, 36, 37, 38, 39, 40, 41, 42, 43, 44, 45, 46, 47, 48, 49, 50, 51, 52, 53, 54, 55, 56, 57, 58, 59, 60, 61, 62, 63] (by decide +kernel) (by decide +kernel)) (goodIn_sub (fun _ h => List.mem_cons_of_mem _ (List.mem_append_right _ h)) (by decide +kernel))
set_option maxRecDepth 20000 in
theorem gL_canBuy_X0_canBuy : GoodIn wsL_canBuy (wsV RL 112 RX0 yX0_canBuy wsX0_canBuy) := goodIn_app (goodIn_of _ (by decide +kernel)) ggL_canBuy_X0_canBuy
theorem dL_canBuy_0 : decode cL_canBuy 0 = .ok (.aload 5, 2) := by decide +kernel
theorem dL_canBuy_2 : decode cL_canBuy 2 = .ok (.iconst 0, 1) := by decide +kernel
theorem dL_canBuy_3 : decode cL_canBuy 3 = .ok (.aload_n 0, 1) := by decide +kernel
theorem dL_canBuy_4 : decode cL_canBuy 4 = .ok (.iload_n 1, 1) := by decide +kernel
theorem dL_canBuy_5 : decode cL_canBuy 5 = .ok (.iload_n 2, 1) := by decide +kernel
theorem dL_canBuy_6 : decode cL_canBuy 6 = .ok (.iload_n 3, 1) := by decide +kernel
theorem dL_canBuy_7 : decode cL_canBuy 7 = .ok (.iload 4, 2) := by decide +kernel
theorem dL_canBuy_9 : decode cL_canBuy 9 = .ok (.invokevirtual 112, 3) := by decide +kernel
theorem dL_canBuy_12 : decode cL_canBuy 12 = .ok (.ifCond .eq 7, 3) := by decide +kernel
theorem dL_canBuy_15 : decode cL_canBuy 15 = .ok (.lconst 1, 1) := by decide +kernel
theorem dL_canBuy_16 : decode cL_canBuy 16 = .ok (.goto 4, 3) := by decide +kernel
theorem dL_canBuy_19 : decode cL_canBuy 19 = .ok (.lconst 0, 1) := by decide +kernel
theorem dL_canBuy_20 : decode cL_canBuy 20 = .ok (.lastore, 1) := by decide +kernel
theorem dL_canBuy_21 : decode cL_canBuy 21 = .ok (.goto 7, 3) := by decide +kernel
theorem dL_canBuy_24 : decode cL_canBuy 24 = .ok (.astore 6, 2) := by decide +kernel
theorem dL_canBuy_26 : decode cL_canBuy 26 = .ok (.iconst 1, 1) := by decide +kernel
theorem dL_canBuy_27 : decode cL_canBuy 27 = .ok (.ireturn, 1) := by decide +kernel
theorem dL_canBuy_28 : decode cL_canBuy 28 = .ok (.iconst 0, 1) := by decide +kernel
theorem dL_canBuy_29 : decode cL_canBuy 29 = .ok (.ireturn, 1) := by decide +kernel
set_option maxRecDepth 20000 in
theorem ggL_inheritance_X0_inheritance : GoodIn wsL_inheritance wsX0_inheritance := goodIn_ca (goodIn_r _ [6, 7, 8, 9, 5, 10, 11, 12, 13, 14, 15, 16, 17, 18, 19, 20, 21, 22, 23, 24, 25, 26, 27, 28, 29, 30, 31, 32, 33, 34, 35, 36, 37, 38, 39, 40, 41, 42, 43, 44, 45, 46, 47, 48, 49, 50, 51, 52, 53, 54, 55, 56, 57, 58, 59, 60] (by decide +kernel) (by decide +kernel)) (goodIn_sub (fun _ h => List.mem_cons_of_mem _ (List.mem_append_right _ h)) (by decide +kernel))
set_option maxRecDepth 20000 in
theorem gL_inheritance_X0_inheritance : GoodIn wsL_inheritance (wsV RL 116 RX0 yX0_inheritance wsX0_inheritance) := goodIn_app (goodIn_of _ (by decide +kernel)) ggL_inheritance_X0_inheritance
theorem dL_inheritance_0 : decode cL_inheritance 0 = .ok (.aload 5, 2) := by decide +kernel
theorem dL_inheritance_2 : decode cL_inheritance 2 = .ok (.iconst 0, 1) := by decide +kernel
theorem dL_inheritance_3 : decode cL_inheritance 3 = .ok (.aload_n 0, 1) := by decide +kernel
theorem dL_inheritance_4 : decode cL_inheritance 4 = .ok (.iload_n 1, 1) := by decide +kernel
theorem dL_inheritance_5 : decode cL_inheritance 5 = .ok (.iload_n 2, 1) := by decide +kernel
theorem dL_inheritance_6 : decode cL_inheritance 6 = .ok (.iload_n 3, 1) := by decide +kernel
theorem dL_inheritance_7 : decode cL_inheritance 7 = .ok (.iload 4, 2) := by decide +kernel
theorem dL_inheritance_9 : decode cL_inheritance 9 = .ok (.invokevirtual 116, 3) := by decide +kernel
theorem dL_inheritance_12 : decode cL_inheritance 12 = .ok (.i2l, 1) := by decide +kernel
theorem dL_inheritance_13 : decode cL_inheritance 13 = .ok (.lastore, 1) := by decide +kernel
theorem dL_inheritance_14 : decode cL_inheritance 14 = .ok (.goto 7, 3) := by decide +kernel
theorem dL_inheritance_17 : decode cL_inheritance 17 = .ok (.astore 6, 2) := by decide +kernel
theorem dL_inheritance_19 : decode cL_inheritance 19 = .ok (.iconst 1, 1) := by decide +kernel
theorem dL_inheritance_20 : decode cL_inheritance 20 = .ok (.ireturn, 1) := by decide +kernel
theorem dL_inheritance_21 : decode cL_inheritance 21 = .ok (.iconst 0, 1) := by decide +kernel
theorem dL_inheritance_22 : decode cL_inheritance 22 = .ok (.ireturn, 1) := by decide +kernel
set_option maxRecDepth 20000 in
theorem ggL_fare_X0_fare : GoodIn wsL_fare wsX0_fare := goodIn_ca (goodIn_ca (goodIn_r _ [7, 8, 9, 10, 6, 11, 12, 13, 14, 15, 16, 17, 18, 19, 20, 21, 22, 23, 24, 25, 26, 27, 28, 29, 30, 31, 32, 33, 34, 35, 36, 37, 38, 39, 40, 41, 42, 43, 44, 45, 46, 47, 48, 49, 50] (by decide +kernel) (by decide +kernel)) (goodIn_sub (fun _ h => List.mem_cons_of_mem _ (List.mem_append_left _ (List.mem_append_right _ h))) (by decide +kernel))) (goodIn_sub (fun _ h => List.mem_cons_of_mem _ (List.mem_append_right _ h)) (by decide +kernel))
set_option maxRecDepth 20000 in
theorem gL_fare_X0_fare : GoodIn wsL_fare (wsV RL 119 RX0 yX0_fare wsX0_fare) := goodIn_app (goodIn_of _ (by decide +kernel)) ggL_fare_X0_fare
theorem dL_fare_0 : decode cL_fare 0 = .ok (.aload 5, 2) := by decide +kernel
theorem dL_fare_2 : decode cL_fare 2 = .ok (.iconst 0, 1) := by decide +kernel
theorem dL_fare_3 : decode cL_fare 3 = .ok (.aload_n 0, 1) := by decide +kernel
theorem dL_fare_4 : decode cL_fare 4 = .ok (.iload_n 1, 1) := by decide +kernel
theorem dL_fare_5 : decode cL_fare 5 = .ok (.iload_n 2, 1) := by decide +kernel
theorem dL_fare_6 : decode cL_fare 6 = .ok (.iload_n 3, 1) := by decide +kernel
theorem dL_fare_7 : decode cL_fare 7 = .ok (.iload 4, 2) := by decide +kernel
theorem dL_fare_9 : decode cL_fare 9 = .ok (.invokevirtual 119, 3) := by decide +kernel
theorem dL_fare_12 : decode cL_fare 12 = .ok (.i2l, 1) := by decide +kernel
theorem dL_fare_13 : decode cL_fare 13 = .ok (.lastore, 1) := by decide +kernel
theorem dL_fare_14 : decode cL_fare 14 = .ok (.goto 11, 3) := by decide +kernel
theorem dL_fare_17 : decode cL_fare 17 = .ok (.astore 6, 2) := by decide +kernel
theorem dL_fare_19 : decode cL_fare 19 = .ok (.iconst 1, 1) := by decide +kernel
theorem dL_fare_20 : decode cL_fare 20 = .ok (.ireturn, 1) := by decide +kernel
theorem dL_fare_21 : decode cL_fare 21 = .ok (.astore 6, 2) := by decide +kernel
theorem dL_fare_23 : decode cL_fare 23 = .ok (.iconst 2, 1) := by decide +kernel
theorem dL_fare_24 : decode cL_fare 24 = .ok (.ireturn, 1) := by decide +kernel
theorem dL_fare_25 : decode cL_fare 25 = .ok (.iconst 0, 1) := by decide +kernel
theorem dL_fare_26 : decode cL_fare 26 = .ok (.ireturn, 1) := by decide +kernel
set_option maxRecDepth 20000 in
theorem ggL_richest_X0_richest : GoodIn wsL_richest wsX0_richest := goodIn_ca (goodIn_r _ [6, 7, 8, 9, 10, 11, 12, 13, 14, 15, 16, 17, 18, 19, 20, 21] (by decide +kernel) (by decide +kernel)) (goodIn_sub (fun _ h => List.mem_cons_of_mem _ (List.mem_append_right _ h)) (by decide +kernel))
set_option maxRecDepth 20000 in
theorem gL_richest_X0_richest : GoodIn wsL_richest (wsV RL 122 RX0 yX0_richest wsX0_richest) := goodIn_app (goodIn_of _ (by decide +kernel)) ggL_richest_X0_richest
theorem dL_richest_0 : decode cL_richest 0 = .ok (.aload_n 1, 1) := by decide +kernel
theorem dL_richest_1 : decode cL_richest 1 = .ok (.iconst 0, 1) := by decide +kernel
theorem dL_richest_2 : decode cL_richest 2 = .ok (.aload_n 0, 1) := by decide +kernel
theorem dL_richest_3 : decode cL_richest 3 = .ok (.invokevirtual 122, 3) := by decide +kernel
theorem dL_richest_6 : decode cL_richest 6 = .ok (.i2l, 1) := by decide +kernel
theorem dL_richest_7 : decode cL_richest 7 = .ok (.lastore, 1) := by decide +kernel
theorem dL_richest_8 : decode cL_richest 8 = .ok (.goto 6, 3) := by decide +kernel
theorem dL_richest_11 : decode cL_richest 11 = .ok (.astore_n 2, 1) := by decide +kernel
theorem dL_richest_12 : decode cL_richest 12 = .ok (.iconst 1, 1) := by decide +kernel
theorem dL_richest_13 : decode cL_richest 13 = .ok (.ireturn, 1) := by decide +kernel
theorem dL_richest_14 : decode cL_richest 14 = .ok (.iconst 0, 1) := by decide +kernel
theorem dL_richest_15 : decode cL_richest 15 = .ok (.ireturn, 1) := by decide +kernel
set_option maxRecDepth 20000 in
theorem ggL_law_X0_init : GoodIn wsL_law wsX0_init := goodIn_r _ [9, 10, 11, 12, 13, 14, 15, 16, 17, 18, 19, 20, 21, 22, 23, 24, 720, 721, 722, 723, 724, 725, 726, 727, 728, 729] (by decide +kernel) (by decide +kernel)
set_option maxRecDepth 20000 in
theorem gL_law_X0_init : GoodIn wsL_law (wsX0_init) := ggL_law_X0_init
set_option maxRecDepth 20000 in
theorem ggL_law_X1_init : GoodIn wsL_law wsX1_init := goodIn_r _ [27, 28, 11, 12, 14, 29, 30, 31, 32, 33, 34, 19, 35, 36, 730, 731, 732, 733, 734, 735, 736, 737, 738, 739, 740, 741, 742] (by decide +kernel) (by decide +kernel)
set_option maxRecDepth 20000 in
theorem gL_law_X1_init : GoodIn wsL_law (wsX1_init) := ggL_law_X1_init
set_option maxRecDepth 20000 in
theorem ggL_law_L_addFerry : GoodIn wsL_law wsL_addFerry := goodIn_ca (goodIn_ca (goodIn_r _ [40, 41, 42, 43, 44, 45, 2, 46, 47, 48, 13, 15, 49, 50, 51, 52, 53, 720, 721, 722, 723, 724, 725, 726, 727, 728, 729] (by decide +kernel) (by decide +kernel)) (goodIn_sub (fun _ h => List.mem_append_left _ (List.mem_append_left _ (List.mem_append_right _ h))) (by decide +kernel))) (goodIn_sub (fun _ h => List.mem_append_left _ (List.mem_append_right _ h)) (by decide +kernel))
set_option maxRecDepth 20000 in
theorem gL_law_L_addFerry : GoodIn wsL_law (va_wsS RL 129 yL_addFerry wsL_addFerry) := goodIn_app (goodIn_of _ (by decide +kernel)) ggL_law_L_addFerry
set_option maxRecDepth 20000 in
theorem ggL_law_X1_addFerry : GoodIn wsL_law wsX1_addFerry := goodIn_r _ [57, 58, 59, 29, 60, 61, 5, 62, 63, 64, 65, 66, 730, 731, 732, 733, 734, 735, 736, 737, 738, 739, 740, 741, 742] (by decide +kernel) (by decide +kernel)
set_option maxRecDepth 20000 in
theorem gL_law_X1_addFerry : GoodIn wsL_law (wsV RL 134 RX1 yX1_addFerry wsX1_addFerry) := goodIn_app (goodIn_of _ (by decide +kernel)) ggL_law_X1_addFerry
set_option maxRecDepth 20000 in
theorem ggL_law_X1_thrown : GoodIn wsL_law wsX1_thrown := goodIn_r _ [70, 58, 730, 731, 732, 733, 734, 735, 736, 737, 738, 739, 740, 741, 742] (by decide +kernel) (by decide +kernel)
set_option maxRecDepth 20000 in
theorem gL_law_X1_thrown : GoodIn wsL_law (wsV RL 135 RX1 yX1_thrown wsX1_thrown) := goodIn_app (goodIn_of _ (by decide +kernel)) ggL_law_X1_thrown
set_option maxRecDepth 20000 in
theorem ggL_law_L_addPerson : GoodIn wsL_law wsL_addPerson := goodIn_ca (goodIn_r _ [73, 42, 74, 75, 76, 2, 77, 78, 79, 80, 81, 47, 48, 18, 82, 83, 84, 85, 20, 23, 720, 721, 722, 723, 724, 725, 726, 727, 728, 729] (by decide +kernel) (by decide +kernel)) (goodIn_sub (fun _ h => List.mem_append_left _ (List.mem_append_left _ (List.mem_append_right _ h))) (by decide +kernel))
set_option maxRecDepth 20000 in
theorem gL_law_L_addPerson : GoodIn wsL_law (va_wsS RL 138 yL_addPerson wsL_addPerson) := goodIn_app (goodIn_of _ (by decide +kernel)) ggL_law_L_addPerson
set_option maxRecDepth 20000 in
theorem ggL_law_X1_addPerson : GoodIn wsL_law wsX1_addPerson := goodIn_r _ [89, 58, 90, 91, 92, 93, 5, 94, 34, 63, 64, 65, 66, 730, 731, 732, 733, 734, 735, 736, 737, 738, 739, 740, 741, 742] (by decide +kernel) (by decide +kernel)
set_option maxRecDepth 20000 in
theorem gL_law_X1_addPerson : GoodIn wsL_law (wsV RL 141 RX1 yX1_addPerson wsX1_addPerson) := goodIn_app (goodIn_of _ (by decide +kernel)) ggL_law_X1_addPerson
set_option maxRecDepth 20000 in
theorem ggL_law_L_addChild : GoodIn wsL_law wsL_addChild := goodIn_ca (goodIn_ca (goodIn_r _ [97, 98, 42, 99, 100, 101, 2, 102, 103, 104, 105, 106, 107, 108, 18, 109, 110, 111, 112, 47, 48, 20, 78, 79, 80, 81, 82, 83, 84, 85, 23, 720, 721, 722, 723, 724, 725, 726, 727, 728, 729] (by decide +kernel) (by decide +kernel)) (goodIn_sub (fun _ h => List.mem_append_right _ h) (by decide +kernel))) (goodIn_sub (fun _ h => List.mem_append_left _ (List.mem_append_left _ (List.mem_append_right _ h))) (by decide +kernel))
set_option maxRecDepth 20000 in
theorem gL_law_L_addChild : GoodIn wsL_law (va_wsS RL 142 yL_addChild wsL_addChild) := goodIn_app (goodIn_of _ (by decide +kernel)) ggL_law_L_addChild
set_option maxRecDepth 20000 in
theorem ggL_law_X1_addChild : GoodIn wsL_law wsX1_addChild := goodIn_r _ [116, 58, 35, 90, 117, 118, 119, 5, 120, 60, 61, 62, 63, 64, 65, 66, 91, 92, 93, 94, 34, 730, 731, 732, 733, 734, 735, 736, 737, 738, 739, 740, 741, 742] (by decide +kernel) (by decide +kernel)
set_option maxRecDepth 20000 in
theorem gL_law_X1_addChild : GoodIn wsL_law (wsV RL 144 RX1 yX1_addChild wsX1_addChild) := goodIn_app (goodIn_of _ (by decide +kernel)) ggL_law_X1_addChild
set_option maxRecDepth 20000 in
theorem ggL_law_L_pay : GoodIn wsL_law wsL_pay := goodIn_ca (goodIn_ca (goodIn_ca (goodIn_r _ [123, 98, 41, 42, 124, 125, 126, 2, 127, 52, 53, 21, 103, 104, 105, 106, 107, 108, 18, 109, 110, 111, 112, 47, 48, 20, 128, 129, 130, 131, 132, 133, 134, 135, 720, 721, 722, 723, 724, 725, 726, 727, 728, 729] (by decide +kernel) (by decide +kernel)) (goodIn_sub (fun _ h => List.mem_append_left _ (List.mem_append_right _ h)) (by decide +kernel))) (goodIn_sub (fun _ h => List.mem_append_right _ h) (by decide +kernel))) (goodIn_sub (fun _ h => List.mem_append_left _ (List.mem_append_left _ (List.mem_append_right _ h))) (by decide +kernel))
set_option maxRecDepth 20000 in
theorem gL_law_L_pay : GoodIn wsL_law (va_wsS RL 145 yL_pay wsL_pay) := goodIn_app (goodIn_of _ (by decide +kernel)) ggL_law_L_pay
set_option maxRecDepth 20000 in
theorem ggL_law_X1_pay : GoodIn wsL_law wsX1_pay := goodIn_r _ [139, 58, 35, 32, 117, 118, 119, 5, 120, 90, 60, 61, 62, 63, 64, 65, 66, 140, 141, 142, 143, 144, 133, 134, 135, 730, 731, 732, 733, 734, 735, 736, 737, 738, 739, 740, 741, 742] (by decide +kernel) (by decide +kernel)
set_option maxRecDepth 20000 in
theorem gL_law_X1_pay : GoodIn wsL_law (wsV RL 148 RX1 yX1_pay wsX1_pay) := goodIn_app (goodIn_of _ (by decide +kernel)) ggL_law_X1_pay
set_option maxRecDepth 20000 in
theorem ggL_law_L_grant : GoodIn wsL_law wsL_grant := goodIn_ca (goodIn_ca (goodIn_ca (goodIn_r _ [147, 98, 41, 42, 148, 149, 150, 2, 151, 47, 48, 152, 153, 154, 155, 107, 108, 13, 156, 157, 158, 103, 104, 105, 106, 18, 159, 160, 161, 52, 53, 109, 110, 111, 112, 20, 162, 163, 164, 165, 166, 167, 168, 169, 17, 170, 171, 172, 173, 174, 175, 176, 720, 721, 722, 723, 724, 725, 726, 727, 728, 729] (by decide +kernel) (by decide +kernel)) (goodIn_sub (fun _ h => List.mem_append_left _ (List.mem_append_left _ (List.mem_append_right _ h))) (by decide +kernel))) (goodIn_sub (fun _ h => List.mem_append_right _ h) (by decide +kernel))) (goodIn_sub (fun _ h => List.mem_append_left _ (List.mem_append_right _ h)) (by decide +kernel))
set_option maxRecDepth 20000 in
theorem gL_law_L_grant : GoodIn wsL_law (va_wsS RL 149 yL_grant wsL_grant) := goodIn_app (goodIn_of _ (by decide +kernel)) ggL_law_L_grant
set_option maxRecDepth 20000 in
theorem ggL_law_X1_grant : GoodIn wsL_law wsX1_grant := goodIn_r _ [180, 58, 35, 31, 181, 182, 183, 5, 184, 185, 186, 187, 188, 59, 60, 61, 62, 117, 118, 119, 120, 90, 63, 64, 65, 66, 189, 190, 191, 192, 193, 194, 195, 730, 731, 732, 733, 734, 735, 736, 737, 738, 739, 740, 741, 742] (by decide +kernel) (by decide +kernel)
set_option maxRecDepth 20000 in
theorem gL_law_X1_grant : GoodIn wsL_law (wsV RL 152 RX1 yX1_grant wsX1_grant) := goodIn_app (goodIn_of _ (by decide +kernel)) ggL_law_X1_grant
set_option maxRecDepth 20000 in
theorem ggL_law_L_give : GoodIn wsL_law wsL_give := goodIn_ca (goodIn_ca (goodIn_ca (goodIn_r _ [198, 98, 41, 42, 199, 200, 201, 2, 202, 52, 53, 47, 48, 103, 104, 105, 106, 107, 108, 18, 152, 153, 154, 155, 13, 156, 157, 158, 159, 160, 161, 109, 110, 111, 112, 20, 166, 167, 168, 169, 17, 170, 171, 172, 173, 174, 175, 176, 720, 721, 722, 723, 724, 725, 726, 727, 728, 729] (by decide +kernel) (by decide +kernel)) (goodIn_sub (fun _ h => List.mem_append_left _ (List.mem_append_right _ h)) (by decide +kernel))) (goodIn_sub (fun _ h => List.mem_append_left _ (List.mem_append_left _ (List.mem_append_right _ h))) (by decide +kernel))) (goodIn_sub (fun _ h => List.mem_append_right _ h) (by decide +kernel))
set_option maxRecDepth 20000 in
theorem gL_law_L_give : GoodIn wsL_law (va_wsS RL 153 yL_give wsL_give) := goodIn_app (goodIn_of _ (by decide +kernel)) ggL_law_L_give
set_option maxRecDepth 20000 in
theorem ggL_law_X1_give : GoodIn wsL_law wsX1_give := goodIn_r _ [206, 58, 35, 31, 117, 118, 119, 5, 120, 90, 60, 61, 62, 181, 182, 183, 184, 185, 186, 187, 188, 59, 63, 64, 65, 66, 193, 194, 195, 730, 731, 732, 733, 734, 735, 736, 737, 738, 739, 740, 741, 742] (by decide +kernel) (by decide +kernel)
set_option maxRecDepth 20000 in
theorem gL_law_X1_give : GoodIn wsL_law (wsV RL 156 RX1 yX1_give wsX1_give) := goodIn_app (goodIn_of _ (by decide +kernel)) ggL_law_X1_give
set_option maxRecDepth 20000 in
theorem ggL_law_L_buy : GoodIn wsL_law wsL_buy := goodIn_ca (goodIn_ca (goodIn_r _ [209, 98, 42, 210, 211, 212, 2, 213, 47, 48, 21, 214, 215, 216, 217, 103, 104, 105, 106, 107, 108, 18, 152, 153, 154, 155, 13, 156, 157, 158, 218, 219, 220, 221, 20, 222, 223, 224, 225, 166, 167, 168, 169, 17, 170, 171, 172, 226, 227, 228, 229, 15, 230, 231, 232, 233, 234, 128, 129, 130, 131, 132, 133, 134, 135, 173, 174, 175, 176, 720, 721, 722, 723, 724, 725, 726, 727, 728, 729] (by decide +kernel) (by decide +kernel)) (goodIn_sub (fun _ h => List.mem_append_left _ (List.mem_append_left _ (List.mem_append_right _ h))) (by decide +kernel))) (goodIn_sub (fun _ h => List.mem_append_right _ h) (by decide +kernel))
set_option maxRecDepth 20000 in
theorem gL_law_L_buy : GoodIn wsL_law (va_wsS RL 157 yL_buy wsL_buy) := goodIn_app (goodIn_of _ (by decide +kernel)) ggL_law_L_buy
set_option maxRecDepth 20000 in
theorem ggL_law_X1_buy : GoodIn wsL_law wsX1_buy := goodIn_r _ [238, 58, 32, 31, 117, 118, 119, 5, 120, 90, 60, 61, 62, 181, 182, 183, 184, 185, 186, 187, 188, 59, 63, 64, 65, 66, 239, 240, 241, 242, 35, 243, 244, 245, 246, 193, 194, 195, 247, 248, 249, 250, 29, 251, 252, 253, 254, 255, 140, 141, 142, 143, 144, 133, 134, 135, 730, 731, 732, 733, 734, 735, 736, 737, 738, 739, 740, 741, 742] (by decide +kernel) (by decide +kernel)
set_option maxRecDepth 20000 in
theorem gL_law_X1_buy : GoodIn wsL_law (wsV RL 159 RX1 yX1_buy wsX1_buy) := goodIn_app (goodIn_of _ (by decide +kernel)) ggL_law_X1_buy
set_option maxRecDepth 20000 in
theorem ggL_law_L_setToll : GoodIn wsL_law wsL_setToll := goodIn_ca (goodIn_ca (goodIn_ca (goodIn_r _ [258, 98, 41, 42, 259, 260, 261, 2, 262, 47, 48, 15, 152, 153, 154, 155, 107, 108, 13, 103, 104, 105, 106, 18, 49, 50, 51, 52, 53, 263, 264, 265, 266, 267, 268, 269, 270, 166, 167, 168, 169, 17, 170, 171, 172, 720, 721, 722, 723, 724, 725, 726, 727, 728, 729] (by decide +kernel) (by decide +kernel)) (goodIn_sub (fun _ h => List.mem_append_left _ (List.mem_append_left _ (List.mem_append_right _ h))) (by decide +kernel))) (goodIn_sub (fun _ h => List.mem_append_right _ h) (by decide +kernel))) (goodIn_sub (fun _ h => List.mem_append_left _ (List.mem_append_right _ h)) (by decide +kernel))
set_option maxRecDepth 20000 in
theorem gL_law_L_setToll : GoodIn wsL_law (va_wsS RL 160 yL_setToll wsL_setToll) := goodIn_app (goodIn_of _ (by decide +kernel)) ggL_law_L_setToll
set_option maxRecDepth 20000 in
theorem ggL_law_X1_setToll : GoodIn wsL_law wsX1_setToll := goodIn_r _ [274, 58, 29, 185, 186, 187, 5, 188, 59, 60, 61, 62, 117, 118, 119, 120, 90, 63, 64, 65, 66, 275, 276, 277, 278, 279, 280, 281, 282, 31, 193, 194, 195, 730, 731, 732, 733, 734, 735, 736, 737, 738, 739, 740, 741, 742] (by decide +kernel) (by decide +kernel)
set_option maxRecDepth 20000 in
theorem gL_law_X1_setToll : GoodIn wsL_law (wsV RL 163 RX1 yX1_setToll wsX1_setToll) := goodIn_app (goodIn_of _ (by decide +kernel)) ggL_law_X1_setToll
set_option maxRecDepth 20000 in
theorem ggL_law_L_carry : GoodIn wsL_law wsL_carry := goodIn_ca (goodIn_ca (goodIn_r _ [285, 98, 41, 286, 287, 288, 2, 289, 15, 18, 22, 24, 16, 152, 153, 154, 155, 107, 108, 13, 290, 291, 292, 293, 294, 295, 52, 53, 296, 297, 298, 299, 166, 167, 168, 169, 17, 170, 171, 172, 128, 129, 130, 131, 21, 132, 133, 134, 135, 720, 721, 722, 723, 724, 725, 726, 727, 728, 729] (by decide +kernel) (by decide +kernel)) (goodIn_sub (fun _ h => List.mem_append_right _ h) (by decide +kernel))) (goodIn_sub (fun _ h => List.mem_append_left _ (List.mem_append_right _ h)) (by decide +kernel))
set_option maxRecDepth 20000 in
theorem gL_law_L_carry : GoodIn wsL_law (va_wsS RL 164 yL_carry wsL_carry) := goodIn_app (goodIn_of _ (by decide +kernel)) ggL_law_L_carry
set_option maxRecDepth 20000 in
theorem ggL_law_X1_carry : GoodIn wsL_law wsX1_carry := goodIn_r _ [303, 58, 29, 90, 33, 30, 304, 185, 186, 187, 5, 188, 59, 60, 61, 62, 63, 64, 65, 66, 305, 306, 307, 308, 31, 193, 194, 195, 140, 141, 142, 143, 32, 144, 133, 134, 135, 730, 731, 732, 733, 734, 735, 736, 737, 738, 739, 740, 741, 742] (by decide +kernel) (by decide +kernel)
set_option maxRecDepth 20000 in
theorem gL_law_X1_carry : GoodIn wsL_law (wsV RL 166 RX1 yX1_carry wsX1_carry) := goodIn_app (goodIn_of _ (by decide +kernel)) ggL_law_X1_carry
set_option maxRecDepth 20000 in
theorem ggL_law_L_die : GoodIn wsL_law wsL_die := goodIn_ca (goodIn_ca (goodIn_r _ [311, 98, 42, 312, 313, 314, 2, 315, 18, 24, 21, 103, 104, 105, 106, 107, 108, 109, 110, 111, 112, 47, 48, 20, 316, 317, 318, 319, 320, 321, 322, 323, 324, 325, 326, 327, 23, 328, 329, 330, 331, 332, 333, 334, 335, 13, 166, 167, 168, 169, 17, 170, 171, 172, 336, 337, 338, 173, 174, 175, 176, 128, 129, 130, 131, 132, 133, 134, 135, 339, 340, 341, 342, 720, 721, 722, 723, 724, 725, 726, 727, 728, 729] (by decide +kernel) (by decide +kernel)) (goodIn_sub (fun _ h => List.mem_append_right _ h) (by decide +kernel))) (goodIn_sub (fun _ h => List.mem_append_left _ (List.mem_append_left _ (List.mem_append_right _ h))) (by decide +kernel))
set_option maxRecDepth 20000 in
theorem gL_law_L_die : GoodIn wsL_law (va_wsS RL 167 yL_die wsL_die) := goodIn_app (goodIn_of _ (by decide +kernel)) ggL_law_L_die
set_option maxRecDepth 20000 in
theorem ggL_law_X1_die : GoodIn wsL_law wsX1_die := goodIn_r _ [346, 58, 35, 59, 31, 347, 36, 32, 304, 117, 118, 119, 5, 120, 90, 60, 61, 62, 63, 64, 65, 66, 348, 349, 350, 351, 34, 352, 353, 354, 355, 356, 357, 358, 359, 140, 141, 142, 143, 144, 133, 134, 135, 730, 731, 732, 733, 734, 735, 736, 737, 738, 739, 740, 741, 742] (by decide +kernel) (by decide +kernel)
set_option maxRecDepth 20000 in
theorem gL_law_X1_die : GoodIn wsL_law (wsV RL 169 RX1 yX1_die wsX1_die) := goodIn_app (goodIn_of _ (by decide +kernel)) ggL_law_X1_die
set_option maxRecDepth 20000 in
theorem ggL_law_X0_ferries : GoodIn wsL_law wsX0_ferries := goodIn_r _ [363, 13, 720, 721, 722, 723, 724, 725, 726, 727, 728, 729] (by decide +kernel) (by decide +kernel)
set_option maxRecDepth 20000 in
theorem gL_law_X0_ferries : GoodIn wsL_law (wsV RL 170 RX0 yX0_ferries wsX0_ferries) := goodIn_app (goodIn_of _ (by decide +kernel)) ggL_law_X0_ferries
set_option maxRecDepth 20000 in
theorem ggL_law_X1_ferries : GoodIn wsL_law wsX1_ferries := goodIn_r _ [367, 58, 59, 730, 731, 732, 733, 734, 735, 736, 737, 738, 739, 740, 741, 742] (by decide +kernel) (by decide +kernel)
set_option maxRecDepth 20000 in
theorem gL_law_X1_ferries : GoodIn wsL_law (wsV RL 173 RX1 yX1_ferries wsX1_ferries) := goodIn_app (goodIn_of _ (by decide +kernel)) ggL_law_X1_ferries
set_option maxRecDepth 20000 in
theorem ggL_law_L_toll : GoodIn wsL_law wsL_toll := goodIn_ca (goodIn_r _ [370, 98, 371, 372, 373, 2, 374, 15, 152, 153, 154, 155, 107, 108, 13, 720, 721, 722, 723, 724, 725, 726, 727, 728, 729] (by decide +kernel) (by decide +kernel)) (goodIn_sub (fun _ h => List.mem_append_right _ h) (by decide +kernel))
set_option maxRecDepth 20000 in
theorem gL_law_L_toll : GoodIn wsL_law (va_wsS RL 174 yL_toll wsL_toll) := goodIn_app (goodIn_of _ (by decide +kernel)) ggL_law_L_toll
set_option maxRecDepth 20000 in
theorem ggL_law_X1_toll : GoodIn wsL_law wsX1_toll := goodIn_r _ [378, 58, 29, 185, 186, 187, 5, 188, 59, 60, 61, 62, 63, 64, 65, 66, 730, 731, 732, 733, 734, 735, 736, 737, 738, 739, 740, 741, 742] (by decide +kernel) (by decide +kernel)
set_option maxRecDepth 20000 in
theorem gL_law_X1_toll : GoodIn wsL_law (wsV RL 176 RX1 yX1_toll wsX1_toll) := goodIn_app (goodIn_of _ (by decide +kernel)) ggL_law_X1_toll
set_option maxRecDepth 20000 in
theorem ggL_law_L_carried : GoodIn wsL_law wsL_carried := goodIn_ca (goodIn_r _ [381, 98, 382, 383, 384, 2, 385, 16, 152, 153, 154, 155, 107, 108, 13, 720, 721, 722, 723, 724, 725, 726, 727, 728, 729] (by decide +kernel) (by decide +kernel)) (goodIn_sub (fun _ h => List.mem_append_right _ h) (by decide +kernel))
set_option maxRecDepth 20000 in
theorem gL_law_L_carried : GoodIn wsL_law (va_wsS RL 177 yL_carried wsL_carried) := goodIn_app (goodIn_of _ (by decide +kernel)) ggL_law_L_carried
set_option maxRecDepth 20000 in
theorem ggL_law_X1_carried : GoodIn wsL_law wsX1_carried := goodIn_r _ [389, 58, 30, 185, 186, 187, 5, 188, 59, 60, 61, 62, 63, 64, 65, 66, 730, 731, 732, 733, 734, 735, 736, 737, 738, 739, 740, 741, 742] (by decide +kernel) (by decide +kernel)
set_option maxRecDepth 20000 in
theorem gL_law_X1_carried : GoodIn wsL_law (wsV RL 179 RX1 yX1_carried wsX1_carried) := goodIn_app (goodIn_of _ (by decide +kernel)) ggL_law_X1_carried
set_option maxRecDepth 20000 in
theorem ggL_law_L_shares : GoodIn wsL_law wsL_shares := goodIn_ca (goodIn_r _ [392, 98, 393, 394, 395, 2, 396, 152, 153, 154, 155, 107, 108, 13, 156, 157, 158, 103, 104, 105, 106, 18, 166, 167, 168, 169, 17, 170, 171, 172, 720, 721, 722, 723, 724, 725, 726, 727, 728, 729] (by decide +kernel) (by decide +kernel)) (goodIn_sub (fun _ h => List.mem_append_right _ h) (by decide +kernel))
set_option maxRecDepth 20000 in
theorem gL_law_L_shares : GoodIn wsL_law (va_wsS RL 180 yL_shares wsL_shares) := goodIn_app (goodIn_of _ (by decide +kernel)) ggL_law_L_shares
set_option maxRecDepth 20000 in
theorem ggL_law_X1_shares : GoodIn wsL_law wsX1_shares := goodIn_r _ [400, 58, 31, 181, 182, 183, 5, 184, 185, 186, 187, 188, 59, 60, 61, 62, 117, 118, 119, 120, 90, 193, 194, 195, 63, 64, 65, 66, 730, 731, 732, 733, 734, 735, 736, 737, 738, 739, 740, 741, 742] (by decide +kernel) (by decide +kernel)
set_option maxRecDepth 20000 in
theorem gL_law_X1_shares : GoodIn wsL_law (wsV RL 182 RX1 yX1_shares wsX1_shares) := goodIn_app (goodIn_of _ (by decide +kernel)) ggL_law_X1_shares
set_option maxRecDepth 20000 in
theorem ggL_law_L_crownShares : GoodIn wsL_law wsL_crownShares := goodIn_ca (goodIn_r _ [403, 98, 404, 405, 406, 2, 407, 152, 153, 154, 155, 107, 108, 13, 156, 157, 158, 162, 163, 164, 165, 18, 166, 167, 168, 169, 17, 170, 171, 172, 720, 721, 722, 723, 724, 725, 726, 727, 728, 729] (by decide +kernel) (by decide +kernel)) (goodIn_sub (fun _ h => List.mem_append_right _ h) (by decide +kernel))
set_option maxRecDepth 20000 in
theorem gL_law_L_crownShares : GoodIn wsL_law (va_wsS RL 183 yL_crownShares wsL_crownShares) := goodIn_app (goodIn_of _ (by decide +kernel)) ggL_law_L_crownShares
set_option maxRecDepth 20000 in
theorem ggL_law_X1_crownShares : GoodIn wsL_law wsX1_crownShares := goodIn_r _ [411, 58, 181, 182, 183, 5, 184, 185, 186, 187, 188, 59, 60, 61, 62, 189, 190, 191, 192, 90, 31, 193, 194, 195, 63, 64, 65, 66, 730, 731, 732, 733, 734, 735, 736, 737, 738, 739, 740, 741, 742] (by decide +kernel) (by decide +kernel)
set_option maxRecDepth 20000 in
theorem gL_law_X1_crownShares : GoodIn wsL_law (wsV RL 185 RX1 yX1_crownShares wsX1_crownShares) := goodIn_app (goodIn_of _ (by decide +kernel)) ggL_law_X1_crownShares
set_option maxRecDepth 20000 in
theorem ggL_law_L_owners : GoodIn wsL_law wsL_owners := goodIn_ca (goodIn_r _ [414, 98, 415, 416, 417, 2, 418, 18, 152, 153, 154, 155, 107, 108, 13, 156, 157, 158, 166, 167, 168, 169, 17, 170, 171, 172, 720, 721, 722, 723, 724, 725, 726, 727, 728, 729] (by decide +kernel) (by decide +kernel)) (goodIn_sub (fun _ h => List.mem_append_right _ h) (by decide +kernel))
set_option maxRecDepth 20000 in
theorem gL_law_L_owners : GoodIn wsL_law (va_wsS RL 186 yL_owners wsL_owners) := goodIn_app (goodIn_of _ (by decide +kernel)) ggL_law_L_owners
set_option maxRecDepth 20000 in
theorem ggL_law_X1_owners : GoodIn wsL_law wsX1_owners := goodIn_r _ [422, 58, 90, 31, 181, 182, 183, 5, 184, 185, 186, 187, 188, 59, 60, 61, 62, 63, 64, 65, 66, 193, 194, 195, 730, 731, 732, 733, 734, 735, 736, 737, 738, 739, 740, 741, 742] (by decide +kernel) (by decide +kernel)
set_option maxRecDepth 20000 in
theorem gL_law_X1_owners : GoodIn wsL_law (wsV RL 188 RX1 yX1_owners wsX1_owners) := goodIn_app (goodIn_of _ (by decide +kernel)) ggL_law_X1_owners
set_option maxRecDepth 20000 in
theorem ggL_law_L_holder : GoodIn wsL_law wsL_holder := goodIn_ca (goodIn_ca (goodIn_r _ [425, 98, 42, 426, 427, 428, 2, 429, 47, 48, 18, 152, 153, 154, 155, 107, 108, 13, 156, 157, 158, 166, 167, 168, 169, 17, 170, 171, 172, 720, 721, 722, 723, 724, 725, 726, 727, 728, 729] (by decide +kernel) (by decide +kernel)) (goodIn_sub (fun _ h => List.mem_append_left _ (List.mem_append_left _ (List.mem_append_right _ h))) (by decide +kernel))) (goodIn_sub (fun _ h => List.mem_append_right _ h) (by decide +kernel))
set_option maxRecDepth 20000 in
theorem gL_law_L_holder : GoodIn wsL_law (va_wsS RL 189 yL_holder wsL_holder) := goodIn_app (goodIn_of _ (by decide +kernel)) ggL_law_L_holder
set_option maxRecDepth 20000 in
theorem ggL_law_X1_holder : GoodIn wsL_law wsX1_holder := goodIn_r _ [433, 58, 90, 31, 181, 182, 183, 5, 184, 185, 186, 187, 188, 59, 60, 61, 62, 63, 64, 65, 66, 193, 194, 195, 730, 731, 732, 733, 734, 735, 736, 737, 738, 739, 740, 741, 742] (by decide +kernel) (by decide +kernel)
set_option maxRecDepth 20000 in
theorem gL_law_X1_holder : GoodIn wsL_law (wsV RL 191 RX1 yX1_holder wsX1_holder) := goodIn_app (goodIn_of _ (by decide +kernel)) ggL_law_X1_holder
set_option maxRecDepth 20000 in
theorem ggL_law_L_master : GoodIn wsL_law wsL_master := goodIn_ca (goodIn_ca (goodIn_r _ [436, 98, 42, 437, 438, 439, 2, 440, 47, 48, 152, 153, 154, 155, 107, 108, 13, 263, 264, 265, 266, 18, 267, 268, 269, 270, 166, 167, 168, 169, 17, 170, 171, 172, 720, 721, 722, 723, 724, 725, 726, 727, 728, 729] (by decide +kernel) (by decide +kernel)) (goodIn_sub (fun _ h => List.mem_append_left _ (List.mem_append_left _ (List.mem_append_right _ h))) (by decide +kernel))) (goodIn_sub (fun _ h => List.mem_append_right _ h) (by decide +kernel))
set_option maxRecDepth 20000 in
theorem gL_law_L_master : GoodIn wsL_law (va_wsS RL 192 yL_master wsL_master) := goodIn_app (goodIn_of _ (by decide +kernel)) ggL_law_L_master
set_option maxRecDepth 20000 in
theorem ggL_law_X1_master : GoodIn wsL_law wsX1_master := goodIn_r _ [444, 58, 185, 186, 187, 5, 188, 59, 60, 61, 62, 63, 64, 65, 66, 275, 276, 277, 278, 90, 279, 280, 281, 282, 31, 193, 194, 195, 730, 731, 732, 733, 734, 735, 736, 737, 738, 739, 740, 741, 742] (by decide +kernel) (by decide +kernel)
set_option maxRecDepth 20000 in
theorem gL_law_X1_master : GoodIn wsL_law (wsV RL 194 RX1 yX1_master wsX1_master) := goodIn_app (goodIn_of _ (by decide +kernel)) ggL_law_X1_master
set_option maxRecDepth 20000 in
theorem ggL_law_L_hasMaster : GoodIn wsL_law wsL_hasMaster := goodIn_ca (goodIn_r _ [447, 98, 448, 449, 450, 2, 451, 152, 153, 154, 155, 107, 108, 13, 263, 264, 265, 266, 18, 267, 268, 269, 270, 166, 167, 168, 169, 17, 170, 171, 172, 720, 721, 722, 723, 724, 725, 726, 727, 728, 729] (by decide +kernel) (by decide +kernel)) (goodIn_sub (fun _ h => List.mem_append_right _ h) (by decide +kernel))
set_option maxRecDepth 20000 in
theorem gL_law_L_hasMaster : GoodIn wsL_law (va_wsS RL 195 yL_hasMaster wsL_hasMaster) := goodIn_app (goodIn_of _ (by decide +kernel)) ggL_law_L_hasMaster
set_option maxRecDepth 20000 in
theorem ggL_law_X1_hasMaster : GoodIn wsL_law wsX1_hasMaster := goodIn_r _ [455, 58, 185, 186, 187, 5, 188, 59, 60, 61, 62, 275, 276, 277, 278, 90, 279, 280, 281, 282, 31, 193, 194, 195, 456, 457, 458, 459, 730, 731, 732, 733, 734, 735, 736, 737, 738, 739, 740, 741, 742] (by decide +kernel) (by decide +kernel)
set_option maxRecDepth 20000 in
theorem gL_law_X1_hasMaster : GoodIn wsL_law (wsV RL 197 RX1 yX1_hasMaster wsX1_hasMaster) := goodIn_app (goodIn_of _ (by decide +kernel)) ggL_law_X1_hasMaster
set_option maxRecDepth 20000 in
theorem ggL_law_L_shareValue : GoodIn wsL_law wsL_shareValue := goodIn_ca (goodIn_r _ [462, 98, 463, 464, 465, 2, 466, 152, 153, 154, 155, 107, 108, 13, 156, 157, 158, 226, 227, 228, 229, 15, 230, 720, 721, 722, 723, 724, 725, 726, 727, 728, 729] (by decide +kernel) (by decide +kernel)) (goodIn_sub (fun _ h => List.mem_append_right _ h) (by decide +kernel))
set_option maxRecDepth 20000 in
theorem gL_law_L_shareValue : GoodIn wsL_law (va_wsS RL 198 yL_shareValue wsL_shareValue) := goodIn_app (goodIn_of _ (by decide +kernel)) ggL_law_L_shareValue
set_option maxRecDepth 20000 in
theorem ggL_law_X1_shareValue : GoodIn wsL_law wsX1_shareValue := goodIn_r _ [470, 58, 181, 182, 183, 5, 184, 185, 186, 187, 188, 59, 60, 61, 62, 247, 248, 249, 250, 29, 251, 63, 64, 65, 66, 730, 731, 732, 733, 734, 735, 736, 737, 738, 739, 740, 741, 742] (by decide +kernel) (by decide +kernel)
set_option maxRecDepth 20000 in
theorem gL_law_X1_shareValue : GoodIn wsL_law (wsV RL 200 RX1 yX1_shareValue wsX1_shareValue) := goodIn_app (goodIn_of _ (by decide +kernel)) ggL_law_X1_shareValue
set_option maxRecDepth 20000 in
theorem ggL_law_L_watchAt : GoodIn wsL_law wsL_watchAt := goodIn_ca (goodIn_r _ [473, 98, 474, 475, 476, 2, 477, 290, 291, 292, 107, 108] (by decide +kernel) (by decide +kernel)) (goodIn_sub (fun _ h => List.mem_append_right _ h) (by decide +kernel))
set_option maxRecDepth 20000 in
theorem gL_law_L_watchAt : GoodIn wsL_law (va_wsS RL 201 yL_watchAt wsL_watchAt) := goodIn_app (goodIn_of _ (by decide +kernel)) ggL_law_L_watchAt
set_option maxRecDepth 20000 in
theorem ggL_law_X1_watchAt : GoodIn wsL_law wsX1_watchAt := goodIn_r _ [481, 58, 60, 61, 5, 62, 63, 64, 65, 66, 730, 731, 732, 733, 734, 735, 736, 737, 738, 739, 740, 741, 742] (by decide +kernel) (by decide +kernel)
set_option maxRecDepth 20000 in
theorem gL_law_X1_watchAt : GoodIn wsL_law (wsV RL 203 RX1 yX1_watchAt wsX1_watchAt) := goodIn_app (goodIn_of _ (by decide +kernel)) ggL_law_X1_watchAt
set_option maxRecDepth 20000 in
theorem ggL_law_X0_people : GoodIn wsL_law wsX0_people := goodIn_r _ [485, 18, 720, 721, 722, 723, 724, 725, 726, 727, 728, 729] (by decide +kernel) (by decide +kernel)
set_option maxRecDepth 20000 in
theorem gL_law_X0_people : GoodIn wsL_law (wsV RL 204 RX0 yX0_people wsX0_people) := goodIn_app (goodIn_of _ (by decide +kernel)) ggL_law_X0_people
set_option maxRecDepth 20000 in
theorem ggL_law_X1_people : GoodIn wsL_law wsX1_people := goodIn_r _ [489, 58, 90, 730, 731, 732, 733, 734, 735, 736, 737, 738, 739, 740, 741, 742] (by decide +kernel) (by decide +kernel)
set_option maxRecDepth 20000 in
theorem gL_law_X1_people : GoodIn wsL_law (wsV RL 207 RX1 yX1_people wsX1_people) := goodIn_app (goodIn_of _ (by decide +kernel)) ggL_law_X1_people
set_option maxRecDepth 20000 in
theorem ggL_law_X0_living : GoodIn wsL_law wsX0_living := goodIn_r _ [493, 18, 20, 720, 721, 722, 723, 724, 725, 726, 727, 728, 729] (by decide +kernel) (by decide +kernel)
set_option maxRecDepth 20000 in
theorem gL_law_X0_living : GoodIn wsL_law (wsV RL 208 RX0 yX0_living wsX0_living) := goodIn_app (goodIn_of _ (by decide +kernel)) ggL_law_X0_living
set_option maxRecDepth 20000 in
theorem ggL_law_X1_living : GoodIn wsL_law wsX1_living := goodIn_r _ [497, 58, 498, 499, 500, 5, 501, 90, 35, 730, 731, 732, 733, 734, 735, 736, 737, 738, 739, 740, 741, 742] (by decide +kernel) (by decide +kernel)
set_option maxRecDepth 20000 in
theorem gL_law_X1_living : GoodIn wsL_law (wsV RL 211 RX1 yX1_living wsX1_living) := goodIn_app (goodIn_of _ (by decide +kernel)) ggL_law_X1_living
set_option maxRecDepth 20000 in
theorem ggL_law_L_isAlive : GoodIn wsL_law wsL_isAlive := goodIn_ca (goodIn_r _ [504, 98, 505, 506, 507, 2, 508, 20, 103, 104, 105, 106, 107, 108, 18, 720, 721, 722, 723, 724, 725, 726, 727, 728, 729] (by decide +kernel) (by decide +kernel)) (goodIn_sub (fun _ h => List.mem_append_right _ h) (by decide +kernel))
set_option maxRecDepth 20000 in
theorem gL_law_L_isAlive : GoodIn wsL_law (va_wsS RL 212 yL_isAlive wsL_isAlive) := goodIn_app (goodIn_of _ (by decide +kernel)) ggL_law_L_isAlive
set_option maxRecDepth 20000 in
theorem ggL_law_X1_isAlive : GoodIn wsL_law wsX1_isAlive := goodIn_r _ [512, 58, 35, 117, 118, 119, 5, 120, 90, 60, 61, 62, 456, 457, 458, 459, 730, 731, 732, 733, 734, 735, 736, 737, 738, 739, 740, 741, 742] (by decide +kernel) (by decide +kernel)
set_option maxRecDepth 20000 in
theorem gL_law_X1_isAlive : GoodIn wsL_law (wsV RL 214 RX1 yX1_isAlive wsX1_isAlive) := goodIn_app (goodIn_of _ (by decide +kernel)) ggL_law_X1_isAlive
set_option maxRecDepth 20000 in
theorem ggL_law_L_coins : GoodIn wsL_law wsL_coins := goodIn_ca (goodIn_r _ [515, 98, 516, 517, 518, 2, 519, 21, 103, 104, 105, 106, 107, 108, 18, 720, 721, 722, 723, 724, 725, 726, 727, 728, 729] (by decide +kernel) (by decide +kernel)) (goodIn_sub (fun _ h => List.mem_append_right _ h) (by decide +kernel))
set_option maxRecDepth 20000 in
theorem gL_law_L_coins : GoodIn wsL_law (va_wsS RL 215 yL_coins wsL_coins) := goodIn_app (goodIn_of _ (by decide +kernel)) ggL_law_L_coins
set_option maxRecDepth 20000 in
theorem ggL_law_X1_coins : GoodIn wsL_law wsX1_coins := goodIn_r _ [523, 58, 32, 117, 118, 119, 5, 120, 90, 60, 61, 62, 63, 64, 65, 66, 730, 731, 732, 733, 734, 735, 736, 737, 738, 739, 740, 741, 742] (by decide +kernel) (by decide +kernel)
set_option maxRecDepth 20000 in
theorem gL_law_X1_coins : GoodIn wsL_law (wsV RL 217 RX1 yX1_coins wsX1_coins) := goodIn_app (goodIn_of _ (by decide +kernel)) ggL_law_X1_coins
set_option maxRecDepth 20000 in
theorem ggL_law_L_earned : GoodIn wsL_law wsL_earned := goodIn_ca (goodIn_r _ [526, 98, 527, 528, 529, 2, 530, 22, 103, 104, 105, 106, 107, 108, 18, 720, 721, 722, 723, 724, 725, 726, 727, 728, 729] (by decide +kernel) (by decide +kernel)) (goodIn_sub (fun _ h => List.mem_append_right _ h) (by decide +kernel))
set_option maxRecDepth 20000 in
theorem gL_law_L_earned : GoodIn wsL_law (va_wsS RL 218 yL_earned wsL_earned) := goodIn_app (goodIn_of _ (by decide +kernel)) ggL_law_L_earned
set_option maxRecDepth 20000 in
theorem ggL_law_X1_earned : GoodIn wsL_law wsX1_earned := goodIn_r _ [534, 58, 33, 117, 118, 119, 5, 120, 90, 60, 61, 62, 63, 64, 65, 66, 730, 731, 732, 733, 734, 735, 736, 737, 738, 739, 740, 741, 742] (by decide +kernel) (by decide +kernel)
set_option maxRecDepth 20000 in
theorem gL_law_X1_earned : GoodIn wsL_law (wsV RL 220 RX1 yX1_earned wsX1_earned) := goodIn_app (goodIn_of _ (by decide +kernel)) ggL_law_X1_earned
set_option maxRecDepth 20000 in
theorem ggL_law_L_allShares : GoodIn wsL_law wsL_allShares := goodIn_ca (goodIn_r _ [537, 98, 538, 539, 540, 2, 541, 103, 104, 105, 106, 107, 108, 18, 542, 543, 544, 545, 13, 267, 268, 269, 270, 166, 167, 168, 169, 17, 170, 171, 172, 720, 721, 722, 723, 724, 725, 726, 727, 728, 729] (by decide +kernel) (by decide +kernel)) (goodIn_sub (fun _ h => List.mem_append_right _ h) (by decide +kernel))
set_option maxRecDepth 20000 in
theorem gL_law_L_allShares : GoodIn wsL_law (va_wsS RL 221 yL_allShares wsL_allShares) := goodIn_app (goodIn_of _ (by decide +kernel)) ggL_law_L_allShares
set_option maxRecDepth 20000 in
theorem ggL_law_X1_allShares : GoodIn wsL_law wsX1_allShares := goodIn_r _ [549, 58, 117, 118, 119, 5, 120, 90, 60, 61, 62, 550, 551, 552, 553, 59, 279, 280, 281, 282, 31, 193, 194, 195, 63, 64, 65, 66, 730, 731, 732, 733, 734, 735, 736, 737, 738, 739, 740, 741, 742] (by decide +kernel) (by decide +kernel)
set_option maxRecDepth 20000 in
theorem gL_law_X1_allShares : GoodIn wsL_law (wsV RL 223 RX1 yX1_allShares wsX1_allShares) := goodIn_app (goodIn_of _ (by decide +kernel)) ggL_law_X1_allShares
set_option maxRecDepth 20000 in
theorem ggL_law_L_hasParent : GoodIn wsL_law wsL_hasParent := goodIn_ca (goodIn_r _ [556, 98, 557, 558, 559, 2, 560, 23, 103, 104, 105, 106, 107, 108, 18, 720, 721, 722, 723, 724, 725, 726, 727, 728, 729] (by decide +kernel) (by decide +kernel)) (goodIn_sub (fun _ h => List.mem_append_right _ h) (by decide +kernel))
set_option maxRecDepth 20000 in
theorem gL_law_L_hasParent : GoodIn wsL_law (va_wsS RL 224 yL_hasParent wsL_hasParent) := goodIn_app (goodIn_of _ (by decide +kernel)) ggL_law_L_hasParent
set_option maxRecDepth 20000 in
theorem ggL_law_X1_hasParent : GoodIn wsL_law wsX1_hasParent := goodIn_r _ [564, 58, 34, 117, 118, 119, 5, 120, 90, 60, 61, 62, 456, 457, 458, 459, 730, 731, 732, 733, 734, 735, 736, 737, 738, 739, 740, 741, 742] (by decide +kernel) (by decide +kernel)
set_option maxRecDepth 20000 in
theorem gL_law_X1_hasParent : GoodIn wsL_law (wsV RL 226 RX1 yX1_hasParent wsX1_hasParent) := goodIn_app (goodIn_of _ (by decide +kernel)) ggL_law_X1_hasParent
set_option maxRecDepth 20000 in
theorem ggL_law_L_parent : GoodIn wsL_law wsL_parent := goodIn_ca (goodIn_ca (goodIn_r _ [567, 98, 42, 568, 569, 570, 2, 571, 47, 48, 23, 103, 104, 105, 106, 107, 108, 18, 720, 721, 722, 723, 724, 725, 726, 727, 728, 729] (by decide +kernel) (by decide +kernel)) (goodIn_sub (fun _ h => List.mem_append_left _ (List.mem_append_left _ (List.mem_append_right _ h))) (by decide +kernel))) (goodIn_sub (fun _ h => List.mem_append_right _ h) (by decide +kernel))
set_option maxRecDepth 20000 in
theorem gL_law_L_parent : GoodIn wsL_law (va_wsS RL 227 yL_parent wsL_parent) := goodIn_app (goodIn_of _ (by decide +kernel)) ggL_law_L_parent
set_option maxRecDepth 20000 in
theorem ggL_law_X1_parent : GoodIn wsL_law wsX1_parent := goodIn_r _ [575, 58, 34, 117, 118, 119, 5, 120, 90, 60, 61, 62, 63, 64, 65, 66, 730, 731, 732, 733, 734, 735, 736, 737, 738, 739, 740, 741, 742] (by decide +kernel) (by decide +kernel)
set_option maxRecDepth 20000 in
theorem gL_law_X1_parent : GoodIn wsL_law (wsV RL 229 RX1 yX1_parent wsX1_parent) := goodIn_app (goodIn_of _ (by decide +kernel)) ggL_law_X1_parent
set_option maxRecDepth 20000 in
theorem ggL_law_L_children : GoodIn wsL_law wsL_children := goodIn_ca (goodIn_r _ [578, 98, 579, 580, 581, 2, 582, 103, 104, 105, 106, 107, 108, 18, 583, 584, 585, 586, 23, 720, 721, 722, 723, 724, 725, 726, 727, 728, 729] (by decide +kernel) (by decide +kernel)) (goodIn_sub (fun _ h => List.mem_append_right _ h) (by decide +kernel))
set_option maxRecDepth 20000 in
theorem gL_law_L_children : GoodIn wsL_law (va_wsS RL 230 yL_children wsL_children) := goodIn_app (goodIn_of _ (by decide +kernel)) ggL_law_L_children
set_option maxRecDepth 20000 in
theorem ggL_law_X1_children : GoodIn wsL_law wsX1_children := goodIn_r _ [590, 58, 117, 118, 119, 5, 120, 90, 60, 61, 62, 591, 592, 593, 594, 34, 63, 64, 65, 66, 730, 731, 732, 733, 734, 735, 736, 737, 738, 739, 740, 741, 742] (by decide +kernel) (by decide +kernel)
set_option maxRecDepth 20000 in
theorem gL_law_X1_children : GoodIn wsL_law (wsV RL 232 RX1 yX1_children wsX1_children) := goodIn_app (goodIn_of _ (by decide +kernel)) ggL_law_X1_children
set_option maxRecDepth 20000 in
theorem ggL_law_L_heirs : GoodIn wsL_law wsL_heirs := goodIn_ca (goodIn_r _ [597, 98, 598, 599, 600, 2, 601, 103, 104, 105, 106, 107, 108, 18, 316, 317, 318, 319, 320, 321, 322, 323, 324, 325, 326, 327, 20, 23, 328, 329, 330, 331, 720, 721, 722, 723, 724, 725, 726, 727, 728, 729] (by decide +kernel) (by decide +kernel)) (goodIn_sub (fun _ h => List.mem_append_right _ h) (by decide +kernel))
set_option maxRecDepth 20000 in
theorem gL_law_L_heirs : GoodIn wsL_law (va_wsS RL 233 yL_heirs wsL_heirs) := goodIn_app (goodIn_of _ (by decide +kernel)) ggL_law_L_heirs
set_option maxRecDepth 20000 in
theorem ggL_law_X1_heirs : GoodIn wsL_law wsX1_heirs := goodIn_r _ [605, 58, 117, 118, 119, 5, 120, 90, 60, 61, 62, 606, 607, 608, 609, 347, 348, 349, 350, 351, 34, 35, 352, 353, 354, 355, 36, 63, 64, 65, 66, 730, 731, 732, 733, 734, 735, 736, 737, 738, 739, 740, 741, 742] (by decide +kernel) (by decide +kernel)
set_option maxRecDepth 20000 in
theorem gL_law_X1_heirs : GoodIn wsL_law (wsV RL 235 RX1 yX1_heirs wsX1_heirs) := goodIn_app (goodIn_of _ (by decide +kernel)) ggL_law_X1_heirs
set_option maxRecDepth 20000 in
theorem ggL_law_L_heir : GoodIn wsL_law wsL_heir := goodIn_ca (goodIn_r _ [612, 98, 613, 614, 615, 2, 616, 107, 108, 103, 104, 105, 106, 18, 617, 618, 619, 620, 324, 325, 326, 327, 20, 23, 328, 329, 330, 331, 720, 721, 722, 723, 724, 725, 726, 727, 728, 729] (by decide +kernel) (by decide +kernel)) (goodIn_sub (fun _ h => List.mem_append_right _ h) (by decide +kernel))
set_option maxRecDepth 20000 in
theorem gL_law_L_heir : GoodIn wsL_law (va_wsS RL 236 yL_heir wsL_heir) := goodIn_app (goodIn_of _ (by decide +kernel)) ggL_law_L_heir
set_option maxRecDepth 20000 in
theorem ggL_law_X1_heir : GoodIn wsL_law wsX1_heir := goodIn_r _ [624, 58, 36, 117, 118, 119, 5, 120, 90, 60, 61, 62, 606, 607, 608, 609, 347, 348, 349, 350, 351, 34, 35, 352, 353, 354, 355, 63, 64, 65, 66, 730, 731, 732, 733, 734, 735, 736, 737, 738, 739, 740, 741, 742] (by decide +kernel) (by decide +kernel)
set_option maxRecDepth 20000 in
theorem gL_law_X1_heir : GoodIn wsL_law (wsV RL 238 RX1 yX1_heir wsX1_heir) := goodIn_app (goodIn_of _ (by decide +kernel)) ggL_law_X1_heir
set_option maxRecDepth 20000 in
theorem ggL_law_X0_crownCoins : GoodIn wsL_law wsX0_crownCoins := goodIn_r _ [628, 24, 720, 721, 722, 723, 724, 725, 726, 727, 728, 729] (by decide +kernel) (by decide +kernel)
set_option maxRecDepth 20000 in
theorem gL_law_X0_crownCoins : GoodIn wsL_law (wsV RL 239 RX0 yX0_crownCoins wsX0_crownCoins) := goodIn_app (goodIn_of _ (by decide +kernel)) ggL_law_X0_crownCoins
set_option maxRecDepth 20000 in
theorem ggL_law_X1_crownCoins : GoodIn wsL_law wsX1_crownCoins := goodIn_r _ [632, 58, 304, 730, 731, 732, 733, 734, 735, 736, 737, 738, 739, 740, 741, 742] (by decide +kernel) (by decide +kernel)
set_option maxRecDepth 20000 in
theorem gL_law_X1_crownCoins : GoodIn wsL_law (wsV RL 242 RX1 yX1_crownCoins wsX1_crownCoins) := goodIn_app (goodIn_of _ (by decide +kernel)) ggL_law_X1_crownCoins
set_option maxRecDepth 20000 in
theorem ggL_law_L_price : GoodIn wsL_law wsL_price := goodIn_ca (goodIn_r _ [635, 98, 636, 637, 638, 2, 639, 103, 104, 105, 106, 107, 108, 18, 152, 153, 154, 155, 13, 156, 157, 158, 222, 223, 224, 225, 166, 167, 168, 169, 17, 170, 171, 172, 226, 227, 228, 229, 15, 230, 720, 721, 722, 723, 724, 725, 726, 727, 728, 729] (by decide +kernel) (by decide +kernel)) (goodIn_sub (fun _ h => List.mem_append_right _ h) (by decide +kernel))
set_option maxRecDepth 20000 in
theorem gL_law_L_price : GoodIn wsL_law (va_wsS RL 243 yL_price wsL_price) := goodIn_app (goodIn_of _ (by decide +kernel)) ggL_law_L_price
set_option maxRecDepth 20000 in
theorem ggL_law_X1_price : GoodIn wsL_law wsX1_price := goodIn_r _ [643, 58, 117, 118, 119, 5, 120, 90, 60, 61, 62, 181, 182, 183, 184, 185, 186, 187, 188, 59, 243, 244, 245, 246, 31, 193, 194, 195, 247, 248, 249, 250, 29, 251, 63, 64, 65, 66, 730, 731, 732, 733, 734, 735, 736, 737, 738, 739, 740, 741, 742] (by decide +kernel) (by decide +kernel)
set_option maxRecDepth 20000 in
theorem gL_law_X1_price : GoodIn wsL_law (wsV RL 245 RX1 yX1_price wsX1_price) := goodIn_app (goodIn_of _ (by decide +kernel)) ggL_law_X1_price
set_option maxRecDepth 20000 in
theorem ggL_law_L_canBuy : GoodIn wsL_law wsL_canBuy := goodIn_ca (goodIn_r _ [646, 98, 647, 648, 649, 2, 650, 214, 215, 216, 217, 103, 104, 105, 106, 107, 108, 18, 152, 153, 154, 155, 13, 156, 157, 158, 218, 219, 220, 221, 20, 21, 222, 223, 224, 225, 166, 167, 168, 169, 17, 170, 171, 172, 226, 227, 228, 229, 15, 230, 231, 232, 233, 234, 720, 721, 722, 723, 724, 725, 726, 727, 728, 729] (by decide +kernel) (by decide +kernel)) (goodIn_sub (fun _ h => List.mem_append_right _ h) (by decide +kernel))
set_option maxRecDepth 20000 in
theorem gL_law_L_canBuy : GoodIn wsL_law (va_wsS RL 246 yL_canBuy wsL_canBuy) := goodIn_app (goodIn_of _ (by decide +kernel)) ggL_law_L_canBuy
set_option maxRecDepth 20000 in
theorem ggL_law_X1_canBuy : GoodIn wsL_law wsX1_canBuy := goodIn_r _ [654, 58, 117, 118, 119, 5, 120, 90, 60, 61, 62, 181, 182, 183, 184, 185, 186, 187, 188, 59, 239, 240, 241, 242, 35, 32, 31, 243, 244, 245, 246, 193, 194, 195, 247, 248, 249, 250, 29, 251, 252, 253, 254, 255, 456, 457, 458, 459, 730, 731, 732, 733, 734, 735, 736, 737, 738, 739, 740, 741, 742] (by decide +kernel) (by decide +kernel)
set_option maxRecDepth 20000 in
theorem gL_law_X1_canBuy : GoodIn wsL_law (wsV RL 248 RX1 yX1_canBuy wsX1_canBuy) := goodIn_app (goodIn_of _ (by decide +kernel)) ggL_law_X1_canBuy
set_option maxRecDepth 20000 in
theorem ggL_law_L_inheritance : GoodIn wsL_law wsL_inheritance := goodIn_ca (goodIn_r _ [657, 98, 658, 659, 660, 2, 661, 103, 104, 105, 106, 107, 108, 18, 152, 153, 154, 155, 13, 156, 157, 158, 324, 325, 326, 327, 20, 23, 328, 329, 330, 331, 166, 167, 168, 169, 17, 170, 171, 172, 316, 317, 318, 319, 320, 321, 322, 323, 336, 337, 338, 720, 721, 722, 723, 724, 725, 726, 727, 728, 729] (by decide +kernel) (by decide +kernel)) (goodIn_sub (fun _ h => List.mem_append_right _ h) (by decide +kernel))
set_option maxRecDepth 20000 in
theorem gL_law_L_inheritance : GoodIn wsL_law (va_wsS RL 249 yL_inheritance wsL_inheritance) := goodIn_app (goodIn_of _ (by decide +kernel)) ggL_law_L_inheritance
set_option maxRecDepth 20000 in
theorem ggL_law_X1_inheritance : GoodIn wsL_law wsX1_inheritance := goodIn_r _ [665, 58, 347, 36, 31, 117, 118, 119, 5, 120, 90, 60, 61, 62, 181, 182, 183, 184, 185, 186, 187, 188, 59, 63, 64, 65, 66, 348, 349, 350, 351, 34, 35, 352, 353, 354, 355, 193, 194, 195, 356, 357, 358, 359, 730, 731, 732, 733, 734, 735, 736, 737, 738, 739, 740, 741, 742] (by decide +kernel) (by decide +kernel)
set_option maxRecDepth 20000 in
theorem gL_law_X1_inheritance : GoodIn wsL_law (wsV RL 251 RX1 yX1_inheritance wsX1_inheritance) := goodIn_app (goodIn_of _ (by decide +kernel)) ggL_law_X1_inheritance
set_option maxRecDepth 20000 in
theorem ggL_law_L_fare : GoodIn wsL_law wsL_fare := goodIn_ca (goodIn_ca (goodIn_r _ [668, 98, 41, 669, 670, 671, 2, 672, 103, 104, 105, 106, 107, 108, 18, 152, 153, 154, 155, 13, 290, 291, 292, 293, 294, 295, 52, 53, 296, 297, 298, 299, 15, 166, 167, 168, 169, 17, 170, 171, 172, 720, 721, 722, 723, 724, 725, 726, 727, 728, 729] (by decide +kernel) (by decide +kernel)) (goodIn_sub (fun _ h => List.mem_append_right _ h) (by decide +kernel))) (goodIn_sub (fun _ h => List.mem_append_left _ (List.mem_append_right _ h)) (by decide +kernel))
set_option maxRecDepth 20000 in
theorem gL_law_L_fare : GoodIn wsL_law (va_wsS RL 252 yL_fare wsL_fare) := goodIn_app (goodIn_of _ (by decide +kernel)) ggL_law_L_fare
set_option maxRecDepth 20000 in
theorem ggL_law_X1_fare : GoodIn wsL_law wsX1_fare := goodIn_r _ [676, 58, 117, 118, 119, 5, 120, 90, 60, 61, 62, 185, 186, 187, 188, 59, 63, 64, 65, 66, 305, 306, 307, 308, 29, 31, 193, 194, 195, 730, 731, 732, 733, 734, 735, 736, 737, 738, 739, 740, 741, 742] (by decide +kernel) (by decide +kernel)
set_option maxRecDepth 20000 in
theorem gL_law_X1_fare : GoodIn wsL_law (wsV RL 254 RX1 yX1_fare wsX1_fare) := goodIn_app (goodIn_of _ (by decide +kernel)) ggL_law_X1_fare
set_option maxRecDepth 20000 in
theorem ggL_law_L_richest : GoodIn wsL_law wsL_richest := goodIn_ca (goodIn_r _ [679, 42, 680, 681, 682, 2, 683, 47, 48, 18, 20, 21, 720, 721, 722, 723, 724, 725, 726, 727, 728, 729] (by decide +kernel) (by decide +kernel)) (goodIn_sub (fun _ h => List.mem_append_left _ (List.mem_append_left _ (List.mem_append_right _ h))) (by decide +kernel))
set_option maxRecDepth 20000 in
theorem gL_law_L_richest : GoodIn wsL_law (va_wsS RL 255 yL_richest wsL_richest) := goodIn_app (goodIn_of _ (by decide +kernel)) ggL_law_L_richest
set_option maxRecDepth 20000 in
theorem ggL_law_X1_richest : GoodIn wsL_law wsX1_richest := goodIn_r _ [687, 58, 90, 35, 32, 63, 64, 65, 5, 66, 730, 731, 732, 733, 734, 735, 736, 737, 738, 739, 740, 741, 742] (by decide +kernel) (by decide +kernel)
set_option maxRecDepth 20000 in
theorem gL_law_X1_richest : GoodIn wsL_law (wsV RL 257 RX1 yX1_richest wsX1_richest) := goodIn_app (goodIn_of _ (by decide +kernel)) ggL_law_X1_richest
set_option maxRecDepth 20000 in
theorem ggL_law_X0_meanCoins : GoodIn wsL_law wsX0_meanCoins := goodIn_r _ [691, 18, 20, 21, 720, 721, 722, 723, 724, 725, 726, 727, 728, 729] (by decide +kernel) (by decide +kernel)
set_option maxRecDepth 20000 in
theorem gL_law_X0_meanCoins : GoodIn wsL_law (wsV RL 258 RX0 yX0_meanCoins wsX0_meanCoins) := goodIn_app (goodIn_of _ (by decide +kernel)) ggL_law_X0_meanCoins
set_option maxRecDepth 20000 in
theorem ggL_law_X1_meanCoins : GoodIn wsL_law wsX1_meanCoins := goodIn_r _ [695, 58, 90, 32, 498, 499, 500, 5, 501, 35, 730, 731, 732, 733, 734, 735, 736, 737, 738, 739, 740, 741, 742] (by decide +kernel) (by decide +kernel)
set_option maxRecDepth 20000 in
theorem gL_law_X1_meanCoins : GoodIn wsL_law (wsV RL 262 RX1 yX1_meanCoins wsX1_meanCoins) := goodIn_app (goodIn_of _ (by decide +kernel)) ggL_law_X1_meanCoins
set_option maxRecDepth 20000 in
theorem ggL_law_X0_digest : GoodIn wsL_law wsX0_digest := goodIn_r _ [699, 700, 13, 18, 24, 701, 702, 2, 703, 704, 705, 491, 492, 493, 20, 706, 707, 708, 709, 15, 16, 166, 167, 168, 169, 17, 170, 171, 172, 710, 711, 712, 713, 21, 22, 542, 543, 544, 545, 267, 268, 269, 270, 583, 584, 585, 586, 23, 316, 317, 318, 319, 320, 321, 322, 323, 324, 325, 326, 327, 328, 329, 330, 331, 720, 721, 722, 723, 724, 725, 726, 727, 728, 729] (by decide +kernel) (by decide +kernel)
set_option maxRecDepth 20000 in
theorem gL_law_X0_digest : GoodIn wsL_law (wsV RL 263 RX0 yX0_digest wsX0_digest) := goodIn_app (goodIn_of _ (by decide +kernel)) ggL_law_X0_digest
set_option maxRecDepth 20000 in
theorem ggL_law_X1_digest : GoodIn wsL_law wsX1_digest := goodIn_r _ [717, 58, 718, 719, 59, 90, 304, 29, 30, 31, 35, 32, 33, 498, 499, 500, 5, 501, 193, 194, 195, 550, 551, 552, 553, 279, 280, 281, 282, 591, 592, 593, 594, 34, 606, 607, 608, 609, 347, 348, 349, 350, 351, 352, 353, 354, 355, 36, 730, 731, 732, 733, 734, 735, 736, 737, 738, 739, 740, 741, 742] (by decide +kernel) (by decide +kernel)
set_option maxRecDepth 20000 in
theorem gL_law_X1_digest : GoodIn wsL_law (wsV RL 267 RX1 yX1_digest wsX1_digest) := goodIn_app (goodIn_of _ (by decide +kernel)) ggL_law_X1_digest
abbrev vwCl : List vw_C := [(RX0, TX0, 10), (RX1, TX1, 13)]
