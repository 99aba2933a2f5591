/-! ===== BEGIN printed: names, fields, word lists, decode rows ===== -/
def RX0 : String := "WishMarket$1"
def TX0 : u_T := fun k => match k with
  | _ => ("", "", "", false)
def tyX0 : Nat → FieldType := fun k => match k with
  | _ => .int
theorem nmX0 : ∀ a, a < 0 → ∀ b, b < 0 → a ≠ b → (TX0 a).2.1 ≠ (TX0 b).2.1 := by decide +kernel
theorem tyX0_ok : ∀ k, k < 0 → parseFieldDescriptor (TX0 k).2.2.1 = some (tyX0 k) := by decide +kernel
def RX1 : String := "WishMarket$Item"
def TX1 : u_T := fun k => match k with
  | _ => ("", "", "", false)
def tyX1 : Nat → FieldType := fun k => match k with
  | _ => .int
theorem nmX1 : ∀ a, a < 0 → ∀ b, b < 0 → a ≠ b → (TX1 a).2.1 ≠ (TX1 b).2.1 := by decide +kernel
theorem tyX1_ok : ∀ k, k < 0 → parseFieldDescriptor (TX1 k).2.2.1 = some (tyX1 k) := by decide +kernel
def RX2 : String := "WishMarket$Kind"
def TX2 : u_T := fun k => match k with
  | _ => ("", "", "", false)
def tyX2 : Nat → FieldType := fun k => match k with
  | _ => .int
theorem nmX2 : ∀ a, a < 0 → ∀ b, b < 0 → a ≠ b → (TX2 a).2.1 ≠ (TX2 b).2.1 := by decide +kernel
theorem tyX2_ok : ∀ k, k < 0 → parseFieldDescriptor (TX2 k).2.2.1 = some (tyX2 k) := by decide +kernel
def RX3 : String := "WishMarket$Market"
def TX3 : u_T := fun k => match k with
  | 0 => ("WishMarket$Market", "persons", "[LWishMarket$Person;", true)
  | 1 => ("WishMarket$Market", "stalls", "[LWishMarket$Stall;", true)
  | 2 => ("WishMarket$Market", "wishes", "[LWishMarket$Wish;", true)
  | 3 => ("WishMarket$Market", "personCount", "I", false)
  | 4 => ("WishMarket$Market", "stallCount", "I", false)
  | 5 => ("WishMarket$Market", "wishCount", "I", false)
  | 6 => ("WishMarket$Market", "day", "I", false)
  | 7 => ("WishMarket$Market", "yearLength", "I", false)
  | 8 => ("WishMarket$Market", "regretDays", "I", false)
  | 9 => ("WishMarket$Market", "feePercent", "I", false)
  | 10 => ("WishMarket$Market", "auctionDay", "I", false)
  | 11 => ("WishMarket$Market", "taxDay", "I", false)
  | 12 => ("WishMarket$Market", "taxPercent", "I", false)
  | _ => ("WishMarket$Market", "createdMoney", "I", false)
def tyX3 : Nat → FieldType := fun k => match k with
  | 0 => .array (.object "WishMarket$Person")
  | 1 => .array (.object "WishMarket$Stall")
  | 2 => .array (.object "WishMarket$Wish")
  | 3 => .int
  | 4 => .int
  | 5 => .int
  | 6 => .int
  | 7 => .int
  | 8 => .int
  | 9 => .int
  | 10 => .int
  | 11 => .int
  | 12 => .int
  | _ => .int
theorem nmX3 : ∀ a, a < 14 → ∀ b, b < 14 → a ≠ b → (TX3 a).2.1 ≠ (TX3 b).2.1 := by decide +kernel
theorem tyX3_ok : ∀ k, k < 14 → parseFieldDescriptor (TX3 k).2.2.1 = some (tyX3 k) := by decide +kernel
abbrev cX3_init : ByteArray := prog_5_method_1_code
def yX3_init : MethodName := ⟨RX3, "<init>", "()V"⟩
abbrev cX3_startAnew : ByteArray := prog_5_method_2_code
def yX3_startAnew : MethodName := ⟨RX3, "startAnew", "(I)V"⟩
abbrev cX3_copyFrom : ByteArray := prog_5_method_3_code
def yX3_copyFrom : MethodName := ⟨RX3, "copyFrom", "(LWishMarket$Market;)V"⟩
abbrev cX3_today : ByteArray := prog_5_method_4_code
def yX3_today : MethodName := ⟨RX3, "today", "()I"⟩
abbrev cX3_ownedBy : ByteArray := prog_5_method_5_code
def yX3_ownedBy : MethodName := ⟨RX3, "ownedBy", "(I)I"⟩
abbrev cX3_stockOf : ByteArray := prog_5_method_6_code
def yX3_stockOf : MethodName := ⟨RX3, "stockOf", "(I)I"⟩
abbrev cX3_countGranted : ByteArray := prog_5_method_7_code
def yX3_countGranted : MethodName := ⟨RX3, "countGranted", "()I"⟩
abbrev cX3_countFaded : ByteArray := prog_5_method_8_code
def yX3_countFaded : MethodName := ⟨RX3, "countFaded", "()I"⟩
abbrev cX3_money : ByteArray := prog_5_method_9_code
def yX3_money : MethodName := ⟨RX3, "money", "()I"⟩
abbrev cX3_countMisplaced : ByteArray := prog_5_method_10_code
def yX3_countMisplaced : MethodName := ⟨RX3, "countMisplaced", "()I"⟩
abbrev cX3_hasPersonNamed : ByteArray := prog_5_method_13_code
def yX3_hasPersonNamed : MethodName := ⟨RX3, "hasPersonNamed", "(I)Z"⟩
abbrev cX3_hasWishNamed : ByteArray := prog_5_method_14_code
def yX3_hasWishNamed : MethodName := ⟨RX3, "hasWishNamed", "(II)Z"⟩
abbrev cX3_priceOf : ByteArray := prog_5_method_15_code
def yX3_priceOf : MethodName := ⟨RX3, "priceOf", "(I)I"⟩
abbrev cX3_offerFor : ByteArray := prog_5_method_16_code
def yX3_offerFor : MethodName := ⟨RX3, "offerFor", "(II)I"⟩
abbrev cX3_refundFor : ByteArray := prog_5_method_17_code
def yX3_refundFor : MethodName := ⟨RX3, "refundFor", "(I)I"⟩
abbrev cX3_obstacleToBuy : ByteArray := prog_5_method_18_code
def yX3_obstacleToBuy : MethodName := ⟨RX3, "obstacleToBuy", "(II)I"⟩
abbrev cX3_obstacleToSell : ByteArray := prog_5_method_19_code
def yX3_obstacleToSell : MethodName := ⟨RX3, "obstacleToSell", "(II)I"⟩
abbrev cX3_obstacleToReturn : ByteArray := prog_5_method_20_code
def yX3_obstacleToReturn : MethodName := ⟨RX3, "obstacleToReturn", "(I)I"⟩
abbrev cX3_obstacleToGrant : ByteArray := prog_5_method_21_code
def yX3_obstacleToGrant : MethodName := ⟨RX3, "obstacleToGrant", "(I)I"⟩
abbrev cX3_cheapestFor : ByteArray := prog_5_method_22_code
def yX3_cheapestFor : MethodName := ⟨RX3, "cheapestFor", "(II)I"⟩
abbrev cX3_bestGrantFor : ByteArray := prog_5_method_23_code
def yX3_bestGrantFor : MethodName := ⟨RX3, "bestGrantFor", "(I)I"⟩
abbrev cX3_bestStallFor : ByteArray := prog_5_method_24_code
def yX3_bestStallFor : MethodName := ⟨RX3, "bestStallFor", "(I)I"⟩
abbrev cX3_carryOutPurchase : ByteArray := prog_5_method_25_code
def yX3_carryOutPurchase : MethodName := ⟨RX3, "carryOutPurchase", "(II)I"⟩
abbrev cX3_handOver : ByteArray := prog_5_method_26_code
def yX3_handOver : MethodName := ⟨RX3, "handOver", "(III)V"⟩
abbrev cX3_carryOutSale : ByteArray := prog_5_method_27_code
def yX3_carryOutSale : MethodName := ⟨RX3, "carryOutSale", "(II)I"⟩
abbrev cX3_carryOutReturn : ByteArray := prog_5_method_28_code
def yX3_carryOutReturn : MethodName := ⟨RX3, "carryOutReturn", "(I)I"⟩
abbrev cX3_takeBack : ByteArray := prog_5_method_29_code
def yX3_takeBack : MethodName := ⟨RX3, "takeBack", "(III)V"⟩
abbrev cX3_carryOutGrant : ByteArray := prog_5_method_30_code
def yX3_carryOutGrant : MethodName := ⟨RX3, "carryOutGrant", "(I)I"⟩
abbrev cX3_simulate : ByteArray := prog_5_method_31_code
def yX3_simulate : MethodName := ⟨RX3, "simulate", "(I)I"⟩
abbrev cX3_celebrate : ByteArray := prog_5_method_32_code
def yX3_celebrate : MethodName := ⟨RX3, "celebrate", "()I"⟩
abbrev cX3_shop : ByteArray := prog_5_method_33_code
def yX3_shop : MethodName := ⟨RX3, "shop", "()V"⟩
abbrev cX3_bargain : ByteArray := prog_5_method_34_code
def yX3_bargain : MethodName := ⟨RX3, "bargain", "()V"⟩
abbrev cX3_costOf : ByteArray := prog_5_method_35_code
def yX3_costOf : MethodName := ⟨RX3, "costOf", "(I)I"⟩
abbrev cX3_holdAuctions : ByteArray := prog_5_method_36_code
def yX3_holdAuctions : MethodName := ⟨RX3, "holdAuctions", "()V"⟩
abbrev cX3_mostValuableIn : ByteArray := prog_5_method_37_code
def yX3_mostValuableIn : MethodName := ⟨RX3, "mostValuableIn", "(I)I"⟩
abbrev cX3_auctionOff : ByteArray := prog_5_method_38_code
def yX3_auctionOff : MethodName := ⟨RX3, "auctionOff", "(I)V"⟩
abbrev cX3_collectTaxes : ByteArray := prog_5_method_39_code
def yX3_collectTaxes : MethodName := ⟨RX3, "collectTaxes", "()V"⟩
abbrev cX3_poorestStall : ByteArray := prog_5_method_40_code
def yX3_poorestStall : MethodName := ⟨RX3, "poorestStall", "()I"⟩
abbrev cX3_endDay : ByteArray := prog_5_method_41_code
def yX3_endDay : MethodName := ⟨RX3, "endDay", "()V"⟩
abbrev cX3_wearOut : ByteArray := prog_5_method_42_code
def yX3_wearOut : MethodName := ⟨RX3, "wearOut", "(LWishMarket$Wish;)V"⟩
def RX4 : String := "WishMarket$Person"
def TX4 : u_T := fun k => match k with
  | 0 => ("WishMarket$Person", "name", "I", false)
  | 1 => ("WishMarket$Person", "coins", "I", false)
  | 2 => ("WishMarket$Person", "birthday", "I", false)
  | 3 => ("WishMarket$Person", "candles", "I", false)
  | 4 => ("WishMarket$Person", "happiness", "I", false)
  | 5 => ("WishMarket$Person", "limit", "I", false)
  | 6 => ("WishMarket$Person", "celebrator", "Z", false)
  | _ => ("WishMarket$Person", "bargainer", "Z", false)
def tyX4 : Nat → FieldType := fun k => match k with
  | 0 => .int
  | 1 => .int
  | 2 => .int
  | 3 => .int
  | 4 => .int
  | 5 => .int
  | 6 => .boolean
  | _ => .boolean
theorem nmX4 : ∀ a, a < 8 → ∀ b, b < 8 → a ≠ b → (TX4 a).2.1 ≠ (TX4 b).2.1 := by decide +kernel
theorem tyX4_ok : ∀ k, k < 8 → parseFieldDescriptor (TX4 k).2.2.1 = some (tyX4 k) := by decide +kernel
abbrev cX4_init : ByteArray := prog_6_method_1_code
def yX4_init : MethodName := ⟨RX4, "<init>", "()V"⟩
abbrev cX4_copyFrom : ByteArray := prog_6_method_2_code
def yX4_copyFrom : MethodName := ⟨RX4, "copyFrom", "(LWishMarket$Person;)V"⟩
def RX5 : String := "WishMarket$SetupReader"
def TX5 : u_T := fun k => match k with
  | 0 => ("WishMarket$SetupReader", "tokens", "LWishMarket$Tokens;", true)
  | 1 => ("WishMarket$SetupReader", "draft", "LWishMarket$Market;", true)
  | 2 => ("WishMarket$SetupReader", "errorCode", "I", false)
  | 3 => ("WishMarket$SetupReader", "errorPosition", "I", false)
  | 4 => ("WishMarket$SetupReader", "repeatStart", "[I", true)
  | 5 => ("WishMarket$SetupReader", "passesLeft", "[I", true)
  | 6 => ("WishMarket$SetupReader", "openRepeats", "I", false)
  | _ => ("WishMarket$SetupReader", "simulatedDays", "I", false)
def tyX5 : Nat → FieldType := fun k => match k with
  | 0 => .object "WishMarket$Tokens"
  | 1 => .object "WishMarket$Market"
  | 2 => .int
  | 3 => .int
  | 4 => .array .int
  | 5 => .array .int
  | 6 => .int
  | _ => .int
theorem nmX5 : ∀ a, a < 8 → ∀ b, b < 8 → a ≠ b → (TX5 a).2.1 ≠ (TX5 b).2.1 := by decide +kernel
theorem tyX5_ok : ∀ k, k < 8 → parseFieldDescriptor (TX5 k).2.2.1 = some (tyX5 k) := by decide +kernel
abbrev cX5_init : ByteArray := prog_7_method_1_code
def yX5_init : MethodName := ⟨RX5, "<init>", "()V"⟩
abbrev cX5_read : ByteArray := prog_7_method_2_code
def yX5_read : MethodName := ⟨RX5, "read", "(I)Z"⟩
abbrev cX5_require : ByteArray := prog_7_method_3_code
def yX5_require : MethodName := ⟨RX5, "require", "(ZI)V"⟩
abbrev cX5_readMarket : ByteArray := prog_7_method_4_code
def yX5_readMarket : MethodName := ⟨RX5, "readMarket", "()V"⟩
abbrev cX5_isItemNext : ByteArray := prog_7_method_5_code
def yX5_isItemNext : MethodName := ⟨RX5, "isItemNext", "()Z"⟩
abbrev cX5_readItem : ByteArray := prog_7_method_6_code
def yX5_readItem : MethodName := ⟨RX5, "readItem", "()Z"⟩
abbrev cX5_readNumber : ByteArray := prog_7_method_7_code
def yX5_readNumber : MethodName := ⟨RX5, "readNumber", "(II)I"⟩
abbrev cX5_readPersonIndex : ByteArray := prog_7_method_8_code
def yX5_readPersonIndex : MethodName := ⟨RX5, "readPersonIndex", "()I"⟩
abbrev cX5_readStallIndex : ByteArray := prog_7_method_9_code
def yX5_readStallIndex : MethodName := ⟨RX5, "readStallIndex", "()I"⟩
abbrev cX5_readWishIndex : ByteArray := prog_7_method_10_code
def yX5_readWishIndex : MethodName := ⟨RX5, "readWishIndex", "()I"⟩
abbrev cX5_readDayOfYear : ByteArray := prog_7_method_11_code
def yX5_readDayOfYear : MethodName := ⟨RX5, "readDayOfYear", "()I"⟩
abbrev cX5_readName : ByteArray := prog_7_method_12_code
def yX5_readName : MethodName := ⟨RX5, "readName", "()I"⟩
abbrev cX5_readStall : ByteArray := prog_7_method_13_code
def yX5_readStall : MethodName := ⟨RX5, "readStall", "()V"⟩
abbrev cX5_readPerson : ByteArray := prog_7_method_14_code
def yX5_readPerson : MethodName := ⟨RX5, "readPerson", "()LWishMarket$Person;"⟩
abbrev cX5_readHabits : ByteArray := prog_7_method_15_code
def yX5_readHabits : MethodName := ⟨RX5, "readHabits", "(LWishMarket$Person;)V"⟩
abbrev cX5_readWish : ByteArray := prog_7_method_16_code
def yX5_readWish : MethodName := ⟨RX5, "readWish", "()V"⟩
abbrev cX5_readPlace : ByteArray := prog_7_method_17_code
def yX5_readPlace : MethodName := ⟨RX5, "readPlace", "(LWishMarket$Wish;)V"⟩
abbrev cX5_readLimit : ByteArray := prog_7_method_18_code
def yX5_readLimit : MethodName := ⟨RX5, "readLimit", "()V"⟩
abbrev cX5_readBuy : ByteArray := prog_7_method_19_code
def yX5_readBuy : MethodName := ⟨RX5, "readBuy", "()V"⟩
abbrev cX5_readSell : ByteArray := prog_7_method_20_code
def yX5_readSell : MethodName := ⟨RX5, "readSell", "()V"⟩
abbrev cX5_readReturn : ByteArray := prog_7_method_21_code
def yX5_readReturn : MethodName := ⟨RX5, "readReturn", "()V"⟩
abbrev cX5_readGrant : ByteArray := prog_7_method_22_code
def yX5_readGrant : MethodName := ⟨RX5, "readGrant", "()V"⟩
abbrev cX5_readRename : ByteArray := prog_7_method_23_code
def yX5_readRename : MethodName := ⟨RX5, "readRename", "()V"⟩
abbrev cX5_readSwap : ByteArray := prog_7_method_24_code
def yX5_readSwap : MethodName := ⟨RX5, "readSwap", "()V"⟩
abbrev cX5_readGift : ByteArray := prog_7_method_25_code
def yX5_readGift : MethodName := ⟨RX5, "readGift", "()V"⟩
abbrev cX5_readSale : ByteArray := prog_7_method_26_code
def yX5_readSale : MethodName := ⟨RX5, "readSale", "()V"⟩
abbrev cX5_readTax : ByteArray := prog_7_method_27_code
def yX5_readTax : MethodName := ⟨RX5, "readTax", "()V"⟩
abbrev cX5_readDaysToSimulate : ByteArray := prog_7_method_28_code
def yX5_readDaysToSimulate : MethodName := ⟨RX5, "readDaysToSimulate", "()I"⟩
abbrev cX5_openRepeat : ByteArray := prog_7_method_29_code
def yX5_openRepeat : MethodName := ⟨RX5, "openRepeat", "()V"⟩
def RX6 : String := "WishMarket$Stall"
def TX6 : u_T := fun k => match k with
  | 0 => ("WishMarket$Stall", "capacity", "I", false)
  | 1 => ("WishMarket$Stall", "cash", "I", false)
  | 2 => ("WishMarket$Stall", "stars", "I", false)
  | _ => ("WishMarket$Stall", "margin", "I", false)
def tyX6 : Nat → FieldType := fun k => match k with
  | 0 => .int
  | 1 => .int
  | 2 => .int
  | _ => .int
theorem nmX6 : ∀ a, a < 4 → ∀ b, b < 4 → a ≠ b → (TX6 a).2.1 ≠ (TX6 b).2.1 := by decide +kernel
theorem tyX6_ok : ∀ k, k < 4 → parseFieldDescriptor (TX6 k).2.2.1 = some (tyX6 k) := by decide +kernel
abbrev cX6_init : ByteArray := prog_8_method_1_code
def yX6_init : MethodName := ⟨RX6, "<init>", "()V"⟩
abbrev cX6_copyFrom : ByteArray := prog_8_method_2_code
def yX6_copyFrom : MethodName := ⟨RX6, "copyFrom", "(LWishMarket$Stall;)V"⟩
def RX7 : String := "WishMarket$Tokens"
def TX7 : u_T := fun k => match k with
  | 0 => ("WishMarket$Tokens", "bytes", "[B", true)
  | 1 => ("WishMarket$Tokens", "filled", "I", false)
  | 2 => ("WishMarket$Tokens", "length", "I", false)
  | 3 => ("WishMarket$Tokens", "next", "I", false)
  | 4 => ("WishMarket$Tokens", "start", "I", false)
  | _ => ("WishMarket$Tokens", "kind", "LWishMarket$Kind;", false)
def tyX7 : Nat → FieldType := fun k => match k with
  | 0 => .array .byte
  | 1 => .int
  | 2 => .int
  | 3 => .int
  | 4 => .int
  | _ => .object "WishMarket$Kind"
theorem nmX7 : ∀ a, a < 6 → ∀ b, b < 6 → a ≠ b → (TX7 a).2.1 ≠ (TX7 b).2.1 := by decide +kernel
theorem tyX7_ok : ∀ k, k < 6 → parseFieldDescriptor (TX7 k).2.2.1 = some (tyX7 k) := by decide +kernel
abbrev cX7_init : ByteArray := prog_9_method_1_code
def yX7_init : MethodName := ⟨RX7, "<init>", "()V"⟩
abbrev cX7_putFourBytes : ByteArray := prog_9_method_2_code
def yX7_putFourBytes : MethodName := ⟨RX7, "putFourBytes", "(I)V"⟩
abbrev cX7_startAnew : ByteArray := prog_9_method_3_code
def yX7_startAnew : MethodName := ⟨RX7, "startAnew", "(I)V"⟩
abbrev cX7_scan : ByteArray := prog_9_method_4_code
def yX7_scan : MethodName := ⟨RX7, "scan", "()V"⟩
abbrev cX7_skip : ByteArray := prog_9_method_5_code
def yX7_skip : MethodName := ⟨RX7, "skip", "(II)V"⟩
abbrev cX7_kindOfSign : ByteArray := prog_9_method_6_code
def yX7_kindOfSign : MethodName := ⟨RX7, "kindOfSign", "(I)LWishMarket$Kind;"⟩
abbrev cX7_tokenLength : ByteArray := prog_9_method_7_code
def yX7_tokenLength : MethodName := ⟨RX7, "tokenLength", "()I"⟩
abbrev cX7_isWord : ByteArray := prog_9_method_8_code
def yX7_isWord : MethodName := ⟨RX7, "isWord", "(Ljava/lang/String;)Z"⟩
abbrev cX7_scanIfWord : ByteArray := prog_9_method_9_code
def yX7_scanIfWord : MethodName := ⟨RX7, "scanIfWord", "(Ljava/lang/String;)Z"⟩
abbrev cX7_item : ByteArray := prog_9_method_10_code
def yX7_item : MethodName := ⟨RX7, "item", "()LWishMarket$Item;"⟩
abbrev cX7_number : ByteArray := prog_9_method_11_code
def yX7_number : MethodName := ⟨RX7, "number", "()I"⟩
abbrev cX7_packedName : ByteArray := prog_9_method_12_code
def yX7_packedName : MethodName := ⟨RX7, "packedName", "()I"⟩
def RX8 : String := "WishMarket$Wish"
def TX8 : u_T := fun k => match k with
  | 0 => ("WishMarket$Wish", "name", "I", false)
  | 1 => ("WishMarket$Wish", "base", "I", false)
  | 2 => ("WishMarket$Wish", "strength", "I", false)
  | 3 => ("WishMarket$Wish", "wear", "I", false)
  | 4 => ("WishMarket$Wish", "stall", "I", false)
  | 5 => ("WishMarket$Wish", "owner", "I", false)
  | 6 => ("WishMarket$Wish", "granted", "Z", false)
  | 7 => ("WishMarket$Wish", "faded", "Z", false)
  | 8 => ("WishMarket$Wish", "boughtOn", "I", false)
  | 9 => ("WishMarket$Wish", "boughtFor", "I", false)
  | _ => ("WishMarket$Wish", "boughtAt", "I", false)
def tyX8 : Nat → FieldType := fun k => match k with
  | 0 => .int
  | 1 => .int
  | 2 => .int
  | 3 => .int
  | 4 => .int
  | 5 => .int
  | 6 => .boolean
  | 7 => .boolean
  | 8 => .int
  | 9 => .int
  | _ => .int
theorem nmX8 : ∀ a, a < 11 → ∀ b, b < 11 → a ≠ b → (TX8 a).2.1 ≠ (TX8 b).2.1 := by decide +kernel
theorem tyX8_ok : ∀ k, k < 11 → parseFieldDescriptor (TX8 k).2.2.1 = some (tyX8 k) := by decide +kernel
abbrev cX8_init : ByteArray := prog_10_method_1_code
def yX8_init : MethodName := ⟨RX8, "<init>", "()V"⟩
abbrev cX8_worth : ByteArray := prog_10_method_2_code
def yX8_worth : MethodName := ⟨RX8, "worth", "()I"⟩
abbrev cX8_isInTrade : ByteArray := prog_10_method_3_code
def yX8_isInTrade : MethodName := ⟨RX8, "isInTrade", "()Z"⟩
abbrev cX8_moveTo : ByteArray := prog_10_method_4_code
def yX8_moveTo : MethodName := ⟨RX8, "moveTo", "(II)V"⟩
abbrev cX8_copyFrom : ByteArray := prog_10_method_5_code
def yX8_copyFrom : MethodName := ⟨RX8, "copyFrom", "(LWishMarket$Wish;)V"⟩
def RX9 : String := "WishMarket"
def TX9 : u_T := fun k => match k with
  | 0 => ("WishMarket", "reader", "LWishMarket$SetupReader;", true)
  | 1 => ("WishMarket", "market", "LWishMarket$Market;", true)
  | 2 => ("WishMarket", "forecast", "LWishMarket$Market;", true)
  | 3 => ("WishMarket", "history", "[LWishMarket$Market;", true)
  | 4 => ("WishMarket", "saved", "[LWishMarket$Market;", true)
  | 5 => ("WishMarket", "isSaved", "[Z", true)
  | 6 => ("WishMarket", "output", "Ljava/lang/StringBuilder;", true)
  | 7 => ("WishMarket", "loaded", "Z", false)
  | 8 => ("WishMarket", "undoable", "I", false)
  | _ => ("WishMarket", "newest", "I", false)
def tyX9 : Nat → FieldType := fun k => match k with
  | 0 => .object "WishMarket$SetupReader"
  | 1 => .object "WishMarket$Market"
  | 2 => .object "WishMarket$Market"
  | 3 => .array (.object "WishMarket$Market")
  | 4 => .array (.object "WishMarket$Market")
  | 5 => .array .boolean
  | 6 => .object "java/lang/StringBuilder"
  | 7 => .boolean
  | 8 => .int
  | _ => .int
theorem nmX9 : ∀ a, a < 10 → ∀ b, b < 10 → a ≠ b → (TX9 a).2.1 ≠ (TX9 b).2.1 := by decide +kernel
theorem tyX9_ok : ∀ k, k < 10 → parseFieldDescriptor (TX9 k).2.2.1 = some (tyX9 k) := by decide +kernel
abbrev cX9_init : ByteArray := prog_1_method_1_code
def yX9_init : MethodName := ⟨RX9, "<init>", "()V"⟩
abbrev cX9_append : ByteArray := prog_1_method_2_code
def yX9_append : MethodName := ⟨RX9, "append", "(IIIII)I"⟩
abbrev cX9_parseSetup : ByteArray := prog_1_method_3_code
def yX9_parseSetup : MethodName := ⟨RX9, "parseSetup", "(I)I"⟩
abbrev cX9_day : ByteArray := prog_1_method_7_code
def yX9_day : MethodName := ⟨RX9, "day", "()I"⟩
abbrev cX9_dayOfYear : ByteArray := prog_1_method_9_code
def yX9_dayOfYear : MethodName := ⟨RX9, "dayOfYear", "()I"⟩
abbrev cX9_grantedCount : ByteArray := prog_1_method_10_code
def yX9_grantedCount : MethodName := ⟨RX9, "grantedCount", "()I"⟩
abbrev cX9_fadedCount : ByteArray := prog_1_method_11_code
def yX9_fadedCount : MethodName := ⟨RX9, "fadedCount", "()I"⟩
abbrev cX9_imbalance : ByteArray := prog_1_method_12_code
def yX9_imbalance : MethodName := ⟨RX9, "imbalance", "()I"⟩
abbrev cX9_personCount : ByteArray := prog_1_method_15_code
def yX9_personCount : MethodName := ⟨RX9, "personCount", "()I"⟩
abbrev cX9_coins : ByteArray := prog_1_method_17_code
def yX9_coins : MethodName := ⟨RX9, "coins", "(I)I"⟩
abbrev cX9_birthday : ByteArray := prog_1_method_18_code
def yX9_birthday : MethodName := ⟨RX9, "birthday", "(I)I"⟩
abbrev cX9_candles : ByteArray := prog_1_method_19_code
def yX9_candles : MethodName := ⟨RX9, "candles", "(I)I"⟩
abbrev cX9_happiness : ByteArray := prog_1_method_20_code
def yX9_happiness : MethodName := ⟨RX9, "happiness", "(I)I"⟩
abbrev cX9_shoppingLimit : ByteArray := prog_1_method_22_code
def yX9_shoppingLimit : MethodName := ⟨RX9, "shoppingLimit", "(I)I"⟩
abbrev cX9_daysUntilBirthday : ByteArray := prog_1_method_23_code
def yX9_daysUntilBirthday : MethodName := ⟨RX9, "daysUntilBirthday", "(I)I"⟩
abbrev cX9_stallCount : ByteArray := prog_1_method_24_code
def yX9_stallCount : MethodName := ⟨RX9, "stallCount", "()I"⟩
abbrev cX9_cash : ByteArray := prog_1_method_25_code
def yX9_cash : MethodName := ⟨RX9, "cash", "(I)I"⟩
abbrev cX9_stars : ByteArray := prog_1_method_26_code
def yX9_stars : MethodName := ⟨RX9, "stars", "(I)I"⟩
abbrev cX9_margin : ByteArray := prog_1_method_27_code
def yX9_margin : MethodName := ⟨RX9, "margin", "(I)I"⟩
abbrev cX9_wear : ByteArray := prog_1_method_32_code
def yX9_wear : MethodName := ⟨RX9, "wear", "(I)I"⟩
abbrev cX9_value : ByteArray := prog_1_method_33_code
def yX9_value : MethodName := ⟨RX9, "value", "(I)I"⟩
abbrev cX9_owner : ByteArray := prog_1_method_34_code
def yX9_owner : MethodName := ⟨RX9, "owner", "(I)I"⟩
abbrev cX9_stallOf : ByteArray := prog_1_method_35_code
def yX9_stallOf : MethodName := ⟨RX9, "stallOf", "(I)I"⟩
abbrev cX9_isGranted : ByteArray := prog_1_method_36_code
def yX9_isGranted : MethodName := ⟨RX9, "isGranted", "(I)Z"⟩
abbrev cX9_purchaseDay : ByteArray := prog_1_method_37_code
def yX9_purchaseDay : MethodName := ⟨RX9, "purchaseDay", "(I)I"⟩
abbrev cX9_purchasePrice : ByteArray := prog_1_method_38_code
def yX9_purchasePrice : MethodName := ⟨RX9, "purchasePrice", "(I)I"⟩
abbrev cX9_price : ByteArray := prog_1_method_39_code
def yX9_price : MethodName := ⟨RX9, "price", "(I)I"⟩
abbrev cX9_offer : ByteArray := prog_1_method_40_code
def yX9_offer : MethodName := ⟨RX9, "offer", "(II)I"⟩
abbrev cX9_refund : ByteArray := prog_1_method_41_code
def yX9_refund : MethodName := ⟨RX9, "refund", "(I)I"⟩
abbrev cX9_buyObstacle : ByteArray := prog_1_method_42_code
def yX9_buyObstacle : MethodName := ⟨RX9, "buyObstacle", "(II)I"⟩
abbrev cX9_returnObstacle : ByteArray := prog_1_method_44_code
def yX9_returnObstacle : MethodName := ⟨RX9, "returnObstacle", "(I)I"⟩
abbrev cX9_cheapestWish : ByteArray := prog_1_method_46_code
def yX9_cheapestWish : MethodName := ⟨RX9, "cheapestWish", "(I)I"⟩
abbrev cX9_bestGrant : ByteArray := prog_1_method_47_code
def yX9_bestGrant : MethodName := ⟨RX9, "bestGrant", "(I)I"⟩
abbrev cX9_bestOffer : ByteArray := prog_1_method_48_code
def yX9_bestOffer : MethodName := ⟨RX9, "bestOffer", "(I)I"⟩
abbrev cX9_coinsAfter : ByteArray := prog_1_method_49_code
def yX9_coinsAfter : MethodName := ⟨RX9, "coinsAfter", "(II)I"⟩
abbrev cX9_valueAfter : ByteArray := prog_1_method_50_code
def yX9_valueAfter : MethodName := ⟨RX9, "valueAfter", "(II)I"⟩
abbrev cX9_advance : ByteArray := prog_1_method_55_code
def yX9_advance : MethodName := ⟨RX9, "advance", "(I)I"⟩
abbrev cX9_buy : ByteArray := prog_1_method_56_code
def yX9_buy : MethodName := ⟨RX9, "buy", "(II)I"⟩
abbrev cX9_sell : ByteArray := prog_1_method_57_code
def yX9_sell : MethodName := ⟨RX9, "sell", "(II)I"⟩
abbrev cX9_returnWish : ByteArray := prog_1_method_58_code
def yX9_returnWish : MethodName := ⟨RX9, "returnWish", "(I)I"⟩
abbrev cX9_grant : ByteArray := prog_1_method_59_code
def yX9_grant : MethodName := ⟨RX9, "grant", "(I)I"⟩
abbrev cX9_setLimit : ByteArray := prog_1_method_60_code
def yX9_setLimit : MethodName := ⟨RX9, "setLimit", "(II)I"⟩
abbrev cX9_setMargin : ByteArray := prog_1_method_61_code
def yX9_setMargin : MethodName := ⟨RX9, "setMargin", "(II)I"⟩
abbrev cX9_undoCount : ByteArray := prog_1_method_63_code
def yX9_undoCount : MethodName := ⟨RX9, "undoCount", "()I"⟩
abbrev cX9_saveState : ByteArray := prog_1_method_64_code
def yX9_saveState : MethodName := ⟨RX9, "saveState", "(I)I"⟩
abbrev cX9_restoreState : ByteArray := prog_1_method_65_code
def yX9_restoreState : MethodName := ⟨RX9, "restoreState", "(I)I"⟩
abbrev cX9_loadedMarket : ByteArray := prog_1_method_66_code
def yX9_loadedMarket : MethodName := ⟨RX9, "loadedMarket", "()LWishMarket$Market;"⟩
abbrev cX9_checkPerson : ByteArray := prog_1_method_67_code
def yX9_checkPerson : MethodName := ⟨RX9, "checkPerson", "(I)V"⟩
abbrev cX9_checkStall : ByteArray := prog_1_method_68_code
def yX9_checkStall : MethodName := ⟨RX9, "checkStall", "(I)V"⟩
abbrev cX9_checkWish : ByteArray := prog_1_method_69_code
def yX9_checkWish : MethodName := ⟨RX9, "checkWish", "(I)V"⟩
abbrev cX9_checkIndex : ByteArray := prog_1_method_70_code
def yX9_checkIndex : MethodName := ⟨RX9, "checkIndex", "(II)V"⟩
abbrev cX9_personAt : ByteArray := prog_1_method_71_code
def yX9_personAt : MethodName := ⟨RX9, "personAt", "(I)LWishMarket$Person;"⟩
abbrev cX9_stallAt : ByteArray := prog_1_method_72_code
def yX9_stallAt : MethodName := ⟨RX9, "stallAt", "(I)LWishMarket$Stall;"⟩
abbrev cX9_wishAt : ByteArray := prog_1_method_73_code
def yX9_wishAt : MethodName := ⟨RX9, "wishAt", "(I)LWishMarket$Wish;"⟩
abbrev cX9_checkRange : ByteArray := prog_1_method_74_code
def yX9_checkRange : MethodName := ⟨RX9, "checkRange", "(III)V"⟩
abbrev cX9_checkObstacle : ByteArray := prog_1_method_75_code
def yX9_checkObstacle : MethodName := ⟨RX9, "checkObstacle", "(I)V"⟩
abbrev cX9_rememberForUndo : ByteArray := prog_1_method_76_code
def yX9_rememberForUndo : MethodName := ⟨RX9, "rememberForUndo", "()V"⟩
def RX10 : String := "WishMarketLaw$Market"
def TX10 : u_T := fun k => match k with
  | 0 => ("WishMarketLaw$Market", "year", "I", false)
  | 1 => ("WishMarketLaw$Market", "day", "I", false)
  | 2 => ("WishMarketLaw$Market", "regret", "I", false)
  | 3 => ("WishMarketLaw$Market", "fee", "I", false)
  | 4 => ("WishMarketLaw$Market", "auction", "I", false)
  | 5 => ("WishMarketLaw$Market", "taxDay", "I", false)
  | 6 => ("WishMarketLaw$Market", "tax", "I", false)
  | 7 => ("WishMarketLaw$Market", "persons", "Ljava/util/ArrayList;", true)
  | 8 => ("WishMarketLaw$Market", "stalls", "Ljava/util/ArrayList;", true)
  | _ => ("WishMarketLaw$Market", "wishes", "Ljava/util/ArrayList;", true)
def tyX10 : Nat → FieldType := fun k => match k with
  | 0 => .int
  | 1 => .int
  | 2 => .int
  | 3 => .int
  | 4 => .int
  | 5 => .int
  | 6 => .int
  | 7 => .object "java/util/ArrayList"
  | 8 => .object "java/util/ArrayList"
  | _ => .object "java/util/ArrayList"
theorem nmX10 : ∀ a, a < 10 → ∀ b, b < 10 → a ≠ b → (TX10 a).2.1 ≠ (TX10 b).2.1 := by decide +kernel
theorem tyX10_ok : ∀ k, k < 10 → parseFieldDescriptor (TX10 k).2.2.1 = some (tyX10 k) := by decide +kernel
abbrev cX10_init : ByteArray := prog_12_method_1_code
def yX10_init : MethodName := ⟨RX10, "<init>", "()V"⟩
abbrev cX10_owned : ByteArray := prog_12_method_3_code
def yX10_owned : MethodName := ⟨RX10, "owned", "(I)I"⟩
abbrev cX10_stock : ByteArray := prog_12_method_4_code
def yX10_stock : MethodName := ⟨RX10, "stock", "(I)I"⟩
abbrev cX10_price : ByteArray := prog_12_method_5_code
def yX10_price : MethodName := ⟨RX10, "price", "(I)I"⟩
abbrev cX10_offer : ByteArray := prog_12_method_6_code
def yX10_offer : MethodName := ⟨RX10, "offer", "(II)I"⟩
abbrev cX10_whyBuy : ByteArray := prog_12_method_8_code
def yX10_whyBuy : MethodName := ⟨RX10, "whyBuy", "(II)I"⟩
abbrev cX10_whySell : ByteArray := prog_12_method_9_code
def yX10_whySell : MethodName := ⟨RX10, "whySell", "(II)I"⟩
abbrev cX10_whyGrant : ByteArray := prog_12_method_11_code
def yX10_whyGrant : MethodName := ⟨RX10, "whyGrant", "(I)I"⟩
abbrev cX10_take : ByteArray := prog_12_method_12_code
def yX10_take : MethodName := ⟨RX10, "take", "(III)V"⟩
abbrev cX10_buy : ByteArray := prog_12_method_13_code
def yX10_buy : MethodName := ⟨RX10, "buy", "(II)I"⟩
abbrev cX10_give : ByteArray := prog_12_method_14_code
def yX10_give : MethodName := ⟨RX10, "give", "(III)I"⟩
abbrev cX10_sell : ByteArray := prog_12_method_15_code
def yX10_sell : MethodName := ⟨RX10, "sell", "(II)I"⟩
abbrev cX10_grant : ByteArray := prog_12_method_17_code
def yX10_grant : MethodName := ⟨RX10, "grant", "(I)I"⟩
abbrev cX10_cheapest : ByteArray := prog_12_method_18_code
def yX10_cheapest : MethodName := ⟨RX10, "cheapest", "(II)I"⟩
abbrev cX10_bestGrant : ByteArray := prog_12_method_19_code
def yX10_bestGrant : MethodName := ⟨RX10, "bestGrant", "(I)I"⟩
abbrev cX10_bestOffer : ByteArray := prog_12_method_20_code
def yX10_bestOffer : MethodName := ⟨RX10, "bestOffer", "(I)I"⟩
abbrev cX10_bargain : ByteArray := prog_12_method_21_code
def yX10_bargain : MethodName := ⟨RX10, "bargain", "(I)V"⟩
abbrev cX10_bid : ByteArray := prog_12_method_22_code
def yX10_bid : MethodName := ⟨RX10, "bid", "(II)I"⟩
abbrev cX10_hammer : ByteArray := prog_12_method_23_code
def yX10_hammer : MethodName := ⟨RX10, "hammer", "(I)V"⟩
abbrev cX10_tax : ByteArray := prog_12_method_24_code
def yX10_tax : MethodName := ⟨RX10, "tax", "(I)V"⟩
abbrev cX10_granted : ByteArray := prog_12_method_25_code
def yX10_granted : MethodName := ⟨RX10, "granted", "()I"⟩
abbrev cX10_advance : ByteArray := prog_12_method_26_code
def yX10_advance : MethodName := ⟨RX10, "advance", "(I)I"⟩
def RX11 : String := "WishMarketLaw$Person"
def TX11 : u_T := fun k => match k with
  | 0 => ("WishMarketLaw$Person", "coins", "I", false)
  | 1 => ("WishMarketLaw$Person", "birthday", "I", false)
  | 2 => ("WishMarketLaw$Person", "candles", "I", false)
  | 3 => ("WishMarketLaw$Person", "happy", "I", false)
  | 4 => ("WishMarketLaw$Person", "limit", "I", false)
  | 5 => ("WishMarketLaw$Person", "party", "Z", false)
  | _ => ("WishMarketLaw$Person", "bargain", "Z", false)
def tyX11 : Nat → FieldType := fun k => match k with
  | 0 => .int
  | 1 => .int
  | 2 => .int
  | 3 => .int
  | 4 => .int
  | 5 => .boolean
  | _ => .boolean
theorem nmX11 : ∀ a, a < 7 → ∀ b, b < 7 → a ≠ b → (TX11 a).2.1 ≠ (TX11 b).2.1 := by decide +kernel
theorem tyX11_ok : ∀ k, k < 7 → parseFieldDescriptor (TX11 k).2.2.1 = some (tyX11 k) := by decide +kernel
abbrev cX11_init : ByteArray := prog_13_method_1_code
def yX11_init : MethodName := ⟨RX11, "<init>", "()V"⟩
def RX12 : String := "WishMarketLaw$Wish"
def TX12 : u_T := fun k => match k with
  | 0 => ("WishMarketLaw$Wish", "base", "I", false)
  | 1 => ("WishMarketLaw$Wish", "strength", "I", false)
  | 2 => ("WishMarketLaw$Wish", "wear", "I", false)
  | 3 => ("WishMarketLaw$Wish", "stall", "I", false)
  | 4 => ("WishMarketLaw$Wish", "owner", "I", false)
  | 5 => ("WishMarketLaw$Wish", "day", "I", false)
  | 6 => ("WishMarketLaw$Wish", "paid", "I", false)
  | 7 => ("WishMarketLaw$Wish", "seller", "I", false)
  | 8 => ("WishMarketLaw$Wish", "granted", "Z", false)
  | _ => ("WishMarketLaw$Wish", "faded", "Z", false)
def tyX12 : Nat → FieldType := fun k => match k with
  | 0 => .int
  | 1 => .int
  | 2 => .int
  | 3 => .int
  | 4 => .int
  | 5 => .int
  | 6 => .int
  | 7 => .int
  | 8 => .boolean
  | _ => .boolean
theorem nmX12 : ∀ a, a < 10 → ∀ b, b < 10 → a ≠ b → (TX12 a).2.1 ≠ (TX12 b).2.1 := by decide +kernel
theorem tyX12_ok : ∀ k, k < 10 → parseFieldDescriptor (TX12 k).2.2.1 = some (tyX12 k) := by decide +kernel
abbrev cX12_init : ByteArray := prog_14_method_1_code
def yX12_init : MethodName := ⟨RX12, "<init>", "()V"⟩
abbrev cX12_place : ByteArray := prog_14_method_3_code
def yX12_place : MethodName := ⟨RX12, "place", "(II)V"⟩
abbrev cX12_left : ByteArray := prog_14_method_4_code
def yX12_left : MethodName := ⟨RX12, "left", "()I"⟩
abbrev cX12_value : ByteArray := prog_14_method_5_code
def yX12_value : MethodName := ⟨RX12, "value", "()I"⟩
def RX13 : String := "WishMarketModel"
def TX13 : u_T := fun k => match k with
  | _ => ("", "", "", false)
def tyX13 : Nat → FieldType := fun k => match k with
  | _ => .int
theorem nmX13 : ∀ a, a < 0 → ∀ b, b < 0 → a ≠ b → (TX13 a).2.1 ≠ (TX13 b).2.1 := by decide +kernel
theorem tyX13_ok : ∀ k, k < 0 → parseFieldDescriptor (TX13 k).2.2.1 = some (tyX13 k) := by decide +kernel
def RJx145de : String := "java/io/Serializable"
def TJx145de : u_T := fun k => match k with
  | _ => ("", "", "", false)
def tyJx145de : Nat → FieldType := fun k => match k with
  | _ => .int
theorem nmJx145de : ∀ a, a < 0 → ∀ b, b < 0 → a ≠ b → (TJx145de a).2.1 ≠ (TJx145de b).2.1 := by decide +kernel
theorem tyJx145de_ok : ∀ k, k < 0 → parseFieldDescriptor (TJx145de k).2.2.1 = some (tyJx145de k) := by decide +kernel
def RJ5 : String := "java/lang/AbstractStringBuilder"
def TJ5 : u_T := fun k => match k with
  | _ => ("", "", "", false)
def tyJ5 : Nat → FieldType := fun k => match k with
  | _ => .int
theorem nmJ5 : ∀ a, a < 0 → ∀ b, b < 0 → a ≠ b → (TJ5 a).2.1 ≠ (TJ5 b).2.1 := by decide +kernel
theorem tyJ5_ok : ∀ k, k < 0 → parseFieldDescriptor (TJ5 k).2.2.1 = some (tyJ5 k) := by decide +kernel
abbrev cJ5_init_d00df : ByteArray := prog_17_method_2_code
def yJ5_init_d00df : MethodName := ⟨RJ5, "<init>", "(I)V"⟩
abbrev cJ5_init_a7421 : ByteArray := prog_17_method_3_code
def yJ5_init_a7421 : MethodName := ⟨RJ5, "<init>", "(Ljava/lang/String;)V"⟩
abbrev cJ5_length_8abf5 : ByteArray := prog_17_method_6_code
def yJ5_length_8abf5 : MethodName := ⟨RJ5, "length", "()I"⟩
abbrev cJ5_ensureCapacityInternal_d00df : ByteArray := prog_17_method_9_code
def yJ5_ensureCapacityInternal_d00df : MethodName := ⟨RJ5, "ensureCapacityInternal", "(I)V"⟩
abbrev cJ5_newCapacity_0f7a4 : ByteArray := prog_17_method_10_code
def yJ5_newCapacity_0f7a4 : MethodName := ⟨RJ5, "newCapacity", "(I)I"⟩
abbrev cJ5_inflate_da8c8 : ByteArray := prog_17_method_11_code
def yJ5_inflate_da8c8 : MethodName := ⟨RJ5, "inflate", "()V"⟩
abbrev cJ5_charAt_5068e : ByteArray := prog_17_method_14_code
def yJ5_charAt_5068e : MethodName := ⟨RJ5, "charAt", "(I)C"⟩
abbrev cJ5_append_cf1ce : ByteArray := prog_17_method_22_code
def yJ5_append_cf1ce : MethodName := ⟨RJ5, "append", "(Ljava/lang/String;)Ljava/lang/AbstractStringBuilder;"⟩
abbrev cJ5_appendNull_278bc : ByteArray := prog_17_method_26_code
def yJ5_appendNull_278bc : MethodName := ⟨RJ5, "appendNull", "()Ljava/lang/AbstractStringBuilder;"⟩
abbrev cJ5_append_3fe6f : ByteArray := prog_17_method_31_code
def yJ5_append_3fe6f : MethodName := ⟨RJ5, "append", "(C)Ljava/lang/AbstractStringBuilder;"⟩
abbrev cJ5_append_c97b9 : ByteArray := prog_17_method_32_code
def yJ5_append_c97b9 : MethodName := ⟨RJ5, "append", "(I)Ljava/lang/AbstractStringBuilder;"⟩
abbrev cJ5_getValue_6d5f1 : ByteArray := prog_17_method_64_code
def yJ5_getValue_6d5f1 : MethodName := ⟨RJ5, "getValue", "()[B"⟩
abbrev cJ5_isLatin1_aae02 : ByteArray := prog_17_method_68_code
def yJ5_isLatin1_aae02 : MethodName := ⟨RJ5, "isLatin1", "()Z"⟩
abbrev cJ5_inflateIfNeededFor_a7421 : ByteArray := prog_17_method_71_code
def yJ5_inflateIfNeededFor_a7421 : MethodName := ⟨RJ5, "inflateIfNeededFor", "(Ljava/lang/String;)V"⟩
abbrev cJ5_putStringAt_47b60 : ByteArray := prog_17_method_73_code
def yJ5_putStringAt_47b60 : MethodName := ⟨RJ5, "putStringAt", "(ILjava/lang/String;)V"⟩
def RJx2cfe8 : String := "java/lang/Appendable"
def TJx2cfe8 : u_T := fun k => match k with
  | _ => ("", "", "", false)
def tyJx2cfe8 : Nat → FieldType := fun k => match k with
  | _ => .int
theorem nmJx2cfe8 : ∀ a, a < 0 → ∀ b, b < 0 → a ≠ b → (TJx2cfe8 a).2.1 ≠ (TJx2cfe8 b).2.1 := by decide +kernel
theorem tyJx2cfe8_ok : ∀ k, k < 0 → parseFieldDescriptor (TJx2cfe8 k).2.2.1 = some (tyJx2cfe8 k) := by decide +kernel
def RJx9f9b0 : String := "java/lang/CharSequence"
def TJx9f9b0 : u_T := fun k => match k with
  | _ => ("", "", "", false)
def tyJx9f9b0 : Nat → FieldType := fun k => match k with
  | _ => .int
theorem nmJx9f9b0 : ∀ a, a < 0 → ∀ b, b < 0 → a ≠ b → (TJx9f9b0 a).2.1 ≠ (TJx9f9b0 b).2.1 := by decide +kernel
theorem tyJx9f9b0_ok : ∀ k, k < 0 → parseFieldDescriptor (TJx9f9b0 k).2.2.1 = some (tyJx9f9b0 k) := by decide +kernel
def RJx8e188 : String := "java/lang/Cloneable"
def TJx8e188 : u_T := fun k => match k with
  | _ => ("", "", "", false)
def tyJx8e188 : Nat → FieldType := fun k => match k with
  | _ => .int
theorem nmJx8e188 : ∀ a, a < 0 → ∀ b, b < 0 → a ≠ b → (TJx8e188 a).2.1 ≠ (TJx8e188 b).2.1 := by decide +kernel
theorem tyJx8e188_ok : ∀ k, k < 0 → parseFieldDescriptor (TJx8e188 k).2.2.1 = some (tyJx8e188 k) := by decide +kernel
def RJxb160c : String := "java/lang/Comparable"
def TJxb160c : u_T := fun k => match k with
  | _ => ("", "", "", false)
def tyJxb160c : Nat → FieldType := fun k => match k with
  | _ => .int
theorem nmJxb160c : ∀ a, a < 0 → ∀ b, b < 0 → a ≠ b → (TJxb160c a).2.1 ≠ (TJxb160c b).2.1 := by decide +kernel
theorem tyJxb160c_ok : ∀ k, k < 0 → parseFieldDescriptor (TJxb160c k).2.2.1 = some (tyJxb160c k) := by decide +kernel
def RJx29ce0 : String := "java/lang/Enum"
def TJx29ce0 : u_T := fun k => match k with
  | _ => ("", "", "", false)
def tyJx29ce0 : Nat → FieldType := fun k => match k with
  | _ => .int
theorem nmJx29ce0 : ∀ a, a < 0 → ∀ b, b < 0 → a ≠ b → (TJx29ce0 a).2.1 ≠ (TJx29ce0 b).2.1 := by decide +kernel
theorem tyJx29ce0_ok : ∀ k, k < 0 → parseFieldDescriptor (TJx29ce0 k).2.2.1 = some (tyJx29ce0 k) := by decide +kernel
abbrev cJx29ce0_ordinal_8abf5 : ByteArray := prog_22_method_2_code
def yJx29ce0_ordinal_8abf5 : MethodName := ⟨RJx29ce0, "ordinal", "()I"⟩
def RJ6 : String := "java/lang/Integer"
def TJ6 : u_T := fun k => match k with
  | _ => ("", "", "", false)
def tyJ6 : Nat → FieldType := fun k => match k with
  | _ => .int
theorem nmJ6 : ∀ a, a < 0 → ∀ b, b < 0 → a ≠ b → (TJ6 a).2.1 ≠ (TJ6 b).2.1 := by decide +kernel
theorem tyJ6_ok : ∀ k, k < 0 → parseFieldDescriptor (TJ6 k).2.2.1 = some (tyJ6 k) := by decide +kernel
abbrev cJ6_getChars_ba4f3 : ByteArray := prog_27_method_12_code
def yJ6_getChars_ba4f3 : MethodName := ⟨RJ6, "getChars", "(II[B)I"⟩
abbrev cJ6_stringSize_0f7a4 : ByteArray := prog_27_method_13_code
def yJ6_stringSize_0f7a4 : MethodName := ⟨RJ6, "stringSize", "(I)I"⟩
abbrev cJ6_numberOfLeadingZeros_0f7a4 : ByteArray := prog_27_method_47_code
def yJ6_numberOfLeadingZeros_0f7a4 : MethodName := ⟨RJ6, "numberOfLeadingZeros", "(I)I"⟩
abbrev cJ6_numberOfTrailingZeros_0f7a4 : ByteArray := prog_27_method_48_code
def yJ6_numberOfTrailingZeros_0f7a4 : MethodName := ⟨RJ6, "numberOfTrailingZeros", "(I)I"⟩
def RJxab1ab : String := "java/lang/Iterable"
def TJxab1ab : u_T := fun k => match k with
  | _ => ("", "", "", false)
def tyJxab1ab : Nat → FieldType := fun k => match k with
  | _ => .int
theorem nmJxab1ab : ∀ a, a < 0 → ∀ b, b < 0 → a ≠ b → (TJxab1ab a).2.1 ≠ (TJxab1ab b).2.1 := by decide +kernel
theorem tyJxab1ab_ok : ∀ k, k < 0 → parseFieldDescriptor (TJxab1ab k).2.2.1 = some (tyJxab1ab k) := by decide +kernel
def RJ13 : String := "java/lang/Long"
def TJ13 : u_T := fun k => match k with
  | _ => ("", "", "", false)
def tyJ13 : Nat → FieldType := fun k => match k with
  | _ => .int
theorem nmJ13 : ∀ a, a < 0 → ∀ b, b < 0 → a ≠ b → (TJ13 a).2.1 ≠ (TJ13 b).2.1 := by decide +kernel
theorem tyJ13_ok : ∀ k, k < 0 → parseFieldDescriptor (TJ13 k).2.2.1 = some (tyJ13 k) := by decide +kernel
abbrev cJ13_numberOfLeadingZeros_95d88 : ByteArray := prog_29_method_48_code
def yJ13_numberOfLeadingZeros_95d88 : MethodName := ⟨RJ13, "numberOfLeadingZeros", "(J)I"⟩
abbrev cJ13_numberOfTrailingZeros_95d88 : ByteArray := prog_29_method_49_code
def yJ13_numberOfTrailingZeros_95d88 : MethodName := ⟨RJ13, "numberOfTrailingZeros", "(J)I"⟩
def RJ9 : String := "java/lang/Math"
def TJ9 : u_T := fun k => match k with
  | _ => ("", "", "", false)
def tyJ9 : Nat → FieldType := fun k => match k with
  | _ => .int
theorem nmJ9 : ∀ a, a < 0 → ∀ b, b < 0 → a ≠ b → (TJ9 a).2.1 ≠ (TJ9 b).2.1 := by decide +kernel
theorem tyJ9_ok : ∀ k, k < 0 → parseFieldDescriptor (TJ9 k).2.2.1 = some (tyJ9 k) := by decide +kernel
abbrev cJ9_abs_0f7a4 : ByteArray := prog_30_method_59_code
def yJ9_abs_0f7a4 : MethodName := ⟨RJ9, "abs", "(I)I"⟩
abbrev cJ9_max_7cf53 : ByteArray := prog_30_method_65_code
def yJ9_max_7cf53 : MethodName := ⟨RJ9, "max", "(II)I"⟩
abbrev cJ9_min_7cf53 : ByteArray := prog_30_method_69_code
def yJ9_min_7cf53 : MethodName := ⟨RJ9, "min", "(II)I"⟩
def RJxd2413 : String := "java/lang/Number"
def TJxd2413 : u_T := fun k => match k with
  | _ => ("", "", "", false)
def tyJxd2413 : Nat → FieldType := fun k => match k with
  | _ => .int
theorem nmJxd2413 : ∀ a, a < 0 → ∀ b, b < 0 → a ≠ b → (TJxd2413 a).2.1 ≠ (TJxd2413 b).2.1 := by decide +kernel
theorem tyJxd2413_ok : ∀ k, k < 0 → parseFieldDescriptor (TJxd2413 k).2.2.1 = some (tyJxd2413 k) := by decide +kernel
def RJ0 : String := "java/lang/String"
def TJ0 : u_T := fun k => match k with
  | 0 => ("java/lang/String", "value", "[B", true)
  | 1 => ("java/lang/String", "coder", "B", true)
  | 2 => ("java/lang/String", "hash", "I", false)
  | _ => ("java/lang/String", "hashIsZero", "Z", false)
def tyJ0 : Nat → FieldType := fun k => match k with
  | 0 => .array .byte
  | 1 => .byte
  | 2 => .int
  | _ => .boolean
theorem nmJ0 : ∀ a, a < 4 → ∀ b, b < 4 → a ≠ b → (TJ0 a).2.1 ≠ (TJ0 b).2.1 := by decide +kernel
theorem tyJ0_ok : ∀ k, k < 4 → parseFieldDescriptor (TJ0 k).2.2.1 = some (tyJ0 k) := by decide +kernel
abbrev cJ0_init_81219 : ByteArray := prog_33_method_53_code
def yJ0_init_81219 : MethodName := ⟨RJ0, "<init>", "(Ljava/lang/StringBuilder;)V"⟩
abbrev cJ0_length_8abf5 : ByteArray := prog_33_method_54_code
def yJ0_length_8abf5 : MethodName := ⟨RJ0, "length", "()I"⟩
abbrev cJ0_charAt_5068e : ByteArray := prog_33_method_56_code
def yJ0_charAt_5068e : MethodName := ⟨RJ0, "charAt", "(I)C"⟩
abbrev cJ0_getBytes_840e7 : ByteArray := prog_33_method_147_code
def yJ0_getBytes_840e7 : MethodName := ⟨RJ0, "getBytes", "([BIB)V"⟩
abbrev cJ0_init_db425 : ByteArray := prog_33_method_150_code
def yJ0_init_db425 : MethodName := ⟨RJ0, "<init>", "(Ljava/lang/AbstractStringBuilder;Ljava/lang/Void;)V"⟩
abbrev cJ0_coder_7d493 : ByteArray := prog_33_method_152_code
def yJ0_coder_7d493 : MethodName := ⟨RJ0, "coder", "()B"⟩
abbrev cJ0_isLatin1_aae02 : ByteArray := prog_33_method_154_code
def yJ0_isLatin1_aae02 : MethodName := ⟨RJ0, "isLatin1", "()Z"⟩
abbrev cJ0_checkIndex_df160 : ByteArray := prog_33_method_155_code
def yJ0_checkIndex_df160 : MethodName := ⟨RJ0, "checkIndex", "(II)V"⟩
abbrev cJ0_checkBoundsOffCount_cabcc : ByteArray := prog_33_method_157_code
def yJ0_checkBoundsOffCount_cabcc : MethodName := ⟨RJ0, "checkBoundsOffCount", "(III)I"⟩
abbrev cJ0_checkBoundsBeginEnd_23922 : ByteArray := prog_33_method_158_code
def yJ0_checkBoundsBeginEnd_23922 : MethodName := ⟨RJ0, "checkBoundsBeginEnd", "(III)V"⟩
def RJ4 : String := "java/lang/StringBuilder"
def TJ4 : u_T := fun k => match k with
  | 0 => ("java/lang/AbstractStringBuilder", "value", "[B", false)
  | 1 => ("java/lang/AbstractStringBuilder", "coder", "B", false)
  | 2 => ("java/lang/AbstractStringBuilder", "maybeLatin1", "Z", false)
  | _ => ("java/lang/AbstractStringBuilder", "count", "I", false)
def tyJ4 : Nat → FieldType := fun k => match k with
  | 0 => .array .byte
  | 1 => .byte
  | 2 => .boolean
  | _ => .int
theorem nmJ4 : ∀ a, a < 4 → ∀ b, b < 4 → a ≠ b → (TJ4 a).2.1 ≠ (TJ4 b).2.1 := by decide +kernel
theorem tyJ4_ok : ∀ k, k < 4 → parseFieldDescriptor (TJ4 k).2.2.1 = some (tyJ4 k) := by decide +kernel
abbrev cJ4_init_da8c8 : ByteArray := prog_34_method_1_code
def yJ4_init_da8c8 : MethodName := ⟨RJ4, "<init>", "()V"⟩
abbrev cJ4_init_a7421 : ByteArray := prog_34_method_3_code
def yJ4_init_a7421 : MethodName := ⟨RJ4, "<init>", "(Ljava/lang/String;)V"⟩
abbrev cJ4_append_15ec4 : ByteArray := prog_34_method_7_code
def yJ4_append_15ec4 : MethodName := ⟨RJ4, "append", "(Ljava/lang/String;)Ljava/lang/StringBuilder;"⟩
abbrev cJ4_append_cf468 : ByteArray := prog_34_method_14_code
def yJ4_append_cf468 : MethodName := ⟨RJ4, "append", "(C)Ljava/lang/StringBuilder;"⟩
abbrev cJ4_append_bf812 : ByteArray := prog_34_method_15_code
def yJ4_append_bf812 : MethodName := ⟨RJ4, "append", "(I)Ljava/lang/StringBuilder;"⟩
abbrev cJ4_toString_0e30d : ByteArray := prog_34_method_42_code
def yJ4_toString_0e30d : MethodName := ⟨RJ4, "toString", "()Ljava/lang/String;"⟩
abbrev cJ4_append_cf1ce : ByteArray := prog_34_method_80_code
def yJ4_append_cf1ce : MethodName := ⟨RJ4, "append", "(Ljava/lang/String;)Ljava/lang/AbstractStringBuilder;"⟩
abbrev cJ4_charAt_5068e : ByteArray := prog_34_method_88_code
def yJ4_charAt_5068e : MethodName := ⟨RJ4, "charAt", "(I)C"⟩
abbrev cJ4_length_8abf5 : ByteArray := prog_34_method_93_code
def yJ4_length_8abf5 : MethodName := ⟨RJ4, "length", "()I"⟩
def RJ1 : String := "java/lang/StringLatin1"
def TJ1 : u_T := fun k => match k with
  | _ => ("", "", "", false)
def tyJ1 : Nat → FieldType := fun k => match k with
  | _ => .int
theorem nmJ1 : ∀ a, a < 0 → ∀ b, b < 0 → a ≠ b → (TJ1 a).2.1 ≠ (TJ1 b).2.1 := by decide +kernel
theorem tyJ1_ok : ∀ k, k < 0 → parseFieldDescriptor (TJ1 k).2.2.1 = some (tyJ1 k) := by decide +kernel
abbrev cJ1_charAt_3b067 : ByteArray := prog_35_method_2_code
def yJ1_charAt_3b067 : MethodName := ⟨RJ1, "charAt", "([BI)C"⟩
abbrev cJ1_canEncode_fc78d : ByteArray := prog_35_method_3_code
def yJ1_canEncode_fc78d : MethodName := ⟨RJ1, "canEncode", "(C)Z"⟩
abbrev cJ1_inflate_0e8fd : ByteArray := prog_35_method_50_code
def yJ1_inflate_0e8fd : MethodName := ⟨RJ1, "inflate", "([BI[BII)V"⟩
def RJ2 : String := "java/lang/StringUTF16"
def TJ2 : u_T := fun k => match k with
  | _ => ("", "", "", false)
def tyJ2 : Nat → FieldType := fun k => match k with
  | _ => .int
theorem nmJ2 : ∀ a, a < 0 → ∀ b, b < 0 → a ≠ b → (TJ2 a).2.1 ≠ (TJ2 b).2.1 := by decide +kernel
theorem tyJ2_ok : ∀ k, k < 0 → parseFieldDescriptor (TJ2 k).2.2.1 = some (tyJ2 k) := by decide +kernel
abbrev cJ2_newBytesFor_77867 : ByteArray := prog_36_method_2_code
def yJ2_newBytesFor_77867 : MethodName := ⟨RJ2, "newBytesFor", "(I)[B"⟩
abbrev cJ2_newBytesLength_0f7a4 : ByteArray := prog_36_method_3_code
def yJ2_newBytesLength_0f7a4 : MethodName := ⟨RJ2, "newBytesLength", "(I)I"⟩
abbrev cJ2_putChar_b72d1 : ByteArray := prog_36_method_4_code
def yJ2_putChar_b72d1 : MethodName := ⟨RJ2, "putChar", "([BII)V"⟩
abbrev cJ2_getChar_3b067 : ByteArray := prog_36_method_5_code
def yJ2_getChar_3b067 : MethodName := ⟨RJ2, "getChar", "([BI)C"⟩
abbrev cJ2_length_9d52b : ByteArray := prog_36_method_6_code
def yJ2_length_9d52b : MethodName := ⟨RJ2, "length", "([B)I"⟩
abbrev cJ2_coderFromArrayLen_85cad : ByteArray := prog_36_method_15_code
def yJ2_coderFromArrayLen_85cad : MethodName := ⟨RJ2, "coderFromArrayLen", "([BI)B"⟩
abbrev cJ2_compress_39247 : ByteArray := prog_36_method_17_code
def yJ2_compress_39247 : MethodName := ⟨RJ2, "compress", "([BII)[B"⟩
abbrev cJ2_compress_5af95 : ByteArray := prog_36_method_22_code
def yJ2_compress_5af95 : MethodName := ⟨RJ2, "compress", "([BI[BII)I"⟩
abbrev cJ2_putCharSB_b72d1 : ByteArray := prog_36_method_71_code
def yJ2_putCharSB_b72d1 : MethodName := ⟨RJ2, "putCharSB", "([BII)V"⟩
abbrev cJ2_getChars_46870 : ByteArray := prog_36_method_77_code
def yJ2_getChars_46870 : MethodName := ⟨RJ2, "getChars", "(III[B)I"⟩
abbrev cJ2_putCharsAt_cd4e5 : ByteArray := prog_36_method_81_code
def yJ2_putCharsAt_cd4e5 : MethodName := ⟨RJ2, "putCharsAt", "([BICCCC)I"⟩
abbrev cJ2_charAt_3b067 : ByteArray := prog_36_method_83_code
def yJ2_charAt_3b067 : MethodName := ⟨RJ2, "charAt", "([BI)C"⟩
abbrev cJ2_inflate_0e8fd : ByteArray := prog_36_method_86_code
def yJ2_inflate_0e8fd : MethodName := ⟨RJ2, "inflate", "([BI[BII)V"⟩
abbrev cJ2_getChars_ba4f3 : ByteArray := prog_36_method_89_code
def yJ2_getChars_ba4f3 : MethodName := ⟨RJ2, "getChars", "(II[B)I"⟩
abbrev cJ2_checkIndex_2214a : ByteArray := prog_36_method_91_code
def yJ2_checkIndex_2214a : MethodName := ⟨RJ2, "checkIndex", "(I[B)V"⟩
abbrev cJ2_checkBoundsBeginEnd_d044e : ByteArray := prog_36_method_93_code
def yJ2_checkBoundsBeginEnd_d044e : MethodName := ⟨RJ2, "checkBoundsBeginEnd", "(II[B)V"⟩
abbrev cJ2_checkBoundsOffCount_d044e : ByteArray := prog_36_method_94_code
def yJ2_checkBoundsOffCount_d044e : MethodName := ⟨RJ2, "checkBoundsOffCount", "(II[B)V"⟩
def RJ10 : String := "java/lang/System"
def TJ10 : u_T := fun k => match k with
  | _ => ("", "", "", false)
def tyJ10 : Nat → FieldType := fun k => match k with
  | _ => .int
theorem nmJ10 : ∀ a, a < 0 → ∀ b, b < 0 → a ≠ b → (TJ10 a).2.1 ≠ (TJ10 b).2.1 := by decide +kernel
theorem tyJ10_ok : ∀ k, k < 0 → parseFieldDescriptor (TJ10 k).2.2.1 = some (tyJ10 k) := by decide +kernel
def RJxfd54e : String := "java/lang/constant/Constable"
def TJxfd54e : u_T := fun k => match k with
  | _ => ("", "", "", false)
def tyJxfd54e : Nat → FieldType := fun k => match k with
  | _ => .int
theorem nmJxfd54e : ∀ a, a < 0 → ∀ b, b < 0 → a ≠ b → (TJxfd54e a).2.1 ≠ (TJxfd54e b).2.1 := by decide +kernel
theorem tyJxfd54e_ok : ∀ k, k < 0 → parseFieldDescriptor (TJxfd54e k).2.2.1 = some (tyJxfd54e k) := by decide +kernel
def RJx3cf43 : String := "java/lang/constant/ConstantDesc"
def TJx3cf43 : u_T := fun k => match k with
  | _ => ("", "", "", false)
def tyJx3cf43 : Nat → FieldType := fun k => match k with
  | _ => .int
theorem nmJx3cf43 : ∀ a, a < 0 → ∀ b, b < 0 → a ≠ b → (TJx3cf43 a).2.1 ≠ (TJx3cf43 b).2.1 := by decide +kernel
theorem tyJx3cf43_ok : ∀ k, k < 0 → parseFieldDescriptor (TJx3cf43 k).2.2.1 = some (tyJx3cf43 k) := by decide +kernel
def RJxa1e45 : String := "java/util/AbstractCollection"
def TJxa1e45 : u_T := fun k => match k with
  | _ => ("", "", "", false)
def tyJxa1e45 : Nat → FieldType := fun k => match k with
  | _ => .int
theorem nmJxa1e45 : ∀ a, a < 0 → ∀ b, b < 0 → a ≠ b → (TJxa1e45 a).2.1 ≠ (TJxa1e45 b).2.1 := by decide +kernel
theorem tyJxa1e45_ok : ∀ k, k < 0 → parseFieldDescriptor (TJxa1e45 k).2.2.1 = some (tyJxa1e45 k) := by decide +kernel
abbrev cJxa1e45_init_da8c8 : ByteArray := prog_41_method_1_code
def yJxa1e45_init_da8c8 : MethodName := ⟨RJxa1e45, "<init>", "()V"⟩
def RJxc12de : String := "java/util/AbstractList"
def TJxc12de : u_T := fun k => match k with
  | _ => ("", "", "", false)
def tyJxc12de : Nat → FieldType := fun k => match k with
  | _ => .int
theorem nmJxc12de : ∀ a, a < 0 → ∀ b, b < 0 → a ≠ b → (TJxc12de a).2.1 ≠ (TJxc12de b).2.1 := by decide +kernel
theorem tyJxc12de_ok : ∀ k, k < 0 → parseFieldDescriptor (TJxc12de k).2.2.1 = some (tyJxc12de k) := by decide +kernel
abbrev cJxc12de_init_da8c8 : ByteArray := prog_42_method_1_code
def yJxc12de_init_da8c8 : MethodName := ⟨RJxc12de, "<init>", "()V"⟩
def RJx4a65c : String := "java/util/ArrayList"
def TJx4a65c : u_T := fun k => match k with
  | 0 => ("java/util/AbstractList", "modCount", "I", false)
  | 1 => ("java/util/ArrayList", "elementData", "[Ljava/lang/Object;", false)
  | _ => ("java/util/ArrayList", "size", "I", false)
def tyJx4a65c : Nat → FieldType := fun k => match k with
  | 0 => .int
  | 1 => .array (.object "java/lang/Object")
  | _ => .int
theorem nmJx4a65c : ∀ a, a < 3 → ∀ b, b < 3 → a ≠ b → (TJx4a65c a).2.1 ≠ (TJx4a65c b).2.1 := by decide +kernel
theorem tyJx4a65c_ok : ∀ k, k < 3 → parseFieldDescriptor (TJx4a65c k).2.2.1 = some (tyJx4a65c k) := by decide +kernel
abbrev cJx4a65c_init_da8c8 : ByteArray := prog_43_method_2_code
def yJx4a65c_init_da8c8 : MethodName := ⟨RJx4a65c, "<init>", "()V"⟩
abbrev cJx4a65c_grow_92f84 : ByteArray := prog_43_method_6_code
def yJx4a65c_grow_92f84 : MethodName := ⟨RJx4a65c, "grow", "(I)[Ljava/lang/Object;"⟩
abbrev cJx4a65c_grow_d5877 : ByteArray := prog_43_method_7_code
def yJx4a65c_grow_d5877 : MethodName := ⟨RJx4a65c, "grow", "()[Ljava/lang/Object;"⟩
abbrev cJx4a65c_size_8abf5 : ByteArray := prog_43_method_8_code
def yJx4a65c_size_8abf5 : MethodName := ⟨RJx4a65c, "size", "()I"⟩
abbrev cJx4a65c_elementData_915e3 : ByteArray := prog_43_method_18_code
def yJx4a65c_elementData_915e3 : MethodName := ⟨RJx4a65c, "elementData", "(I)Ljava/lang/Object;"⟩
abbrev cJx4a65c_get_915e3 : ByteArray := prog_43_method_20_code
def yJx4a65c_get_915e3 : MethodName := ⟨RJx4a65c, "get", "(I)Ljava/lang/Object;"⟩
abbrev cJx4a65c_add_72be8 : ByteArray := prog_43_method_24_code
def yJx4a65c_add_72be8 : MethodName := ⟨RJx4a65c, "add", "(Ljava/lang/Object;[Ljava/lang/Object;I)V"⟩
abbrev cJx4a65c_add_9ea2d : ByteArray := prog_43_method_25_code
def yJx4a65c_add_9ea2d : MethodName := ⟨RJx4a65c, "add", "(Ljava/lang/Object;)Z"⟩
def RJ7 : String := "java/util/Arrays"
def TJ7 : u_T := fun k => match k with
  | _ => ("", "", "", false)
def tyJ7 : Nat → FieldType := fun k => match k with
  | _ => .int
theorem nmJ7 : ∀ a, a < 0 → ∀ b, b < 0 → a ≠ b → (TJ7 a).2.1 ≠ (TJ7 b).2.1 := by decide +kernel
theorem tyJ7_ok : ∀ k, k < 0 → parseFieldDescriptor (TJ7 k).2.2.1 = some (tyJ7 k) := by decide +kernel
abbrev cJ7_equals_331f6 : ByteArray := prog_44_method_81_code
def yJ7_equals_331f6 : MethodName := ⟨RJ7, "equals", "([J[J)Z"⟩
abbrev cJ7_fill_d0a16 : ByteArray := prog_44_method_101_code
def yJ7_fill_d0a16 : MethodName := ⟨RJ7, "fill", "([JJ)V"⟩
abbrev cJ7_copyOf_1904c : ByteArray := prog_44_method_119_code
def yJ7_copyOf_1904c : MethodName := ⟨RJ7, "copyOf", "([Ljava/lang/Object;I)[Ljava/lang/Object;"⟩
abbrev cJ7_copyOf_6403c : ByteArray := prog_44_method_120_code
def yJ7_copyOf_6403c : MethodName := ⟨RJ7, "copyOf", "([Ljava/lang/Object;ILjava/lang/Class;)[Ljava/lang/Object;"⟩
abbrev cJ7_copyOf_9075b : ByteArray := prog_44_method_121_code
def yJ7_copyOf_9075b : MethodName := ⟨RJ7, "copyOf", "([BI)[B"⟩
abbrev cJ7_checkLength_df160 : ByteArray := prog_44_method_131_code
def yJ7_checkLength_df160 : MethodName := ⟨RJ7, "checkLength", "(II)V"⟩
abbrev cJ7_copyOfRange_39247 : ByteArray := prog_44_method_132_code
def yJ7_copyOfRange_39247 : MethodName := ⟨RJ7, "copyOfRange", "([BII)[B"⟩
abbrev cJ7_copyOfRangeByte_39247 : ByteArray := prog_44_method_133_code
def yJ7_copyOfRangeByte_39247 : MethodName := ⟨RJ7, "copyOfRangeByte", "([BII)[B"⟩
def RJx5ef63 : String := "java/util/Collection"
def TJx5ef63 : u_T := fun k => match k with
  | _ => ("", "", "", false)
def tyJx5ef63 : Nat → FieldType := fun k => match k with
  | _ => .int
theorem nmJx5ef63 : ∀ a, a < 0 → ∀ b, b < 0 → a ≠ b → (TJx5ef63 a).2.1 ≠ (TJx5ef63 b).2.1 := by decide +kernel
theorem tyJx5ef63_ok : ∀ k, k < 0 → parseFieldDescriptor (TJx5ef63 k).2.2.1 = some (tyJx5ef63 k) := by decide +kernel
def RJxbd725 : String := "java/util/List"
def TJxbd725 : u_T := fun k => match k with
  | _ => ("", "", "", false)
def tyJxbd725 : Nat → FieldType := fun k => match k with
  | _ => .int
theorem nmJxbd725 : ∀ a, a < 0 → ∀ b, b < 0 → a ≠ b → (TJxbd725 a).2.1 ≠ (TJxbd725 b).2.1 := by decide +kernel
theorem tyJxbd725_ok : ∀ k, k < 0 → parseFieldDescriptor (TJxbd725 k).2.2.1 = some (tyJxbd725 k) := by decide +kernel
def RJ15 : String := "java/util/Objects"
def TJ15 : u_T := fun k => match k with
  | _ => ("", "", "", false)
def tyJ15 : Nat → FieldType := fun k => match k with
  | _ => .int
theorem nmJ15 : ∀ a, a < 0 → ∀ b, b < 0 → a ≠ b → (TJ15 a).2.1 ≠ (TJ15 b).2.1 := by decide +kernel
theorem tyJ15_ok : ∀ k, k < 0 → parseFieldDescriptor (TJ15 k).2.2.1 = some (tyJ15 k) := by decide +kernel
abbrev cJ15_checkIndex_7cf53 : ByteArray := prog_47_method_17_code
def yJ15_checkIndex_7cf53 : MethodName := ⟨RJ15, "checkIndex", "(II)I"⟩
def RJxf0a74 : String := "java/util/RandomAccess"
def TJxf0a74 : u_T := fun k => match k with
  | _ => ("", "", "", false)
def tyJxf0a74 : Nat → FieldType := fun k => match k with
  | _ => .int
theorem nmJxf0a74 : ∀ a, a < 0 → ∀ b, b < 0 → a ≠ b → (TJxf0a74 a).2.1 ≠ (TJxf0a74 b).2.1 := by decide +kernel
theorem tyJxf0a74_ok : ∀ k, k < 0 → parseFieldDescriptor (TJxf0a74 k).2.2.1 = some (tyJxf0a74 k) := by decide +kernel
def RJxa66e6 : String := "java/util/SequencedCollection"
def TJxa66e6 : u_T := fun k => match k with
  | _ => ("", "", "", false)
def tyJxa66e6 : Nat → FieldType := fun k => match k with
  | _ => .int
theorem nmJxa66e6 : ∀ a, a < 0 → ∀ b, b < 0 → a ≠ b → (TJxa66e6 a).2.1 ≠ (TJxa66e6 b).2.1 := by decide +kernel
theorem tyJxa66e6_ok : ∀ k, k < 0 → parseFieldDescriptor (TJxa66e6 k).2.2.1 = some (tyJxa66e6 k) := by decide +kernel
def RJx9a822 : String := "jdk/internal/misc/Unsafe"
def TJx9a822 : u_T := fun k => match k with
  | _ => ("", "", "", false)
def tyJx9a822 : Nat → FieldType := fun k => match k with
  | _ => .int
theorem nmJx9a822 : ∀ a, a < 0 → ∀ b, b < 0 → a ≠ b → (TJx9a822 a).2.1 ≠ (TJx9a822 b).2.1 := by decide +kernel
theorem tyJx9a822_ok : ∀ k, k < 0 → parseFieldDescriptor (TJx9a822 k).2.2.1 = some (tyJx9a822 k) := by decide +kernel
abbrev cJx9a822_getLongUnaligned_f02c6 : ByteArray := prog_50_method_334_code
def yJx9a822_getLongUnaligned_f02c6 : MethodName := ⟨RJx9a822, "getLongUnaligned", "(Ljava/lang/Object;J)J"⟩
abbrev cJx9a822_getIntUnaligned_25a47 : ByteArray := prog_50_method_336_code
def yJx9a822_getIntUnaligned_25a47 : MethodName := ⟨RJx9a822, "getIntUnaligned", "(Ljava/lang/Object;J)I"⟩
abbrev cJx9a822_pickPos_7cf53 : ByteArray := prog_50_method_350_code
def yJx9a822_pickPos_7cf53 : MethodName := ⟨RJx9a822, "pickPos", "(II)I"⟩
abbrev cJx9a822_makeLong_0477f : ByteArray := prog_50_method_351_code
def yJx9a822_makeLong_0477f : MethodName := ⟨RJx9a822, "makeLong", "(BBBBBBBB)J"⟩
abbrev cJx9a822_makeLong_4b46d : ByteArray := prog_50_method_352_code
def yJx9a822_makeLong_4b46d : MethodName := ⟨RJx9a822, "makeLong", "(SSSS)J"⟩
abbrev cJx9a822_makeLong_a216e : ByteArray := prog_50_method_353_code
def yJx9a822_makeLong_a216e : MethodName := ⟨RJx9a822, "makeLong", "(II)J"⟩
abbrev cJx9a822_makeInt_4e28c : ByteArray := prog_50_method_354_code
def yJx9a822_makeInt_4e28c : MethodName := ⟨RJx9a822, "makeInt", "(SS)I"⟩
abbrev cJx9a822_makeInt_86272 : ByteArray := prog_50_method_355_code
def yJx9a822_makeInt_86272 : MethodName := ⟨RJx9a822, "makeInt", "(BBBB)I"⟩
abbrev cJx9a822_toUnsignedInt_4d018 : ByteArray := prog_50_method_366_code
def yJx9a822_toUnsignedInt_4d018 : MethodName := ⟨RJx9a822, "toUnsignedInt", "(B)I"⟩
abbrev cJx9a822_toUnsignedInt_f1ed4 : ByteArray := prog_50_method_367_code
def yJx9a822_toUnsignedInt_f1ed4 : MethodName := ⟨RJx9a822, "toUnsignedInt", "(S)I"⟩
abbrev cJx9a822_toUnsignedLong_c5be9 : ByteArray := prog_50_method_368_code
def yJx9a822_toUnsignedLong_c5be9 : MethodName := ⟨RJx9a822, "toUnsignedLong", "(B)J"⟩
abbrev cJx9a822_toUnsignedLong_51cfc : ByteArray := prog_50_method_369_code
def yJx9a822_toUnsignedLong_51cfc : MethodName := ⟨RJx9a822, "toUnsignedLong", "(S)J"⟩
abbrev cJx9a822_toUnsignedLong_3e8ac : ByteArray := prog_50_method_370_code
def yJx9a822_toUnsignedLong_3e8ac : MethodName := ⟨RJx9a822, "toUnsignedLong", "(I)J"⟩
def RJxf92f9 : String := "jdk/internal/misc/UnsafeConstants"
def TJxf92f9 : u_T := fun k => match k with
  | _ => ("", "", "", false)
def tyJxf92f9 : Nat → FieldType := fun k => match k with
  | _ => .int
theorem nmJxf92f9 : ∀ a, a < 0 → ∀ b, b < 0 → a ≠ b → (TJxf92f9 a).2.1 ≠ (TJxf92f9 b).2.1 := by decide +kernel
theorem tyJxf92f9_ok : ∀ k, k < 0 → parseFieldDescriptor (TJxf92f9 k).2.2.1 = some (tyJxf92f9 k) := by decide +kernel
def RJ8 : String := "jdk/internal/util/ArraysSupport"
def TJ8 : u_T := fun k => match k with
  | _ => ("", "", "", false)
def tyJ8 : Nat → FieldType := fun k => match k with
  | _ => .int
theorem nmJ8 : ∀ a, a < 0 → ∀ b, b < 0 → a ≠ b → (TJ8 a).2.1 ≠ (TJ8 b).2.1 := by decide +kernel
theorem tyJ8_ok : ∀ k, k < 0 → parseFieldDescriptor (TJ8 k).2.2.1 = some (tyJ8 k) := by decide +kernel
abbrev cJ8_vectorizedMismatch_456ae : ByteArray := prog_52_method_3_code
def yJ8_vectorizedMismatch_456ae : MethodName := ⟨RJ8, "vectorizedMismatch", "(Ljava/lang/Object;JLjava/lang/Object;JII)I"⟩
abbrev cJ8_mismatch_974f6 : ByteArray := prog_52_method_23_code
def yJ8_mismatch_974f6 : MethodName := ⟨RJ8, "mismatch", "([J[JI)I"⟩
abbrev cJ8_newLength_cabcc : ByteArray := prog_52_method_27_code
def yJ8_newLength_cabcc : MethodName := ⟨RJ8, "newLength", "(III)I"⟩
abbrev cJ8_hugeLength_7cf53 : ByteArray := prog_52_method_28_code
def yJ8_hugeLength_7cf53 : MethodName := ⟨RJ8, "hugeLength", "(II)I"⟩
def RJ3 : String := "jdk/internal/util/Preconditions"
def TJ3 : u_T := fun k => match k with
  | _ => ("", "", "", false)
def tyJ3 : Nat → FieldType := fun k => match k with
  | _ => .int
theorem nmJ3 : ∀ a, a < 0 → ∀ b, b < 0 → a ≠ b → (TJ3 a).2.1 ≠ (TJ3 b).2.1 := by decide +kernel
theorem tyJ3_ok : ∀ k, k < 0 → parseFieldDescriptor (TJ3 k).2.2.1 = some (tyJ3 k) := by decide +kernel
abbrev cJ3_checkIndex_8e157 : ByteArray := prog_53_method_11_code
def yJ3_checkIndex_8e157 : MethodName := ⟨RJ3, "checkIndex", "(IILjava/util/function/BiFunction;)I"⟩
abbrev cJ3_checkFromToIndex_8c36e : ByteArray := prog_53_method_12_code
def yJ3_checkFromToIndex_8c36e : MethodName := ⟨RJ3, "checkFromToIndex", "(IIILjava/util/function/BiFunction;)I"⟩
abbrev cJ3_checkFromIndexSize_8c36e : ByteArray := prog_53_method_13_code
def yJ3_checkFromIndexSize_8c36e : MethodName := ⟨RJ3, "checkFromIndexSize", "(IIILjava/util/function/BiFunction;)I"⟩
def RL : String := "WishMarketLaw"
abbrev cL_put : ByteArray := method_2_code
def yL_put : MethodName := ⟨RL, "put", "(LWishMarket;[II)V"⟩
abbrev cL_flush : ByteArray := method_3_code
def yL_flush : MethodName := ⟨RL, "flush", "(LWishMarket;[I)V"⟩
abbrev cL_said : ByteArray := method_5_code
def yL_said : MethodName := ⟨RL, "said", "(LWishMarket;[I)I"⟩
abbrev cL_cell : ByteArray := method_7_code
def yL_cell : MethodName := ⟨RL, "cell", "([II)I"⟩
abbrev cL_market : ByteArray := method_8_code
def yL_market : MethodName := ⟨RL, "market", "([I)LWishMarketLaw$Market;"⟩
abbrev cL_text : ByteArray := method_9_code
def yL_text : MethodName := ⟨RL, "text", "(LWishMarketLaw$Market;I)Ljava/lang/String;"⟩
abbrev cL_told : ByteArray := method_10_code
def yL_told : MethodName := ⟨RL, "told", "(LWishMarket;[ILjava/lang/CharSequence;)I"⟩
abbrev cL_law : ByteArray := code
def yL_law : MethodName := ⟨RL, "law", "([I)Z"⟩
abbrev cL_all : ByteArray := method_13_code
def yL_all : MethodName := ⟨RL, "all", "(LWishMarket;)I"⟩
abbrev cL_sees : ByteArray := method_14_code
def yL_sees : MethodName := ⟨RL, "sees", "(LWishMarket;[J)V"⟩
