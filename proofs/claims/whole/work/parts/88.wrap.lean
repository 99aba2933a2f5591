/-! the law's wrappers: a call of the class, its exceptions turned to numbers -/
theorem pn_L : plainName RL = true := by decide +kernel
abbrev mL_parseSetup (d : Nat) : MD := (yL_parseSetup, 4, (some .int), [(0, 9, 12, 13), (0, 9, 15, 15)], d)
abbrev mL_day (d : Nat) : MD := (yL_day, 3, (some .int), [(0, 8, 11, 21)], d)
abbrev mL_yearLength (d : Nat) : MD := (yL_yearLength, 3, (some .int), [(0, 8, 11, 21)], d)
abbrev mL_dayOfYear (d : Nat) : MD := (yL_dayOfYear, 3, (some .int), [(0, 8, 11, 21)], d)
abbrev mL_grantedCount (d : Nat) : MD := (yL_grantedCount, 3, (some .int), [(0, 8, 11, 21)], d)
abbrev mL_fadedCount (d : Nat) : MD := (yL_fadedCount, 3, (some .int), [(0, 8, 11, 21)], d)
abbrev mL_imbalance (d : Nat) : MD := (yL_imbalance, 3, (some .int), [(0, 8, 11, 21)], d)
abbrev mL_averageWear (d : Nat) : MD := (yL_averageWear, 3, (some .int), [(0, 7, 10, 21)], d)
abbrev mL_averageStars (d : Nat) : MD := (yL_averageStars, 3, (some .int), [(0, 8, 11, 21)], d)
abbrev mL_personCount (d : Nat) : MD := (yL_personCount, 3, (some .int), [(0, 8, 11, 21)], d)
abbrev mL_personLetter (d : Nat) : MD := (yL_personLetter, 5, (some .int), [(0, 10, 13, 21), (0, 10, 17, 13)], d)
abbrev mL_coins (d : Nat) : MD := (yL_coins, 4, (some .int), [(0, 9, 12, 21), (0, 9, 15, 13)], d)
abbrev mL_birthday (d : Nat) : MD := (yL_birthday, 4, (some .int), [(0, 9, 12, 21), (0, 9, 15, 13)], d)
abbrev mL_candles (d : Nat) : MD := (yL_candles, 4, (some .int), [(0, 9, 12, 21), (0, 9, 15, 13)], d)
abbrev mL_happiness (d : Nat) : MD := (yL_happiness, 4, (some .int), [(0, 9, 12, 21), (0, 9, 15, 13)], d)
abbrev mL_ownedCount (d : Nat) : MD := (yL_ownedCount, 4, (some .int), [(0, 9, 12, 21), (0, 9, 15, 13)], d)
abbrev mL_shoppingLimit (d : Nat) : MD := (yL_shoppingLimit, 4, (some .int), [(0, 9, 12, 21), (0, 9, 15, 13)], d)
abbrev mL_daysUntilBirthday (d : Nat) : MD := (yL_daysUntilBirthday, 4, (some .int), [(0, 9, 12, 21), (0, 9, 15, 13)], d)
abbrev mL_stallCount (d : Nat) : MD := (yL_stallCount, 3, (some .int), [(0, 8, 11, 21)], d)
abbrev mL_cash (d : Nat) : MD := (yL_cash, 4, (some .int), [(0, 9, 12, 21), (0, 9, 15, 13)], d)
abbrev mL_stars (d : Nat) : MD := (yL_stars, 4, (some .int), [(0, 9, 12, 21), (0, 9, 15, 13)], d)
abbrev mL_margin (d : Nat) : MD := (yL_margin, 4, (some .int), [(0, 9, 12, 21), (0, 9, 15, 13)], d)
abbrev mL_stockCount (d : Nat) : MD := (yL_stockCount, 4, (some .int), [(0, 9, 12, 21), (0, 9, 15, 13)], d)
abbrev mL_wishLetter (d : Nat) : MD := (yL_wishLetter, 5, (some .int), [(0, 10, 13, 21), (0, 10, 17, 13)], d)
abbrev mL_baseValue (d : Nat) : MD := (yL_baseValue, 4, (some .int), [(0, 9, 12, 21), (0, 9, 15, 13)], d)
abbrev mL_strength (d : Nat) : MD := (yL_strength, 4, (some .int), [(0, 9, 12, 21), (0, 9, 15, 13)], d)
abbrev mL_wear (d : Nat) : MD := (yL_wear, 4, (some .int), [(0, 9, 12, 21), (0, 9, 15, 13)], d)
abbrev mL_value (d : Nat) : MD := (yL_value, 4, (some .int), [(0, 9, 12, 21), (0, 9, 15, 13)], d)
abbrev mL_owner (d : Nat) : MD := (yL_owner, 4, (some .int), [(0, 9, 12, 21), (0, 9, 15, 13)], d)
abbrev mL_stallOf (d : Nat) : MD := (yL_stallOf, 4, (some .int), [(0, 9, 12, 21), (0, 9, 15, 13)], d)
abbrev mL_isGranted (d : Nat) : MD := (yL_isGranted, 4, (some .int), [(0, 16, 19, 21), (0, 16, 22, 13)], d)
abbrev mL_purchaseDay (d : Nat) : MD := (yL_purchaseDay, 4, (some .int), [(0, 9, 12, 21), (0, 9, 15, 13)], d)
abbrev mL_purchasePrice (d : Nat) : MD := (yL_purchasePrice, 4, (some .int), [(0, 9, 12, 21), (0, 9, 15, 13)], d)
abbrev mL_price (d : Nat) : MD := (yL_price, 4, (some .int), [(0, 9, 12, 21), (0, 9, 15, 13)], d)
abbrev mL_offer (d : Nat) : MD := (yL_offer, 5, (some .int), [(0, 10, 13, 21), (0, 10, 17, 13)], d)
abbrev mL_refund (d : Nat) : MD := (yL_refund, 4, (some .int), [(0, 9, 12, 21), (0, 9, 15, 13)], d)
abbrev mL_buyObstacle (d : Nat) : MD := (yL_buyObstacle, 5, (some .int), [(0, 10, 13, 21), (0, 10, 17, 13)], d)
abbrev mL_sellObstacle (d : Nat) : MD := (yL_sellObstacle, 5, (some .int), [(0, 10, 13, 21), (0, 10, 17, 13)], d)
abbrev mL_returnObstacle (d : Nat) : MD := (yL_returnObstacle, 4, (some .int), [(0, 9, 12, 21), (0, 9, 15, 13)], d)
abbrev mL_grantObstacle (d : Nat) : MD := (yL_grantObstacle, 4, (some .int), [(0, 9, 12, 21), (0, 9, 15, 13)], d)
abbrev mL_cheapestWish (d : Nat) : MD := (yL_cheapestWish, 4, (some .int), [(0, 9, 12, 21), (0, 9, 15, 13)], d)
abbrev mL_bestGrant (d : Nat) : MD := (yL_bestGrant, 4, (some .int), [(0, 9, 12, 21), (0, 9, 15, 13)], d)
abbrev mL_bestOffer (d : Nat) : MD := (yL_bestOffer, 4, (some .int), [(0, 9, 12, 21), (0, 9, 15, 13)], d)
abbrev mL_coinsAfter (d : Nat) : MD := (yL_coinsAfter, 5, (some .int), [(0, 10, 13, 21), (0, 10, 17, 13), (0, 10, 21, 15)], d)
abbrev mL_valueAfter (d : Nat) : MD := (yL_valueAfter, 5, (some .int), [(0, 10, 13, 21), (0, 10, 17, 13), (0, 10, 21, 15)], d)
abbrev mL_daysUntilFaded (d : Nat) : MD := (yL_daysUntilFaded, 4, (some .int), [(0, 9, 12, 21), (0, 9, 15, 13)], d)
abbrev mL_writeStall (d : Nat) : MD := (yL_writeStall, 4, (some .int), [(0, 9, 12, 21), (0, 9, 15, 13)], d)
abbrev mL_writePerson (d : Nat) : MD := (yL_writePerson, 4, (some .int), [(0, 9, 12, 21), (0, 9, 15, 13)], d)
abbrev mL_outputByte (d : Nat) : MD := (yL_outputByte, 4, (some .int), [(0, 9, 12, 13)], d)
abbrev mL_advance (d : Nat) : MD := (yL_advance, 4, (some .int), [(0, 9, 12, 21), (0, 9, 15, 15)], d)
abbrev mL_buy (d : Nat) : MD := (yL_buy, 5, (some .int), [(0, 10, 13, 21), (0, 10, 17, 13), (0, 10, 21, 15)], d)
abbrev mL_sell (d : Nat) : MD := (yL_sell, 5, (some .int), [(0, 10, 13, 21), (0, 10, 17, 13), (0, 10, 21, 15)], d)
abbrev mL_returnWish (d : Nat) : MD := (yL_returnWish, 4, (some .int), [(0, 9, 12, 21), (0, 9, 15, 13), (0, 9, 18, 15)], d)
abbrev mL_grant (d : Nat) : MD := (yL_grant, 4, (some .int), [(0, 9, 12, 21), (0, 9, 15, 13), (0, 9, 18, 15)], d)
abbrev mL_setLimit (d : Nat) : MD := (yL_setLimit, 5, (some .int), [(0, 10, 13, 21), (0, 10, 17, 13), (0, 10, 21, 15)], d)
abbrev mL_setMargin (d : Nat) : MD := (yL_setMargin, 5, (some .int), [(0, 10, 13, 21), (0, 10, 17, 13), (0, 10, 21, 15)], d)
abbrev mL_undo (d : Nat) : MD := (yL_undo, 3, (some .int), [(0, 8, 11, 21)], d)
abbrev mL_saveState (d : Nat) : MD := (yL_saveState, 4, (some .int), [(0, 9, 12, 21), (0, 9, 15, 13)], d)
abbrev mL_restoreState (d : Nat) : MD := (yL_restoreState, 4, (some .int), [(0, 9, 12, 13), (0, 9, 15, 21)], d)
theorem cs_L_7 (d : Nat) : CsV RL 7 (mX9_parseSetup d) cX9_parseSetup 1 := ⟨(show Cond.code yX9_parseSetup cX9_parseSetup 4 (some .int) ∈ wsG from inT2 192 rfl rfl), (show Cond.methodLink RL 7 yX9_parseSetup ∈ wsG from inT2 189 rfl rfl), (show Cond.instanceMethod yX9_parseSetup ∈ wsG from inT2 190 rfl rfl), (show Cond.selects RX9 yX9_parseSetup yX9_parseSetup ∈ wsG from inT2 191 rfl rfl), (show Cond.initialized RX9 ∈ wsG from inT1 1 rfl rfl), (show noMH yX9_parseSetup 1 from ⟨by decide +kernel, by decide +kernel, by decide +kernel⟩)⟩
theorem cs_L_17 (d : Nat) : CsV RL 17 (mX9_day d) cX9_day 0 := ⟨(show Cond.code yX9_day cX9_day 1 (some .int) ∈ wsG from inT4 227 rfl rfl), (show Cond.methodLink RL 17 yX9_day ∈ wsG from inT4 224 rfl rfl), (show Cond.instanceMethod yX9_day ∈ wsG from inT4 225 rfl rfl), (show Cond.selects RX9 yX9_day yX9_day ∈ wsG from inT4 226 rfl rfl), (show Cond.initialized RX9 ∈ wsG from inT1 1 rfl rfl), (show noMH yX9_day 0 from ⟨by decide +kernel, by decide +kernel, by decide +kernel⟩)⟩
theorem cs_L_23 (d : Nat) : CsV RL 23 (mX9_yearLength d) cX9_yearLength 0 := ⟨(show Cond.code yX9_yearLength cX9_yearLength 1 (some .int) ∈ wsG from inT5 14 rfl rfl), (show Cond.methodLink RL 23 yX9_yearLength ∈ wsG from inT5 11 rfl rfl), (show Cond.instanceMethod yX9_yearLength ∈ wsG from inT5 12 rfl rfl), (show Cond.selects RX9 yX9_yearLength yX9_yearLength ∈ wsG from inT5 13 rfl rfl), (show Cond.initialized RX9 ∈ wsG from inT1 1 rfl rfl), (show noMH yX9_yearLength 0 from ⟨by decide +kernel, by decide +kernel, by decide +kernel⟩)⟩
theorem cs_L_26 (d : Nat) : CsV RL 26 (mX9_dayOfYear d) cX9_dayOfYear 0 := ⟨(show Cond.code yX9_dayOfYear cX9_dayOfYear 1 (some .int) ∈ wsG from inT5 21 rfl rfl), (show Cond.methodLink RL 26 yX9_dayOfYear ∈ wsG from inT5 18 rfl rfl), (show Cond.instanceMethod yX9_dayOfYear ∈ wsG from inT5 19 rfl rfl), (show Cond.selects RX9 yX9_dayOfYear yX9_dayOfYear ∈ wsG from inT5 20 rfl rfl), (show Cond.initialized RX9 ∈ wsG from inT1 1 rfl rfl), (show noMH yX9_dayOfYear 0 from ⟨by decide +kernel, by decide +kernel, by decide +kernel⟩)⟩
theorem cs_L_29 (d : Nat) : CsV RL 29 (mX9_grantedCount d) cX9_grantedCount 0 := ⟨(show Cond.code yX9_grantedCount cX9_grantedCount 1 (some .int) ∈ wsG from inT5 29 rfl rfl), (show Cond.methodLink RL 29 yX9_grantedCount ∈ wsG from inT5 26 rfl rfl), (show Cond.instanceMethod yX9_grantedCount ∈ wsG from inT5 27 rfl rfl), (show Cond.selects RX9 yX9_grantedCount yX9_grantedCount ∈ wsG from inT5 28 rfl rfl), (show Cond.initialized RX9 ∈ wsG from inT1 1 rfl rfl), (show noMH yX9_grantedCount 0 from ⟨by decide +kernel, by decide +kernel, by decide +kernel⟩)⟩
theorem cs_L_32 (d : Nat) : CsV RL 32 (mX9_fadedCount d) cX9_fadedCount 0 := ⟨(show Cond.code yX9_fadedCount cX9_fadedCount 1 (some .int) ∈ wsG from inT5 40 rfl rfl), (show Cond.methodLink RL 32 yX9_fadedCount ∈ wsG from inT5 37 rfl rfl), (show Cond.instanceMethod yX9_fadedCount ∈ wsG from inT5 38 rfl rfl), (show Cond.selects RX9 yX9_fadedCount yX9_fadedCount ∈ wsG from inT5 39 rfl rfl), (show Cond.initialized RX9 ∈ wsG from inT1 1 rfl rfl), (show noMH yX9_fadedCount 0 from ⟨by decide +kernel, by decide +kernel, by decide +kernel⟩)⟩
theorem cs_L_35 (d : Nat) : CsV RL 35 (mX9_imbalance d) cX9_imbalance 0 := ⟨(show Cond.code yX9_imbalance cX9_imbalance 2 (some .int) ∈ wsG from inT5 51 rfl rfl), (show Cond.methodLink RL 35 yX9_imbalance ∈ wsG from inT5 48 rfl rfl), (show Cond.instanceMethod yX9_imbalance ∈ wsG from inT5 49 rfl rfl), (show Cond.selects RX9 yX9_imbalance yX9_imbalance ∈ wsG from inT5 50 rfl rfl), (show Cond.initialized RX9 ∈ wsG from inT1 1 rfl rfl), (show noMH yX9_imbalance 0 from ⟨by decide +kernel, by decide +kernel, by decide +kernel⟩)⟩
theorem cs_L_38 (d : Nat) : CsV RL 38 (mX9_averageWear d) cX9_averageWear 0 := ⟨(show Cond.code yX9_averageWear cX9_averageWear 1 (some .double) ∈ wsG from inT5 69 rfl rfl), (show Cond.methodLink RL 38 yX9_averageWear ∈ wsG from inT5 66 rfl rfl), (show Cond.instanceMethod yX9_averageWear ∈ wsG from inT5 67 rfl rfl), (show Cond.selects RX9 yX9_averageWear yX9_averageWear ∈ wsG from inT5 68 rfl rfl), (show Cond.initialized RX9 ∈ wsG from inT1 1 rfl rfl), (show noMH yX9_averageWear 0 from ⟨by decide +kernel, by decide +kernel, by decide +kernel⟩)⟩
theorem cs_L_42 (d : Nat) : CsV RL 42 (mX9_averageStars d) cX9_averageStars 0 := ⟨(show Cond.code yX9_averageStars cX9_averageStars 1 (some .float) ∈ wsG from inT5 80 rfl rfl), (show Cond.methodLink RL 42 yX9_averageStars ∈ wsG from inT5 77 rfl rfl), (show Cond.instanceMethod yX9_averageStars ∈ wsG from inT5 78 rfl rfl), (show Cond.selects RX9 yX9_averageStars yX9_averageStars ∈ wsG from inT5 79 rfl rfl), (show Cond.initialized RX9 ∈ wsG from inT1 1 rfl rfl), (show noMH yX9_averageStars 0 from ⟨by decide +kernel, by decide +kernel, by decide +kernel⟩)⟩
theorem cs_L_46 (d : Nat) : CsV RL 46 (mX9_personCount d) cX9_personCount 0 := ⟨(show Cond.code yX9_personCount cX9_personCount 1 (some .int) ∈ wsG from inT5 91 rfl rfl), (show Cond.methodLink RL 46 yX9_personCount ∈ wsG from inT5 88 rfl rfl), (show Cond.instanceMethod yX9_personCount ∈ wsG from inT5 89 rfl rfl), (show Cond.selects RX9 yX9_personCount yX9_personCount ∈ wsG from inT5 90 rfl rfl), (show Cond.initialized RX9 ∈ wsG from inT1 1 rfl rfl), (show noMH yX9_personCount 0 from ⟨by decide +kernel, by decide +kernel, by decide +kernel⟩)⟩
theorem cs_L_49 (d : Nat) : CsV RL 49 (mX9_personLetter d) cX9_personLetter 2 := ⟨(show Cond.code yX9_personLetter cX9_personLetter 3 (some .int) ∈ wsG from inT5 98 rfl rfl), (show Cond.methodLink RL 49 yX9_personLetter ∈ wsG from inT5 95 rfl rfl), (show Cond.instanceMethod yX9_personLetter ∈ wsG from inT5 96 rfl rfl), (show Cond.selects RX9 yX9_personLetter yX9_personLetter ∈ wsG from inT5 97 rfl rfl), (show Cond.initialized RX9 ∈ wsG from inT1 1 rfl rfl), (show noMH yX9_personLetter 2 from ⟨by decide +kernel, by decide +kernel, by decide +kernel⟩)⟩
theorem cs_L_53 (d : Nat) : CsV RL 53 (mX9_coins d) cX9_coins 1 := ⟨(show Cond.code yX9_coins cX9_coins 2 (some .int) ∈ wsG from inT5 120 rfl rfl), (show Cond.methodLink RL 53 yX9_coins ∈ wsG from inT5 117 rfl rfl), (show Cond.instanceMethod yX9_coins ∈ wsG from inT5 118 rfl rfl), (show Cond.selects RX9 yX9_coins yX9_coins ∈ wsG from inT5 119 rfl rfl), (show Cond.initialized RX9 ∈ wsG from inT1 1 rfl rfl), (show noMH yX9_coins 1 from ⟨by decide +kernel, by decide +kernel, by decide +kernel⟩)⟩
theorem cs_L_56 (d : Nat) : CsV RL 56 (mX9_birthday d) cX9_birthday 1 := ⟨(show Cond.code yX9_birthday cX9_birthday 2 (some .int) ∈ wsG from inT5 127 rfl rfl), (show Cond.methodLink RL 56 yX9_birthday ∈ wsG from inT5 124 rfl rfl), (show Cond.instanceMethod yX9_birthday ∈ wsG from inT5 125 rfl rfl), (show Cond.selects RX9 yX9_birthday yX9_birthday ∈ wsG from inT5 126 rfl rfl), (show Cond.initialized RX9 ∈ wsG from inT1 1 rfl rfl), (show noMH yX9_birthday 1 from ⟨by decide +kernel, by decide +kernel, by decide +kernel⟩)⟩
theorem cs_L_59 (d : Nat) : CsV RL 59 (mX9_candles d) cX9_candles 1 := ⟨(show Cond.code yX9_candles cX9_candles 2 (some .int) ∈ wsG from inT5 134 rfl rfl), (show Cond.methodLink RL 59 yX9_candles ∈ wsG from inT5 131 rfl rfl), (show Cond.instanceMethod yX9_candles ∈ wsG from inT5 132 rfl rfl), (show Cond.selects RX9 yX9_candles yX9_candles ∈ wsG from inT5 133 rfl rfl), (show Cond.initialized RX9 ∈ wsG from inT1 1 rfl rfl), (show noMH yX9_candles 1 from ⟨by decide +kernel, by decide +kernel, by decide +kernel⟩)⟩
theorem cs_L_62 (d : Nat) : CsV RL 62 (mX9_happiness d) cX9_happiness 1 := ⟨(show Cond.code yX9_happiness cX9_happiness 2 (some .int) ∈ wsG from inT5 141 rfl rfl), (show Cond.methodLink RL 62 yX9_happiness ∈ wsG from inT5 138 rfl rfl), (show Cond.instanceMethod yX9_happiness ∈ wsG from inT5 139 rfl rfl), (show Cond.selects RX9 yX9_happiness yX9_happiness ∈ wsG from inT5 140 rfl rfl), (show Cond.initialized RX9 ∈ wsG from inT1 1 rfl rfl), (show noMH yX9_happiness 1 from ⟨by decide +kernel, by decide +kernel, by decide +kernel⟩)⟩
theorem cs_L_65 (d : Nat) : CsV RL 65 (mX9_ownedCount d) cX9_ownedCount 1 := ⟨(show Cond.code yX9_ownedCount cX9_ownedCount 2 (some .int) ∈ wsG from inT5 148 rfl rfl), (show Cond.methodLink RL 65 yX9_ownedCount ∈ wsG from inT5 145 rfl rfl), (show Cond.instanceMethod yX9_ownedCount ∈ wsG from inT5 146 rfl rfl), (show Cond.selects RX9 yX9_ownedCount yX9_ownedCount ∈ wsG from inT5 147 rfl rfl), (show Cond.initialized RX9 ∈ wsG from inT1 1 rfl rfl), (show noMH yX9_ownedCount 1 from ⟨by decide +kernel, by decide +kernel, by decide +kernel⟩)⟩
theorem cs_L_68 (d : Nat) : CsV RL 68 (mX9_shoppingLimit d) cX9_shoppingLimit 1 := ⟨(show Cond.code yX9_shoppingLimit cX9_shoppingLimit 2 (some .int) ∈ wsG from inT5 156 rfl rfl), (show Cond.methodLink RL 68 yX9_shoppingLimit ∈ wsG from inT5 153 rfl rfl), (show Cond.instanceMethod yX9_shoppingLimit ∈ wsG from inT5 154 rfl rfl), (show Cond.selects RX9 yX9_shoppingLimit yX9_shoppingLimit ∈ wsG from inT5 155 rfl rfl), (show Cond.initialized RX9 ∈ wsG from inT1 1 rfl rfl), (show noMH yX9_shoppingLimit 1 from ⟨by decide +kernel, by decide +kernel, by decide +kernel⟩)⟩
theorem cs_L_71 (d : Nat) : CsV RL 71 (mX9_daysUntilBirthday d) cX9_daysUntilBirthday 1 := ⟨(show Cond.code yX9_daysUntilBirthday cX9_daysUntilBirthday 3 (some .int) ∈ wsG from inT5 163 rfl rfl), (show Cond.methodLink RL 71 yX9_daysUntilBirthday ∈ wsG from inT5 160 rfl rfl), (show Cond.instanceMethod yX9_daysUntilBirthday ∈ wsG from inT5 161 rfl rfl), (show Cond.selects RX9 yX9_daysUntilBirthday yX9_daysUntilBirthday ∈ wsG from inT5 162 rfl rfl), (show Cond.initialized RX9 ∈ wsG from inT1 1 rfl rfl), (show noMH yX9_daysUntilBirthday 1 from ⟨by decide +kernel, by decide +kernel, by decide +kernel⟩)⟩
theorem cs_L_74 (d : Nat) : CsV RL 74 (mX9_stallCount d) cX9_stallCount 0 := ⟨(show Cond.code yX9_stallCount cX9_stallCount 1 (some .int) ∈ wsG from inT5 170 rfl rfl), (show Cond.methodLink RL 74 yX9_stallCount ∈ wsG from inT5 167 rfl rfl), (show Cond.instanceMethod yX9_stallCount ∈ wsG from inT5 168 rfl rfl), (show Cond.selects RX9 yX9_stallCount yX9_stallCount ∈ wsG from inT5 169 rfl rfl), (show Cond.initialized RX9 ∈ wsG from inT1 1 rfl rfl), (show noMH yX9_stallCount 0 from ⟨by decide +kernel, by decide +kernel, by decide +kernel⟩)⟩
theorem cs_L_77 (d : Nat) : CsV RL 77 (mX9_cash d) cX9_cash 1 := ⟨(show Cond.code yX9_cash cX9_cash 2 (some .int) ∈ wsG from inT5 177 rfl rfl), (show Cond.methodLink RL 77 yX9_cash ∈ wsG from inT5 174 rfl rfl), (show Cond.instanceMethod yX9_cash ∈ wsG from inT5 175 rfl rfl), (show Cond.selects RX9 yX9_cash yX9_cash ∈ wsG from inT5 176 rfl rfl), (show Cond.initialized RX9 ∈ wsG from inT1 1 rfl rfl), (show noMH yX9_cash 1 from ⟨by decide +kernel, by decide +kernel, by decide +kernel⟩)⟩
theorem cs_L_80 (d : Nat) : CsV RL 80 (mX9_stars d) cX9_stars 1 := ⟨(show Cond.code yX9_stars cX9_stars 2 (some .int) ∈ wsG from inT5 192 rfl rfl), (show Cond.methodLink RL 80 yX9_stars ∈ wsG from inT5 189 rfl rfl), (show Cond.instanceMethod yX9_stars ∈ wsG from inT5 190 rfl rfl), (show Cond.selects RX9 yX9_stars yX9_stars ∈ wsG from inT5 191 rfl rfl), (show Cond.initialized RX9 ∈ wsG from inT1 1 rfl rfl), (show noMH yX9_stars 1 from ⟨by decide +kernel, by decide +kernel, by decide +kernel⟩)⟩
theorem cs_L_83 (d : Nat) : CsV RL 83 (mX9_margin d) cX9_margin 1 := ⟨(show Cond.code yX9_margin cX9_margin 2 (some .int) ∈ wsG from inT5 199 rfl rfl), (show Cond.methodLink RL 83 yX9_margin ∈ wsG from inT5 196 rfl rfl), (show Cond.instanceMethod yX9_margin ∈ wsG from inT5 197 rfl rfl), (show Cond.selects RX9 yX9_margin yX9_margin ∈ wsG from inT5 198 rfl rfl), (show Cond.initialized RX9 ∈ wsG from inT1 1 rfl rfl), (show noMH yX9_margin 1 from ⟨by decide +kernel, by decide +kernel, by decide +kernel⟩)⟩
theorem cs_L_86 (d : Nat) : CsV RL 86 (mX9_stockCount d) cX9_stockCount 1 := ⟨(show Cond.code yX9_stockCount cX9_stockCount 2 (some .int) ∈ wsG from inT5 206 rfl rfl), (show Cond.methodLink RL 86 yX9_stockCount ∈ wsG from inT5 203 rfl rfl), (show Cond.instanceMethod yX9_stockCount ∈ wsG from inT5 204 rfl rfl), (show Cond.selects RX9 yX9_stockCount yX9_stockCount ∈ wsG from inT5 205 rfl rfl), (show Cond.initialized RX9 ∈ wsG from inT1 1 rfl rfl), (show noMH yX9_stockCount 1 from ⟨by decide +kernel, by decide +kernel, by decide +kernel⟩)⟩
theorem cs_L_89 (d : Nat) : CsV RL 89 (mX9_wishLetter d) cX9_wishLetter 2 := ⟨(show Cond.code yX9_wishLetter cX9_wishLetter 3 (some .int) ∈ wsG from inT5 214 rfl rfl), (show Cond.methodLink RL 89 yX9_wishLetter ∈ wsG from inT5 211 rfl rfl), (show Cond.instanceMethod yX9_wishLetter ∈ wsG from inT5 212 rfl rfl), (show Cond.selects RX9 yX9_wishLetter yX9_wishLetter ∈ wsG from inT5 213 rfl rfl), (show Cond.initialized RX9 ∈ wsG from inT1 1 rfl rfl), (show noMH yX9_wishLetter 2 from ⟨by decide +kernel, by decide +kernel, by decide +kernel⟩)⟩
theorem cs_L_92 (d : Nat) : CsV RL 92 (mX9_baseValue d) cX9_baseValue 1 := ⟨(show Cond.code yX9_baseValue cX9_baseValue 2 (some .int) ∈ wsG from inT5 229 rfl rfl), (show Cond.methodLink RL 92 yX9_baseValue ∈ wsG from inT5 226 rfl rfl), (show Cond.instanceMethod yX9_baseValue ∈ wsG from inT5 227 rfl rfl), (show Cond.selects RX9 yX9_baseValue yX9_baseValue ∈ wsG from inT5 228 rfl rfl), (show Cond.initialized RX9 ∈ wsG from inT1 1 rfl rfl), (show noMH yX9_baseValue 1 from ⟨by decide +kernel, by decide +kernel, by decide +kernel⟩)⟩
theorem cs_L_95 (d : Nat) : CsV RL 95 (mX9_strength d) cX9_strength 1 := ⟨(show Cond.code yX9_strength cX9_strength 2 (some .int) ∈ wsG from inT5 236 rfl rfl), (show Cond.methodLink RL 95 yX9_strength ∈ wsG from inT5 233 rfl rfl), (show Cond.instanceMethod yX9_strength ∈ wsG from inT5 234 rfl rfl), (show Cond.selects RX9 yX9_strength yX9_strength ∈ wsG from inT5 235 rfl rfl), (show Cond.initialized RX9 ∈ wsG from inT1 1 rfl rfl), (show noMH yX9_strength 1 from ⟨by decide +kernel, by decide +kernel, by decide +kernel⟩)⟩
theorem cs_L_98 (d : Nat) : CsV RL 98 (mX9_wear d) cX9_wear 1 := ⟨(show Cond.code yX9_wear cX9_wear 2 (some .int) ∈ wsG from inT6 3 rfl rfl), (show Cond.methodLink RL 98 yX9_wear ∈ wsG from inT6 0 rfl rfl), (show Cond.instanceMethod yX9_wear ∈ wsG from inT6 1 rfl rfl), (show Cond.selects RX9 yX9_wear yX9_wear ∈ wsG from inT6 2 rfl rfl), (show Cond.initialized RX9 ∈ wsG from inT1 1 rfl rfl), (show noMH yX9_wear 1 from ⟨by decide +kernel, by decide +kernel, by decide +kernel⟩)⟩
theorem cs_L_101 (d : Nat) : CsV RL 101 (mX9_value d) cX9_value 1 := ⟨(show Cond.code yX9_value cX9_value 2 (some .int) ∈ wsG from inT6 10 rfl rfl), (show Cond.methodLink RL 101 yX9_value ∈ wsG from inT6 7 rfl rfl), (show Cond.instanceMethod yX9_value ∈ wsG from inT6 8 rfl rfl), (show Cond.selects RX9 yX9_value yX9_value ∈ wsG from inT6 9 rfl rfl), (show Cond.initialized RX9 ∈ wsG from inT1 1 rfl rfl), (show noMH yX9_value 1 from ⟨by decide +kernel, by decide +kernel, by decide +kernel⟩)⟩
theorem cs_L_104 (d : Nat) : CsV RL 104 (mX9_owner d) cX9_owner 1 := ⟨(show Cond.code yX9_owner cX9_owner 2 (some .int) ∈ wsG from inT6 18 rfl rfl), (show Cond.methodLink RL 104 yX9_owner ∈ wsG from inT6 15 rfl rfl), (show Cond.instanceMethod yX9_owner ∈ wsG from inT6 16 rfl rfl), (show Cond.selects RX9 yX9_owner yX9_owner ∈ wsG from inT6 17 rfl rfl), (show Cond.initialized RX9 ∈ wsG from inT1 1 rfl rfl), (show noMH yX9_owner 1 from ⟨by decide +kernel, by decide +kernel, by decide +kernel⟩)⟩
theorem cs_L_107 (d : Nat) : CsV RL 107 (mX9_stallOf d) cX9_stallOf 1 := ⟨(show Cond.code yX9_stallOf cX9_stallOf 2 (some .int) ∈ wsG from inT6 25 rfl rfl), (show Cond.methodLink RL 107 yX9_stallOf ∈ wsG from inT6 22 rfl rfl), (show Cond.instanceMethod yX9_stallOf ∈ wsG from inT6 23 rfl rfl), (show Cond.selects RX9 yX9_stallOf yX9_stallOf ∈ wsG from inT6 24 rfl rfl), (show Cond.initialized RX9 ∈ wsG from inT1 1 rfl rfl), (show noMH yX9_stallOf 1 from ⟨by decide +kernel, by decide +kernel, by decide +kernel⟩)⟩
theorem cs_L_110 (d : Nat) : CsV RL 110 (mX9_isGranted d) cX9_isGranted 1 := ⟨(show Cond.code yX9_isGranted cX9_isGranted 2 (some .boolean) ∈ wsG from inT6 32 rfl rfl), (show Cond.methodLink RL 110 yX9_isGranted ∈ wsG from inT6 29 rfl rfl), (show Cond.instanceMethod yX9_isGranted ∈ wsG from inT6 30 rfl rfl), (show Cond.selects RX9 yX9_isGranted yX9_isGranted ∈ wsG from inT6 31 rfl rfl), (show Cond.initialized RX9 ∈ wsG from inT1 1 rfl rfl), (show noMH yX9_isGranted 1 from ⟨by decide +kernel, by decide +kernel, by decide +kernel⟩)⟩
theorem cs_L_114 (d : Nat) : CsV RL 114 (mX9_purchaseDay d) cX9_purchaseDay 1 := ⟨(show Cond.code yX9_purchaseDay cX9_purchaseDay 2 (some .int) ∈ wsG from inT6 39 rfl rfl), (show Cond.methodLink RL 114 yX9_purchaseDay ∈ wsG from inT6 36 rfl rfl), (show Cond.instanceMethod yX9_purchaseDay ∈ wsG from inT6 37 rfl rfl), (show Cond.selects RX9 yX9_purchaseDay yX9_purchaseDay ∈ wsG from inT6 38 rfl rfl), (show Cond.initialized RX9 ∈ wsG from inT1 1 rfl rfl), (show noMH yX9_purchaseDay 1 from ⟨by decide +kernel, by decide +kernel, by decide +kernel⟩)⟩
theorem cs_L_117 (d : Nat) : CsV RL 117 (mX9_purchasePrice d) cX9_purchasePrice 1 := ⟨(show Cond.code yX9_purchasePrice cX9_purchasePrice 2 (some .int) ∈ wsG from inT6 46 rfl rfl), (show Cond.methodLink RL 117 yX9_purchasePrice ∈ wsG from inT6 43 rfl rfl), (show Cond.instanceMethod yX9_purchasePrice ∈ wsG from inT6 44 rfl rfl), (show Cond.selects RX9 yX9_purchasePrice yX9_purchasePrice ∈ wsG from inT6 45 rfl rfl), (show Cond.initialized RX9 ∈ wsG from inT1 1 rfl rfl), (show noMH yX9_purchasePrice 1 from ⟨by decide +kernel, by decide +kernel, by decide +kernel⟩)⟩
theorem cs_L_120 (d : Nat) : CsV RL 120 (mX9_price d) cX9_price 1 := ⟨(show Cond.code yX9_price cX9_price 2 (some .int) ∈ wsG from inT6 53 rfl rfl), (show Cond.methodLink RL 120 yX9_price ∈ wsG from inT6 50 rfl rfl), (show Cond.instanceMethod yX9_price ∈ wsG from inT6 51 rfl rfl), (show Cond.selects RX9 yX9_price yX9_price ∈ wsG from inT6 52 rfl rfl), (show Cond.initialized RX9 ∈ wsG from inT1 1 rfl rfl), (show noMH yX9_price 1 from ⟨by decide +kernel, by decide +kernel, by decide +kernel⟩)⟩
theorem cs_L_123 (d : Nat) : CsV RL 123 (mX9_offer d) cX9_offer 2 := ⟨(show Cond.code yX9_offer cX9_offer 3 (some .int) ∈ wsG from inT6 61 rfl rfl), (show Cond.methodLink RL 123 yX9_offer ∈ wsG from inT6 58 rfl rfl), (show Cond.instanceMethod yX9_offer ∈ wsG from inT6 59 rfl rfl), (show Cond.selects RX9 yX9_offer yX9_offer ∈ wsG from inT6 60 rfl rfl), (show Cond.initialized RX9 ∈ wsG from inT1 1 rfl rfl), (show noMH yX9_offer 2 from ⟨by decide +kernel, by decide +kernel, by decide +kernel⟩)⟩
theorem cs_L_126 (d : Nat) : CsV RL 126 (mX9_refund d) cX9_refund 1 := ⟨(show Cond.code yX9_refund cX9_refund 2 (some .int) ∈ wsG from inT6 69 rfl rfl), (show Cond.methodLink RL 126 yX9_refund ∈ wsG from inT6 66 rfl rfl), (show Cond.instanceMethod yX9_refund ∈ wsG from inT6 67 rfl rfl), (show Cond.selects RX9 yX9_refund yX9_refund ∈ wsG from inT6 68 rfl rfl), (show Cond.initialized RX9 ∈ wsG from inT1 1 rfl rfl), (show noMH yX9_refund 1 from ⟨by decide +kernel, by decide +kernel, by decide +kernel⟩)⟩
theorem cs_L_129 (d : Nat) : CsV RL 129 (mX9_buyObstacle d) cX9_buyObstacle 2 := ⟨(show Cond.code yX9_buyObstacle cX9_buyObstacle 3 (some .int) ∈ wsG from inT6 77 rfl rfl), (show Cond.methodLink RL 129 yX9_buyObstacle ∈ wsG from inT6 74 rfl rfl), (show Cond.instanceMethod yX9_buyObstacle ∈ wsG from inT6 75 rfl rfl), (show Cond.selects RX9 yX9_buyObstacle yX9_buyObstacle ∈ wsG from inT6 76 rfl rfl), (show Cond.initialized RX9 ∈ wsG from inT1 1 rfl rfl), (show noMH yX9_buyObstacle 2 from ⟨by decide +kernel, by decide +kernel, by decide +kernel⟩)⟩
theorem cs_L_132 (d : Nat) : CsV RL 132 (mX9_sellObstacle d) cX9_sellObstacle 2 := ⟨(show Cond.code yX9_sellObstacle cX9_sellObstacle 3 (some .int) ∈ wsG from inT6 85 rfl rfl), (show Cond.methodLink RL 132 yX9_sellObstacle ∈ wsG from inT6 82 rfl rfl), (show Cond.instanceMethod yX9_sellObstacle ∈ wsG from inT6 83 rfl rfl), (show Cond.selects RX9 yX9_sellObstacle yX9_sellObstacle ∈ wsG from inT6 84 rfl rfl), (show Cond.initialized RX9 ∈ wsG from inT1 1 rfl rfl), (show noMH yX9_sellObstacle 2 from ⟨by decide +kernel, by decide +kernel, by decide +kernel⟩)⟩
theorem cs_L_135 (d : Nat) : CsV RL 135 (mX9_returnObstacle d) cX9_returnObstacle 1 := ⟨(show Cond.code yX9_returnObstacle cX9_returnObstacle 2 (some .int) ∈ wsG from inT6 93 rfl rfl), (show Cond.methodLink RL 135 yX9_returnObstacle ∈ wsG from inT6 90 rfl rfl), (show Cond.instanceMethod yX9_returnObstacle ∈ wsG from inT6 91 rfl rfl), (show Cond.selects RX9 yX9_returnObstacle yX9_returnObstacle ∈ wsG from inT6 92 rfl rfl), (show Cond.initialized RX9 ∈ wsG from inT1 1 rfl rfl), (show noMH yX9_returnObstacle 1 from ⟨by decide +kernel, by decide +kernel, by decide +kernel⟩)⟩
theorem cs_L_138 (d : Nat) : CsV RL 138 (mX9_grantObstacle d) cX9_grantObstacle 1 := ⟨(show Cond.code yX9_grantObstacle cX9_grantObstacle 2 (some .int) ∈ wsG from inT6 101 rfl rfl), (show Cond.methodLink RL 138 yX9_grantObstacle ∈ wsG from inT6 98 rfl rfl), (show Cond.instanceMethod yX9_grantObstacle ∈ wsG from inT6 99 rfl rfl), (show Cond.selects RX9 yX9_grantObstacle yX9_grantObstacle ∈ wsG from inT6 100 rfl rfl), (show Cond.initialized RX9 ∈ wsG from inT1 1 rfl rfl), (show noMH yX9_grantObstacle 1 from ⟨by decide +kernel, by decide +kernel, by decide +kernel⟩)⟩
theorem cs_L_141 (d : Nat) : CsV RL 141 (mX9_cheapestWish d) cX9_cheapestWish 1 := ⟨(show Cond.code yX9_cheapestWish cX9_cheapestWish 3 (some .int) ∈ wsG from inT6 109 rfl rfl), (show Cond.methodLink RL 141 yX9_cheapestWish ∈ wsG from inT6 106 rfl rfl), (show Cond.instanceMethod yX9_cheapestWish ∈ wsG from inT6 107 rfl rfl), (show Cond.selects RX9 yX9_cheapestWish yX9_cheapestWish ∈ wsG from inT6 108 rfl rfl), (show Cond.initialized RX9 ∈ wsG from inT1 1 rfl rfl), (show noMH yX9_cheapestWish 1 from ⟨by decide +kernel, by decide +kernel, by decide +kernel⟩)⟩
theorem cs_L_144 (d : Nat) : CsV RL 144 (mX9_bestGrant d) cX9_bestGrant 1 := ⟨(show Cond.code yX9_bestGrant cX9_bestGrant 2 (some .int) ∈ wsG from inT6 117 rfl rfl), (show Cond.methodLink RL 144 yX9_bestGrant ∈ wsG from inT6 114 rfl rfl), (show Cond.instanceMethod yX9_bestGrant ∈ wsG from inT6 115 rfl rfl), (show Cond.selects RX9 yX9_bestGrant yX9_bestGrant ∈ wsG from inT6 116 rfl rfl), (show Cond.initialized RX9 ∈ wsG from inT1 1 rfl rfl), (show noMH yX9_bestGrant 1 from ⟨by decide +kernel, by decide +kernel, by decide +kernel⟩)⟩
theorem cs_L_147 (d : Nat) : CsV RL 147 (mX9_bestOffer d) cX9_bestOffer 1 := ⟨(show Cond.code yX9_bestOffer cX9_bestOffer 2 (some .int) ∈ wsG from inT6 125 rfl rfl), (show Cond.methodLink RL 147 yX9_bestOffer ∈ wsG from inT6 122 rfl rfl), (show Cond.instanceMethod yX9_bestOffer ∈ wsG from inT6 123 rfl rfl), (show Cond.selects RX9 yX9_bestOffer yX9_bestOffer ∈ wsG from inT6 124 rfl rfl), (show Cond.initialized RX9 ∈ wsG from inT1 1 rfl rfl), (show noMH yX9_bestOffer 1 from ⟨by decide +kernel, by decide +kernel, by decide +kernel⟩)⟩
theorem cs_L_150 (d : Nat) : CsV RL 150 (mX9_coinsAfter d) cX9_coinsAfter 2 := ⟨(show Cond.code yX9_coinsAfter cX9_coinsAfter 3 (some .int) ∈ wsG from inT6 133 rfl rfl), (show Cond.methodLink RL 150 yX9_coinsAfter ∈ wsG from inT6 130 rfl rfl), (show Cond.instanceMethod yX9_coinsAfter ∈ wsG from inT6 131 rfl rfl), (show Cond.selects RX9 yX9_coinsAfter yX9_coinsAfter ∈ wsG from inT6 132 rfl rfl), (show Cond.initialized RX9 ∈ wsG from inT1 1 rfl rfl), (show noMH yX9_coinsAfter 2 from ⟨by decide +kernel, by decide +kernel, by decide +kernel⟩)⟩
theorem cs_L_153 (d : Nat) : CsV RL 153 (mX9_valueAfter d) cX9_valueAfter 2 := ⟨(show Cond.code yX9_valueAfter cX9_valueAfter 3 (some .int) ∈ wsG from inT6 145 rfl rfl), (show Cond.methodLink RL 153 yX9_valueAfter ∈ wsG from inT6 142 rfl rfl), (show Cond.instanceMethod yX9_valueAfter ∈ wsG from inT6 143 rfl rfl), (show Cond.selects RX9 yX9_valueAfter yX9_valueAfter ∈ wsG from inT6 144 rfl rfl), (show Cond.initialized RX9 ∈ wsG from inT1 1 rfl rfl), (show noMH yX9_valueAfter 2 from ⟨by decide +kernel, by decide +kernel, by decide +kernel⟩)⟩
theorem cs_L_156 (d : Nat) : CsV RL 156 (mX9_daysUntilFaded d) cX9_daysUntilFaded 1 := ⟨(show Cond.code yX9_daysUntilFaded cX9_daysUntilFaded 3 (some .int) ∈ wsG from inT6 152 rfl rfl), (show Cond.methodLink RL 156 yX9_daysUntilFaded ∈ wsG from inT6 149 rfl rfl), (show Cond.instanceMethod yX9_daysUntilFaded ∈ wsG from inT6 150 rfl rfl), (show Cond.selects RX9 yX9_daysUntilFaded yX9_daysUntilFaded ∈ wsG from inT6 151 rfl rfl), (show Cond.initialized RX9 ∈ wsG from inT1 1 rfl rfl), (show noMH yX9_daysUntilFaded 1 from ⟨by decide +kernel, by decide +kernel, by decide +kernel⟩)⟩
theorem cs_L_159 (d : Nat) : CsV RL 159 (mX9_writeStall d) cX9_writeStall 1 := ⟨(show Cond.code yX9_writeStall cX9_writeStall 3 (some .int) ∈ wsG from inT6 159 rfl rfl), (show Cond.methodLink RL 159 yX9_writeStall ∈ wsG from inT6 156 rfl rfl), (show Cond.instanceMethod yX9_writeStall ∈ wsG from inT6 157 rfl rfl), (show Cond.selects RX9 yX9_writeStall yX9_writeStall ∈ wsG from inT6 158 rfl rfl), (show Cond.initialized RX9 ∈ wsG from inT1 1 rfl rfl), (show noMH yX9_writeStall 1 from ⟨by decide +kernel, by decide +kernel, by decide +kernel⟩)⟩
theorem cs_L_162 (d : Nat) : CsV RL 162 (mX9_writePerson d) cX9_writePerson 1 := ⟨(show Cond.code yX9_writePerson cX9_writePerson 4 (some .int) ∈ wsG from inT7 194 rfl rfl), (show Cond.methodLink RL 162 yX9_writePerson ∈ wsG from inT7 191 rfl rfl), (show Cond.instanceMethod yX9_writePerson ∈ wsG from inT7 192 rfl rfl), (show Cond.selects RX9 yX9_writePerson yX9_writePerson ∈ wsG from inT7 193 rfl rfl), (show Cond.initialized RX9 ∈ wsG from inT1 1 rfl rfl), (show noMH yX9_writePerson 1 from ⟨by decide +kernel, by decide +kernel, by decide +kernel⟩)⟩
theorem cs_L_165 (d : Nat) : CsV RL 165 (mX9_outputByte d) cX9_outputByte 1 := ⟨(show Cond.code yX9_outputByte cX9_outputByte 2 (some .int) ∈ wsG from inT7 201 rfl rfl), (show Cond.methodLink RL 165 yX9_outputByte ∈ wsG from inT7 198 rfl rfl), (show Cond.instanceMethod yX9_outputByte ∈ wsG from inT7 199 rfl rfl), (show Cond.selects RX9 yX9_outputByte yX9_outputByte ∈ wsG from inT7 200 rfl rfl), (show Cond.initialized RX9 ∈ wsG from inT1 1 rfl rfl), (show noMH yX9_outputByte 1 from ⟨by decide +kernel, by decide +kernel, by decide +kernel⟩)⟩
theorem cs_L_168 (d : Nat) : CsV RL 168 (mX9_advance d) cX9_advance 1 := ⟨(show Cond.code yX9_advance cX9_advance 3 (some .int) ∈ wsG from inT7 219 rfl rfl), (show Cond.methodLink RL 168 yX9_advance ∈ wsG from inT7 216 rfl rfl), (show Cond.instanceMethod yX9_advance ∈ wsG from inT7 217 rfl rfl), (show Cond.selects RX9 yX9_advance yX9_advance ∈ wsG from inT7 218 rfl rfl), (show Cond.initialized RX9 ∈ wsG from inT1 1 rfl rfl), (show noMH yX9_advance 1 from ⟨by decide +kernel, by decide +kernel, by decide +kernel⟩)⟩
theorem cs_L_171 (d : Nat) : CsV RL 171 (mX9_buy d) cX9_buy 2 := ⟨(show Cond.code yX9_buy cX9_buy 3 (some .int) ∈ wsG from inT7 231 rfl rfl), (show Cond.methodLink RL 171 yX9_buy ∈ wsG from inT7 228 rfl rfl), (show Cond.instanceMethod yX9_buy ∈ wsG from inT7 229 rfl rfl), (show Cond.selects RX9 yX9_buy yX9_buy ∈ wsG from inT7 230 rfl rfl), (show Cond.initialized RX9 ∈ wsG from inT1 1 rfl rfl), (show noMH yX9_buy 2 from ⟨by decide +kernel, by decide +kernel, by decide +kernel⟩)⟩
theorem cs_L_174 (d : Nat) : CsV RL 174 (mX9_sell d) cX9_sell 2 := ⟨(show Cond.code yX9_sell cX9_sell 3 (some .int) ∈ wsG from inT8 3 rfl rfl), (show Cond.methodLink RL 174 yX9_sell ∈ wsG from inT8 0 rfl rfl), (show Cond.instanceMethod yX9_sell ∈ wsG from inT8 1 rfl rfl), (show Cond.selects RX9 yX9_sell yX9_sell ∈ wsG from inT8 2 rfl rfl), (show Cond.initialized RX9 ∈ wsG from inT1 1 rfl rfl), (show noMH yX9_sell 2 from ⟨by decide +kernel, by decide +kernel, by decide +kernel⟩)⟩
theorem cs_L_177 (d : Nat) : CsV RL 177 (mX9_returnWish d) cX9_returnWish 1 := ⟨(show Cond.code yX9_returnWish cX9_returnWish 2 (some .int) ∈ wsG from inT8 11 rfl rfl), (show Cond.methodLink RL 177 yX9_returnWish ∈ wsG from inT8 8 rfl rfl), (show Cond.instanceMethod yX9_returnWish ∈ wsG from inT8 9 rfl rfl), (show Cond.selects RX9 yX9_returnWish yX9_returnWish ∈ wsG from inT8 10 rfl rfl), (show Cond.initialized RX9 ∈ wsG from inT1 1 rfl rfl), (show noMH yX9_returnWish 1 from ⟨by decide +kernel, by decide +kernel, by decide +kernel⟩)⟩
theorem cs_L_180 (d : Nat) : CsV RL 180 (mX9_grant d) cX9_grant 1 := ⟨(show Cond.code yX9_grant cX9_grant 2 (some .int) ∈ wsG from inT8 19 rfl rfl), (show Cond.methodLink RL 180 yX9_grant ∈ wsG from inT8 16 rfl rfl), (show Cond.instanceMethod yX9_grant ∈ wsG from inT8 17 rfl rfl), (show Cond.selects RX9 yX9_grant yX9_grant ∈ wsG from inT8 18 rfl rfl), (show Cond.initialized RX9 ∈ wsG from inT1 1 rfl rfl), (show noMH yX9_grant 1 from ⟨by decide +kernel, by decide +kernel, by decide +kernel⟩)⟩
theorem cs_L_183 (d : Nat) : CsV RL 183 (mX9_setLimit d) cX9_setLimit 2 := ⟨(show Cond.code yX9_setLimit cX9_setLimit 5 (some .int) ∈ wsG from inT8 27 rfl rfl), (show Cond.methodLink RL 183 yX9_setLimit ∈ wsG from inT8 24 rfl rfl), (show Cond.instanceMethod yX9_setLimit ∈ wsG from inT8 25 rfl rfl), (show Cond.selects RX9 yX9_setLimit yX9_setLimit ∈ wsG from inT8 26 rfl rfl), (show Cond.initialized RX9 ∈ wsG from inT1 1 rfl rfl), (show noMH yX9_setLimit 2 from ⟨by decide +kernel, by decide +kernel, by decide +kernel⟩)⟩
theorem cs_L_186 (d : Nat) : CsV RL 186 (mX9_setMargin d) cX9_setMargin 2 := ⟨(show Cond.code yX9_setMargin cX9_setMargin 5 (some .int) ∈ wsG from inT8 34 rfl rfl), (show Cond.methodLink RL 186 yX9_setMargin ∈ wsG from inT8 31 rfl rfl), (show Cond.instanceMethod yX9_setMargin ∈ wsG from inT8 32 rfl rfl), (show Cond.selects RX9 yX9_setMargin yX9_setMargin ∈ wsG from inT8 33 rfl rfl), (show Cond.initialized RX9 ∈ wsG from inT1 1 rfl rfl), (show noMH yX9_setMargin 2 from ⟨by decide +kernel, by decide +kernel, by decide +kernel⟩)⟩
theorem cs_L_189 (d : Nat) : CsV RL 189 (mX9_undo d) cX9_undo 0 := ⟨(show Cond.code yX9_undo cX9_undo 1 (some .int) ∈ wsG from inT8 41 rfl rfl), (show Cond.methodLink RL 189 yX9_undo ∈ wsG from inT8 38 rfl rfl), (show Cond.instanceMethod yX9_undo ∈ wsG from inT8 39 rfl rfl), (show Cond.selects RX9 yX9_undo yX9_undo ∈ wsG from inT8 40 rfl rfl), (show Cond.initialized RX9 ∈ wsG from inT1 1 rfl rfl), (show noMH yX9_undo 0 from ⟨by decide +kernel, by decide +kernel, by decide +kernel⟩)⟩
theorem cs_L_192 (d : Nat) : CsV RL 192 (mX9_saveState d) cX9_saveState 1 := ⟨(show Cond.code yX9_saveState cX9_saveState 3 (some .int) ∈ wsG from inT8 49 rfl rfl), (show Cond.methodLink RL 192 yX9_saveState ∈ wsG from inT8 46 rfl rfl), (show Cond.instanceMethod yX9_saveState ∈ wsG from inT8 47 rfl rfl), (show Cond.selects RX9 yX9_saveState yX9_saveState ∈ wsG from inT8 48 rfl rfl), (show Cond.initialized RX9 ∈ wsG from inT1 1 rfl rfl), (show noMH yX9_saveState 1 from ⟨by decide +kernel, by decide +kernel, by decide +kernel⟩)⟩
theorem cs_L_195 (d : Nat) : CsV RL 195 (mX9_restoreState d) cX9_restoreState 1 := ⟨(show Cond.code yX9_restoreState cX9_restoreState 2 (some .int) ∈ wsG from inT8 56 rfl rfl), (show Cond.methodLink RL 195 yX9_restoreState ∈ wsG from inT8 53 rfl rfl), (show Cond.instanceMethod yX9_restoreState ∈ wsG from inT8 54 rfl rfl), (show Cond.selects RX9 yX9_restoreState yX9_restoreState ∈ wsG from inT8 55 rfl rfl), (show Cond.initialized RX9 ∈ wsG from inT1 1 rfl rfl), (show noMH yX9_restoreState 1 from ⟨by decide +kernel, by decide +kernel, by decide +kernel⟩)⟩
def KJ (K : Kt) (o : Nat) (r : Except String Int32) : Kt := match r with
  | .ok v => kSetJ K (u2 (kJ K) o 0 v.toInt64)
  | .error _ => K
def KD (K : Kt) (o : Nat) (r : Except String UInt64) : Kt := match r with
  | .ok v => kSetD K (u2 (kD K) o 0 v)
  | .error _ => K
def KF (K : Kt) (o : Nat) (r : Except String UInt32) : Kt := match r with
  | .ok v => kSetD K (u2 (kD K) o 0 (FP.f2d v))
  | .error _ => K
/-- which of those that a method names -/
def Ec {α : Type} (es : List String) (r : Except String α) (t : Int32) : Prop := match r with
  | .ok _ => t = 0
  | .error E => ∃ i, es[i]? = some E ∧ i < 3 ∧ t = nI (i + 1)
theorem Oc.ec {es : List String} {r : Except String Int32} {t b : Int32} (h : Oc es r t b) : Ec es r t := by
  cases r with
  | ok v => exact h.1
  | error E =>
    obtain ⟨i, h1, h2, h3, -⟩ := h
    exact ⟨i, h1, h2, h3⟩
theorem wL_parseSetup (d : Nat) {K K1 : Kt} {I I1 : Mem} {x0 o a6 b6 : Nat} {x1 : Int32} {r : Except String Int32} {t : Int32} (H0 : LO K 7 x0) (Ho : LA K1 103 1 o) (hc : Ct (mX9_parseSetup d) cX9_parseSetup a6 b6 [.ref x0, .int x1] I K (Ro (rI r) I1 K1)) (hE : Ec ["java/lang/IndexOutOfBoundsException", "java/lang/IllegalArgumentException"] r t) : Ct (mL_parseSetup (d + 1)) cL_parseSetup a6 b6 [.ref x0, .int x1, .ref o] I K (Ro (.inl (some (.int t))) I1 (KJ K1 o r)) := by
  refine Ct.ofH rfl pn_L (catR (catI (catR cat0))) (Nat.le_of_ble_eq_true rfl) (show X _ _ _ _ _ _ 0 [.ref x0, .int x1, .ref o, .retAddr 0] [] _ from ?_)
  refine x_aloadn dL_parseSetup_0 rfl ?_
  refine x_iconst 0 dL_parseSetup_1 rfl ?_
  refine x_aloadn dL_parseSetup_2 rfl ?_
  refine x_iloadn dL_parseSetup_3 rfl ?_
  cases r with
  | error E =>
    obtain ⟨i, h1, h2, rfl⟩ := hE
    refine X.less (bc' := a6 + 0) (bs' := b6 + 0) ?_ (Nat.le_refl _) (Nat.le_refl _)
    refine y_callVe (bc := 0) (bs := 0) (cs_L_7 _) (ci := 7) rfl H0.1 H0.2 (As := [.int x1]) (rest := [.int 0, .ref o]) rfl rfl (Nat.le_of_ble_eq_true rfl) (dep (show d + 1 ≤ d + 1 from Nat.le_refl _) (Nat.le_of_ble_eq_true rfl)) dL_parseSetup_4 hc ?_
    rcases (show i = 0 ∨ i = 1 ∨ i = 2 by omega) with rfl | rfl | rfl
    · cases h1
      refine XT.catch [] _ [_] rfl (fun z hz => by cases hz) rfl (by decide) (show Cond.classLink RL 13 "java/lang/IndexOutOfBoundsException" ∈ wsG from inT2 187 rfl rfl) (List.mem_filter.mpr ⟨castIOB, rfl⟩) rfl (Or.inr ⟨3, dL_parseSetup_12, rfl, rfl⟩) (Nat.le_of_ble_eq_true rfl) rfl ?_
      refine x_iconst 1 dL_parseSetup_13 rfl ?_
      exact x_iret rfl dL_parseSetup_14 ⟨rfl, rfl, rfl⟩
    · cases h1
      refine XT.catch [_] _ [] rfl (fun z hz => by obtain rfl := List.mem_singleton.mp hz; exact Or.inr ⟨by decide, "java/lang/IndexOutOfBoundsException", (show Cond.classLink RL 13 "java/lang/IndexOutOfBoundsException" ∈ wsG from inT2 187 rfl rfl), by decide +kernel⟩) rfl (by decide) (show Cond.classLink RL 15 "java/lang/IllegalArgumentException" ∈ wsG from inT2 188 rfl rfl) (List.mem_filter.mpr ⟨castIAE, rfl⟩) rfl (Or.inr ⟨3, dL_parseSetup_15, rfl, rfl⟩) (Nat.le_of_ble_eq_true rfl) rfl ?_
      refine x_iconst 2 dL_parseSetup_16 rfl ?_
      exact x_iret rfl dL_parseSetup_17 ⟨rfl, rfl, rfl⟩
    · cases h1
  | ok v =>
    obtain rfl : t = 0 := hE
    refine X.less (bc' := a6 + 0) (bs' := b6 + 0) ?_ (Nat.le_refl _) (Nat.le_refl _)
    refine y_callV1 (bc := 0) (bs := 0) (cs_L_7 _) (ci := 7) rfl H0.1 H0.2 (As := [.int x1]) (rest := [.int 0, .ref o]) rfl rfl (Nat.le_of_ble_eq_true rfl) (dep (show d + 1 ≤ d + 1 from Nat.le_refl _) (Nat.le_of_ble_eq_true rfl)) dL_parseSetup_4 hc ?_
    refine x_i2l dL_parseSetup_7 ?_
    refine x_last Ho.1 Ho.2 (j := 0) rfl ⟨by decide, by decide⟩ dL_parseSetup_8 ?_
    refine x_goto 18 dL_parseSetup_9 rfl ?_
    refine x_iconst 0 dL_parseSetup_18 rfl ?_
    exact x_iret rfl dL_parseSetup_19 ⟨rfl, rfl, rfl⟩
theorem wL_day (d : Nat) {K K1 : Kt} {I I1 : Mem} {x0 o a6 b6 : Nat} {r : Except String Int32} {t : Int32} (H0 : LO K 7 x0) (Ho : LA K1 103 1 o) (hc : Ct (mX9_day d) cX9_day a6 b6 [.ref x0] I K (Ro (rI r) I1 K1)) (hE : Ec ["java/lang/IllegalStateException"] r t) : Ct (mL_day (d + 1)) cL_day a6 b6 [.ref x0, .ref o] I K (Ro (.inl (some (.int t))) I1 (KJ K1 o r)) := by
  refine Ct.ofH rfl pn_L (catR (catR cat0)) (Nat.le_of_ble_eq_true rfl) (show X _ _ _ _ _ _ 0 [.ref x0, .ref o, .retAddr 0] [] _ from ?_)
  refine x_aloadn dL_day_0 rfl ?_
  refine x_iconst 0 dL_day_1 rfl ?_
  refine x_aloadn dL_day_2 rfl ?_
  cases r with
  | error E =>
    obtain ⟨i, h1, h2, rfl⟩ := hE
    refine X.less (bc' := a6 + 0) (bs' := b6 + 0) ?_ (Nat.le_refl _) (Nat.le_refl _)
    refine y_callVe (bc := 0) (bs := 0) (cs_L_17 _) (ci := 7) rfl H0.1 H0.2 (As := []) (rest := [.int 0, .ref o]) rfl rfl (Nat.le_of_ble_eq_true rfl) (dep (show d + 1 ≤ d + 1 from Nat.le_refl _) (Nat.le_of_ble_eq_true rfl)) dL_day_3 hc ?_
    rcases (show i = 0 ∨ i = 1 ∨ i = 2 by omega) with rfl | rfl | rfl
    · cases h1
      refine XT.catch [] _ [] rfl (fun z hz => by cases hz) rfl (by decide) (show Cond.classLink RL 21 "java/lang/IllegalStateException" ∈ wsG from inT4 223 rfl rfl) (List.mem_filter.mpr ⟨castISE, rfl⟩) rfl (Or.inr ⟨2, dL_day_11, rfl, rfl⟩) (Nat.le_of_ble_eq_true rfl) rfl ?_
      refine x_iconst 1 dL_day_12 rfl ?_
      exact x_iret rfl dL_day_13 ⟨rfl, rfl, rfl⟩
    · cases h1
    · cases h1
  | ok v =>
    obtain rfl : t = 0 := hE
    refine X.less (bc' := a6 + 0) (bs' := b6 + 0) ?_ (Nat.le_refl _) (Nat.le_refl _)
    refine y_callV1 (bc := 0) (bs := 0) (cs_L_17 _) (ci := 7) rfl H0.1 H0.2 (As := []) (rest := [.int 0, .ref o]) rfl rfl (Nat.le_of_ble_eq_true rfl) (dep (show d + 1 ≤ d + 1 from Nat.le_refl _) (Nat.le_of_ble_eq_true rfl)) dL_day_3 hc ?_
    refine x_i2l dL_day_6 ?_
    refine x_last Ho.1 Ho.2 (j := 0) rfl ⟨by decide, by decide⟩ dL_day_7 ?_
    refine x_goto 14 dL_day_8 rfl ?_
    refine x_iconst 0 dL_day_14 rfl ?_
    exact x_iret rfl dL_day_15 ⟨rfl, rfl, rfl⟩
theorem wL_yearLength (d : Nat) {K K1 : Kt} {I I1 : Mem} {x0 o a6 b6 : Nat} {r : Except String Int32} {t : Int32} (H0 : LO K 7 x0) (Ho : LA K1 103 1 o) (hc : Ct (mX9_yearLength d) cX9_yearLength a6 b6 [.ref x0] I K (Ro (rI r) I1 K1)) (hE : Ec ["java/lang/IllegalStateException"] r t) : Ct (mL_yearLength (d + 1)) cL_yearLength a6 b6 [.ref x0, .ref o] I K (Ro (.inl (some (.int t))) I1 (KJ K1 o r)) := by
  refine Ct.ofH rfl pn_L (catR (catR cat0)) (Nat.le_of_ble_eq_true rfl) (show X _ _ _ _ _ _ 0 [.ref x0, .ref o, .retAddr 0] [] _ from ?_)
  refine x_aloadn dL_yearLength_0 rfl ?_
  refine x_iconst 0 dL_yearLength_1 rfl ?_
  refine x_aloadn dL_yearLength_2 rfl ?_
  cases r with
  | error E =>
    obtain ⟨i, h1, h2, rfl⟩ := hE
    refine X.less (bc' := a6 + 0) (bs' := b6 + 0) ?_ (Nat.le_refl _) (Nat.le_refl _)
    refine y_callVe (bc := 0) (bs := 0) (cs_L_23 _) (ci := 7) rfl H0.1 H0.2 (As := []) (rest := [.int 0, .ref o]) rfl rfl (Nat.le_of_ble_eq_true rfl) (dep (show d + 1 ≤ d + 1 from Nat.le_refl _) (Nat.le_of_ble_eq_true rfl)) dL_yearLength_3 hc ?_
    rcases (show i = 0 ∨ i = 1 ∨ i = 2 by omega) with rfl | rfl | rfl
    · cases h1
      refine XT.catch [] _ [] rfl (fun z hz => by cases hz) rfl (by decide) (show Cond.classLink RL 21 "java/lang/IllegalStateException" ∈ wsG from inT4 223 rfl rfl) (List.mem_filter.mpr ⟨castISE, rfl⟩) rfl (Or.inr ⟨2, dL_yearLength_11, rfl, rfl⟩) (Nat.le_of_ble_eq_true rfl) rfl ?_
      refine x_iconst 1 dL_yearLength_12 rfl ?_
      exact x_iret rfl dL_yearLength_13 ⟨rfl, rfl, rfl⟩
    · cases h1
    · cases h1
  | ok v =>
    obtain rfl : t = 0 := hE
    refine X.less (bc' := a6 + 0) (bs' := b6 + 0) ?_ (Nat.le_refl _) (Nat.le_refl _)
    refine y_callV1 (bc := 0) (bs := 0) (cs_L_23 _) (ci := 7) rfl H0.1 H0.2 (As := []) (rest := [.int 0, .ref o]) rfl rfl (Nat.le_of_ble_eq_true rfl) (dep (show d + 1 ≤ d + 1 from Nat.le_refl _) (Nat.le_of_ble_eq_true rfl)) dL_yearLength_3 hc ?_
    refine x_i2l dL_yearLength_6 ?_
    refine x_last Ho.1 Ho.2 (j := 0) rfl ⟨by decide, by decide⟩ dL_yearLength_7 ?_
    refine x_goto 14 dL_yearLength_8 rfl ?_
    refine x_iconst 0 dL_yearLength_14 rfl ?_
    exact x_iret rfl dL_yearLength_15 ⟨rfl, rfl, rfl⟩
theorem wL_dayOfYear (d : Nat) {K K1 : Kt} {I I1 : Mem} {x0 o a6 b6 : Nat} {r : Except String Int32} {t : Int32} (H0 : LO K 7 x0) (Ho : LA K1 103 1 o) (hc : Ct (mX9_dayOfYear d) cX9_dayOfYear a6 b6 [.ref x0] I K (Ro (rI r) I1 K1)) (hE : Ec ["java/lang/IllegalStateException"] r t) : Ct (mL_dayOfYear (d + 1)) cL_dayOfYear a6 b6 [.ref x0, .ref o] I K (Ro (.inl (some (.int t))) I1 (KJ K1 o r)) := by
  refine Ct.ofH rfl pn_L (catR (catR cat0)) (Nat.le_of_ble_eq_true rfl) (show X _ _ _ _ _ _ 0 [.ref x0, .ref o, .retAddr 0] [] _ from ?_)
  refine x_aloadn dL_dayOfYear_0 rfl ?_
  refine x_iconst 0 dL_dayOfYear_1 rfl ?_
  refine x_aloadn dL_dayOfYear_2 rfl ?_
  cases r with
  | error E =>
    obtain ⟨i, h1, h2, rfl⟩ := hE
    refine X.less (bc' := a6 + 0) (bs' := b6 + 0) ?_ (Nat.le_refl _) (Nat.le_refl _)
    refine y_callVe (bc := 0) (bs := 0) (cs_L_26 _) (ci := 7) rfl H0.1 H0.2 (As := []) (rest := [.int 0, .ref o]) rfl rfl (Nat.le_of_ble_eq_true rfl) (dep (show d + 1 ≤ d + 1 from Nat.le_refl _) (Nat.le_of_ble_eq_true rfl)) dL_dayOfYear_3 hc ?_
    rcases (show i = 0 ∨ i = 1 ∨ i = 2 by omega) with rfl | rfl | rfl
    · cases h1
      refine XT.catch [] _ [] rfl (fun z hz => by cases hz) rfl (by decide) (show Cond.classLink RL 21 "java/lang/IllegalStateException" ∈ wsG from inT4 223 rfl rfl) (List.mem_filter.mpr ⟨castISE, rfl⟩) rfl (Or.inr ⟨2, dL_dayOfYear_11, rfl, rfl⟩) (Nat.le_of_ble_eq_true rfl) rfl ?_
      refine x_iconst 1 dL_dayOfYear_12 rfl ?_
      exact x_iret rfl dL_dayOfYear_13 ⟨rfl, rfl, rfl⟩
    · cases h1
    · cases h1
  | ok v =>
    obtain rfl : t = 0 := hE
    refine X.less (bc' := a6 + 0) (bs' := b6 + 0) ?_ (Nat.le_refl _) (Nat.le_refl _)
    refine y_callV1 (bc := 0) (bs := 0) (cs_L_26 _) (ci := 7) rfl H0.1 H0.2 (As := []) (rest := [.int 0, .ref o]) rfl rfl (Nat.le_of_ble_eq_true rfl) (dep (show d + 1 ≤ d + 1 from Nat.le_refl _) (Nat.le_of_ble_eq_true rfl)) dL_dayOfYear_3 hc ?_
    refine x_i2l dL_dayOfYear_6 ?_
    refine x_last Ho.1 Ho.2 (j := 0) rfl ⟨by decide, by decide⟩ dL_dayOfYear_7 ?_
    refine x_goto 14 dL_dayOfYear_8 rfl ?_
    refine x_iconst 0 dL_dayOfYear_14 rfl ?_
    exact x_iret rfl dL_dayOfYear_15 ⟨rfl, rfl, rfl⟩
theorem wL_grantedCount (d : Nat) {K K1 : Kt} {I I1 : Mem} {x0 o a6 b6 : Nat} {r : Except String Int32} {t : Int32} (H0 : LO K 7 x0) (Ho : LA K1 103 1 o) (hc : Ct (mX9_grantedCount d) cX9_grantedCount a6 b6 [.ref x0] I K (Ro (rI r) I1 K1)) (hE : Ec ["java/lang/IllegalStateException"] r t) : Ct (mL_grantedCount (d + 1)) cL_grantedCount a6 b6 [.ref x0, .ref o] I K (Ro (.inl (some (.int t))) I1 (KJ K1 o r)) := by
  refine Ct.ofH rfl pn_L (catR (catR cat0)) (Nat.le_of_ble_eq_true rfl) (show X _ _ _ _ _ _ 0 [.ref x0, .ref o, .retAddr 0] [] _ from ?_)
  refine x_aloadn dL_grantedCount_0 rfl ?_
  refine x_iconst 0 dL_grantedCount_1 rfl ?_
  refine x_aloadn dL_grantedCount_2 rfl ?_
  cases r with
  | error E =>
    obtain ⟨i, h1, h2, rfl⟩ := hE
    refine X.less (bc' := a6 + 0) (bs' := b6 + 0) ?_ (Nat.le_refl _) (Nat.le_refl _)
    refine y_callVe (bc := 0) (bs := 0) (cs_L_29 _) (ci := 7) rfl H0.1 H0.2 (As := []) (rest := [.int 0, .ref o]) rfl rfl (Nat.le_of_ble_eq_true rfl) (dep (show d + 1 ≤ d + 1 from Nat.le_refl _) (Nat.le_of_ble_eq_true rfl)) dL_grantedCount_3 hc ?_
    rcases (show i = 0 ∨ i = 1 ∨ i = 2 by omega) with rfl | rfl | rfl
    · cases h1
      refine XT.catch [] _ [] rfl (fun z hz => by cases hz) rfl (by decide) (show Cond.classLink RL 21 "java/lang/IllegalStateException" ∈ wsG from inT4 223 rfl rfl) (List.mem_filter.mpr ⟨castISE, rfl⟩) rfl (Or.inr ⟨2, dL_grantedCount_11, rfl, rfl⟩) (Nat.le_of_ble_eq_true rfl) rfl ?_
      refine x_iconst 1 dL_grantedCount_12 rfl ?_
      exact x_iret rfl dL_grantedCount_13 ⟨rfl, rfl, rfl⟩
    · cases h1
    · cases h1
  | ok v =>
    obtain rfl : t = 0 := hE
    refine X.less (bc' := a6 + 0) (bs' := b6 + 0) ?_ (Nat.le_refl _) (Nat.le_refl _)
    refine y_callV1 (bc := 0) (bs := 0) (cs_L_29 _) (ci := 7) rfl H0.1 H0.2 (As := []) (rest := [.int 0, .ref o]) rfl rfl (Nat.le_of_ble_eq_true rfl) (dep (show d + 1 ≤ d + 1 from Nat.le_refl _) (Nat.le_of_ble_eq_true rfl)) dL_grantedCount_3 hc ?_
    refine x_i2l dL_grantedCount_6 ?_
    refine x_last Ho.1 Ho.2 (j := 0) rfl ⟨by decide, by decide⟩ dL_grantedCount_7 ?_
    refine x_goto 14 dL_grantedCount_8 rfl ?_
    refine x_iconst 0 dL_grantedCount_14 rfl ?_
    exact x_iret rfl dL_grantedCount_15 ⟨rfl, rfl, rfl⟩
theorem wL_fadedCount (d : Nat) {K K1 : Kt} {I I1 : Mem} {x0 o a6 b6 : Nat} {r : Except String Int32} {t : Int32} (H0 : LO K 7 x0) (Ho : LA K1 103 1 o) (hc : Ct (mX9_fadedCount d) cX9_fadedCount a6 b6 [.ref x0] I K (Ro (rI r) I1 K1)) (hE : Ec ["java/lang/IllegalStateException"] r t) : Ct (mL_fadedCount (d + 1)) cL_fadedCount a6 b6 [.ref x0, .ref o] I K (Ro (.inl (some (.int t))) I1 (KJ K1 o r)) := by
  refine Ct.ofH rfl pn_L (catR (catR cat0)) (Nat.le_of_ble_eq_true rfl) (show X _ _ _ _ _ _ 0 [.ref x0, .ref o, .retAddr 0] [] _ from ?_)
  refine x_aloadn dL_fadedCount_0 rfl ?_
  refine x_iconst 0 dL_fadedCount_1 rfl ?_
  refine x_aloadn dL_fadedCount_2 rfl ?_
  cases r with
  | error E =>
    obtain ⟨i, h1, h2, rfl⟩ := hE
    refine X.less (bc' := a6 + 0) (bs' := b6 + 0) ?_ (Nat.le_refl _) (Nat.le_refl _)
    refine y_callVe (bc := 0) (bs := 0) (cs_L_32 _) (ci := 7) rfl H0.1 H0.2 (As := []) (rest := [.int 0, .ref o]) rfl rfl (Nat.le_of_ble_eq_true rfl) (dep (show d + 1 ≤ d + 1 from Nat.le_refl _) (Nat.le_of_ble_eq_true rfl)) dL_fadedCount_3 hc ?_
    rcases (show i = 0 ∨ i = 1 ∨ i = 2 by omega) with rfl | rfl | rfl
    · cases h1
      refine XT.catch [] _ [] rfl (fun z hz => by cases hz) rfl (by decide) (show Cond.classLink RL 21 "java/lang/IllegalStateException" ∈ wsG from inT4 223 rfl rfl) (List.mem_filter.mpr ⟨castISE, rfl⟩) rfl (Or.inr ⟨2, dL_fadedCount_11, rfl, rfl⟩) (Nat.le_of_ble_eq_true rfl) rfl ?_
      refine x_iconst 1 dL_fadedCount_12 rfl ?_
      exact x_iret rfl dL_fadedCount_13 ⟨rfl, rfl, rfl⟩
    · cases h1
    · cases h1
  | ok v =>
    obtain rfl : t = 0 := hE
    refine X.less (bc' := a6 + 0) (bs' := b6 + 0) ?_ (Nat.le_refl _) (Nat.le_refl _)
    refine y_callV1 (bc := 0) (bs := 0) (cs_L_32 _) (ci := 7) rfl H0.1 H0.2 (As := []) (rest := [.int 0, .ref o]) rfl rfl (Nat.le_of_ble_eq_true rfl) (dep (show d + 1 ≤ d + 1 from Nat.le_refl _) (Nat.le_of_ble_eq_true rfl)) dL_fadedCount_3 hc ?_
    refine x_i2l dL_fadedCount_6 ?_
    refine x_last Ho.1 Ho.2 (j := 0) rfl ⟨by decide, by decide⟩ dL_fadedCount_7 ?_
    refine x_goto 14 dL_fadedCount_8 rfl ?_
    refine x_iconst 0 dL_fadedCount_14 rfl ?_
    exact x_iret rfl dL_fadedCount_15 ⟨rfl, rfl, rfl⟩
theorem wL_imbalance (d : Nat) {K K1 : Kt} {I I1 : Mem} {x0 o a6 b6 : Nat} {r : Except String Int32} {t : Int32} (H0 : LO K 7 x0) (Ho : LA K1 103 1 o) (hc : Ct (mX9_imbalance d) cX9_imbalance a6 b6 [.ref x0] I K (Ro (rI r) I1 K1)) (hE : Ec ["java/lang/IllegalStateException"] r t) : Ct (mL_imbalance (d + 1)) cL_imbalance a6 b6 [.ref x0, .ref o] I K (Ro (.inl (some (.int t))) I1 (KJ K1 o r)) := by
  refine Ct.ofH rfl pn_L (catR (catR cat0)) (Nat.le_of_ble_eq_true rfl) (show X _ _ _ _ _ _ 0 [.ref x0, .ref o, .retAddr 0] [] _ from ?_)
  refine x_aloadn dL_imbalance_0 rfl ?_
  refine x_iconst 0 dL_imbalance_1 rfl ?_
  refine x_aloadn dL_imbalance_2 rfl ?_
  cases r with
  | error E =>
    obtain ⟨i, h1, h2, rfl⟩ := hE
    refine X.less (bc' := a6 + 0) (bs' := b6 + 0) ?_ (Nat.le_refl _) (Nat.le_refl _)
    refine y_callVe (bc := 0) (bs := 0) (cs_L_35 _) (ci := 7) rfl H0.1 H0.2 (As := []) (rest := [.int 0, .ref o]) rfl rfl (Nat.le_of_ble_eq_true rfl) (dep (show d + 1 ≤ d + 1 from Nat.le_refl _) (Nat.le_of_ble_eq_true rfl)) dL_imbalance_3 hc ?_
    rcases (show i = 0 ∨ i = 1 ∨ i = 2 by omega) with rfl | rfl | rfl
    · cases h1
      refine XT.catch [] _ [] rfl (fun z hz => by cases hz) rfl (by decide) (show Cond.classLink RL 21 "java/lang/IllegalStateException" ∈ wsG from inT4 223 rfl rfl) (List.mem_filter.mpr ⟨castISE, rfl⟩) rfl (Or.inr ⟨2, dL_imbalance_11, rfl, rfl⟩) (Nat.le_of_ble_eq_true rfl) rfl ?_
      refine x_iconst 1 dL_imbalance_12 rfl ?_
      exact x_iret rfl dL_imbalance_13 ⟨rfl, rfl, rfl⟩
    · cases h1
    · cases h1
  | ok v =>
    obtain rfl : t = 0 := hE
    refine X.less (bc' := a6 + 0) (bs' := b6 + 0) ?_ (Nat.le_refl _) (Nat.le_refl _)
    refine y_callV1 (bc := 0) (bs := 0) (cs_L_35 _) (ci := 7) rfl H0.1 H0.2 (As := []) (rest := [.int 0, .ref o]) rfl rfl (Nat.le_of_ble_eq_true rfl) (dep (show d + 1 ≤ d + 1 from Nat.le_refl _) (Nat.le_of_ble_eq_true rfl)) dL_imbalance_3 hc ?_
    refine x_i2l dL_imbalance_6 ?_
    refine x_last Ho.1 Ho.2 (j := 0) rfl ⟨by decide, by decide⟩ dL_imbalance_7 ?_
    refine x_goto 14 dL_imbalance_8 rfl ?_
    refine x_iconst 0 dL_imbalance_14 rfl ?_
    exact x_iret rfl dL_imbalance_15 ⟨rfl, rfl, rfl⟩
theorem wL_averageWear (d : Nat) {K K1 : Kt} {I I1 : Mem} {x0 o a6 b6 : Nat} {r : Except String UInt64} {t : Int32} (H0 : LO K 7 x0) (Ho : LA K1 104 1 o) (hc : Ct (mX9_averageWear d) cX9_averageWear a6 b6 [.ref x0] I K (Ro (rD r) I1 K1)) (hE : Ec ["java/lang/IllegalStateException"] r t) : Ct (mL_averageWear (d + 1)) cL_averageWear a6 b6 [.ref x0, .ref o] I K (Ro (.inl (some (.int t))) I1 (KD K1 o r)) := by
  refine Ct.ofH rfl pn_L (catR (catR cat0)) (Nat.le_of_ble_eq_true rfl) (show X _ _ _ _ _ _ 0 [.ref x0, .ref o, .retAddr 0] [] _ from ?_)
  refine x_aloadn dL_averageWear_0 rfl ?_
  refine x_iconst 0 dL_averageWear_1 rfl ?_
  refine x_aloadn dL_averageWear_2 rfl ?_
  cases r with
  | error E =>
    obtain ⟨i, h1, h2, rfl⟩ := hE
    refine X.less (bc' := a6 + 0) (bs' := b6 + 0) ?_ (Nat.le_refl _) (Nat.le_refl _)
    refine y_callVe (bc := 0) (bs := 0) (cs_L_38 _) (ci := 7) rfl H0.1 H0.2 (As := []) (rest := [.int 0, .ref o]) rfl rfl (Nat.le_of_ble_eq_true rfl) (dep (show d + 1 ≤ d + 1 from Nat.le_refl _) (Nat.le_of_ble_eq_true rfl)) dL_averageWear_3 hc ?_
    rcases (show i = 0 ∨ i = 1 ∨ i = 2 by omega) with rfl | rfl | rfl
    · cases h1
      refine XT.catch [] _ [] rfl (fun z hz => by cases hz) rfl (by decide) (show Cond.classLink RL 21 "java/lang/IllegalStateException" ∈ wsG from inT4 223 rfl rfl) (List.mem_filter.mpr ⟨castISE, rfl⟩) rfl (Or.inr ⟨2, dL_averageWear_10, rfl, rfl⟩) (Nat.le_of_ble_eq_true rfl) rfl ?_
      refine x_iconst 1 dL_averageWear_11 rfl ?_
      exact x_iret rfl dL_averageWear_12 ⟨rfl, rfl, rfl⟩
    · cases h1
    · cases h1
  | ok v =>
    obtain rfl : t = 0 := hE
    refine X.less (bc' := a6 + 0) (bs' := b6 + 0) ?_ (Nat.le_refl _) (Nat.le_refl _)
    refine y_callV1 (bc := 0) (bs := 0) (cs_L_38 _) (ci := 7) rfl H0.1 H0.2 (As := []) (rest := [.int 0, .ref o]) rfl rfl (Nat.le_of_ble_eq_true rfl) (dep (show d + 1 ≤ d + 1 from Nat.le_refl _) (Nat.le_of_ble_eq_true rfl)) dL_averageWear_3 hc ?_
    refine x_dast Ho.1 Ho.2 (j := 0) rfl ⟨by decide, by decide⟩ dL_averageWear_6 ?_
    refine x_goto 13 dL_averageWear_7 rfl ?_
    refine x_iconst 0 dL_averageWear_13 rfl ?_
    exact x_iret rfl dL_averageWear_14 ⟨rfl, rfl, rfl⟩
theorem wL_averageStars (d : Nat) {K K1 : Kt} {I I1 : Mem} {x0 o a6 b6 : Nat} {r : Except String UInt32} {t : Int32} (H0 : LO K 7 x0) (Ho : LA K1 104 1 o) (hc : Ct (mX9_averageStars d) cX9_averageStars a6 b6 [.ref x0] I K (Ro (rF r) I1 K1)) (hE : Ec ["java/lang/IllegalStateException"] r t) (hv : ∀ v, r = .ok v → vf_n64 (FP.f2d v)) : Ct (mL_averageStars (d + 1)) cL_averageStars a6 b6 [.ref x0, .ref o] I K (Ro (.inl (some (.int t))) I1 (KF K1 o r)) := by
  refine Ct.ofH rfl pn_L (catR (catR cat0)) (Nat.le_of_ble_eq_true rfl) (show X _ _ _ _ _ _ 0 [.ref x0, .ref o, .retAddr 0] [] _ from ?_)
  refine x_aloadn dL_averageStars_0 rfl ?_
  refine x_iconst 0 dL_averageStars_1 rfl ?_
  refine x_aloadn dL_averageStars_2 rfl ?_
  cases r with
  | error E =>
    obtain ⟨i, h1, h2, rfl⟩ := hE
    refine X.less (bc' := a6 + 0) (bs' := b6 + 0) ?_ (Nat.le_refl _) (Nat.le_refl _)
    refine y_callVe (bc := 0) (bs := 0) (cs_L_42 _) (ci := 7) rfl H0.1 H0.2 (As := []) (rest := [.int 0, .ref o]) rfl rfl (Nat.le_of_ble_eq_true rfl) (dep (show d + 1 ≤ d + 1 from Nat.le_refl _) (Nat.le_of_ble_eq_true rfl)) dL_averageStars_3 hc ?_
    rcases (show i = 0 ∨ i = 1 ∨ i = 2 by omega) with rfl | rfl | rfl
    · cases h1
      refine XT.catch [] _ [] rfl (fun z hz => by cases hz) rfl (by decide) (show Cond.classLink RL 21 "java/lang/IllegalStateException" ∈ wsG from inT4 223 rfl rfl) (List.mem_filter.mpr ⟨castISE, rfl⟩) rfl (Or.inr ⟨2, dL_averageStars_11, rfl, rfl⟩) (Nat.le_of_ble_eq_true rfl) rfl ?_
      refine x_iconst 1 dL_averageStars_12 rfl ?_
      exact x_iret rfl dL_averageStars_13 ⟨rfl, rfl, rfl⟩
    · cases h1
    · cases h1
  | ok v =>
    obtain rfl : t = 0 := hE
    refine X.less (bc' := a6 + 0) (bs' := b6 + 0) ?_ (Nat.le_refl _) (Nat.le_refl _)
    refine y_callV1 (bc := 0) (bs := 0) (cs_L_42 _) (ci := 7) rfl H0.1 H0.2 (As := []) (rest := [.int 0, .ref o]) rfl rfl (Nat.le_of_ble_eq_true rfl) (dep (show d + 1 ≤ d + 1 from Nat.le_refl _) (Nat.le_of_ble_eq_true rfl)) dL_averageStars_3 hc ?_
    refine x_f2d dL_averageStars_6 (hv v rfl) ?_
    refine x_dast Ho.1 Ho.2 (j := 0) rfl ⟨by decide, by decide⟩ dL_averageStars_7 ?_
    refine x_goto 14 dL_averageStars_8 rfl ?_
    refine x_iconst 0 dL_averageStars_14 rfl ?_
    exact x_iret rfl dL_averageStars_15 ⟨rfl, rfl, rfl⟩
theorem wL_personCount (d : Nat) {K K1 : Kt} {I I1 : Mem} {x0 o a6 b6 : Nat} {r : Except String Int32} {t : Int32} (H0 : LO K 7 x0) (Ho : LA K1 103 1 o) (hc : Ct (mX9_personCount d) cX9_personCount a6 b6 [.ref x0] I K (Ro (rI r) I1 K1)) (hE : Ec ["java/lang/IllegalStateException"] r t) : Ct (mL_personCount (d + 1)) cL_personCount a6 b6 [.ref x0, .ref o] I K (Ro (.inl (some (.int t))) I1 (KJ K1 o r)) := by
  refine Ct.ofH rfl pn_L (catR (catR cat0)) (Nat.le_of_ble_eq_true rfl) (show X _ _ _ _ _ _ 0 [.ref x0, .ref o, .retAddr 0] [] _ from ?_)
  refine x_aloadn dL_personCount_0 rfl ?_
  refine x_iconst 0 dL_personCount_1 rfl ?_
  refine x_aloadn dL_personCount_2 rfl ?_
  cases r with
  | error E =>
    obtain ⟨i, h1, h2, rfl⟩ := hE
    refine X.less (bc' := a6 + 0) (bs' := b6 + 0) ?_ (Nat.le_refl _) (Nat.le_refl _)
    refine y_callVe (bc := 0) (bs := 0) (cs_L_46 _) (ci := 7) rfl H0.1 H0.2 (As := []) (rest := [.int 0, .ref o]) rfl rfl (Nat.le_of_ble_eq_true rfl) (dep (show d + 1 ≤ d + 1 from Nat.le_refl _) (Nat.le_of_ble_eq_true rfl)) dL_personCount_3 hc ?_
    rcases (show i = 0 ∨ i = 1 ∨ i = 2 by omega) with rfl | rfl | rfl
    · cases h1
      refine XT.catch [] _ [] rfl (fun z hz => by cases hz) rfl (by decide) (show Cond.classLink RL 21 "java/lang/IllegalStateException" ∈ wsG from inT4 223 rfl rfl) (List.mem_filter.mpr ⟨castISE, rfl⟩) rfl (Or.inr ⟨2, dL_personCount_11, rfl, rfl⟩) (Nat.le_of_ble_eq_true rfl) rfl ?_
      refine x_iconst 1 dL_personCount_12 rfl ?_
      exact x_iret rfl dL_personCount_13 ⟨rfl, rfl, rfl⟩
    · cases h1
    · cases h1
  | ok v =>
    obtain rfl : t = 0 := hE
    refine X.less (bc' := a6 + 0) (bs' := b6 + 0) ?_ (Nat.le_refl _) (Nat.le_refl _)
    refine y_callV1 (bc := 0) (bs := 0) (cs_L_46 _) (ci := 7) rfl H0.1 H0.2 (As := []) (rest := [.int 0, .ref o]) rfl rfl (Nat.le_of_ble_eq_true rfl) (dep (show d + 1 ≤ d + 1 from Nat.le_refl _) (Nat.le_of_ble_eq_true rfl)) dL_personCount_3 hc ?_
    refine x_i2l dL_personCount_6 ?_
    refine x_last Ho.1 Ho.2 (j := 0) rfl ⟨by decide, by decide⟩ dL_personCount_7 ?_
    refine x_goto 14 dL_personCount_8 rfl ?_
    refine x_iconst 0 dL_personCount_14 rfl ?_
    exact x_iret rfl dL_personCount_15 ⟨rfl, rfl, rfl⟩
theorem wL_personLetter (d : Nat) {K K1 : Kt} {I I1 : Mem} {x0 o a6 b6 : Nat} {x1 x2 : Int32} {r : Except String Int32} {t : Int32} (H0 : LO K 7 x0) (Ho : LA K1 103 1 o) (hc : Ct (mX9_personLetter d) cX9_personLetter a6 b6 [.ref x0, .int x1, .int x2] I K (Ro (rI r) I1 K1)) (hE : Ec ["java/lang/IllegalStateException", "java/lang/IndexOutOfBoundsException"] r t) : Ct (mL_personLetter (d + 1)) cL_personLetter a6 b6 [.ref x0, .int x1, .int x2, .ref o] I K (Ro (.inl (some (.int t))) I1 (KJ K1 o r)) := by
  refine Ct.ofH rfl pn_L (catR (catI (catI (catR cat0)))) (Nat.le_of_ble_eq_true rfl) (show X _ _ _ _ _ _ 0 [.ref x0, .int x1, .int x2, .ref o, .retAddr 0] [] _ from ?_)
  refine x_aloadn dL_personLetter_0 rfl ?_
  refine x_iconst 0 dL_personLetter_1 rfl ?_
  refine x_aloadn dL_personLetter_2 rfl ?_
  refine x_iloadn dL_personLetter_3 rfl ?_
  refine x_iloadn dL_personLetter_4 rfl ?_
  cases r with
  | error E =>
    obtain ⟨i, h1, h2, rfl⟩ := hE
    refine X.less (bc' := a6 + 0) (bs' := b6 + 0) ?_ (Nat.le_refl _) (Nat.le_refl _)
    refine y_callVe (bc := 0) (bs := 0) (cs_L_49 _) (ci := 7) rfl H0.1 H0.2 (As := [.int x1, .int x2]) (rest := [.int 0, .ref o]) rfl rfl (Nat.le_of_ble_eq_true rfl) (dep (show d + 1 ≤ d + 1 from Nat.le_refl _) (Nat.le_of_ble_eq_true rfl)) dL_personLetter_5 hc ?_
    rcases (show i = 0 ∨ i = 1 ∨ i = 2 by omega) with rfl | rfl | rfl
    · cases h1
      refine XT.catch [] _ [_] rfl (fun z hz => by cases hz) rfl (by decide) (show Cond.classLink RL 21 "java/lang/IllegalStateException" ∈ wsG from inT4 223 rfl rfl) (List.mem_filter.mpr ⟨castISE, rfl⟩) rfl (Or.inl ⟨dL_personLetter_13, rfl⟩) (Nat.le_of_ble_eq_true rfl) rfl ?_
      refine x_iconst 1 dL_personLetter_15 rfl ?_
      exact x_iret rfl dL_personLetter_16 ⟨rfl, rfl, rfl⟩
    · cases h1
      refine XT.catch [_] _ [] rfl (fun z hz => by obtain rfl := List.mem_singleton.mp hz; exact Or.inr ⟨by decide, "java/lang/IllegalStateException", (show Cond.classLink RL 21 "java/lang/IllegalStateException" ∈ wsG from inT4 223 rfl rfl), by decide +kernel⟩) rfl (by decide) (show Cond.classLink RL 13 "java/lang/IndexOutOfBoundsException" ∈ wsG from inT2 187 rfl rfl) (List.mem_filter.mpr ⟨castIOB, rfl⟩) rfl (Or.inl ⟨dL_personLetter_17, rfl⟩) (Nat.le_of_ble_eq_true rfl) rfl ?_
      refine x_iconst 2 dL_personLetter_19 rfl ?_
      exact x_iret rfl dL_personLetter_20 ⟨rfl, rfl, rfl⟩
    · cases h1
  | ok v =>
    obtain rfl : t = 0 := hE
    refine X.less (bc' := a6 + 0) (bs' := b6 + 0) ?_ (Nat.le_refl _) (Nat.le_refl _)
    refine y_callV1 (bc := 0) (bs := 0) (cs_L_49 _) (ci := 7) rfl H0.1 H0.2 (As := [.int x1, .int x2]) (rest := [.int 0, .ref o]) rfl rfl (Nat.le_of_ble_eq_true rfl) (dep (show d + 1 ≤ d + 1 from Nat.le_refl _) (Nat.le_of_ble_eq_true rfl)) dL_personLetter_5 hc ?_
    refine x_i2l dL_personLetter_8 ?_
    refine x_last Ho.1 Ho.2 (j := 0) rfl ⟨by decide, by decide⟩ dL_personLetter_9 ?_
    refine x_goto 21 dL_personLetter_10 rfl ?_
    refine x_iconst 0 dL_personLetter_21 rfl ?_
    exact x_iret rfl dL_personLetter_22 ⟨rfl, rfl, rfl⟩
theorem wL_coins (d : Nat) {K K1 : Kt} {I I1 : Mem} {x0 o a6 b6 : Nat} {x1 : Int32} {r : Except String Int32} {t : Int32} (H0 : LO K 7 x0) (Ho : LA K1 103 1 o) (hc : Ct (mX9_coins d) cX9_coins a6 b6 [.ref x0, .int x1] I K (Ro (rI r) I1 K1)) (hE : Ec ["java/lang/IllegalStateException", "java/lang/IndexOutOfBoundsException"] r t) : Ct (mL_coins (d + 1)) cL_coins a6 b6 [.ref x0, .int x1, .ref o] I K (Ro (.inl (some (.int t))) I1 (KJ K1 o r)) := by
  refine Ct.ofH rfl pn_L (catR (catI (catR cat0))) (Nat.le_of_ble_eq_true rfl) (show X _ _ _ _ _ _ 0 [.ref x0, .int x1, .ref o, .retAddr 0] [] _ from ?_)
  refine x_aloadn dL_coins_0 rfl ?_
  refine x_iconst 0 dL_coins_1 rfl ?_
  refine x_aloadn dL_coins_2 rfl ?_
  refine x_iloadn dL_coins_3 rfl ?_
  cases r with
  | error E =>
    obtain ⟨i, h1, h2, rfl⟩ := hE
    refine X.less (bc' := a6 + 0) (bs' := b6 + 0) ?_ (Nat.le_refl _) (Nat.le_refl _)
    refine y_callVe (bc := 0) (bs := 0) (cs_L_53 _) (ci := 7) rfl H0.1 H0.2 (As := [.int x1]) (rest := [.int 0, .ref o]) rfl rfl (Nat.le_of_ble_eq_true rfl) (dep (show d + 1 ≤ d + 1 from Nat.le_refl _) (Nat.le_of_ble_eq_true rfl)) dL_coins_4 hc ?_
    rcases (show i = 0 ∨ i = 1 ∨ i = 2 by omega) with rfl | rfl | rfl
    · cases h1
      refine XT.catch [] _ [_] rfl (fun z hz => by cases hz) rfl (by decide) (show Cond.classLink RL 21 "java/lang/IllegalStateException" ∈ wsG from inT4 223 rfl rfl) (List.mem_filter.mpr ⟨castISE, rfl⟩) rfl (Or.inr ⟨3, dL_coins_12, rfl, rfl⟩) (Nat.le_of_ble_eq_true rfl) rfl ?_
      refine x_iconst 1 dL_coins_13 rfl ?_
      exact x_iret rfl dL_coins_14 ⟨rfl, rfl, rfl⟩
    · cases h1
      refine XT.catch [_] _ [] rfl (fun z hz => by obtain rfl := List.mem_singleton.mp hz; exact Or.inr ⟨by decide, "java/lang/IllegalStateException", (show Cond.classLink RL 21 "java/lang/IllegalStateException" ∈ wsG from inT4 223 rfl rfl), by decide +kernel⟩) rfl (by decide) (show Cond.classLink RL 13 "java/lang/IndexOutOfBoundsException" ∈ wsG from inT2 187 rfl rfl) (List.mem_filter.mpr ⟨castIOB, rfl⟩) rfl (Or.inr ⟨3, dL_coins_15, rfl, rfl⟩) (Nat.le_of_ble_eq_true rfl) rfl ?_
      refine x_iconst 2 dL_coins_16 rfl ?_
      exact x_iret rfl dL_coins_17 ⟨rfl, rfl, rfl⟩
    · cases h1
  | ok v =>
    obtain rfl : t = 0 := hE
    refine X.less (bc' := a6 + 0) (bs' := b6 + 0) ?_ (Nat.le_refl _) (Nat.le_refl _)
    refine y_callV1 (bc := 0) (bs := 0) (cs_L_53 _) (ci := 7) rfl H0.1 H0.2 (As := [.int x1]) (rest := [.int 0, .ref o]) rfl rfl (Nat.le_of_ble_eq_true rfl) (dep (show d + 1 ≤ d + 1 from Nat.le_refl _) (Nat.le_of_ble_eq_true rfl)) dL_coins_4 hc ?_
    refine x_i2l dL_coins_7 ?_
    refine x_last Ho.1 Ho.2 (j := 0) rfl ⟨by decide, by decide⟩ dL_coins_8 ?_
    refine x_goto 18 dL_coins_9 rfl ?_
    refine x_iconst 0 dL_coins_18 rfl ?_
    exact x_iret rfl dL_coins_19 ⟨rfl, rfl, rfl⟩
theorem wL_birthday (d : Nat) {K K1 : Kt} {I I1 : Mem} {x0 o a6 b6 : Nat} {x1 : Int32} {r : Except String Int32} {t : Int32} (H0 : LO K 7 x0) (Ho : LA K1 103 1 o) (hc : Ct (mX9_birthday d) cX9_birthday a6 b6 [.ref x0, .int x1] I K (Ro (rI r) I1 K1)) (hE : Ec ["java/lang/IllegalStateException", "java/lang/IndexOutOfBoundsException"] r t) : Ct (mL_birthday (d + 1)) cL_birthday a6 b6 [.ref x0, .int x1, .ref o] I K (Ro (.inl (some (.int t))) I1 (KJ K1 o r)) := by
  refine Ct.ofH rfl pn_L (catR (catI (catR cat0))) (Nat.le_of_ble_eq_true rfl) (show X _ _ _ _ _ _ 0 [.ref x0, .int x1, .ref o, .retAddr 0] [] _ from ?_)
  refine x_aloadn dL_birthday_0 rfl ?_
  refine x_iconst 0 dL_birthday_1 rfl ?_
  refine x_aloadn dL_birthday_2 rfl ?_
  refine x_iloadn dL_birthday_3 rfl ?_
  cases r with
  | error E =>
    obtain ⟨i, h1, h2, rfl⟩ := hE
    refine X.less (bc' := a6 + 0) (bs' := b6 + 0) ?_ (Nat.le_refl _) (Nat.le_refl _)
    refine y_callVe (bc := 0) (bs := 0) (cs_L_56 _) (ci := 7) rfl H0.1 H0.2 (As := [.int x1]) (rest := [.int 0, .ref o]) rfl rfl (Nat.le_of_ble_eq_true rfl) (dep (show d + 1 ≤ d + 1 from Nat.le_refl _) (Nat.le_of_ble_eq_true rfl)) dL_birthday_4 hc ?_
    rcases (show i = 0 ∨ i = 1 ∨ i = 2 by omega) with rfl | rfl | rfl
    · cases h1
      refine XT.catch [] _ [_] rfl (fun z hz => by cases hz) rfl (by decide) (show Cond.classLink RL 21 "java/lang/IllegalStateException" ∈ wsG from inT4 223 rfl rfl) (List.mem_filter.mpr ⟨castISE, rfl⟩) rfl (Or.inr ⟨3, dL_birthday_12, rfl, rfl⟩) (Nat.le_of_ble_eq_true rfl) rfl ?_
      refine x_iconst 1 dL_birthday_13 rfl ?_
      exact x_iret rfl dL_birthday_14 ⟨rfl, rfl, rfl⟩
    · cases h1
      refine XT.catch [_] _ [] rfl (fun z hz => by obtain rfl := List.mem_singleton.mp hz; exact Or.inr ⟨by decide, "java/lang/IllegalStateException", (show Cond.classLink RL 21 "java/lang/IllegalStateException" ∈ wsG from inT4 223 rfl rfl), by decide +kernel⟩) rfl (by decide) (show Cond.classLink RL 13 "java/lang/IndexOutOfBoundsException" ∈ wsG from inT2 187 rfl rfl) (List.mem_filter.mpr ⟨castIOB, rfl⟩) rfl (Or.inr ⟨3, dL_birthday_15, rfl, rfl⟩) (Nat.le_of_ble_eq_true rfl) rfl ?_
      refine x_iconst 2 dL_birthday_16 rfl ?_
      exact x_iret rfl dL_birthday_17 ⟨rfl, rfl, rfl⟩
    · cases h1
  | ok v =>
    obtain rfl : t = 0 := hE
    refine X.less (bc' := a6 + 0) (bs' := b6 + 0) ?_ (Nat.le_refl _) (Nat.le_refl _)
    refine y_callV1 (bc := 0) (bs := 0) (cs_L_56 _) (ci := 7) rfl H0.1 H0.2 (As := [.int x1]) (rest := [.int 0, .ref o]) rfl rfl (Nat.le_of_ble_eq_true rfl) (dep (show d + 1 ≤ d + 1 from Nat.le_refl _) (Nat.le_of_ble_eq_true rfl)) dL_birthday_4 hc ?_
    refine x_i2l dL_birthday_7 ?_
    refine x_last Ho.1 Ho.2 (j := 0) rfl ⟨by decide, by decide⟩ dL_birthday_8 ?_
    refine x_goto 18 dL_birthday_9 rfl ?_
    refine x_iconst 0 dL_birthday_18 rfl ?_
    exact x_iret rfl dL_birthday_19 ⟨rfl, rfl, rfl⟩
theorem wL_candles (d : Nat) {K K1 : Kt} {I I1 : Mem} {x0 o a6 b6 : Nat} {x1 : Int32} {r : Except String Int32} {t : Int32} (H0 : LO K 7 x0) (Ho : LA K1 103 1 o) (hc : Ct (mX9_candles d) cX9_candles a6 b6 [.ref x0, .int x1] I K (Ro (rI r) I1 K1)) (hE : Ec ["java/lang/IllegalStateException", "java/lang/IndexOutOfBoundsException"] r t) : Ct (mL_candles (d + 1)) cL_candles a6 b6 [.ref x0, .int x1, .ref o] I K (Ro (.inl (some (.int t))) I1 (KJ K1 o r)) := by
  refine Ct.ofH rfl pn_L (catR (catI (catR cat0))) (Nat.le_of_ble_eq_true rfl) (show X _ _ _ _ _ _ 0 [.ref x0, .int x1, .ref o, .retAddr 0] [] _ from ?_)
  refine x_aloadn dL_candles_0 rfl ?_
  refine x_iconst 0 dL_candles_1 rfl ?_
  refine x_aloadn dL_candles_2 rfl ?_
  refine x_iloadn dL_candles_3 rfl ?_
  cases r with
  | error E =>
    obtain ⟨i, h1, h2, rfl⟩ := hE
    refine X.less (bc' := a6 + 0) (bs' := b6 + 0) ?_ (Nat.le_refl _) (Nat.le_refl _)
    refine y_callVe (bc := 0) (bs := 0) (cs_L_59 _) (ci := 7) rfl H0.1 H0.2 (As := [.int x1]) (rest := [.int 0, .ref o]) rfl rfl (Nat.le_of_ble_eq_true rfl) (dep (show d + 1 ≤ d + 1 from Nat.le_refl _) (Nat.le_of_ble_eq_true rfl)) dL_candles_4 hc ?_
    rcases (show i = 0 ∨ i = 1 ∨ i = 2 by omega) with rfl | rfl | rfl
    · cases h1
      refine XT.catch [] _ [_] rfl (fun z hz => by cases hz) rfl (by decide) (show Cond.classLink RL 21 "java/lang/IllegalStateException" ∈ wsG from inT4 223 rfl rfl) (List.mem_filter.mpr ⟨castISE, rfl⟩) rfl (Or.inr ⟨3, dL_candles_12, rfl, rfl⟩) (Nat.le_of_ble_eq_true rfl) rfl ?_
      refine x_iconst 1 dL_candles_13 rfl ?_
      exact x_iret rfl dL_candles_14 ⟨rfl, rfl, rfl⟩
    · cases h1
      refine XT.catch [_] _ [] rfl (fun z hz => by obtain rfl := List.mem_singleton.mp hz; exact Or.inr ⟨by decide, "java/lang/IllegalStateException", (show Cond.classLink RL 21 "java/lang/IllegalStateException" ∈ wsG from inT4 223 rfl rfl), by decide +kernel⟩) rfl (by decide) (show Cond.classLink RL 13 "java/lang/IndexOutOfBoundsException" ∈ wsG from inT2 187 rfl rfl) (List.mem_filter.mpr ⟨castIOB, rfl⟩) rfl (Or.inr ⟨3, dL_candles_15, rfl, rfl⟩) (Nat.le_of_ble_eq_true rfl) rfl ?_
      refine x_iconst 2 dL_candles_16 rfl ?_
      exact x_iret rfl dL_candles_17 ⟨rfl, rfl, rfl⟩
    · cases h1
  | ok v =>
    obtain rfl : t = 0 := hE
    refine X.less (bc' := a6 + 0) (bs' := b6 + 0) ?_ (Nat.le_refl _) (Nat.le_refl _)
    refine y_callV1 (bc := 0) (bs := 0) (cs_L_59 _) (ci := 7) rfl H0.1 H0.2 (As := [.int x1]) (rest := [.int 0, .ref o]) rfl rfl (Nat.le_of_ble_eq_true rfl) (dep (show d + 1 ≤ d + 1 from Nat.le_refl _) (Nat.le_of_ble_eq_true rfl)) dL_candles_4 hc ?_
    refine x_i2l dL_candles_7 ?_
    refine x_last Ho.1 Ho.2 (j := 0) rfl ⟨by decide, by decide⟩ dL_candles_8 ?_
    refine x_goto 18 dL_candles_9 rfl ?_
    refine x_iconst 0 dL_candles_18 rfl ?_
    exact x_iret rfl dL_candles_19 ⟨rfl, rfl, rfl⟩
theorem wL_happiness (d : Nat) {K K1 : Kt} {I I1 : Mem} {x0 o a6 b6 : Nat} {x1 : Int32} {r : Except String Int32} {t : Int32} (H0 : LO K 7 x0) (Ho : LA K1 103 1 o) (hc : Ct (mX9_happiness d) cX9_happiness a6 b6 [.ref x0, .int x1] I K (Ro (rI r) I1 K1)) (hE : Ec ["java/lang/IllegalStateException", "java/lang/IndexOutOfBoundsException"] r t) : Ct (mL_happiness (d + 1)) cL_happiness a6 b6 [.ref x0, .int x1, .ref o] I K (Ro (.inl (some (.int t))) I1 (KJ K1 o r)) := by
  refine Ct.ofH rfl pn_L (catR (catI (catR cat0))) (Nat.le_of_ble_eq_true rfl) (show X _ _ _ _ _ _ 0 [.ref x0, .int x1, .ref o, .retAddr 0] [] _ from ?_)
  refine x_aloadn dL_happiness_0 rfl ?_
  refine x_iconst 0 dL_happiness_1 rfl ?_
  refine x_aloadn dL_happiness_2 rfl ?_
  refine x_iloadn dL_happiness_3 rfl ?_
  cases r with
  | error E =>
    obtain ⟨i, h1, h2, rfl⟩ := hE
    refine X.less (bc' := a6 + 0) (bs' := b6 + 0) ?_ (Nat.le_refl _) (Nat.le_refl _)
    refine y_callVe (bc := 0) (bs := 0) (cs_L_62 _) (ci := 7) rfl H0.1 H0.2 (As := [.int x1]) (rest := [.int 0, .ref o]) rfl rfl (Nat.le_of_ble_eq_true rfl) (dep (show d + 1 ≤ d + 1 from Nat.le_refl _) (Nat.le_of_ble_eq_true rfl)) dL_happiness_4 hc ?_
    rcases (show i = 0 ∨ i = 1 ∨ i = 2 by omega) with rfl | rfl | rfl
    · cases h1
      refine XT.catch [] _ [_] rfl (fun z hz => by cases hz) rfl (by decide) (show Cond.classLink RL 21 "java/lang/IllegalStateException" ∈ wsG from inT4 223 rfl rfl) (List.mem_filter.mpr ⟨castISE, rfl⟩) rfl (Or.inr ⟨3, dL_happiness_12, rfl, rfl⟩) (Nat.le_of_ble_eq_true rfl) rfl ?_
      refine x_iconst 1 dL_happiness_13 rfl ?_
      exact x_iret rfl dL_happiness_14 ⟨rfl, rfl, rfl⟩
    · cases h1
      refine XT.catch [_] _ [] rfl (fun z hz => by obtain rfl := List.mem_singleton.mp hz; exact Or.inr ⟨by decide, "java/lang/IllegalStateException", (show Cond.classLink RL 21 "java/lang/IllegalStateException" ∈ wsG from inT4 223 rfl rfl), by decide +kernel⟩) rfl (by decide) (show Cond.classLink RL 13 "java/lang/IndexOutOfBoundsException" ∈ wsG from inT2 187 rfl rfl) (List.mem_filter.mpr ⟨castIOB, rfl⟩) rfl (Or.inr ⟨3, dL_happiness_15, rfl, rfl⟩) (Nat.le_of_ble_eq_true rfl) rfl ?_
      refine x_iconst 2 dL_happiness_16 rfl ?_
      exact x_iret rfl dL_happiness_17 ⟨rfl, rfl, rfl⟩
    · cases h1
  | ok v =>
    obtain rfl : t = 0 := hE
    refine X.less (bc' := a6 + 0) (bs' := b6 + 0) ?_ (Nat.le_refl _) (Nat.le_refl _)
    refine y_callV1 (bc := 0) (bs := 0) (cs_L_62 _) (ci := 7) rfl H0.1 H0.2 (As := [.int x1]) (rest := [.int 0, .ref o]) rfl rfl (Nat.le_of_ble_eq_true rfl) (dep (show d + 1 ≤ d + 1 from Nat.le_refl _) (Nat.le_of_ble_eq_true rfl)) dL_happiness_4 hc ?_
    refine x_i2l dL_happiness_7 ?_
    refine x_last Ho.1 Ho.2 (j := 0) rfl ⟨by decide, by decide⟩ dL_happiness_8 ?_
    refine x_goto 18 dL_happiness_9 rfl ?_
    refine x_iconst 0 dL_happiness_18 rfl ?_
    exact x_iret rfl dL_happiness_19 ⟨rfl, rfl, rfl⟩
theorem wL_ownedCount (d : Nat) {K K1 : Kt} {I I1 : Mem} {x0 o a6 b6 : Nat} {x1 : Int32} {r : Except String Int32} {t : Int32} (H0 : LO K 7 x0) (Ho : LA K1 103 1 o) (hc : Ct (mX9_ownedCount d) cX9_ownedCount a6 b6 [.ref x0, .int x1] I K (Ro (rI r) I1 K1)) (hE : Ec ["java/lang/IllegalStateException", "java/lang/IndexOutOfBoundsException"] r t) : Ct (mL_ownedCount (d + 1)) cL_ownedCount a6 b6 [.ref x0, .int x1, .ref o] I K (Ro (.inl (some (.int t))) I1 (KJ K1 o r)) := by
  refine Ct.ofH rfl pn_L (catR (catI (catR cat0))) (Nat.le_of_ble_eq_true rfl) (show X _ _ _ _ _ _ 0 [.ref x0, .int x1, .ref o, .retAddr 0] [] _ from ?_)
  refine x_aloadn dL_ownedCount_0 rfl ?_
  refine x_iconst 0 dL_ownedCount_1 rfl ?_
  refine x_aloadn dL_ownedCount_2 rfl ?_
  refine x_iloadn dL_ownedCount_3 rfl ?_
  cases r with
  | error E =>
    obtain ⟨i, h1, h2, rfl⟩ := hE
    refine X.less (bc' := a6 + 0) (bs' := b6 + 0) ?_ (Nat.le_refl _) (Nat.le_refl _)
    refine y_callVe (bc := 0) (bs := 0) (cs_L_65 _) (ci := 7) rfl H0.1 H0.2 (As := [.int x1]) (rest := [.int 0, .ref o]) rfl rfl (Nat.le_of_ble_eq_true rfl) (dep (show d + 1 ≤ d + 1 from Nat.le_refl _) (Nat.le_of_ble_eq_true rfl)) dL_ownedCount_4 hc ?_
    rcases (show i = 0 ∨ i = 1 ∨ i = 2 by omega) with rfl | rfl | rfl
    · cases h1
      refine XT.catch [] _ [_] rfl (fun z hz => by cases hz) rfl (by decide) (show Cond.classLink RL 21 "java/lang/IllegalStateException" ∈ wsG from inT4 223 rfl rfl) (List.mem_filter.mpr ⟨castISE, rfl⟩) rfl (Or.inr ⟨3, dL_ownedCount_12, rfl, rfl⟩) (Nat.le_of_ble_eq_true rfl) rfl ?_
      refine x_iconst 1 dL_ownedCount_13 rfl ?_
      exact x_iret rfl dL_ownedCount_14 ⟨rfl, rfl, rfl⟩
    · cases h1
      refine XT.catch [_] _ [] rfl (fun z hz => by obtain rfl := List.mem_singleton.mp hz; exact Or.inr ⟨by decide, "java/lang/IllegalStateException", (show Cond.classLink RL 21 "java/lang/IllegalStateException" ∈ wsG from inT4 223 rfl rfl), by decide +kernel⟩) rfl (by decide) (show Cond.classLink RL 13 "java/lang/IndexOutOfBoundsException" ∈ wsG from inT2 187 rfl rfl) (List.mem_filter.mpr ⟨castIOB, rfl⟩) rfl (Or.inr ⟨3, dL_ownedCount_15, rfl, rfl⟩) (Nat.le_of_ble_eq_true rfl) rfl ?_
      refine x_iconst 2 dL_ownedCount_16 rfl ?_
      exact x_iret rfl dL_ownedCount_17 ⟨rfl, rfl, rfl⟩
    · cases h1
  | ok v =>
    obtain rfl : t = 0 := hE
    refine X.less (bc' := a6 + 0) (bs' := b6 + 0) ?_ (Nat.le_refl _) (Nat.le_refl _)
    refine y_callV1 (bc := 0) (bs := 0) (cs_L_65 _) (ci := 7) rfl H0.1 H0.2 (As := [.int x1]) (rest := [.int 0, .ref o]) rfl rfl (Nat.le_of_ble_eq_true rfl) (dep (show d + 1 ≤ d + 1 from Nat.le_refl _) (Nat.le_of_ble_eq_true rfl)) dL_ownedCount_4 hc ?_
    refine x_i2l dL_ownedCount_7 ?_
    refine x_last Ho.1 Ho.2 (j := 0) rfl ⟨by decide, by decide⟩ dL_ownedCount_8 ?_
    refine x_goto 18 dL_ownedCount_9 rfl ?_
    refine x_iconst 0 dL_ownedCount_18 rfl ?_
    exact x_iret rfl dL_ownedCount_19 ⟨rfl, rfl, rfl⟩
theorem wL_shoppingLimit (d : Nat) {K K1 : Kt} {I I1 : Mem} {x0 o a6 b6 : Nat} {x1 : Int32} {r : Except String Int32} {t : Int32} (H0 : LO K 7 x0) (Ho : LA K1 103 1 o) (hc : Ct (mX9_shoppingLimit d) cX9_shoppingLimit a6 b6 [.ref x0, .int x1] I K (Ro (rI r) I1 K1)) (hE : Ec ["java/lang/IllegalStateException", "java/lang/IndexOutOfBoundsException"] r t) : Ct (mL_shoppingLimit (d + 1)) cL_shoppingLimit a6 b6 [.ref x0, .int x1, .ref o] I K (Ro (.inl (some (.int t))) I1 (KJ K1 o r)) := by
  refine Ct.ofH rfl pn_L (catR (catI (catR cat0))) (Nat.le_of_ble_eq_true rfl) (show X _ _ _ _ _ _ 0 [.ref x0, .int x1, .ref o, .retAddr 0] [] _ from ?_)
  refine x_aloadn dL_shoppingLimit_0 rfl ?_
  refine x_iconst 0 dL_shoppingLimit_1 rfl ?_
  refine x_aloadn dL_shoppingLimit_2 rfl ?_
  refine x_iloadn dL_shoppingLimit_3 rfl ?_
  cases r with
  | error E =>
    obtain ⟨i, h1, h2, rfl⟩ := hE
    refine X.less (bc' := a6 + 0) (bs' := b6 + 0) ?_ (Nat.le_refl _) (Nat.le_refl _)
    refine y_callVe (bc := 0) (bs := 0) (cs_L_68 _) (ci := 7) rfl H0.1 H0.2 (As := [.int x1]) (rest := [.int 0, .ref o]) rfl rfl (Nat.le_of_ble_eq_true rfl) (dep (show d + 1 ≤ d + 1 from Nat.le_refl _) (Nat.le_of_ble_eq_true rfl)) dL_shoppingLimit_4 hc ?_
    rcases (show i = 0 ∨ i = 1 ∨ i = 2 by omega) with rfl | rfl | rfl
    · cases h1
      refine XT.catch [] _ [_] rfl (fun z hz => by cases hz) rfl (by decide) (show Cond.classLink RL 21 "java/lang/IllegalStateException" ∈ wsG from inT4 223 rfl rfl) (List.mem_filter.mpr ⟨castISE, rfl⟩) rfl (Or.inr ⟨3, dL_shoppingLimit_12, rfl, rfl⟩) (Nat.le_of_ble_eq_true rfl) rfl ?_
      refine x_iconst 1 dL_shoppingLimit_13 rfl ?_
      exact x_iret rfl dL_shoppingLimit_14 ⟨rfl, rfl, rfl⟩
    · cases h1
      refine XT.catch [_] _ [] rfl (fun z hz => by obtain rfl := List.mem_singleton.mp hz; exact Or.inr ⟨by decide, "java/lang/IllegalStateException", (show Cond.classLink RL 21 "java/lang/IllegalStateException" ∈ wsG from inT4 223 rfl rfl), by decide +kernel⟩) rfl (by decide) (show Cond.classLink RL 13 "java/lang/IndexOutOfBoundsException" ∈ wsG from inT2 187 rfl rfl) (List.mem_filter.mpr ⟨castIOB, rfl⟩) rfl (Or.inr ⟨3, dL_shoppingLimit_15, rfl, rfl⟩) (Nat.le_of_ble_eq_true rfl) rfl ?_
      refine x_iconst 2 dL_shoppingLimit_16 rfl ?_
      exact x_iret rfl dL_shoppingLimit_17 ⟨rfl, rfl, rfl⟩
    · cases h1
  | ok v =>
    obtain rfl : t = 0 := hE
    refine X.less (bc' := a6 + 0) (bs' := b6 + 0) ?_ (Nat.le_refl _) (Nat.le_refl _)
    refine y_callV1 (bc := 0) (bs := 0) (cs_L_68 _) (ci := 7) rfl H0.1 H0.2 (As := [.int x1]) (rest := [.int 0, .ref o]) rfl rfl (Nat.le_of_ble_eq_true rfl) (dep (show d + 1 ≤ d + 1 from Nat.le_refl _) (Nat.le_of_ble_eq_true rfl)) dL_shoppingLimit_4 hc ?_
    refine x_i2l dL_shoppingLimit_7 ?_
    refine x_last Ho.1 Ho.2 (j := 0) rfl ⟨by decide, by decide⟩ dL_shoppingLimit_8 ?_
    refine x_goto 18 dL_shoppingLimit_9 rfl ?_
    refine x_iconst 0 dL_shoppingLimit_18 rfl ?_
    exact x_iret rfl dL_shoppingLimit_19 ⟨rfl, rfl, rfl⟩
theorem wL_daysUntilBirthday (d : Nat) {K K1 : Kt} {I I1 : Mem} {x0 o a6 b6 : Nat} {x1 : Int32} {r : Except String Int32} {t : Int32} (H0 : LO K 7 x0) (Ho : LA K1 103 1 o) (hc : Ct (mX9_daysUntilBirthday d) cX9_daysUntilBirthday a6 b6 [.ref x0, .int x1] I K (Ro (rI r) I1 K1)) (hE : Ec ["java/lang/IllegalStateException", "java/lang/IndexOutOfBoundsException"] r t) : Ct (mL_daysUntilBirthday (d + 1)) cL_daysUntilBirthday a6 b6 [.ref x0, .int x1, .ref o] I K (Ro (.inl (some (.int t))) I1 (KJ K1 o r)) := by
  refine Ct.ofH rfl pn_L (catR (catI (catR cat0))) (Nat.le_of_ble_eq_true rfl) (show X _ _ _ _ _ _ 0 [.ref x0, .int x1, .ref o, .retAddr 0] [] _ from ?_)
  refine x_aloadn dL_daysUntilBirthday_0 rfl ?_
  refine x_iconst 0 dL_daysUntilBirthday_1 rfl ?_
  refine x_aloadn dL_daysUntilBirthday_2 rfl ?_
  refine x_iloadn dL_daysUntilBirthday_3 rfl ?_
  cases r with
  | error E =>
    obtain ⟨i, h1, h2, rfl⟩ := hE
    refine X.less (bc' := a6 + 0) (bs' := b6 + 0) ?_ (Nat.le_refl _) (Nat.le_refl _)
    refine y_callVe (bc := 0) (bs := 0) (cs_L_71 _) (ci := 7) rfl H0.1 H0.2 (As := [.int x1]) (rest := [.int 0, .ref o]) rfl rfl (Nat.le_of_ble_eq_true rfl) (dep (show d + 1 ≤ d + 1 from Nat.le_refl _) (Nat.le_of_ble_eq_true rfl)) dL_daysUntilBirthday_4 hc ?_
    rcases (show i = 0 ∨ i = 1 ∨ i = 2 by omega) with rfl | rfl | rfl
    · cases h1
      refine XT.catch [] _ [_] rfl (fun z hz => by cases hz) rfl (by decide) (show Cond.classLink RL 21 "java/lang/IllegalStateException" ∈ wsG from inT4 223 rfl rfl) (List.mem_filter.mpr ⟨castISE, rfl⟩) rfl (Or.inr ⟨3, dL_daysUntilBirthday_12, rfl, rfl⟩) (Nat.le_of_ble_eq_true rfl) rfl ?_
      refine x_iconst 1 dL_daysUntilBirthday_13 rfl ?_
      exact x_iret rfl dL_daysUntilBirthday_14 ⟨rfl, rfl, rfl⟩
    · cases h1
      refine XT.catch [_] _ [] rfl (fun z hz => by obtain rfl := List.mem_singleton.mp hz; exact Or.inr ⟨by decide, "java/lang/IllegalStateException", (show Cond.classLink RL 21 "java/lang/IllegalStateException" ∈ wsG from inT4 223 rfl rfl), by decide +kernel⟩) rfl (by decide) (show Cond.classLink RL 13 "java/lang/IndexOutOfBoundsException" ∈ wsG from inT2 187 rfl rfl) (List.mem_filter.mpr ⟨castIOB, rfl⟩) rfl (Or.inr ⟨3, dL_daysUntilBirthday_15, rfl, rfl⟩) (Nat.le_of_ble_eq_true rfl) rfl ?_
      refine x_iconst 2 dL_daysUntilBirthday_16 rfl ?_
      exact x_iret rfl dL_daysUntilBirthday_17 ⟨rfl, rfl, rfl⟩
    · cases h1
  | ok v =>
    obtain rfl : t = 0 := hE
    refine X.less (bc' := a6 + 0) (bs' := b6 + 0) ?_ (Nat.le_refl _) (Nat.le_refl _)
    refine y_callV1 (bc := 0) (bs := 0) (cs_L_71 _) (ci := 7) rfl H0.1 H0.2 (As := [.int x1]) (rest := [.int 0, .ref o]) rfl rfl (Nat.le_of_ble_eq_true rfl) (dep (show d + 1 ≤ d + 1 from Nat.le_refl _) (Nat.le_of_ble_eq_true rfl)) dL_daysUntilBirthday_4 hc ?_
    refine x_i2l dL_daysUntilBirthday_7 ?_
    refine x_last Ho.1 Ho.2 (j := 0) rfl ⟨by decide, by decide⟩ dL_daysUntilBirthday_8 ?_
    refine x_goto 18 dL_daysUntilBirthday_9 rfl ?_
    refine x_iconst 0 dL_daysUntilBirthday_18 rfl ?_
    exact x_iret rfl dL_daysUntilBirthday_19 ⟨rfl, rfl, rfl⟩
theorem wL_stallCount (d : Nat) {K K1 : Kt} {I I1 : Mem} {x0 o a6 b6 : Nat} {r : Except String Int32} {t : Int32} (H0 : LO K 7 x0) (Ho : LA K1 103 1 o) (hc : Ct (mX9_stallCount d) cX9_stallCount a6 b6 [.ref x0] I K (Ro (rI r) I1 K1)) (hE : Ec ["java/lang/IllegalStateException"] r t) : Ct (mL_stallCount (d + 1)) cL_stallCount a6 b6 [.ref x0, .ref o] I K (Ro (.inl (some (.int t))) I1 (KJ K1 o r)) := by
  refine Ct.ofH rfl pn_L (catR (catR cat0)) (Nat.le_of_ble_eq_true rfl) (show X _ _ _ _ _ _ 0 [.ref x0, .ref o, .retAddr 0] [] _ from ?_)
  refine x_aloadn dL_stallCount_0 rfl ?_
  refine x_iconst 0 dL_stallCount_1 rfl ?_
  refine x_aloadn dL_stallCount_2 rfl ?_
  cases r with
  | error E =>
    obtain ⟨i, h1, h2, rfl⟩ := hE
    refine X.less (bc' := a6 + 0) (bs' := b6 + 0) ?_ (Nat.le_refl _) (Nat.le_refl _)
    refine y_callVe (bc := 0) (bs := 0) (cs_L_74 _) (ci := 7) rfl H0.1 H0.2 (As := []) (rest := [.int 0, .ref o]) rfl rfl (Nat.le_of_ble_eq_true rfl) (dep (show d + 1 ≤ d + 1 from Nat.le_refl _) (Nat.le_of_ble_eq_true rfl)) dL_stallCount_3 hc ?_
    rcases (show i = 0 ∨ i = 1 ∨ i = 2 by omega) with rfl | rfl | rfl
    · cases h1
      refine XT.catch [] _ [] rfl (fun z hz => by cases hz) rfl (by decide) (show Cond.classLink RL 21 "java/lang/IllegalStateException" ∈ wsG from inT4 223 rfl rfl) (List.mem_filter.mpr ⟨castISE, rfl⟩) rfl (Or.inr ⟨2, dL_stallCount_11, rfl, rfl⟩) (Nat.le_of_ble_eq_true rfl) rfl ?_
      refine x_iconst 1 dL_stallCount_12 rfl ?_
      exact x_iret rfl dL_stallCount_13 ⟨rfl, rfl, rfl⟩
    · cases h1
    · cases h1
  | ok v =>
    obtain rfl : t = 0 := hE
    refine X.less (bc' := a6 + 0) (bs' := b6 + 0) ?_ (Nat.le_refl _) (Nat.le_refl _)
    refine y_callV1 (bc := 0) (bs := 0) (cs_L_74 _) (ci := 7) rfl H0.1 H0.2 (As := []) (rest := [.int 0, .ref o]) rfl rfl (Nat.le_of_ble_eq_true rfl) (dep (show d + 1 ≤ d + 1 from Nat.le_refl _) (Nat.le_of_ble_eq_true rfl)) dL_stallCount_3 hc ?_
    refine x_i2l dL_stallCount_6 ?_
    refine x_last Ho.1 Ho.2 (j := 0) rfl ⟨by decide, by decide⟩ dL_stallCount_7 ?_
    refine x_goto 14 dL_stallCount_8 rfl ?_
    refine x_iconst 0 dL_stallCount_14 rfl ?_
    exact x_iret rfl dL_stallCount_15 ⟨rfl, rfl, rfl⟩
theorem wL_cash (d : Nat) {K K1 : Kt} {I I1 : Mem} {x0 o a6 b6 : Nat} {x1 : Int32} {r : Except String Int32} {t : Int32} (H0 : LO K 7 x0) (Ho : LA K1 103 1 o) (hc : Ct (mX9_cash d) cX9_cash a6 b6 [.ref x0, .int x1] I K (Ro (rI r) I1 K1)) (hE : Ec ["java/lang/IllegalStateException", "java/lang/IndexOutOfBoundsException"] r t) : Ct (mL_cash (d + 1)) cL_cash a6 b6 [.ref x0, .int x1, .ref o] I K (Ro (.inl (some (.int t))) I1 (KJ K1 o r)) := by
  refine Ct.ofH rfl pn_L (catR (catI (catR cat0))) (Nat.le_of_ble_eq_true rfl) (show X _ _ _ _ _ _ 0 [.ref x0, .int x1, .ref o, .retAddr 0] [] _ from ?_)
  refine x_aloadn dL_cash_0 rfl ?_
  refine x_iconst 0 dL_cash_1 rfl ?_
  refine x_aloadn dL_cash_2 rfl ?_
  refine x_iloadn dL_cash_3 rfl ?_
  cases r with
  | error E =>
    obtain ⟨i, h1, h2, rfl⟩ := hE
    refine X.less (bc' := a6 + 0) (bs' := b6 + 0) ?_ (Nat.le_refl _) (Nat.le_refl _)
    refine y_callVe (bc := 0) (bs := 0) (cs_L_77 _) (ci := 7) rfl H0.1 H0.2 (As := [.int x1]) (rest := [.int 0, .ref o]) rfl rfl (Nat.le_of_ble_eq_true rfl) (dep (show d + 1 ≤ d + 1 from Nat.le_refl _) (Nat.le_of_ble_eq_true rfl)) dL_cash_4 hc ?_
    rcases (show i = 0 ∨ i = 1 ∨ i = 2 by omega) with rfl | rfl | rfl
    · cases h1
      refine XT.catch [] _ [_] rfl (fun z hz => by cases hz) rfl (by decide) (show Cond.classLink RL 21 "java/lang/IllegalStateException" ∈ wsG from inT4 223 rfl rfl) (List.mem_filter.mpr ⟨castISE, rfl⟩) rfl (Or.inr ⟨3, dL_cash_12, rfl, rfl⟩) (Nat.le_of_ble_eq_true rfl) rfl ?_
      refine x_iconst 1 dL_cash_13 rfl ?_
      exact x_iret rfl dL_cash_14 ⟨rfl, rfl, rfl⟩
    · cases h1
      refine XT.catch [_] _ [] rfl (fun z hz => by obtain rfl := List.mem_singleton.mp hz; exact Or.inr ⟨by decide, "java/lang/IllegalStateException", (show Cond.classLink RL 21 "java/lang/IllegalStateException" ∈ wsG from inT4 223 rfl rfl), by decide +kernel⟩) rfl (by decide) (show Cond.classLink RL 13 "java/lang/IndexOutOfBoundsException" ∈ wsG from inT2 187 rfl rfl) (List.mem_filter.mpr ⟨castIOB, rfl⟩) rfl (Or.inr ⟨3, dL_cash_15, rfl, rfl⟩) (Nat.le_of_ble_eq_true rfl) rfl ?_
      refine x_iconst 2 dL_cash_16 rfl ?_
      exact x_iret rfl dL_cash_17 ⟨rfl, rfl, rfl⟩
    · cases h1
  | ok v =>
    obtain rfl : t = 0 := hE
    refine X.less (bc' := a6 + 0) (bs' := b6 + 0) ?_ (Nat.le_refl _) (Nat.le_refl _)
    refine y_callV1 (bc := 0) (bs := 0) (cs_L_77 _) (ci := 7) rfl H0.1 H0.2 (As := [.int x1]) (rest := [.int 0, .ref o]) rfl rfl (Nat.le_of_ble_eq_true rfl) (dep (show d + 1 ≤ d + 1 from Nat.le_refl _) (Nat.le_of_ble_eq_true rfl)) dL_cash_4 hc ?_
    refine x_i2l dL_cash_7 ?_
    refine x_last Ho.1 Ho.2 (j := 0) rfl ⟨by decide, by decide⟩ dL_cash_8 ?_
    refine x_goto 18 dL_cash_9 rfl ?_
    refine x_iconst 0 dL_cash_18 rfl ?_
    exact x_iret rfl dL_cash_19 ⟨rfl, rfl, rfl⟩
theorem wL_stars (d : Nat) {K K1 : Kt} {I I1 : Mem} {x0 o a6 b6 : Nat} {x1 : Int32} {r : Except String Int32} {t : Int32} (H0 : LO K 7 x0) (Ho : LA K1 103 1 o) (hc : Ct (mX9_stars d) cX9_stars a6 b6 [.ref x0, .int x1] I K (Ro (rI r) I1 K1)) (hE : Ec ["java/lang/IllegalStateException", "java/lang/IndexOutOfBoundsException"] r t) : Ct (mL_stars (d + 1)) cL_stars a6 b6 [.ref x0, .int x1, .ref o] I K (Ro (.inl (some (.int t))) I1 (KJ K1 o r)) := by
  refine Ct.ofH rfl pn_L (catR (catI (catR cat0))) (Nat.le_of_ble_eq_true rfl) (show X _ _ _ _ _ _ 0 [.ref x0, .int x1, .ref o, .retAddr 0] [] _ from ?_)
  refine x_aloadn dL_stars_0 rfl ?_
  refine x_iconst 0 dL_stars_1 rfl ?_
  refine x_aloadn dL_stars_2 rfl ?_
  refine x_iloadn dL_stars_3 rfl ?_
  cases r with
  | error E =>
    obtain ⟨i, h1, h2, rfl⟩ := hE
    refine X.less (bc' := a6 + 0) (bs' := b6 + 0) ?_ (Nat.le_refl _) (Nat.le_refl _)
    refine y_callVe (bc := 0) (bs := 0) (cs_L_80 _) (ci := 7) rfl H0.1 H0.2 (As := [.int x1]) (rest := [.int 0, .ref o]) rfl rfl (Nat.le_of_ble_eq_true rfl) (dep (show d + 1 ≤ d + 1 from Nat.le_refl _) (Nat.le_of_ble_eq_true rfl)) dL_stars_4 hc ?_
    rcases (show i = 0 ∨ i = 1 ∨ i = 2 by omega) with rfl | rfl | rfl
    · cases h1
      refine XT.catch [] _ [_] rfl (fun z hz => by cases hz) rfl (by decide) (show Cond.classLink RL 21 "java/lang/IllegalStateException" ∈ wsG from inT4 223 rfl rfl) (List.mem_filter.mpr ⟨castISE, rfl⟩) rfl (Or.inr ⟨3, dL_stars_12, rfl, rfl⟩) (Nat.le_of_ble_eq_true rfl) rfl ?_
      refine x_iconst 1 dL_stars_13 rfl ?_
      exact x_iret rfl dL_stars_14 ⟨rfl, rfl, rfl⟩
    · cases h1
      refine XT.catch [_] _ [] rfl (fun z hz => by obtain rfl := List.mem_singleton.mp hz; exact Or.inr ⟨by decide, "java/lang/IllegalStateException", (show Cond.classLink RL 21 "java/lang/IllegalStateException" ∈ wsG from inT4 223 rfl rfl), by decide +kernel⟩) rfl (by decide) (show Cond.classLink RL 13 "java/lang/IndexOutOfBoundsException" ∈ wsG from inT2 187 rfl rfl) (List.mem_filter.mpr ⟨castIOB, rfl⟩) rfl (Or.inr ⟨3, dL_stars_15, rfl, rfl⟩) (Nat.le_of_ble_eq_true rfl) rfl ?_
      refine x_iconst 2 dL_stars_16 rfl ?_
      exact x_iret rfl dL_stars_17 ⟨rfl, rfl, rfl⟩
    · cases h1
  | ok v =>
    obtain rfl : t = 0 := hE
    refine X.less (bc' := a6 + 0) (bs' := b6 + 0) ?_ (Nat.le_refl _) (Nat.le_refl _)
    refine y_callV1 (bc := 0) (bs := 0) (cs_L_80 _) (ci := 7) rfl H0.1 H0.2 (As := [.int x1]) (rest := [.int 0, .ref o]) rfl rfl (Nat.le_of_ble_eq_true rfl) (dep (show d + 1 ≤ d + 1 from Nat.le_refl _) (Nat.le_of_ble_eq_true rfl)) dL_stars_4 hc ?_
    refine x_i2l dL_stars_7 ?_
    refine x_last Ho.1 Ho.2 (j := 0) rfl ⟨by decide, by decide⟩ dL_stars_8 ?_
    refine x_goto 18 dL_stars_9 rfl ?_
    refine x_iconst 0 dL_stars_18 rfl ?_
    exact x_iret rfl dL_stars_19 ⟨rfl, rfl, rfl⟩
theorem wL_margin (d : Nat) {K K1 : Kt} {I I1 : Mem} {x0 o a6 b6 : Nat} {x1 : Int32} {r : Except String Int32} {t : Int32} (H0 : LO K 7 x0) (Ho : LA K1 103 1 o) (hc : Ct (mX9_margin d) cX9_margin a6 b6 [.ref x0, .int x1] I K (Ro (rI r) I1 K1)) (hE : Ec ["java/lang/IllegalStateException", "java/lang/IndexOutOfBoundsException"] r t) : Ct (mL_margin (d + 1)) cL_margin a6 b6 [.ref x0, .int x1, .ref o] I K (Ro (.inl (some (.int t))) I1 (KJ K1 o r)) := by
  refine Ct.ofH rfl pn_L (catR (catI (catR cat0))) (Nat.le_of_ble_eq_true rfl) (show X _ _ _ _ _ _ 0 [.ref x0, .int x1, .ref o, .retAddr 0] [] _ from ?_)
  refine x_aloadn dL_margin_0 rfl ?_
  refine x_iconst 0 dL_margin_1 rfl ?_
  refine x_aloadn dL_margin_2 rfl ?_
  refine x_iloadn dL_margin_3 rfl ?_
  cases r with
  | error E =>
    obtain ⟨i, h1, h2, rfl⟩ := hE
    refine X.less (bc' := a6 + 0) (bs' := b6 + 0) ?_ (Nat.le_refl _) (Nat.le_refl _)
    refine y_callVe (bc := 0) (bs := 0) (cs_L_83 _) (ci := 7) rfl H0.1 H0.2 (As := [.int x1]) (rest := [.int 0, .ref o]) rfl rfl (Nat.le_of_ble_eq_true rfl) (dep (show d + 1 ≤ d + 1 from Nat.le_refl _) (Nat.le_of_ble_eq_true rfl)) dL_margin_4 hc ?_
    rcases (show i = 0 ∨ i = 1 ∨ i = 2 by omega) with rfl | rfl | rfl
    · cases h1
      refine XT.catch [] _ [_] rfl (fun z hz => by cases hz) rfl (by decide) (show Cond.classLink RL 21 "java/lang/IllegalStateException" ∈ wsG from inT4 223 rfl rfl) (List.mem_filter.mpr ⟨castISE, rfl⟩) rfl (Or.inr ⟨3, dL_margin_12, rfl, rfl⟩) (Nat.le_of_ble_eq_true rfl) rfl ?_
      refine x_iconst 1 dL_margin_13 rfl ?_
      exact x_iret rfl dL_margin_14 ⟨rfl, rfl, rfl⟩
    · cases h1
      refine XT.catch [_] _ [] rfl (fun z hz => by obtain rfl := List.mem_singleton.mp hz; exact Or.inr ⟨by decide, "java/lang/IllegalStateException", (show Cond.classLink RL 21 "java/lang/IllegalStateException" ∈ wsG from inT4 223 rfl rfl), by decide +kernel⟩) rfl (by decide) (show Cond.classLink RL 13 "java/lang/IndexOutOfBoundsException" ∈ wsG from inT2 187 rfl rfl) (List.mem_filter.mpr ⟨castIOB, rfl⟩) rfl (Or.inr ⟨3, dL_margin_15, rfl, rfl⟩) (Nat.le_of_ble_eq_true rfl) rfl ?_
      refine x_iconst 2 dL_margin_16 rfl ?_
      exact x_iret rfl dL_margin_17 ⟨rfl, rfl, rfl⟩
    · cases h1
  | ok v =>
    obtain rfl : t = 0 := hE
    refine X.less (bc' := a6 + 0) (bs' := b6 + 0) ?_ (Nat.le_refl _) (Nat.le_refl _)
    refine y_callV1 (bc := 0) (bs := 0) (cs_L_83 _) (ci := 7) rfl H0.1 H0.2 (As := [.int x1]) (rest := [.int 0, .ref o]) rfl rfl (Nat.le_of_ble_eq_true rfl) (dep (show d + 1 ≤ d + 1 from Nat.le_refl _) (Nat.le_of_ble_eq_true rfl)) dL_margin_4 hc ?_
    refine x_i2l dL_margin_7 ?_
    refine x_last Ho.1 Ho.2 (j := 0) rfl ⟨by decide, by decide⟩ dL_margin_8 ?_
    refine x_goto 18 dL_margin_9 rfl ?_
    refine x_iconst 0 dL_margin_18 rfl ?_
    exact x_iret rfl dL_margin_19 ⟨rfl, rfl, rfl⟩
theorem wL_stockCount (d : Nat) {K K1 : Kt} {I I1 : Mem} {x0 o a6 b6 : Nat} {x1 : Int32} {r : Except String Int32} {t : Int32} (H0 : LO K 7 x0) (Ho : LA K1 103 1 o) (hc : Ct (mX9_stockCount d) cX9_stockCount a6 b6 [.ref x0, .int x1] I K (Ro (rI r) I1 K1)) (hE : Ec ["java/lang/IllegalStateException", "java/lang/IndexOutOfBoundsException"] r t) : Ct (mL_stockCount (d + 1)) cL_stockCount a6 b6 [.ref x0, .int x1, .ref o] I K (Ro (.inl (some (.int t))) I1 (KJ K1 o r)) := by
  refine Ct.ofH rfl pn_L (catR (catI (catR cat0))) (Nat.le_of_ble_eq_true rfl) (show X _ _ _ _ _ _ 0 [.ref x0, .int x1, .ref o, .retAddr 0] [] _ from ?_)
  refine x_aloadn dL_stockCount_0 rfl ?_
  refine x_iconst 0 dL_stockCount_1 rfl ?_
  refine x_aloadn dL_stockCount_2 rfl ?_
  refine x_iloadn dL_stockCount_3 rfl ?_
  cases r with
  | error E =>
    obtain ⟨i, h1, h2, rfl⟩ := hE
    refine X.less (bc' := a6 + 0) (bs' := b6 + 0) ?_ (Nat.le_refl _) (Nat.le_refl _)
    refine y_callVe (bc := 0) (bs := 0) (cs_L_86 _) (ci := 7) rfl H0.1 H0.2 (As := [.int x1]) (rest := [.int 0, .ref o]) rfl rfl (Nat.le_of_ble_eq_true rfl) (dep (show d + 1 ≤ d + 1 from Nat.le_refl _) (Nat.le_of_ble_eq_true rfl)) dL_stockCount_4 hc ?_
    rcases (show i = 0 ∨ i = 1 ∨ i = 2 by omega) with rfl | rfl | rfl
    · cases h1
      refine XT.catch [] _ [_] rfl (fun z hz => by cases hz) rfl (by decide) (show Cond.classLink RL 21 "java/lang/IllegalStateException" ∈ wsG from inT4 223 rfl rfl) (List.mem_filter.mpr ⟨castISE, rfl⟩) rfl (Or.inr ⟨3, dL_stockCount_12, rfl, rfl⟩) (Nat.le_of_ble_eq_true rfl) rfl ?_
      refine x_iconst 1 dL_stockCount_13 rfl ?_
      exact x_iret rfl dL_stockCount_14 ⟨rfl, rfl, rfl⟩
    · cases h1
      refine XT.catch [_] _ [] rfl (fun z hz => by obtain rfl := List.mem_singleton.mp hz; exact Or.inr ⟨by decide, "java/lang/IllegalStateException", (show Cond.classLink RL 21 "java/lang/IllegalStateException" ∈ wsG from inT4 223 rfl rfl), by decide +kernel⟩) rfl (by decide) (show Cond.classLink RL 13 "java/lang/IndexOutOfBoundsException" ∈ wsG from inT2 187 rfl rfl) (List.mem_filter.mpr ⟨castIOB, rfl⟩) rfl (Or.inr ⟨3, dL_stockCount_15, rfl, rfl⟩) (Nat.le_of_ble_eq_true rfl) rfl ?_
      refine x_iconst 2 dL_stockCount_16 rfl ?_
      exact x_iret rfl dL_stockCount_17 ⟨rfl, rfl, rfl⟩
    · cases h1
  | ok v =>
    obtain rfl : t = 0 := hE
    refine X.less (bc' := a6 + 0) (bs' := b6 + 0) ?_ (Nat.le_refl _) (Nat.le_refl _)
    refine y_callV1 (bc := 0) (bs := 0) (cs_L_86 _) (ci := 7) rfl H0.1 H0.2 (As := [.int x1]) (rest := [.int 0, .ref o]) rfl rfl (Nat.le_of_ble_eq_true rfl) (dep (show d + 1 ≤ d + 1 from Nat.le_refl _) (Nat.le_of_ble_eq_true rfl)) dL_stockCount_4 hc ?_
    refine x_i2l dL_stockCount_7 ?_
    refine x_last Ho.1 Ho.2 (j := 0) rfl ⟨by decide, by decide⟩ dL_stockCount_8 ?_
    refine x_goto 18 dL_stockCount_9 rfl ?_
    refine x_iconst 0 dL_stockCount_18 rfl ?_
    exact x_iret rfl dL_stockCount_19 ⟨rfl, rfl, rfl⟩
theorem wL_wishLetter (d : Nat) {K K1 : Kt} {I I1 : Mem} {x0 o a6 b6 : Nat} {x1 x2 : Int32} {r : Except String Int32} {t : Int32} (H0 : LO K 7 x0) (Ho : LA K1 103 1 o) (hc : Ct (mX9_wishLetter d) cX9_wishLetter a6 b6 [.ref x0, .int x1, .int x2] I K (Ro (rI r) I1 K1)) (hE : Ec ["java/lang/IllegalStateException", "java/lang/IndexOutOfBoundsException"] r t) : Ct (mL_wishLetter (d + 1)) cL_wishLetter a6 b6 [.ref x0, .int x1, .int x2, .ref o] I K (Ro (.inl (some (.int t))) I1 (KJ K1 o r)) := by
  refine Ct.ofH rfl pn_L (catR (catI (catI (catR cat0)))) (Nat.le_of_ble_eq_true rfl) (show X _ _ _ _ _ _ 0 [.ref x0, .int x1, .int x2, .ref o, .retAddr 0] [] _ from ?_)
  refine x_aloadn dL_wishLetter_0 rfl ?_
  refine x_iconst 0 dL_wishLetter_1 rfl ?_
  refine x_aloadn dL_wishLetter_2 rfl ?_
  refine x_iloadn dL_wishLetter_3 rfl ?_
  refine x_iloadn dL_wishLetter_4 rfl ?_
  cases r with
  | error E =>
    obtain ⟨i, h1, h2, rfl⟩ := hE
    refine X.less (bc' := a6 + 0) (bs' := b6 + 0) ?_ (Nat.le_refl _) (Nat.le_refl _)
    refine y_callVe (bc := 0) (bs := 0) (cs_L_89 _) (ci := 7) rfl H0.1 H0.2 (As := [.int x1, .int x2]) (rest := [.int 0, .ref o]) rfl rfl (Nat.le_of_ble_eq_true rfl) (dep (show d + 1 ≤ d + 1 from Nat.le_refl _) (Nat.le_of_ble_eq_true rfl)) dL_wishLetter_5 hc ?_
    rcases (show i = 0 ∨ i = 1 ∨ i = 2 by omega) with rfl | rfl | rfl
    · cases h1
      refine XT.catch [] _ [_] rfl (fun z hz => by cases hz) rfl (by decide) (show Cond.classLink RL 21 "java/lang/IllegalStateException" ∈ wsG from inT4 223 rfl rfl) (List.mem_filter.mpr ⟨castISE, rfl⟩) rfl (Or.inl ⟨dL_wishLetter_13, rfl⟩) (Nat.le_of_ble_eq_true rfl) rfl ?_
      refine x_iconst 1 dL_wishLetter_15 rfl ?_
      exact x_iret rfl dL_wishLetter_16 ⟨rfl, rfl, rfl⟩
    · cases h1
      refine XT.catch [_] _ [] rfl (fun z hz => by obtain rfl := List.mem_singleton.mp hz; exact Or.inr ⟨by decide, "java/lang/IllegalStateException", (show Cond.classLink RL 21 "java/lang/IllegalStateException" ∈ wsG from inT4 223 rfl rfl), by decide +kernel⟩) rfl (by decide) (show Cond.classLink RL 13 "java/lang/IndexOutOfBoundsException" ∈ wsG from inT2 187 rfl rfl) (List.mem_filter.mpr ⟨castIOB, rfl⟩) rfl (Or.inl ⟨dL_wishLetter_17, rfl⟩) (Nat.le_of_ble_eq_true rfl) rfl ?_
      refine x_iconst 2 dL_wishLetter_19 rfl ?_
      exact x_iret rfl dL_wishLetter_20 ⟨rfl, rfl, rfl⟩
    · cases h1
  | ok v =>
    obtain rfl : t = 0 := hE
    refine X.less (bc' := a6 + 0) (bs' := b6 + 0) ?_ (Nat.le_refl _) (Nat.le_refl _)
    refine y_callV1 (bc := 0) (bs := 0) (cs_L_89 _) (ci := 7) rfl H0.1 H0.2 (As := [.int x1, .int x2]) (rest := [.int 0, .ref o]) rfl rfl (Nat.le_of_ble_eq_true rfl) (dep (show d + 1 ≤ d + 1 from Nat.le_refl _) (Nat.le_of_ble_eq_true rfl)) dL_wishLetter_5 hc ?_
    refine x_i2l dL_wishLetter_8 ?_
    refine x_last Ho.1 Ho.2 (j := 0) rfl ⟨by decide, by decide⟩ dL_wishLetter_9 ?_
    refine x_goto 21 dL_wishLetter_10 rfl ?_
    refine x_iconst 0 dL_wishLetter_21 rfl ?_
    exact x_iret rfl dL_wishLetter_22 ⟨rfl, rfl, rfl⟩
theorem wL_baseValue (d : Nat) {K K1 : Kt} {I I1 : Mem} {x0 o a6 b6 : Nat} {x1 : Int32} {r : Except String Int32} {t : Int32} (H0 : LO K 7 x0) (Ho : LA K1 103 1 o) (hc : Ct (mX9_baseValue d) cX9_baseValue a6 b6 [.ref x0, .int x1] I K (Ro (rI r) I1 K1)) (hE : Ec ["java/lang/IllegalStateException", "java/lang/IndexOutOfBoundsException"] r t) : Ct (mL_baseValue (d + 1)) cL_baseValue a6 b6 [.ref x0, .int x1, .ref o] I K (Ro (.inl (some (.int t))) I1 (KJ K1 o r)) := by
  refine Ct.ofH rfl pn_L (catR (catI (catR cat0))) (Nat.le_of_ble_eq_true rfl) (show X _ _ _ _ _ _ 0 [.ref x0, .int x1, .ref o, .retAddr 0] [] _ from ?_)
  refine x_aloadn dL_baseValue_0 rfl ?_
  refine x_iconst 0 dL_baseValue_1 rfl ?_
  refine x_aloadn dL_baseValue_2 rfl ?_
  refine x_iloadn dL_baseValue_3 rfl ?_
  cases r with
  | error E =>
    obtain ⟨i, h1, h2, rfl⟩ := hE
    refine X.less (bc' := a6 + 0) (bs' := b6 + 0) ?_ (Nat.le_refl _) (Nat.le_refl _)
    refine y_callVe (bc := 0) (bs := 0) (cs_L_92 _) (ci := 7) rfl H0.1 H0.2 (As := [.int x1]) (rest := [.int 0, .ref o]) rfl rfl (Nat.le_of_ble_eq_true rfl) (dep (show d + 1 ≤ d + 1 from Nat.le_refl _) (Nat.le_of_ble_eq_true rfl)) dL_baseValue_4 hc ?_
    rcases (show i = 0 ∨ i = 1 ∨ i = 2 by omega) with rfl | rfl | rfl
    · cases h1
      refine XT.catch [] _ [_] rfl (fun z hz => by cases hz) rfl (by decide) (show Cond.classLink RL 21 "java/lang/IllegalStateException" ∈ wsG from inT4 223 rfl rfl) (List.mem_filter.mpr ⟨castISE, rfl⟩) rfl (Or.inr ⟨3, dL_baseValue_12, rfl, rfl⟩) (Nat.le_of_ble_eq_true rfl) rfl ?_
      refine x_iconst 1 dL_baseValue_13 rfl ?_
      exact x_iret rfl dL_baseValue_14 ⟨rfl, rfl, rfl⟩
    · cases h1
      refine XT.catch [_] _ [] rfl (fun z hz => by obtain rfl := List.mem_singleton.mp hz; exact Or.inr ⟨by decide, "java/lang/IllegalStateException", (show Cond.classLink RL 21 "java/lang/IllegalStateException" ∈ wsG from inT4 223 rfl rfl), by decide +kernel⟩) rfl (by decide) (show Cond.classLink RL 13 "java/lang/IndexOutOfBoundsException" ∈ wsG from inT2 187 rfl rfl) (List.mem_filter.mpr ⟨castIOB, rfl⟩) rfl (Or.inr ⟨3, dL_baseValue_15, rfl, rfl⟩) (Nat.le_of_ble_eq_true rfl) rfl ?_
      refine x_iconst 2 dL_baseValue_16 rfl ?_
      exact x_iret rfl dL_baseValue_17 ⟨rfl, rfl, rfl⟩
    · cases h1
  | ok v =>
    obtain rfl : t = 0 := hE
    refine X.less (bc' := a6 + 0) (bs' := b6 + 0) ?_ (Nat.le_refl _) (Nat.le_refl _)
    refine y_callV1 (bc := 0) (bs := 0) (cs_L_92 _) (ci := 7) rfl H0.1 H0.2 (As := [.int x1]) (rest := [.int 0, .ref o]) rfl rfl (Nat.le_of_ble_eq_true rfl) (dep (show d + 1 ≤ d + 1 from Nat.le_refl _) (Nat.le_of_ble_eq_true rfl)) dL_baseValue_4 hc ?_
    refine x_i2l dL_baseValue_7 ?_
    refine x_last Ho.1 Ho.2 (j := 0) rfl ⟨by decide, by decide⟩ dL_baseValue_8 ?_
    refine x_goto 18 dL_baseValue_9 rfl ?_
    refine x_iconst 0 dL_baseValue_18 rfl ?_
    exact x_iret rfl dL_baseValue_19 ⟨rfl, rfl, rfl⟩
theorem wL_strength (d : Nat) {K K1 : Kt} {I I1 : Mem} {x0 o a6 b6 : Nat} {x1 : Int32} {r : Except String Int32} {t : Int32} (H0 : LO K 7 x0) (Ho : LA K1 103 1 o) (hc : Ct (mX9_strength d) cX9_strength a6 b6 [.ref x0, .int x1] I K (Ro (rI r) I1 K1)) (hE : Ec ["java/lang/IllegalStateException", "java/lang/IndexOutOfBoundsException"] r t) : Ct (mL_strength (d + 1)) cL_strength a6 b6 [.ref x0, .int x1, .ref o] I K (Ro (.inl (some (.int t))) I1 (KJ K1 o r)) := by
  refine Ct.ofH rfl pn_L (catR (catI (catR cat0))) (Nat.le_of_ble_eq_true rfl) (show X _ _ _ _ _ _ 0 [.ref x0, .int x1, .ref o, .retAddr 0] [] _ from ?_)
  refine x_aloadn dL_strength_0 rfl ?_
  refine x_iconst 0 dL_strength_1 rfl ?_
  refine x_aloadn dL_strength_2 rfl ?_
  refine x_iloadn dL_strength_3 rfl ?_
  cases r with
  | error E =>
    obtain ⟨i, h1, h2, rfl⟩ := hE
    refine X.less (bc' := a6 + 0) (bs' := b6 + 0) ?_ (Nat.le_refl _) (Nat.le_refl _)
    refine y_callVe (bc := 0) (bs := 0) (cs_L_95 _) (ci := 7) rfl H0.1 H0.2 (As := [.int x1]) (rest := [.int 0, .ref o]) rfl rfl (Nat.le_of_ble_eq_true rfl) (dep (show d + 1 ≤ d + 1 from Nat.le_refl _) (Nat.le_of_ble_eq_true rfl)) dL_strength_4 hc ?_
    rcases (show i = 0 ∨ i = 1 ∨ i = 2 by omega) with rfl | rfl | rfl
    · cases h1
      refine XT.catch [] _ [_] rfl (fun z hz => by cases hz) rfl (by decide) (show Cond.classLink RL 21 "java/lang/IllegalStateException" ∈ wsG from inT4 223 rfl rfl) (List.mem_filter.mpr ⟨castISE, rfl⟩) rfl (Or.inr ⟨3, dL_strength_12, rfl, rfl⟩) (Nat.le_of_ble_eq_true rfl) rfl ?_
      refine x_iconst 1 dL_strength_13 rfl ?_
      exact x_iret rfl dL_strength_14 ⟨rfl, rfl, rfl⟩
    · cases h1
      refine XT.catch [_] _ [] rfl (fun z hz => by obtain rfl := List.mem_singleton.mp hz; exact Or.inr ⟨by decide, "java/lang/IllegalStateException", (show Cond.classLink RL 21 "java/lang/IllegalStateException" ∈ wsG from inT4 223 rfl rfl), by decide +kernel⟩) rfl (by decide) (show Cond.classLink RL 13 "java/lang/IndexOutOfBoundsException" ∈ wsG from inT2 187 rfl rfl) (List.mem_filter.mpr ⟨castIOB, rfl⟩) rfl (Or.inr ⟨3, dL_strength_15, rfl, rfl⟩) (Nat.le_of_ble_eq_true rfl) rfl ?_
      refine x_iconst 2 dL_strength_16 rfl ?_
      exact x_iret rfl dL_strength_17 ⟨rfl, rfl, rfl⟩
    · cases h1
  | ok v =>
    obtain rfl : t = 0 := hE
    refine X.less (bc' := a6 + 0) (bs' := b6 + 0) ?_ (Nat.le_refl _) (Nat.le_refl _)
    refine y_callV1 (bc := 0) (bs := 0) (cs_L_95 _) (ci := 7) rfl H0.1 H0.2 (As := [.int x1]) (rest := [.int 0, .ref o]) rfl rfl (Nat.le_of_ble_eq_true rfl) (dep (show d + 1 ≤ d + 1 from Nat.le_refl _) (Nat.le_of_ble_eq_true rfl)) dL_strength_4 hc ?_
    refine x_i2l dL_strength_7 ?_
    refine x_last Ho.1 Ho.2 (j := 0) rfl ⟨by decide, by decide⟩ dL_strength_8 ?_
    refine x_goto 18 dL_strength_9 rfl ?_
    refine x_iconst 0 dL_strength_18 rfl ?_
    exact x_iret rfl dL_strength_19 ⟨rfl, rfl, rfl⟩
theorem wL_wear (d : Nat) {K K1 : Kt} {I I1 : Mem} {x0 o a6 b6 : Nat} {x1 : Int32} {r : Except String Int32} {t : Int32} (H0 : LO K 7 x0) (Ho : LA K1 103 1 o) (hc : Ct (mX9_wear d) cX9_wear a6 b6 [.ref x0, .int x1] I K (Ro (rI r) I1 K1)) (hE : Ec ["java/lang/IllegalStateException", "java/lang/IndexOutOfBoundsException"] r t) : Ct (mL_wear (d + 1)) cL_wear a6 b6 [.ref x0, .int x1, .ref o] I K (Ro (.inl (some (.int t))) I1 (KJ K1 o r)) := by
  refine Ct.ofH rfl pn_L (catR (catI (catR cat0))) (Nat.le_of_ble_eq_true rfl) (show X _ _ _ _ _ _ 0 [.ref x0, .int x1, .ref o, .retAddr 0] [] _ from ?_)
  refine x_aloadn dL_wear_0 rfl ?_
  refine x_iconst 0 dL_wear_1 rfl ?_
  refine x_aloadn dL_wear_2 rfl ?_
  refine x_iloadn dL_wear_3 rfl ?_
  cases r with
  | error E =>
    obtain ⟨i, h1, h2, rfl⟩ := hE
    refine X.less (bc' := a6 + 0) (bs' := b6 + 0) ?_ (Nat.le_refl _) (Nat.le_refl _)
    refine y_callVe (bc := 0) (bs := 0) (cs_L_98 _) (ci := 7) rfl H0.1 H0.2 (As := [.int x1]) (rest := [.int 0, .ref o]) rfl rfl (Nat.le_of_ble_eq_true rfl) (dep (show d + 1 ≤ d + 1 from Nat.le_refl _) (Nat.le_of_ble_eq_true rfl)) dL_wear_4 hc ?_
    rcases (show i = 0 ∨ i = 1 ∨ i = 2 by omega) with rfl | rfl | rfl
    · cases h1
      refine XT.catch [] _ [_] rfl (fun z hz => by cases hz) rfl (by decide) (show Cond.classLink RL 21 "java/lang/IllegalStateException" ∈ wsG from inT4 223 rfl rfl) (List.mem_filter.mpr ⟨castISE, rfl⟩) rfl (Or.inr ⟨3, dL_wear_12, rfl, rfl⟩) (Nat.le_of_ble_eq_true rfl) rfl ?_
      refine x_iconst 1 dL_wear_13 rfl ?_
      exact x_iret rfl dL_wear_14 ⟨rfl, rfl, rfl⟩
    · cases h1
      refine XT.catch [_] _ [] rfl (fun z hz => by obtain rfl := List.mem_singleton.mp hz; exact Or.inr ⟨by decide, "java/lang/IllegalStateException", (show Cond.classLink RL 21 "java/lang/IllegalStateException" ∈ wsG from inT4 223 rfl rfl), by decide +kernel⟩) rfl (by decide) (show Cond.classLink RL 13 "java/lang/IndexOutOfBoundsException" ∈ wsG from inT2 187 rfl rfl) (List.mem_filter.mpr ⟨castIOB, rfl⟩) rfl (Or.inr ⟨3, dL_wear_15, rfl, rfl⟩) (Nat.le_of_ble_eq_true rfl) rfl ?_
      refine x_iconst 2 dL_wear_16 rfl ?_
      exact x_iret rfl dL_wear_17 ⟨rfl, rfl, rfl⟩
    · cases h1
  | ok v =>
    obtain rfl : t = 0 := hE
    refine X.less (bc' := a6 + 0) (bs' := b6 + 0) ?_ (Nat.le_refl _) (Nat.le_refl _)
    refine y_callV1 (bc := 0) (bs := 0) (cs_L_98 _) (ci := 7) rfl H0.1 H0.2 (As := [.int x1]) (rest := [.int 0, .ref o]) rfl rfl (Nat.le_of_ble_eq_true rfl) (dep (show d + 1 ≤ d + 1 from Nat.le_refl _) (Nat.le_of_ble_eq_true rfl)) dL_wear_4 hc ?_
    refine x_i2l dL_wear_7 ?_
    refine x_last Ho.1 Ho.2 (j := 0) rfl ⟨by decide, by decide⟩ dL_wear_8 ?_
    refine x_goto 18 dL_wear_9 rfl ?_
    refine x_iconst 0 dL_wear_18 rfl ?_
    exact x_iret rfl dL_wear_19 ⟨rfl, rfl, rfl⟩
theorem wL_value (d : Nat) {K K1 : Kt} {I I1 : Mem} {x0 o a6 b6 : Nat} {x1 : Int32} {r : Except String Int32} {t : Int32} (H0 : LO K 7 x0) (Ho : LA K1 103 1 o) (hc : Ct (mX9_value d) cX9_value a6 b6 [.ref x0, .int x1] I K (Ro (rI r) I1 K1)) (hE : Ec ["java/lang/IllegalStateException", "java/lang/IndexOutOfBoundsException"] r t) : Ct (mL_value (d + 1)) cL_value a6 b6 [.ref x0, .int x1, .ref o] I K (Ro (.inl (some (.int t))) I1 (KJ K1 o r)) := by
  refine Ct.ofH rfl pn_L (catR (catI (catR cat0))) (Nat.le_of_ble_eq_true rfl) (show X _ _ _ _ _ _ 0 [.ref x0, .int x1, .ref o, .retAddr 0] [] _ from ?_)
  refine x_aloadn dL_value_0 rfl ?_
  refine x_iconst 0 dL_value_1 rfl ?_
  refine x_aloadn dL_value_2 rfl ?_
  refine x_iloadn dL_value_3 rfl ?_
  cases r with
  | error E =>
    obtain ⟨i, h1, h2, rfl⟩ := hE
    refine X.less (bc' := a6 + 0) (bs' := b6 + 0) ?_ (Nat.le_refl _) (Nat.le_refl _)
    refine y_callVe (bc := 0) (bs := 0) (cs_L_101 _) (ci := 7) rfl H0.1 H0.2 (As := [.int x1]) (rest := [.int 0, .ref o]) rfl rfl (Nat.le_of_ble_eq_true rfl) (dep (show d + 1 ≤ d + 1 from Nat.le_refl _) (Nat.le_of_ble_eq_true rfl)) dL_value_4 hc ?_
    rcases (show i = 0 ∨ i = 1 ∨ i = 2 by omega) with rfl | rfl | rfl
    · cases h1
      refine XT.catch [] _ [_] rfl (fun z hz => by cases hz) rfl (by decide) (show Cond.classLink RL 21 "java/lang/IllegalStateException" ∈ wsG from inT4 223 rfl rfl) (List.mem_filter.mpr ⟨castISE, rfl⟩) rfl (Or.inr ⟨3, dL_value_12, rfl, rfl⟩) (Nat.le_of_ble_eq_true rfl) rfl ?_
      refine x_iconst 1 dL_value_13 rfl ?_
      exact x_iret rfl dL_value_14 ⟨rfl, rfl, rfl⟩
    · cases h1
      refine XT.catch [_] _ [] rfl (fun z hz => by obtain rfl := List.mem_singleton.mp hz; exact Or.inr ⟨by decide, "java/lang/IllegalStateException", (show Cond.classLink RL 21 "java/lang/IllegalStateException" ∈ wsG from inT4 223 rfl rfl), by decide +kernel⟩) rfl (by decide) (show Cond.classLink RL 13 "java/lang/IndexOutOfBoundsException" ∈ wsG from inT2 187 rfl rfl) (List.mem_filter.mpr ⟨castIOB, rfl⟩) rfl (Or.inr ⟨3, dL_value_15, rfl, rfl⟩) (Nat.le_of_ble_eq_true rfl) rfl ?_
      refine x_iconst 2 dL_value_16 rfl ?_
      exact x_iret rfl dL_value_17 ⟨rfl, rfl, rfl⟩
    · cases h1
  | ok v =>
    obtain rfl : t = 0 := hE
    refine X.less (bc' := a6 + 0) (bs' := b6 + 0) ?_ (Nat.le_refl _) (Nat.le_refl _)
    refine y_callV1 (bc := 0) (bs := 0) (cs_L_101 _) (ci := 7) rfl H0.1 H0.2 (As := [.int x1]) (rest := [.int 0, .ref o]) rfl rfl (Nat.le_of_ble_eq_true rfl) (dep (show d + 1 ≤ d + 1 from Nat.le_refl _) (Nat.le_of_ble_eq_true rfl)) dL_value_4 hc ?_
    refine x_i2l dL_value_7 ?_
    refine x_last Ho.1 Ho.2 (j := 0) rfl ⟨by decide, by decide⟩ dL_value_8 ?_
    refine x_goto 18 dL_value_9 rfl ?_
    refine x_iconst 0 dL_value_18 rfl ?_
    exact x_iret rfl dL_value_19 ⟨rfl, rfl, rfl⟩
theorem wL_owner (d : Nat) {K K1 : Kt} {I I1 : Mem} {x0 o a6 b6 : Nat} {x1 : Int32} {r : Except String Int32} {t : Int32} (H0 : LO K 7 x0) (Ho : LA K1 103 1 o) (hc : Ct (mX9_owner d) cX9_owner a6 b6 [.ref x0, .int x1] I K (Ro (rI r) I1 K1)) (hE : Ec ["java/lang/IllegalStateException", "java/lang/IndexOutOfBoundsException"] r t) : Ct (mL_owner (d + 1)) cL_owner a6 b6 [.ref x0, .int x1, .ref o] I K (Ro (.inl (some (.int t))) I1 (KJ K1 o r)) := by
  refine Ct.ofH rfl pn_L (catR (catI (catR cat0))) (Nat.le_of_ble_eq_true rfl) (show X _ _ _ _ _ _ 0 [.ref x0, .int x1, .ref o, .retAddr 0] [] _ from ?_)
  refine x_aloadn dL_owner_0 rfl ?_
  refine x_iconst 0 dL_owner_1 rfl ?_
  refine x_aloadn dL_owner_2 rfl ?_
  refine x_iloadn dL_owner_3 rfl ?_
  cases r with
  | error E =>
    obtain ⟨i, h1, h2, rfl⟩ := hE
    refine X.less (bc' := a6 + 0) (bs' := b6 + 0) ?_ (Nat.le_refl _) (Nat.le_refl _)
    refine y_callVe (bc := 0) (bs := 0) (cs_L_104 _) (ci := 7) rfl H0.1 H0.2 (As := [.int x1]) (rest := [.int 0, .ref o]) rfl rfl (Nat.le_of_ble_eq_true rfl) (dep (show d + 1 ≤ d + 1 from Nat.le_refl _) (Nat.le_of_ble_eq_true rfl)) dL_owner_4 hc ?_
    rcases (show i = 0 ∨ i = 1 ∨ i = 2 by omega) with rfl | rfl | rfl
    · cases h1
      refine XT.catch [] _ [_] rfl (fun z hz => by cases hz) rfl (by decide) (show Cond.classLink RL 21 "java/lang/IllegalStateException" ∈ wsG from inT4 223 rfl rfl) (List.mem_filter.mpr ⟨castISE, rfl⟩) rfl (Or.inr ⟨3, dL_owner_12, rfl, rfl⟩) (Nat.le_of_ble_eq_true rfl) rfl ?_
      refine x_iconst 1 dL_owner_13 rfl ?_
      exact x_iret rfl dL_owner_14 ⟨rfl, rfl, rfl⟩
    · cases h1
      refine XT.catch [_] _ [] rfl (fun z hz => by obtain rfl := List.mem_singleton.mp hz; exact Or.inr ⟨by decide, "java/lang/IllegalStateException", (show Cond.classLink RL 21 "java/lang/IllegalStateException" ∈ wsG from inT4 223 rfl rfl), by decide +kernel⟩) rfl (by decide) (show Cond.classLink RL 13 "java/lang/IndexOutOfBoundsException" ∈ wsG from inT2 187 rfl rfl) (List.mem_filter.mpr ⟨castIOB, rfl⟩) rfl (Or.inr ⟨3, dL_owner_15, rfl, rfl⟩) (Nat.le_of_ble_eq_true rfl) rfl ?_
      refine x_iconst 2 dL_owner_16 rfl ?_
      exact x_iret rfl dL_owner_17 ⟨rfl, rfl, rfl⟩
    · cases h1
  | ok v =>
    obtain rfl : t = 0 := hE
    refine X.less (bc' := a6 + 0) (bs' := b6 + 0) ?_ (Nat.le_refl _) (Nat.le_refl _)
    refine y_callV1 (bc := 0) (bs := 0) (cs_L_104 _) (ci := 7) rfl H0.1 H0.2 (As := [.int x1]) (rest := [.int 0, .ref o]) rfl rfl (Nat.le_of_ble_eq_true rfl) (dep (show d + 1 ≤ d + 1 from Nat.le_refl _) (Nat.le_of_ble_eq_true rfl)) dL_owner_4 hc ?_
    refine x_i2l dL_owner_7 ?_
    refine x_last Ho.1 Ho.2 (j := 0) rfl ⟨by decide, by decide⟩ dL_owner_8 ?_
    refine x_goto 18 dL_owner_9 rfl ?_
    refine x_iconst 0 dL_owner_18 rfl ?_
    exact x_iret rfl dL_owner_19 ⟨rfl, rfl, rfl⟩
theorem wL_stallOf (d : Nat) {K K1 : Kt} {I I1 : Mem} {x0 o a6 b6 : Nat} {x1 : Int32} {r : Except String Int32} {t : Int32} (H0 : LO K 7 x0) (Ho : LA K1 103 1 o) (hc : Ct (mX9_stallOf d) cX9_stallOf a6 b6 [.ref x0, .int x1] I K (Ro (rI r) I1 K1)) (hE : Ec ["java/lang/IllegalStateException", "java/lang/IndexOutOfBoundsException"] r t) : Ct (mL_stallOf (d + 1)) cL_stallOf a6 b6 [.ref x0, .int x1, .ref o] I K (Ro (.inl (some (.int t))) I1 (KJ K1 o r)) := by
  refine Ct.ofH rfl pn_L (catR (catI (catR cat0))) (Nat.le_of_ble_eq_true rfl) (show X _ _ _ _ _ _ 0 [.ref x0, .int x1, .ref o, .retAddr 0] [] _ from ?_)
  refine x_aloadn dL_stallOf_0 rfl ?_
  refine x_iconst 0 dL_stallOf_1 rfl ?_
  refine x_aloadn dL_stallOf_2 rfl ?_
  refine x_iloadn dL_stallOf_3 rfl ?_
  cases r with
  | error E =>
    obtain ⟨i, h1, h2, rfl⟩ := hE
    refine X.less (bc' := a6 + 0) (bs' := b6 + 0) ?_ (Nat.le_refl _) (Nat.le_refl _)
    refine y_callVe (bc := 0) (bs := 0) (cs_L_107 _) (ci := 7) rfl H0.1 H0.2 (As := [.int x1]) (rest := [.int 0, .ref o]) rfl rfl (Nat.le_of_ble_eq_true rfl) (dep (show d + 1 ≤ d + 1 from Nat.le_refl _) (Nat.le_of_ble_eq_true rfl)) dL_stallOf_4 hc ?_
    rcases (show i = 0 ∨ i = 1 ∨ i = 2 by omega) with rfl | rfl | rfl
    · cases h1
      refine XT.catch [] _ [_] rfl (fun z hz => by cases hz) rfl (by decide) (show Cond.classLink RL 21 "java/lang/IllegalStateException" ∈ wsG from inT4 223 rfl rfl) (List.mem_filter.mpr ⟨castISE, rfl⟩) rfl (Or.inr ⟨3, dL_stallOf_12, rfl, rfl⟩) (Nat.le_of_ble_eq_true rfl) rfl ?_
      refine x_iconst 1 dL_stallOf_13 rfl ?_
      exact x_iret rfl dL_stallOf_14 ⟨rfl, rfl, rfl⟩
    · cases h1
      refine XT.catch [_] _ [] rfl (fun z hz => by obtain rfl := List.mem_singleton.mp hz; exact Or.inr ⟨by decide, "java/lang/IllegalStateException", (show Cond.classLink RL 21 "java/lang/IllegalStateException" ∈ wsG from inT4 223 rfl rfl), by decide +kernel⟩) rfl (by decide) (show Cond.classLink RL 13 "java/lang/IndexOutOfBoundsException" ∈ wsG from inT2 187 rfl rfl) (List.mem_filter.mpr ⟨castIOB, rfl⟩) rfl (Or.inr ⟨3, dL_stallOf_15, rfl, rfl⟩) (Nat.le_of_ble_eq_true rfl) rfl ?_
      refine x_iconst 2 dL_stallOf_16 rfl ?_
      exact x_iret rfl dL_stallOf_17 ⟨rfl, rfl, rfl⟩
    · cases h1
  | ok v =>
    obtain rfl : t = 0 := hE
    refine X.less (bc' := a6 + 0) (bs' := b6 + 0) ?_ (Nat.le_refl _) (Nat.le_refl _)
    refine y_callV1 (bc := 0) (bs := 0) (cs_L_107 _) (ci := 7) rfl H0.1 H0.2 (As := [.int x1]) (rest := [.int 0, .ref o]) rfl rfl (Nat.le_of_ble_eq_true rfl) (dep (show d + 1 ≤ d + 1 from Nat.le_refl _) (Nat.le_of_ble_eq_true rfl)) dL_stallOf_4 hc ?_
    refine x_i2l dL_stallOf_7 ?_
    refine x_last Ho.1 Ho.2 (j := 0) rfl ⟨by decide, by decide⟩ dL_stallOf_8 ?_
    refine x_goto 18 dL_stallOf_9 rfl ?_
    refine x_iconst 0 dL_stallOf_18 rfl ?_
    exact x_iret rfl dL_stallOf_19 ⟨rfl, rfl, rfl⟩
theorem wL_isGranted (d : Nat) {K K1 : Kt} {I I1 : Mem} {x0 o a6 b6 : Nat} {x1 : Int32} {r : Except String Int32} {t : Int32} (H0 : LO K 7 x0) (Ho : LA K1 103 1 o) (hc : Ct (mX9_isGranted d) cX9_isGranted a6 b6 [.ref x0, .int x1] I K (Ro (rI r) I1 K1)) (hE : Ec ["java/lang/IllegalStateException", "java/lang/IndexOutOfBoundsException"] r t) (hv : ∀ v, r = .ok v → v = 0 ∨ v = 1) : Ct (mL_isGranted (d + 1)) cL_isGranted a6 b6 [.ref x0, .int x1, .ref o] I K (Ro (.inl (some (.int t))) I1 (KJ K1 o r)) := by
  refine Ct.ofH rfl pn_L (catR (catI (catR cat0))) (Nat.le_of_ble_eq_true rfl) (show X _ _ _ _ _ _ 0 [.ref x0, .int x1, .ref o, .retAddr 0] [] _ from ?_)
  refine x_aloadn dL_isGranted_0 rfl ?_
  refine x_iconst 0 dL_isGranted_1 rfl ?_
  refine x_aloadn dL_isGranted_2 rfl ?_
  refine x_iloadn dL_isGranted_3 rfl ?_
  cases r with
  | error E =>
    obtain ⟨i, h1, h2, rfl⟩ := hE
    refine X.less (bc' := a6 + 0) (bs' := b6 + 0) ?_ (Nat.le_refl _) (Nat.le_refl _)
    refine y_callVe (bc := 0) (bs := 0) (cs_L_110 _) (ci := 7) rfl H0.1 H0.2 (As := [.int x1]) (rest := [.int 0, .ref o]) rfl rfl (Nat.le_of_ble_eq_true rfl) (dep (show d + 1 ≤ d + 1 from Nat.le_refl _) (Nat.le_of_ble_eq_true rfl)) dL_isGranted_4 hc ?_
    rcases (show i = 0 ∨ i = 1 ∨ i = 2 by omega) with rfl | rfl | rfl
    · cases h1
      refine XT.catch [] _ [_] rfl (fun z hz => by cases hz) rfl (by decide) (show Cond.classLink RL 21 "java/lang/IllegalStateException" ∈ wsG from inT4 223 rfl rfl) (List.mem_filter.mpr ⟨castISE, rfl⟩) rfl (Or.inr ⟨3, dL_isGranted_19, rfl, rfl⟩) (Nat.le_of_ble_eq_true rfl) rfl ?_
      refine x_iconst 1 dL_isGranted_20 rfl ?_
      exact x_iret rfl dL_isGranted_21 ⟨rfl, rfl, rfl⟩
    · cases h1
      refine XT.catch [_] _ [] rfl (fun z hz => by obtain rfl := List.mem_singleton.mp hz; exact Or.inr ⟨by decide, "java/lang/IllegalStateException", (show Cond.classLink RL 21 "java/lang/IllegalStateException" ∈ wsG from inT4 223 rfl rfl), by decide +kernel⟩) rfl (by decide) (show Cond.classLink RL 13 "java/lang/IndexOutOfBoundsException" ∈ wsG from inT2 187 rfl rfl) (List.mem_filter.mpr ⟨castIOB, rfl⟩) rfl (Or.inr ⟨3, dL_isGranted_22, rfl, rfl⟩) (Nat.le_of_ble_eq_true rfl) rfl ?_
      refine x_iconst 2 dL_isGranted_23 rfl ?_
      exact x_iret rfl dL_isGranted_24 ⟨rfl, rfl, rfl⟩
    · cases h1
  | ok v =>
    obtain rfl : t = 0 := hE
    refine X.less (bc' := a6 + 0) (bs' := b6 + 0) ?_ (Nat.le_refl _) (Nat.le_refl _)
    refine y_callV1 (bc := 0) (bs := 0) (cs_L_110 _) (ci := 7) rfl H0.1 H0.2 (As := [.int x1]) (rest := [.int 0, .ref o]) rfl rfl (Nat.le_of_ble_eq_true rfl) (dep (show d + 1 ≤ d + 1 from Nat.le_refl _) (Nat.le_of_ble_eq_true rfl)) dL_isGranted_4 hc ?_
    rcases hv v rfl with rfl | rfl
    · refine x_if_eq 14 dL_isGranted_7 rfl (fun _ => ?_) (fun hn => absurd rfl hn)
      refine x_lconst 0 dL_isGranted_14 rfl ?_
      refine x_last Ho.1 Ho.2 (j := 0) rfl ⟨by decide, by decide⟩ dL_isGranted_15 ?_
      refine x_goto 25 dL_isGranted_16 rfl ?_
      refine x_iconst 0 dL_isGranted_25 rfl ?_
      exact x_iret rfl dL_isGranted_26 ⟨rfl, rfl, rfl⟩
    · refine x_if_eq 14 dL_isGranted_7 rfl (fun hn => absurd hn (by decide)) (fun _ => ?_)
      refine x_lconst 1 dL_isGranted_10 rfl ?_
      refine x_goto 15 dL_isGranted_11 rfl ?_
      refine x_last Ho.1 Ho.2 (j := 0) rfl ⟨by decide, by decide⟩ dL_isGranted_15 ?_
      refine x_goto 25 dL_isGranted_16 rfl ?_
      refine x_iconst 0 dL_isGranted_25 rfl ?_
      exact x_iret rfl dL_isGranted_26 ⟨rfl, rfl, rfl⟩
theorem wL_purchaseDay (d : Nat) {K K1 : Kt} {I I1 : Mem} {x0 o a6 b6 : Nat} {x1 : Int32} {r : Except String Int32} {t : Int32} (H0 : LO K 7 x0) (Ho : LA K1 103 1 o) (hc : Ct (mX9_purchaseDay d) cX9_purchaseDay a6 b6 [.ref x0, .int x1] I K (Ro (rI r) I1 K1)) (hE : Ec ["java/lang/IllegalStateException", "java/lang/IndexOutOfBoundsException"] r t) : Ct (mL_purchaseDay (d + 1)) cL_purchaseDay a6 b6 [.ref x0, .int x1, .ref o] I K (Ro (.inl (some (.int t))) I1 (KJ K1 o r)) := by
  refine Ct.ofH rfl pn_L (catR (catI (catR cat0))) (Nat.le_of_ble_eq_true rfl) (show X _ _ _ _ _ _ 0 [.ref x0, .int x1, .ref o, .retAddr 0] [] _ from ?_)
  refine x_aloadn dL_purchaseDay_0 rfl ?_
  refine x_iconst 0 dL_purchaseDay_1 rfl ?_
  refine x_aloadn dL_purchaseDay_2 rfl ?_
  refine x_iloadn dL_purchaseDay_3 rfl ?_
  cases r with
  | error E =>
    obtain ⟨i, h1, h2, rfl⟩ := hE
    refine X.less (bc' := a6 + 0) (bs' := b6 + 0) ?_ (Nat.le_refl _) (Nat.le_refl _)
    refine y_callVe (bc := 0) (bs := 0) (cs_L_114 _) (ci := 7) rfl H0.1 H0.2 (As := [.int x1]) (rest := [.int 0, .ref o]) rfl rfl (Nat.le_of_ble_eq_true rfl) (dep (show d + 1 ≤ d + 1 from Nat.le_refl _) (Nat.le_of_ble_eq_true rfl)) dL_purchaseDay_4 hc ?_
    rcases (show i = 0 ∨ i = 1 ∨ i = 2 by omega) with rfl | rfl | rfl
    · cases h1
      refine XT.catch [] _ [_] rfl (fun z hz => by cases hz) rfl (by decide) (show Cond.classLink RL 21 "java/lang/IllegalStateException" ∈ wsG from inT4 223 rfl rfl) (List.mem_filter.mpr ⟨castISE, rfl⟩) rfl (Or.inr ⟨3, dL_purchaseDay_12, rfl, rfl⟩) (Nat.le_of_ble_eq_true rfl) rfl ?_
      refine x_iconst 1 dL_purchaseDay_13 rfl ?_
      exact x_iret rfl dL_purchaseDay_14 ⟨rfl, rfl, rfl⟩
    · cases h1
      refine XT.catch [_] _ [] rfl (fun z hz => by obtain rfl := List.mem_singleton.mp hz; exact Or.inr ⟨by decide, "java/lang/IllegalStateException", (show Cond.classLink RL 21 "java/lang/IllegalStateException" ∈ wsG from inT4 223 rfl rfl), by decide +kernel⟩) rfl (by decide) (show Cond.classLink RL 13 "java/lang/IndexOutOfBoundsException" ∈ wsG from inT2 187 rfl rfl) (List.mem_filter.mpr ⟨castIOB, rfl⟩) rfl (Or.inr ⟨3, dL_purchaseDay_15, rfl, rfl⟩) (Nat.le_of_ble_eq_true rfl) rfl ?_
      refine x_iconst 2 dL_purchaseDay_16 rfl ?_
      exact x_iret rfl dL_purchaseDay_17 ⟨rfl, rfl, rfl⟩
    · cases h1
  | ok v =>
    obtain rfl : t = 0 := hE
    refine X.less (bc' := a6 + 0) (bs' := b6 + 0) ?_ (Nat.le_refl _) (Nat.le_refl _)
    refine y_callV1 (bc := 0) (bs := 0) (cs_L_114 _) (ci := 7) rfl H0.1 H0.2 (As := [.int x1]) (rest := [.int 0, .ref o]) rfl rfl (Nat.le_of_ble_eq_true rfl) (dep (show d + 1 ≤ d + 1 from Nat.le_refl _) (Nat.le_of_ble_eq_true rfl)) dL_purchaseDay_4 hc ?_
    refine x_i2l dL_purchaseDay_7 ?_
    refine x_last Ho.1 Ho.2 (j := 0) rfl ⟨by decide, by decide⟩ dL_purchaseDay_8 ?_
    refine x_goto 18 dL_purchaseDay_9 rfl ?_
    refine x_iconst 0 dL_purchaseDay_18 rfl ?_
    exact x_iret rfl dL_purchaseDay_19 ⟨rfl, rfl, rfl⟩
theorem wL_purchasePrice (d : Nat) {K K1 : Kt} {I I1 : Mem} {x0 o a6 b6 : Nat} {x1 : Int32} {r : Except String Int32} {t : Int32} (H0 : LO K 7 x0) (Ho : LA K1 103 1 o) (hc : Ct (mX9_purchasePrice d) cX9_purchasePrice a6 b6 [.ref x0, .int x1] I K (Ro (rI r) I1 K1)) (hE : Ec ["java/lang/IllegalStateException", "java/lang/IndexOutOfBoundsException"] r t) : Ct (mL_purchasePrice (d + 1)) cL_purchasePrice a6 b6 [.ref x0, .int x1, .ref o] I K (Ro (.inl (some (.int t))) I1 (KJ K1 o r)) := by
  refine Ct.ofH rfl pn_L (catR (catI (catR cat0))) (Nat.le_of_ble_eq_true rfl) (show X _ _ _ _ _ _ 0 [.ref x0, .int x1, .ref o, .retAddr 0] [] _ from ?_)
  refine x_aloadn dL_purchasePrice_0 rfl ?_
  refine x_iconst 0 dL_purchasePrice_1 rfl ?_
  refine x_aloadn dL_purchasePrice_2 rfl ?_
  refine x_iloadn dL_purchasePrice_3 rfl ?_
  cases r with
  | error E =>
    obtain ⟨i, h1, h2, rfl⟩ := hE
    refine X.less (bc' := a6 + 0) (bs' := b6 + 0) ?_ (Nat.le_refl _) (Nat.le_refl _)
    refine y_callVe (bc := 0) (bs := 0) (cs_L_117 _) (ci := 7) rfl H0.1 H0.2 (As := [.int x1]) (rest := [.int 0, .ref o]) rfl rfl (Nat.le_of_ble_eq_true rfl) (dep (show d + 1 ≤ d + 1 from Nat.le_refl _) (Nat.le_of_ble_eq_true rfl)) dL_purchasePrice_4 hc ?_
    rcases (show i = 0 ∨ i = 1 ∨ i = 2 by omega) with rfl | rfl | rfl
    · cases h1
      refine XT.catch [] _ [_] rfl (fun z hz => by cases hz) rfl (by decide) (show Cond.classLink RL 21 "java/lang/IllegalStateException" ∈ wsG from inT4 223 rfl rfl) (List.mem_filter.mpr ⟨castISE, rfl⟩) rfl (Or.inr ⟨3, dL_purchasePrice_12, rfl, rfl⟩) (Nat.le_of_ble_eq_true rfl) rfl ?_
      refine x_iconst 1 dL_purchasePrice_13 rfl ?_
      exact x_iret rfl dL_purchasePrice_14 ⟨rfl, rfl, rfl⟩
    · cases h1
      refine XT.catch [_] _ [] rfl (fun z hz => by obtain rfl := List.mem_singleton.mp hz; exact Or.inr ⟨by decide, "java/lang/IllegalStateException", (show Cond.classLink RL 21 "java/lang/IllegalStateException" ∈ wsG from inT4 223 rfl rfl), by decide +kernel⟩) rfl (by decide) (show Cond.classLink RL 13 "java/lang/IndexOutOfBoundsException" ∈ wsG from inT2 187 rfl rfl) (List.mem_filter.mpr ⟨castIOB, rfl⟩) rfl (Or.inr ⟨3, dL_purchasePrice_15, rfl, rfl⟩) (Nat.le_of_ble_eq_true rfl) rfl ?_
      refine x_iconst 2 dL_purchasePrice_16 rfl ?_
      exact x_iret rfl dL_purchasePrice_17 ⟨rfl, rfl, rfl⟩
    · cases h1
  | ok v =>
    obtain rfl : t = 0 := hE
    refine X.less (bc' := a6 + 0) (bs' := b6 + 0) ?_ (Nat.le_refl _) (Nat.le_refl _)
    refine y_callV1 (bc := 0) (bs := 0) (cs_L_117 _) (ci := 7) rfl H0.1 H0.2 (As := [.int x1]) (rest := [.int 0, .ref o]) rfl rfl (Nat.le_of_ble_eq_true rfl) (dep (show d + 1 ≤ d + 1 from Nat.le_refl _) (Nat.le_of_ble_eq_true rfl)) dL_purchasePrice_4 hc ?_
    refine x_i2l dL_purchasePrice_7 ?_
    refine x_last Ho.1 Ho.2 (j := 0) rfl ⟨by decide, by decide⟩ dL_purchasePrice_8 ?_
    refine x_goto 18 dL_purchasePrice_9 rfl ?_
    refine x_iconst 0 dL_purchasePrice_18 rfl ?_
    exact x_iret rfl dL_purchasePrice_19 ⟨rfl, rfl, rfl⟩
theorem wL_price (d : Nat) {K K1 : Kt} {I I1 : Mem} {x0 o a6 b6 : Nat} {x1 : Int32} {r : Except String Int32} {t : Int32} (H0 : LO K 7 x0) (Ho : LA K1 103 1 o) (hc : Ct (mX9_price d) cX9_price a6 b6 [.ref x0, .int x1] I K (Ro (rI r) I1 K1)) (hE : Ec ["java/lang/IllegalStateException", "java/lang/IndexOutOfBoundsException"] r t) : Ct (mL_price (d + 1)) cL_price a6 b6 [.ref x0, .int x1, .ref o] I K (Ro (.inl (some (.int t))) I1 (KJ K1 o r)) := by
  refine Ct.ofH rfl pn_L (catR (catI (catR cat0))) (Nat.le_of_ble_eq_true rfl) (show X _ _ _ _ _ _ 0 [.ref x0, .int x1, .ref o, .retAddr 0] [] _ from ?_)
  refine x_aloadn dL_price_0 rfl ?_
  refine x_iconst 0 dL_price_1 rfl ?_
  refine x_aloadn dL_price_2 rfl ?_
  refine x_iloadn dL_price_3 rfl ?_
  cases r with
  | error E =>
    obtain ⟨i, h1, h2, rfl⟩ := hE
    refine X.less (bc' := a6 + 0) (bs' := b6 + 0) ?_ (Nat.le_refl _) (Nat.le_refl _)
    refine y_callVe (bc := 0) (bs := 0) (cs_L_120 _) (ci := 7) rfl H0.1 H0.2 (As := [.int x1]) (rest := [.int 0, .ref o]) rfl rfl (Nat.le_of_ble_eq_true rfl) (dep (show d + 1 ≤ d + 1 from Nat.le_refl _) (Nat.le_of_ble_eq_true rfl)) dL_price_4 hc ?_
    rcases (show i = 0 ∨ i = 1 ∨ i = 2 by omega) with rfl | rfl | rfl
    · cases h1
      refine XT.catch [] _ [_] rfl (fun z hz => by cases hz) rfl (by decide) (show Cond.classLink RL 21 "java/lang/IllegalStateException" ∈ wsG from inT4 223 rfl rfl) (List.mem_filter.mpr ⟨castISE, rfl⟩) rfl (Or.inr ⟨3, dL_price_12, rfl, rfl⟩) (Nat.le_of_ble_eq_true rfl) rfl ?_
      refine x_iconst 1 dL_price_13 rfl ?_
      exact x_iret rfl dL_price_14 ⟨rfl, rfl, rfl⟩
    · cases h1
      refine XT.catch [_] _ [] rfl (fun z hz => by obtain rfl := List.mem_singleton.mp hz; exact Or.inr ⟨by decide, "java/lang/IllegalStateException", (show Cond.classLink RL 21 "java/lang/IllegalStateException" ∈ wsG from inT4 223 rfl rfl), by decide +kernel⟩) rfl (by decide) (show Cond.classLink RL 13 "java/lang/IndexOutOfBoundsException" ∈ wsG from inT2 187 rfl rfl) (List.mem_filter.mpr ⟨castIOB, rfl⟩) rfl (Or.inr ⟨3, dL_price_15, rfl, rfl⟩) (Nat.le_of_ble_eq_true rfl) rfl ?_
      refine x_iconst 2 dL_price_16 rfl ?_
      exact x_iret rfl dL_price_17 ⟨rfl, rfl, rfl⟩
    · cases h1
  | ok v =>
    obtain rfl : t = 0 := hE
    refine X.less (bc' := a6 + 0) (bs' := b6 + 0) ?_ (Nat.le_refl _) (Nat.le_refl _)
    refine y_callV1 (bc := 0) (bs := 0) (cs_L_120 _) (ci := 7) rfl H0.1 H0.2 (As := [.int x1]) (rest := [.int 0, .ref o]) rfl rfl (Nat.le_of_ble_eq_true rfl) (dep (show d + 1 ≤ d + 1 from Nat.le_refl _) (Nat.le_of_ble_eq_true rfl)) dL_price_4 hc ?_
    refine x_i2l dL_price_7 ?_
    refine x_last Ho.1 Ho.2 (j := 0) rfl ⟨by decide, by decide⟩ dL_price_8 ?_
    refine x_goto 18 dL_price_9 rfl ?_
    refine x_iconst 0 dL_price_18 rfl ?_
    exact x_iret rfl dL_price_19 ⟨rfl, rfl, rfl⟩
theorem wL_offer (d : Nat) {K K1 : Kt} {I I1 : Mem} {x0 o a6 b6 : Nat} {x1 x2 : Int32} {r : Except String Int32} {t : Int32} (H0 : LO K 7 x0) (Ho : LA K1 103 1 o) (hc : Ct (mX9_offer d) cX9_offer a6 b6 [.ref x0, .int x1, .int x2] I K (Ro (rI r) I1 K1)) (hE : Ec ["java/lang/IllegalStateException", "java/lang/IndexOutOfBoundsException"] r t) : Ct (mL_offer (d + 1)) cL_offer a6 b6 [.ref x0, .int x1, .int x2, .ref o] I K (Ro (.inl (some (.int t))) I1 (KJ K1 o r)) := by
  refine Ct.ofH rfl pn_L (catR (catI (catI (catR cat0)))) (Nat.le_of_ble_eq_true rfl) (show X _ _ _ _ _ _ 0 [.ref x0, .int x1, .int x2, .ref o, .retAddr 0] [] _ from ?_)
  refine x_aloadn dL_offer_0 rfl ?_
  refine x_iconst 0 dL_offer_1 rfl ?_
  refine x_aloadn dL_offer_2 rfl ?_
  refine x_iloadn dL_offer_3 rfl ?_
  refine x_iloadn dL_offer_4 rfl ?_
  cases r with
  | error E =>
    obtain ⟨i, h1, h2, rfl⟩ := hE
    refine X.less (bc' := a6 + 0) (bs' := b6 + 0) ?_ (Nat.le_refl _) (Nat.le_refl _)
    refine y_callVe (bc := 0) (bs := 0) (cs_L_123 _) (ci := 7) rfl H0.1 H0.2 (As := [.int x1, .int x2]) (rest := [.int 0, .ref o]) rfl rfl (Nat.le_of_ble_eq_true rfl) (dep (show d + 1 ≤ d + 1 from Nat.le_refl _) (Nat.le_of_ble_eq_true rfl)) dL_offer_5 hc ?_
    rcases (show i = 0 ∨ i = 1 ∨ i = 2 by omega) with rfl | rfl | rfl
    · cases h1
      refine XT.catch [] _ [_] rfl (fun z hz => by cases hz) rfl (by decide) (show Cond.classLink RL 21 "java/lang/IllegalStateException" ∈ wsG from inT4 223 rfl rfl) (List.mem_filter.mpr ⟨castISE, rfl⟩) rfl (Or.inl ⟨dL_offer_13, rfl⟩) (Nat.le_of_ble_eq_true rfl) rfl ?_
      refine x_iconst 1 dL_offer_15 rfl ?_
      exact x_iret rfl dL_offer_16 ⟨rfl, rfl, rfl⟩
    · cases h1
      refine XT.catch [_] _ [] rfl (fun z hz => by obtain rfl := List.mem_singleton.mp hz; exact Or.inr ⟨by decide, "java/lang/IllegalStateException", (show Cond.classLink RL 21 "java/lang/IllegalStateException" ∈ wsG from inT4 223 rfl rfl), by decide +kernel⟩) rfl (by decide) (show Cond.classLink RL 13 "java/lang/IndexOutOfBoundsException" ∈ wsG from inT2 187 rfl rfl) (List.mem_filter.mpr ⟨castIOB, rfl⟩) rfl (Or.inl ⟨dL_offer_17, rfl⟩) (Nat.le_of_ble_eq_true rfl) rfl ?_
      refine x_iconst 2 dL_offer_19 rfl ?_
      exact x_iret rfl dL_offer_20 ⟨rfl, rfl, rfl⟩
    · cases h1
  | ok v =>
    obtain rfl : t = 0 := hE
    refine X.less (bc' := a6 + 0) (bs' := b6 + 0) ?_ (Nat.le_refl _) (Nat.le_refl _)
    refine y_callV1 (bc := 0) (bs := 0) (cs_L_123 _) (ci := 7) rfl H0.1 H0.2 (As := [.int x1, .int x2]) (rest := [.int 0, .ref o]) rfl rfl (Nat.le_of_ble_eq_true rfl) (dep (show d + 1 ≤ d + 1 from Nat.le_refl _) (Nat.le_of_ble_eq_true rfl)) dL_offer_5 hc ?_
    refine x_i2l dL_offer_8 ?_
    refine x_last Ho.1 Ho.2 (j := 0) rfl ⟨by decide, by decide⟩ dL_offer_9 ?_
    refine x_goto 21 dL_offer_10 rfl ?_
    refine x_iconst 0 dL_offer_21 rfl ?_
    exact x_iret rfl dL_offer_22 ⟨rfl, rfl, rfl⟩
theorem wL_refund (d : Nat) {K K1 : Kt} {I I1 : Mem} {x0 o a6 b6 : Nat} {x1 : Int32} {r : Except String Int32} {t : Int32} (H0 : LO K 7 x0) (Ho : LA K1 103 1 o) (hc : Ct (mX9_refund d) cX9_refund a6 b6 [.ref x0, .int x1] I K (Ro (rI r) I1 K1)) (hE : Ec ["java/lang/IllegalStateException", "java/lang/IndexOutOfBoundsException"] r t) : Ct (mL_refund (d + 1)) cL_refund a6 b6 [.ref x0, .int x1, .ref o] I K (Ro (.inl (some (.int t))) I1 (KJ K1 o r)) := by
  refine Ct.ofH rfl pn_L (catR (catI (catR cat0))) (Nat.le_of_ble_eq_true rfl) (show X _ _ _ _ _ _ 0 [.ref x0, .int x1, .ref o, .retAddr 0] [] _ from ?_)
  refine x_aloadn dL_refund_0 rfl ?_
  refine x_iconst 0 dL_refund_1 rfl ?_
  refine x_aloadn dL_refund_2 rfl ?_
  refine x_iloadn dL_refund_3 rfl ?_
  cases r with
  | error E =>
    obtain ⟨i, h1, h2, rfl⟩ := hE
    refine X.less (bc' := a6 + 0) (bs' := b6 + 0) ?_ (Nat.le_refl _) (Nat.le_refl _)
    refine y_callVe (bc := 0) (bs := 0) (cs_L_126 _) (ci := 7) rfl H0.1 H0.2 (As := [.int x1]) (rest := [.int 0, .ref o]) rfl rfl (Nat.le_of_ble_eq_true rfl) (dep (show d + 1 ≤ d + 1 from Nat.le_refl _) (Nat.le_of_ble_eq_true rfl)) dL_refund_4 hc ?_
    rcases (show i = 0 ∨ i = 1 ∨ i = 2 by omega) with rfl | rfl | rfl
    · cases h1
      refine XT.catch [] _ [_] rfl (fun z hz => by cases hz) rfl (by decide) (show Cond.classLink RL 21 "java/lang/IllegalStateException" ∈ wsG from inT4 223 rfl rfl) (List.mem_filter.mpr ⟨castISE, rfl⟩) rfl (Or.inr ⟨3, dL_refund_12, rfl, rfl⟩) (Nat.le_of_ble_eq_true rfl) rfl ?_
      refine x_iconst 1 dL_refund_13 rfl ?_
      exact x_iret rfl dL_refund_14 ⟨rfl, rfl, rfl⟩
    · cases h1
      refine XT.catch [_] _ [] rfl (fun z hz => by obtain rfl := List.mem_singleton.mp hz; exact Or.inr ⟨by decide, "java/lang/IllegalStateException", (show Cond.classLink RL 21 "java/lang/IllegalStateException" ∈ wsG from inT4 223 rfl rfl), by decide +kernel⟩) rfl (by decide) (show Cond.classLink RL 13 "java/lang/IndexOutOfBoundsException" ∈ wsG from inT2 187 rfl rfl) (List.mem_filter.mpr ⟨castIOB, rfl⟩) rfl (Or.inr ⟨3, dL_refund_15, rfl, rfl⟩) (Nat.le_of_ble_eq_true rfl) rfl ?_
      refine x_iconst 2 dL_refund_16 rfl ?_
      exact x_iret rfl dL_refund_17 ⟨rfl, rfl, rfl⟩
    · cases h1
  | ok v =>
    obtain rfl : t = 0 := hE
    refine X.less (bc' := a6 + 0) (bs' := b6 + 0) ?_ (Nat.le_refl _) (Nat.le_refl _)
    refine y_callV1 (bc := 0) (bs := 0) (cs_L_126 _) (ci := 7) rfl H0.1 H0.2 (As := [.int x1]) (rest := [.int 0, .ref o]) rfl rfl (Nat.le_of_ble_eq_true rfl) (dep (show d + 1 ≤ d + 1 from Nat.le_refl _) (Nat.le_of_ble_eq_true rfl)) dL_refund_4 hc ?_
    refine x_i2l dL_refund_7 ?_
    refine x_last Ho.1 Ho.2 (j := 0) rfl ⟨by decide, by decide⟩ dL_refund_8 ?_
    refine x_goto 18 dL_refund_9 rfl ?_
    refine x_iconst 0 dL_refund_18 rfl ?_
    exact x_iret rfl dL_refund_19 ⟨rfl, rfl, rfl⟩
theorem wL_buyObstacle (d : Nat) {K K1 : Kt} {I I1 : Mem} {x0 o a6 b6 : Nat} {x1 x2 : Int32} {r : Except String Int32} {t : Int32} (H0 : LO K 7 x0) (Ho : LA K1 103 1 o) (hc : Ct (mX9_buyObstacle d) cX9_buyObstacle a6 b6 [.ref x0, .int x1, .int x2] I K (Ro (rI r) I1 K1)) (hE : Ec ["java/lang/IllegalStateException", "java/lang/IndexOutOfBoundsException"] r t) : Ct (mL_buyObstacle (d + 1)) cL_buyObstacle a6 b6 [.ref x0, .int x1, .int x2, .ref o] I K (Ro (.inl (some (.int t))) I1 (KJ K1 o r)) := by
  refine Ct.ofH rfl pn_L (catR (catI (catI (catR cat0)))) (Nat.le_of_ble_eq_true rfl) (show X _ _ _ _ _ _ 0 [.ref x0, .int x1, .int x2, .ref o, .retAddr 0] [] _ from ?_)
  refine x_aloadn dL_buyObstacle_0 rfl ?_
  refine x_iconst 0 dL_buyObstacle_1 rfl ?_
  refine x_aloadn dL_buyObstacle_2 rfl ?_
  refine x_iloadn dL_buyObstacle_3 rfl ?_
  refine x_iloadn dL_buyObstacle_4 rfl ?_
  cases r with
  | error E =>
    obtain ⟨i, h1, h2, rfl⟩ := hE
    refine X.less (bc' := a6 + 0) (bs' := b6 + 0) ?_ (Nat.le_refl _) (Nat.le_refl _)
    refine y_callVe (bc := 0) (bs := 0) (cs_L_129 _) (ci := 7) rfl H0.1 H0.2 (As := [.int x1, .int x2]) (rest := [.int 0, .ref o]) rfl rfl (Nat.le_of_ble_eq_true rfl) (dep (show d + 1 ≤ d + 1 from Nat.le_refl _) (Nat.le_of_ble_eq_true rfl)) dL_buyObstacle_5 hc ?_
    rcases (show i = 0 ∨ i = 1 ∨ i = 2 by omega) with rfl | rfl | rfl
    · cases h1
      refine XT.catch [] _ [_] rfl (fun z hz => by cases hz) rfl (by decide) (show Cond.classLink RL 21 "java/lang/IllegalStateException" ∈ wsG from inT4 223 rfl rfl) (List.mem_filter.mpr ⟨castISE, rfl⟩) rfl (Or.inl ⟨dL_buyObstacle_13, rfl⟩) (Nat.le_of_ble_eq_true rfl) rfl ?_
      refine x_iconst 1 dL_buyObstacle_15 rfl ?_
      exact x_iret rfl dL_buyObstacle_16 ⟨rfl, rfl, rfl⟩
    · cases h1
      refine XT.catch [_] _ [] rfl (fun z hz => by obtain rfl := List.mem_singleton.mp hz; exact Or.inr ⟨by decide, "java/lang/IllegalStateException", (show Cond.classLink RL 21 "java/lang/IllegalStateException" ∈ wsG from inT4 223 rfl rfl), by decide +kernel⟩) rfl (by decide) (show Cond.classLink RL 13 "java/lang/IndexOutOfBoundsException" ∈ wsG from inT2 187 rfl rfl) (List.mem_filter.mpr ⟨castIOB, rfl⟩) rfl (Or.inl ⟨dL_buyObstacle_17, rfl⟩) (Nat.le_of_ble_eq_true rfl) rfl ?_
      refine x_iconst 2 dL_buyObstacle_19 rfl ?_
      exact x_iret rfl dL_buyObstacle_20 ⟨rfl, rfl, rfl⟩
    · cases h1
  | ok v =>
    obtain rfl : t = 0 := hE
    refine X.less (bc' := a6 + 0) (bs' := b6 + 0) ?_ (Nat.le_refl _) (Nat.le_refl _)
    refine y_callV1 (bc := 0) (bs := 0) (cs_L_129 _) (ci := 7) rfl H0.1 H0.2 (As := [.int x1, .int x2]) (rest := [.int 0, .ref o]) rfl rfl (Nat.le_of_ble_eq_true rfl) (dep (show d + 1 ≤ d + 1 from Nat.le_refl _) (Nat.le_of_ble_eq_true rfl)) dL_buyObstacle_5 hc ?_
    refine x_i2l dL_buyObstacle_8 ?_
    refine x_last Ho.1 Ho.2 (j := 0) rfl ⟨by decide, by decide⟩ dL_buyObstacle_9 ?_
    refine x_goto 21 dL_buyObstacle_10 rfl ?_
    refine x_iconst 0 dL_buyObstacle_21 rfl ?_
    exact x_iret rfl dL_buyObstacle_22 ⟨rfl, rfl, rfl⟩
theorem wL_sellObstacle (d : Nat) {K K1 : Kt} {I I1 : Mem} {x0 o a6 b6 : Nat} {x1 x2 : Int32} {r : Except String Int32} {t : Int32} (H0 : LO K 7 x0) (Ho : LA K1 103 1 o) (hc : Ct (mX9_sellObstacle d) cX9_sellObstacle a6 b6 [.ref x0, .int x1, .int x2] I K (Ro (rI r) I1 K1)) (hE : Ec ["java/lang/IllegalStateException", "java/lang/IndexOutOfBoundsException"] r t) : Ct (mL_sellObstacle (d + 1)) cL_sellObstacle a6 b6 [.ref x0, .int x1, .int x2, .ref o] I K (Ro (.inl (some (.int t))) I1 (KJ K1 o r)) := by
  refine Ct.ofH rfl pn_L (catR (catI (catI (catR cat0)))) (Nat.le_of_ble_eq_true rfl) (show X _ _ _ _ _ _ 0 [.ref x0, .int x1, .int x2, .ref o, .retAddr 0] [] _ from ?_)
  refine x_aloadn dL_sellObstacle_0 rfl ?_
  refine x_iconst 0 dL_sellObstacle_1 rfl ?_
  refine x_aloadn dL_sellObstacle_2 rfl ?_
  refine x_iloadn dL_sellObstacle_3 rfl ?_
  refine x_iloadn dL_sellObstacle_4 rfl ?_
  cases r with
  | error E =>
    obtain ⟨i, h1, h2, rfl⟩ := hE
    refine X.less (bc' := a6 + 0) (bs' := b6 + 0) ?_ (Nat.le_refl _) (Nat.le_refl _)
    refine y_callVe (bc := 0) (bs := 0) (cs_L_132 _) (ci := 7) rfl H0.1 H0.2 (As := [.int x1, .int x2]) (rest := [.int 0, .ref o]) rfl rfl (Nat.le_of_ble_eq_true rfl) (dep (show d + 1 ≤ d + 1 from Nat.le_refl _) (Nat.le_of_ble_eq_true rfl)) dL_sellObstacle_5 hc ?_
    rcases (show i = 0 ∨ i = 1 ∨ i = 2 by omega) with rfl | rfl | rfl
    · cases h1
      refine XT.catch [] _ [_] rfl (fun z hz => by cases hz) rfl (by decide) (show Cond.classLink RL 21 "java/lang/IllegalStateException" ∈ wsG from inT4 223 rfl rfl) (List.mem_filter.mpr ⟨castISE, rfl⟩) rfl (Or.inl ⟨dL_sellObstacle_13, rfl⟩) (Nat.le_of_ble_eq_true rfl) rfl ?_
      refine x_iconst 1 dL_sellObstacle_15 rfl ?_
      exact x_iret rfl dL_sellObstacle_16 ⟨rfl, rfl, rfl⟩
    · cases h1
      refine XT.catch [_] _ [] rfl (fun z hz => by obtain rfl := List.mem_singleton.mp hz; exact Or.inr ⟨by decide, "java/lang/IllegalStateException", (show Cond.classLink RL 21 "java/lang/IllegalStateException" ∈ wsG from inT4 223 rfl rfl), by decide +kernel⟩) rfl (by decide) (show Cond.classLink RL 13 "java/lang/IndexOutOfBoundsException" ∈ wsG from inT2 187 rfl rfl) (List.mem_filter.mpr ⟨castIOB, rfl⟩) rfl (Or.inl ⟨dL_sellObstacle_17, rfl⟩) (Nat.le_of_ble_eq_true rfl) rfl ?_
      refine x_iconst 2 dL_sellObstacle_19 rfl ?_
      exact x_iret rfl dL_sellObstacle_20 ⟨rfl, rfl, rfl⟩
    · cases h1
  | ok v =>
    obtain rfl : t = 0 := hE
    refine X.less (bc' := a6 + 0) (bs' := b6 + 0) ?_ (Nat.le_refl _) (Nat.le_refl _)
    refine y_callV1 (bc := 0) (bs := 0) (cs_L_132 _) (ci := 7) rfl H0.1 H0.2 (As := [.int x1, .int x2]) (rest := [.int 0, .ref o]) rfl rfl (Nat.le_of_ble_eq_true rfl) (dep (show d + 1 ≤ d + 1 from Nat.le_refl _) (Nat.le_of_ble_eq_true rfl)) dL_sellObstacle_5 hc ?_
    refine x_i2l dL_sellObstacle_8 ?_
    refine x_last Ho.1 Ho.2 (j := 0) rfl ⟨by decide, by decide⟩ dL_sellObstacle_9 ?_
    refine x_goto 21 dL_sellObstacle_10 rfl ?_
    refine x_iconst 0 dL_sellObstacle_21 rfl ?_
    exact x_iret rfl dL_sellObstacle_22 ⟨rfl, rfl, rfl⟩
theorem wL_returnObstacle (d : Nat) {K K1 : Kt} {I I1 : Mem} {x0 o a6 b6 : Nat} {x1 : Int32} {r : Except String Int32} {t : Int32} (H0 : LO K 7 x0) (Ho : LA K1 103 1 o) (hc : Ct (mX9_returnObstacle d) cX9_returnObstacle a6 b6 [.ref x0, .int x1] I K (Ro (rI r) I1 K1)) (hE : Ec ["java/lang/IllegalStateException", "java/lang/IndexOutOfBoundsException"] r t) : Ct (mL_returnObstacle (d + 1)) cL_returnObstacle a6 b6 [.ref x0, .int x1, .ref o] I K (Ro (.inl (some (.int t))) I1 (KJ K1 o r)) := by
  refine Ct.ofH rfl pn_L (catR (catI (catR cat0))) (Nat.le_of_ble_eq_true rfl) (show X _ _ _ _ _ _ 0 [.ref x0, .int x1, .ref o, .retAddr 0] [] _ from ?_)
  refine x_aloadn dL_returnObstacle_0 rfl ?_
  refine x_iconst 0 dL_returnObstacle_1 rfl ?_
  refine x_aloadn dL_returnObstacle_2 rfl ?_
  refine x_iloadn dL_returnObstacle_3 rfl ?_
  cases r with
  | error E =>
    obtain ⟨i, h1, h2, rfl⟩ := hE
    refine X.less (bc' := a6 + 0) (bs' := b6 + 0) ?_ (Nat.le_refl _) (Nat.le_refl _)
    refine y_callVe (bc := 0) (bs := 0) (cs_L_135 _) (ci := 7) rfl H0.1 H0.2 (As := [.int x1]) (rest := [.int 0, .ref o]) rfl rfl (Nat.le_of_ble_eq_true rfl) (dep (show d + 1 ≤ d + 1 from Nat.le_refl _) (Nat.le_of_ble_eq_true rfl)) dL_returnObstacle_4 hc ?_
    rcases (show i = 0 ∨ i = 1 ∨ i = 2 by omega) with rfl | rfl | rfl
    · cases h1
      refine XT.catch [] _ [_] rfl (fun z hz => by cases hz) rfl (by decide) (show Cond.classLink RL 21 "java/lang/IllegalStateException" ∈ wsG from inT4 223 rfl rfl) (List.mem_filter.mpr ⟨castISE, rfl⟩) rfl (Or.inr ⟨3, dL_returnObstacle_12, rfl, rfl⟩) (Nat.le_of_ble_eq_true rfl) rfl ?_
      refine x_iconst 1 dL_returnObstacle_13 rfl ?_
      exact x_iret rfl dL_returnObstacle_14 ⟨rfl, rfl, rfl⟩
    · cases h1
      refine XT.catch [_] _ [] rfl (fun z hz => by obtain rfl := List.mem_singleton.mp hz; exact Or.inr ⟨by decide, "java/lang/IllegalStateException", (show Cond.classLink RL 21 "java/lang/IllegalStateException" ∈ wsG from inT4 223 rfl rfl), by decide +kernel⟩) rfl (by decide) (show Cond.classLink RL 13 "java/lang/IndexOutOfBoundsException" ∈ wsG from inT2 187 rfl rfl) (List.mem_filter.mpr ⟨castIOB, rfl⟩) rfl (Or.inr ⟨3, dL_returnObstacle_15, rfl, rfl⟩) (Nat.le_of_ble_eq_true rfl) rfl ?_
      refine x_iconst 2 dL_returnObstacle_16 rfl ?_
      exact x_iret rfl dL_returnObstacle_17 ⟨rfl, rfl, rfl⟩
    · cases h1
  | ok v =>
    obtain rfl : t = 0 := hE
    refine X.less (bc' := a6 + 0) (bs' := b6 + 0) ?_ (Nat.le_refl _) (Nat.le_refl _)
    refine y_callV1 (bc := 0) (bs := 0) (cs_L_135 _) (ci := 7) rfl H0.1 H0.2 (As := [.int x1]) (rest := [.int 0, .ref o]) rfl rfl (Nat.le_of_ble_eq_true rfl) (dep (show d + 1 ≤ d + 1 from Nat.le_refl _) (Nat.le_of_ble_eq_true rfl)) dL_returnObstacle_4 hc ?_
    refine x_i2l dL_returnObstacle_7 ?_
    refine x_last Ho.1 Ho.2 (j := 0) rfl ⟨by decide, by decide⟩ dL_returnObstacle_8 ?_
    refine x_goto 18 dL_returnObstacle_9 rfl ?_
    refine x_iconst 0 dL_returnObstacle_18 rfl ?_
    exact x_iret rfl dL_returnObstacle_19 ⟨rfl, rfl, rfl⟩
theorem wL_grantObstacle (d : Nat) {K K1 : Kt} {I I1 : Mem} {x0 o a6 b6 : Nat} {x1 : Int32} {r : Except String Int32} {t : Int32} (H0 : LO K 7 x0) (Ho : LA K1 103 1 o) (hc : Ct (mX9_grantObstacle d) cX9_grantObstacle a6 b6 [.ref x0, .int x1] I K (Ro (rI r) I1 K1)) (hE : Ec ["java/lang/IllegalStateException", "java/lang/IndexOutOfBoundsException"] r t) : Ct (mL_grantObstacle (d + 1)) cL_grantObstacle a6 b6 [.ref x0, .int x1, .ref o] I K (Ro (.inl (some (.int t))) I1 (KJ K1 o r)) := by
  refine Ct.ofH rfl pn_L (catR (catI (catR cat0))) (Nat.le_of_ble_eq_true rfl) (show X _ _ _ _ _ _ 0 [.ref x0, .int x1, .ref o, .retAddr 0] [] _ from ?_)
  refine x_aloadn dL_grantObstacle_0 rfl ?_
  refine x_iconst 0 dL_grantObstacle_1 rfl ?_
  refine x_aloadn dL_grantObstacle_2 rfl ?_
  refine x_iloadn dL_grantObstacle_3 rfl ?_
  cases r with
  | error E =>
    obtain ⟨i, h1, h2, rfl⟩ := hE
    refine X.less (bc' := a6 + 0) (bs' := b6 + 0) ?_ (Nat.le_refl _) (Nat.le_refl _)
    refine y_callVe (bc := 0) (bs := 0) (cs_L_138 _) (ci := 7) rfl H0.1 H0.2 (As := [.int x1]) (rest := [.int 0, .ref o]) rfl rfl (Nat.le_of_ble_eq_true rfl) (dep (show d + 1 ≤ d + 1 from Nat.le_refl _) (Nat.le_of_ble_eq_true rfl)) dL_grantObstacle_4 hc ?_
    rcases (show i = 0 ∨ i = 1 ∨ i = 2 by omega) with rfl | rfl | rfl
    · cases h1
      refine XT.catch [] _ [_] rfl (fun z hz => by cases hz) rfl (by decide) (show Cond.classLink RL 21 "java/lang/IllegalStateException" ∈ wsG from inT4 223 rfl rfl) (List.mem_filter.mpr ⟨castISE, rfl⟩) rfl (Or.inr ⟨3, dL_grantObstacle_12, rfl, rfl⟩) (Nat.le_of_ble_eq_true rfl) rfl ?_
      refine x_iconst 1 dL_grantObstacle_13 rfl ?_
      exact x_iret rfl dL_grantObstacle_14 ⟨rfl, rfl, rfl⟩
    · cases h1
      refine XT.catch [_] _ [] rfl (fun z hz => by obtain rfl := List.mem_singleton.mp hz; exact Or.inr ⟨by decide, "java/lang/IllegalStateException", (show Cond.classLink RL 21 "java/lang/IllegalStateException" ∈ wsG from inT4 223 rfl rfl), by decide +kernel⟩) rfl (by decide) (show Cond.classLink RL 13 "java/lang/IndexOutOfBoundsException" ∈ wsG from inT2 187 rfl rfl) (List.mem_filter.mpr ⟨castIOB, rfl⟩) rfl (Or.inr ⟨3, dL_grantObstacle_15, rfl, rfl⟩) (Nat.le_of_ble_eq_true rfl) rfl ?_
      refine x_iconst 2 dL_grantObstacle_16 rfl ?_
      exact x_iret rfl dL_grantObstacle_17 ⟨rfl, rfl, rfl⟩
    · cases h1
  | ok v =>
    obtain rfl : t = 0 := hE
    refine X.less (bc' := a6 + 0) (bs' := b6 + 0) ?_ (Nat.le_refl _) (Nat.le_refl _)
    refine y_callV1 (bc := 0) (bs := 0) (cs_L_138 _) (ci := 7) rfl H0.1 H0.2 (As := [.int x1]) (rest := [.int 0, .ref o]) rfl rfl (Nat.le_of_ble_eq_true rfl) (dep (show d + 1 ≤ d + 1 from Nat.le_refl _) (Nat.le_of_ble_eq_true rfl)) dL_grantObstacle_4 hc ?_
    refine x_i2l dL_grantObstacle_7 ?_
    refine x_last Ho.1 Ho.2 (j := 0) rfl ⟨by decide, by decide⟩ dL_grantObstacle_8 ?_
    refine x_goto 18 dL_grantObstacle_9 rfl ?_
    refine x_iconst 0 dL_grantObstacle_18 rfl ?_
    exact x_iret rfl dL_grantObstacle_19 ⟨rfl, rfl, rfl⟩
theorem wL_cheapestWish (d : Nat) {K K1 : Kt} {I I1 : Mem} {x0 o a6 b6 : Nat} {x1 : Int32} {r : Except String Int32} {t : Int32} (H0 : LO K 7 x0) (Ho : LA K1 103 1 o) (hc : Ct (mX9_cheapestWish d) cX9_cheapestWish a6 b6 [.ref x0, .int x1] I K (Ro (rI r) I1 K1)) (hE : Ec ["java/lang/IllegalStateException", "java/lang/IndexOutOfBoundsException"] r t) : Ct (mL_cheapestWish (d + 1)) cL_cheapestWish a6 b6 [.ref x0, .int x1, .ref o] I K (Ro (.inl (some (.int t))) I1 (KJ K1 o r)) := by
  refine Ct.ofH rfl pn_L (catR (catI (catR cat0))) (Nat.le_of_ble_eq_true rfl) (show X _ _ _ _ _ _ 0 [.ref x0, .int x1, .ref o, .retAddr 0] [] _ from ?_)
  refine x_aloadn dL_cheapestWish_0 rfl ?_
  refine x_iconst 0 dL_cheapestWish_1 rfl ?_
  refine x_aloadn dL_cheapestWish_2 rfl ?_
  refine x_iloadn dL_cheapestWish_3 rfl ?_
  cases r with
  | error E =>
    obtain ⟨i, h1, h2, rfl⟩ := hE
    refine X.less (bc' := a6 + 0) (bs' := b6 + 0) ?_ (Nat.le_refl _) (Nat.le_refl _)
    refine y_callVe (bc := 0) (bs := 0) (cs_L_141 _) (ci := 7) rfl H0.1 H0.2 (As := [.int x1]) (rest := [.int 0, .ref o]) rfl rfl (Nat.le_of_ble_eq_true rfl) (dep (show d + 1 ≤ d + 1 from Nat.le_refl _) (Nat.le_of_ble_eq_true rfl)) dL_cheapestWish_4 hc ?_
    rcases (show i = 0 ∨ i = 1 ∨ i = 2 by omega) with rfl | rfl | rfl
    · cases h1
      refine XT.catch [] _ [_] rfl (fun z hz => by cases hz) rfl (by decide) (show Cond.classLink RL 21 "java/lang/IllegalStateException" ∈ wsG from inT4 223 rfl rfl) (List.mem_filter.mpr ⟨castISE, rfl⟩) rfl (Or.inr ⟨3, dL_cheapestWish_12, rfl, rfl⟩) (Nat.le_of_ble_eq_true rfl) rfl ?_
      refine x_iconst 1 dL_cheapestWish_13 rfl ?_
      exact x_iret rfl dL_cheapestWish_14 ⟨rfl, rfl, rfl⟩
    · cases h1
      refine XT.catch [_] _ [] rfl (fun z hz => by obtain rfl := List.mem_singleton.mp hz; exact Or.inr ⟨by decide, "java/lang/IllegalStateException", (show Cond.classLink RL 21 "java/lang/IllegalStateException" ∈ wsG from inT4 223 rfl rfl), by decide +kernel⟩) rfl (by decide) (show Cond.classLink RL 13 "java/lang/IndexOutOfBoundsException" ∈ wsG from inT2 187 rfl rfl) (List.mem_filter.mpr ⟨castIOB, rfl⟩) rfl (Or.inr ⟨3, dL_cheapestWish_15, rfl, rfl⟩) (Nat.le_of_ble_eq_true rfl) rfl ?_
      refine x_iconst 2 dL_cheapestWish_16 rfl ?_
      exact x_iret rfl dL_cheapestWish_17 ⟨rfl, rfl, rfl⟩
    · cases h1
  | ok v =>
    obtain rfl : t = 0 := hE
    refine X.less (bc' := a6 + 0) (bs' := b6 + 0) ?_ (Nat.le_refl _) (Nat.le_refl _)
    refine y_callV1 (bc := 0) (bs := 0) (cs_L_141 _) (ci := 7) rfl H0.1 H0.2 (As := [.int x1]) (rest := [.int 0, .ref o]) rfl rfl (Nat.le_of_ble_eq_true rfl) (dep (show d + 1 ≤ d + 1 from Nat.le_refl _) (Nat.le_of_ble_eq_true rfl)) dL_cheapestWish_4 hc ?_
    refine x_i2l dL_cheapestWish_7 ?_
    refine x_last Ho.1 Ho.2 (j := 0) rfl ⟨by decide, by decide⟩ dL_cheapestWish_8 ?_
    refine x_goto 18 dL_cheapestWish_9 rfl ?_
    refine x_iconst 0 dL_cheapestWish_18 rfl ?_
    exact x_iret rfl dL_cheapestWish_19 ⟨rfl, rfl, rfl⟩
theorem wL_bestGrant (d : Nat) {K K1 : Kt} {I I1 : Mem} {x0 o a6 b6 : Nat} {x1 : Int32} {r : Except String Int32} {t : Int32} (H0 : LO K 7 x0) (Ho : LA K1 103 1 o) (hc : Ct (mX9_bestGrant d) cX9_bestGrant a6 b6 [.ref x0, .int x1] I K (Ro (rI r) I1 K1)) (hE : Ec ["java/lang/IllegalStateException", "java/lang/IndexOutOfBoundsException"] r t) : Ct (mL_bestGrant (d + 1)) cL_bestGrant a6 b6 [.ref x0, .int x1, .ref o] I K (Ro (.inl (some (.int t))) I1 (KJ K1 o r)) := by
  refine Ct.ofH rfl pn_L (catR (catI (catR cat0))) (Nat.le_of_ble_eq_true rfl) (show X _ _ _ _ _ _ 0 [.ref x0, .int x1, .ref o, .retAddr 0] [] _ from ?_)
  refine x_aloadn dL_bestGrant_0 rfl ?_
  refine x_iconst 0 dL_bestGrant_1 rfl ?_
  refine x_aloadn dL_bestGrant_2 rfl ?_
  refine x_iloadn dL_bestGrant_3 rfl ?_
  cases r with
  | error E =>
    obtain ⟨i, h1, h2, rfl⟩ := hE
    refine X.less (bc' := a6 + 0) (bs' := b6 + 0) ?_ (Nat.le_refl _) (Nat.le_refl _)
    refine y_callVe (bc := 0) (bs := 0) (cs_L_144 _) (ci := 7) rfl H0.1 H0.2 (As := [.int x1]) (rest := [.int 0, .ref o]) rfl rfl (Nat.le_of_ble_eq_true rfl) (dep (show d + 1 ≤ d + 1 from Nat.le_refl _) (Nat.le_of_ble_eq_true rfl)) dL_bestGrant_4 hc ?_
    rcases (show i = 0 ∨ i = 1 ∨ i = 2 by omega) with rfl | rfl | rfl
    · cases h1
      refine XT.catch [] _ [_] rfl (fun z hz => by cases hz) rfl (by decide) (show Cond.classLink RL 21 "java/lang/IllegalStateException" ∈ wsG from inT4 223 rfl rfl) (List.mem_filter.mpr ⟨castISE, rfl⟩) rfl (Or.inr ⟨3, dL_bestGrant_12, rfl, rfl⟩) (Nat.le_of_ble_eq_true rfl) rfl ?_
      refine x_iconst 1 dL_bestGrant_13 rfl ?_
      exact x_iret rfl dL_bestGrant_14 ⟨rfl, rfl, rfl⟩
    · cases h1
      refine XT.catch [_] _ [] rfl (fun z hz => by obtain rfl := List.mem_singleton.mp hz; exact Or.inr ⟨by decide, "java/lang/IllegalStateException", (show Cond.classLink RL 21 "java/lang/IllegalStateException" ∈ wsG from inT4 223 rfl rfl), by decide +kernel⟩) rfl (by decide) (show Cond.classLink RL 13 "java/lang/IndexOutOfBoundsException" ∈ wsG from inT2 187 rfl rfl) (List.mem_filter.mpr ⟨castIOB, rfl⟩) rfl (Or.inr ⟨3, dL_bestGrant_15, rfl, rfl⟩) (Nat.le_of_ble_eq_true rfl) rfl ?_
      refine x_iconst 2 dL_bestGrant_16 rfl ?_
      exact x_iret rfl dL_bestGrant_17 ⟨rfl, rfl, rfl⟩
    · cases h1
  | ok v =>
    obtain rfl : t = 0 := hE
    refine X.less (bc' := a6 + 0) (bs' := b6 + 0) ?_ (Nat.le_refl _) (Nat.le_refl _)
    refine y_callV1 (bc := 0) (bs := 0) (cs_L_144 _) (ci := 7) rfl H0.1 H0.2 (As := [.int x1]) (rest := [.int 0, .ref o]) rfl rfl (Nat.le_of_ble_eq_true rfl) (dep (show d + 1 ≤ d + 1 from Nat.le_refl _) (Nat.le_of_ble_eq_true rfl)) dL_bestGrant_4 hc ?_
    refine x_i2l dL_bestGrant_7 ?_
    refine x_last Ho.1 Ho.2 (j := 0) rfl ⟨by decide, by decide⟩ dL_bestGrant_8 ?_
    refine x_goto 18 dL_bestGrant_9 rfl ?_
    refine x_iconst 0 dL_bestGrant_18 rfl ?_
    exact x_iret rfl dL_bestGrant_19 ⟨rfl, rfl, rfl⟩
theorem wL_bestOffer (d : Nat) {K K1 : Kt} {I I1 : Mem} {x0 o a6 b6 : Nat} {x1 : Int32} {r : Except String Int32} {t : Int32} (H0 : LO K 7 x0) (Ho : LA K1 103 1 o) (hc : Ct (mX9_bestOffer d) cX9_bestOffer a6 b6 [.ref x0, .int x1] I K (Ro (rI r) I1 K1)) (hE : Ec ["java/lang/IllegalStateException", "java/lang/IndexOutOfBoundsException"] r t) : Ct (mL_bestOffer (d + 1)) cL_bestOffer a6 b6 [.ref x0, .int x1, .ref o] I K (Ro (.inl (some (.int t))) I1 (KJ K1 o r)) := by
  refine Ct.ofH rfl pn_L (catR (catI (catR cat0))) (Nat.le_of_ble_eq_true rfl) (show X _ _ _ _ _ _ 0 [.ref x0, .int x1, .ref o, .retAddr 0] [] _ from ?_)
  refine x_aloadn dL_bestOffer_0 rfl ?_
  refine x_iconst 0 dL_bestOffer_1 rfl ?_
  refine x_aloadn dL_bestOffer_2 rfl ?_
  refine x_iloadn dL_bestOffer_3 rfl ?_
  cases r with
  | error E =>
    obtain ⟨i, h1, h2, rfl⟩ := hE
    refine X.less (bc' := a6 + 0) (bs' := b6 + 0) ?_ (Nat.le_refl _) (Nat.le_refl _)
    refine y_callVe (bc := 0) (bs := 0) (cs_L_147 _) (ci := 7) rfl H0.1 H0.2 (As := [.int x1]) (rest := [.int 0, .ref o]) rfl rfl (Nat.le_of_ble_eq_true rfl) (dep (show d + 1 ≤ d + 1 from Nat.le_refl _) (Nat.le_of_ble_eq_true rfl)) dL_bestOffer_4 hc ?_
    rcases (show i = 0 ∨ i = 1 ∨ i = 2 by omega) with rfl | rfl | rfl
    · cases h1
      refine XT.catch [] _ [_] rfl (fun z hz => by cases hz) rfl (by decide) (show Cond.classLink RL 21 "java/lang/IllegalStateException" ∈ wsG from inT4 223 rfl rfl) (List.mem_filter.mpr ⟨castISE, rfl⟩) rfl (Or.inr ⟨3, dL_bestOffer_12, rfl, rfl⟩) (Nat.le_of_ble_eq_true rfl) rfl ?_
      refine x_iconst 1 dL_bestOffer_13 rfl ?_
      exact x_iret rfl dL_bestOffer_14 ⟨rfl, rfl, rfl⟩
    · cases h1
      refine XT.catch [_] _ [] rfl (fun z hz => by obtain rfl := List.mem_singleton.mp hz; exact Or.inr ⟨by decide, "java/lang/IllegalStateException", (show Cond.classLink RL 21 "java/lang/IllegalStateException" ∈ wsG from inT4 223 rfl rfl), by decide +kernel⟩) rfl (by decide) (show Cond.classLink RL 13 "java/lang/IndexOutOfBoundsException" ∈ wsG from inT2 187 rfl rfl) (List.mem_filter.mpr ⟨castIOB, rfl⟩) rfl (Or.inr ⟨3, dL_bestOffer_15, rfl, rfl⟩) (Nat.le_of_ble_eq_true rfl) rfl ?_
      refine x_iconst 2 dL_bestOffer_16 rfl ?_
      exact x_iret rfl dL_bestOffer_17 ⟨rfl, rfl, rfl⟩
    · cases h1
  | ok v =>
    obtain rfl : t = 0 := hE
    refine X.less (bc' := a6 + 0) (bs' := b6 + 0) ?_ (Nat.le_refl _) (Nat.le_refl _)
    refine y_callV1 (bc := 0) (bs := 0) (cs_L_147 _) (ci := 7) rfl H0.1 H0.2 (As := [.int x1]) (rest := [.int 0, .ref o]) rfl rfl (Nat.le_of_ble_eq_true rfl) (dep (show d + 1 ≤ d + 1 from Nat.le_refl _) (Nat.le_of_ble_eq_true rfl)) dL_bestOffer_4 hc ?_
    refine x_i2l dL_bestOffer_7 ?_
    refine x_last Ho.1 Ho.2 (j := 0) rfl ⟨by decide, by decide⟩ dL_bestOffer_8 ?_
    refine x_goto 18 dL_bestOffer_9 rfl ?_
    refine x_iconst 0 dL_bestOffer_18 rfl ?_
    exact x_iret rfl dL_bestOffer_19 ⟨rfl, rfl, rfl⟩
theorem wL_coinsAfter (d : Nat) {K K1 : Kt} {I I1 : Mem} {x0 o a6 b6 : Nat} {x1 x2 : Int32} {r : Except String Int32} {t : Int32} (H0 : LO K 7 x0) (Ho : LA K1 103 1 o) (hc : Ct (mX9_coinsAfter d) cX9_coinsAfter a6 b6 [.ref x0, .int x1, .int x2] I K (Ro (rI r) I1 K1)) (hE : Ec ["java/lang/IllegalStateException", "java/lang/IndexOutOfBoundsException", "java/lang/IllegalArgumentException"] r t) : Ct (mL_coinsAfter (d + 1)) cL_coinsAfter a6 b6 [.ref x0, .int x1, .int x2, .ref o] I K (Ro (.inl (some (.int t))) I1 (KJ K1 o r)) := by
  refine Ct.ofH rfl pn_L (catR (catI (catI (catR cat0)))) (Nat.le_of_ble_eq_true rfl) (show X _ _ _ _ _ _ 0 [.ref x0, .int x1, .int x2, .ref o, .retAddr 0] [] _ from ?_)
  refine x_aloadn dL_coinsAfter_0 rfl ?_
  refine x_iconst 0 dL_coinsAfter_1 rfl ?_
  refine x_aloadn dL_coinsAfter_2 rfl ?_
  refine x_iloadn dL_coinsAfter_3 rfl ?_
  refine x_iloadn dL_coinsAfter_4 rfl ?_
  cases r with
  | error E =>
    obtain ⟨i, h1, h2, rfl⟩ := hE
    refine X.less (bc' := a6 + 0) (bs' := b6 + 0) ?_ (Nat.le_refl _) (Nat.le_refl _)
    refine y_callVe (bc := 0) (bs := 0) (cs_L_150 _) (ci := 7) rfl H0.1 H0.2 (As := [.int x1, .int x2]) (rest := [.int 0, .ref o]) rfl rfl (Nat.le_of_ble_eq_true rfl) (dep (show d + 1 ≤ d + 1 from Nat.le_refl _) (Nat.le_of_ble_eq_true rfl)) dL_coinsAfter_5 hc ?_
    rcases (show i = 0 ∨ i = 1 ∨ i = 2 by omega) with rfl | rfl | rfl
    · cases h1
      refine XT.catch [] _ [_, _] rfl (fun z hz => by cases hz) rfl (by decide) (show Cond.classLink RL 21 "java/lang/IllegalStateException" ∈ wsG from inT4 223 rfl rfl) (List.mem_filter.mpr ⟨castISE, rfl⟩) rfl (Or.inl ⟨dL_coinsAfter_13, rfl⟩) (Nat.le_of_ble_eq_true rfl) rfl ?_
      refine x_iconst 1 dL_coinsAfter_15 rfl ?_
      exact x_iret rfl dL_coinsAfter_16 ⟨rfl, rfl, rfl⟩
    · cases h1
      refine XT.catch [_] _ [_] rfl (fun z hz => by obtain rfl := List.mem_singleton.mp hz; exact Or.inr ⟨by decide, "java/lang/IllegalStateException", (show Cond.classLink RL 21 "java/lang/IllegalStateException" ∈ wsG from inT4 223 rfl rfl), by decide +kernel⟩) rfl (by decide) (show Cond.classLink RL 13 "java/lang/IndexOutOfBoundsException" ∈ wsG from inT2 187 rfl rfl) (List.mem_filter.mpr ⟨castIOB, rfl⟩) rfl (Or.inl ⟨dL_coinsAfter_17, rfl⟩) (Nat.le_of_ble_eq_true rfl) rfl ?_
      refine x_iconst 2 dL_coinsAfter_19 rfl ?_
      exact x_iret rfl dL_coinsAfter_20 ⟨rfl, rfl, rfl⟩
    · cases h1
      skip
      refine XT.catch [_, _] _ [] rfl (fun z hz => (List.mem_cons.mp hz).elim (fun e => by subst e; exact Or.inr ⟨by decide, "java/lang/IllegalStateException", (show Cond.classLink RL 21 "java/lang/IllegalStateException" ∈ wsG from inT4 223 rfl rfl), by decide +kernel⟩) (fun hz => by obtain rfl := List.mem_singleton.mp hz; exact Or.inr ⟨by decide, "java/lang/IndexOutOfBoundsException", (show Cond.classLink RL 13 "java/lang/IndexOutOfBoundsException" ∈ wsG from inT2 187 rfl rfl), by decide +kernel⟩)) rfl (by decide) (show Cond.classLink RL 15 "java/lang/IllegalArgumentException" ∈ wsG from inT2 188 rfl rfl) (List.mem_filter.mpr ⟨castIAE, rfl⟩) rfl (Or.inl ⟨dL_coinsAfter_21, rfl⟩) (Nat.le_of_ble_eq_true rfl) rfl ?_
      refine x_iconst 3 dL_coinsAfter_23 rfl ?_
      exact x_iret rfl dL_coinsAfter_24 ⟨rfl, rfl, rfl⟩
  | ok v =>
    obtain rfl : t = 0 := hE
    refine X.less (bc' := a6 + 0) (bs' := b6 + 0) ?_ (Nat.le_refl _) (Nat.le_refl _)
    refine y_callV1 (bc := 0) (bs := 0) (cs_L_150 _) (ci := 7) rfl H0.1 H0.2 (As := [.int x1, .int x2]) (rest := [.int 0, .ref o]) rfl rfl (Nat.le_of_ble_eq_true rfl) (dep (show d + 1 ≤ d + 1 from Nat.le_refl _) (Nat.le_of_ble_eq_true rfl)) dL_coinsAfter_5 hc ?_
    refine x_i2l dL_coinsAfter_8 ?_
    refine x_last Ho.1 Ho.2 (j := 0) rfl ⟨by decide, by decide⟩ dL_coinsAfter_9 ?_
    refine x_goto 25 dL_coinsAfter_10 rfl ?_
    refine x_iconst 0 dL_coinsAfter_25 rfl ?_
    exact x_iret rfl dL_coinsAfter_26 ⟨rfl, rfl, rfl⟩
theorem wL_valueAfter (d : Nat) {K K1 : Kt} {I I1 : Mem} {x0 o a6 b6 : Nat} {x1 x2 : Int32} {r : Except String Int32} {t : Int32} (H0 : LO K 7 x0) (Ho : LA K1 103 1 o) (hc : Ct (mX9_valueAfter d) cX9_valueAfter a6 b6 [.ref x0, .int x1, .int x2] I K (Ro (rI r) I1 K1)) (hE : Ec ["java/lang/IllegalStateException", "java/lang/IndexOutOfBoundsException", "java/lang/IllegalArgumentException"] r t) : Ct (mL_valueAfter (d + 1)) cL_valueAfter a6 b6 [.ref x0, .int x1, .int x2, .ref o] I K (Ro (.inl (some (.int t))) I1 (KJ K1 o r)) := by
  refine Ct.ofH rfl pn_L (catR (catI (catI (catR cat0)))) (Nat.le_of_ble_eq_true rfl) (show X _ _ _ _ _ _ 0 [.ref x0, .int x1, .int x2, .ref o, .retAddr 0] [] _ from ?_)
  refine x_aloadn dL_valueAfter_0 rfl ?_
  refine x_iconst 0 dL_valueAfter_1 rfl ?_
  refine x_aloadn dL_valueAfter_2 rfl ?_
  refine x_iloadn dL_valueAfter_3 rfl ?_
  refine x_iloadn dL_valueAfter_4 rfl ?_
  cases r with
  | error E =>
    obtain ⟨i, h1, h2, rfl⟩ := hE
    refine X.less (bc' := a6 + 0) (bs' := b6 + 0) ?_ (Nat.le_refl _) (Nat.le_refl _)
    refine y_callVe (bc := 0) (bs := 0) (cs_L_153 _) (ci := 7) rfl H0.1 H0.2 (As := [.int x1, .int x2]) (rest := [.int 0, .ref o]) rfl rfl (Nat.le_of_ble_eq_true rfl) (dep (show d + 1 ≤ d + 1 from Nat.le_refl _) (Nat.le_of_ble_eq_true rfl)) dL_valueAfter_5 hc ?_
    rcases (show i = 0 ∨ i = 1 ∨ i = 2 by omega) with rfl | rfl | rfl
    · cases h1
      refine XT.catch [] _ [_, _] rfl (fun z hz => by cases hz) rfl (by decide) (show Cond.classLink RL 21 "java/lang/IllegalStateException" ∈ wsG from inT4 223 rfl rfl) (List.mem_filter.mpr ⟨castISE, rfl⟩) rfl (Or.inl ⟨dL_valueAfter_13, rfl⟩) (Nat.le_of_ble_eq_true rfl) rfl ?_
      refine x_iconst 1 dL_valueAfter_15 rfl ?_
      exact x_iret rfl dL_valueAfter_16 ⟨rfl, rfl, rfl⟩
    · cases h1
      refine XT.catch [_] _ [_] rfl (fun z hz => by obtain rfl := List.mem_singleton.mp hz; exact Or.inr ⟨by decide, "java/lang/IllegalStateException", (show Cond.classLink RL 21 "java/lang/IllegalStateException" ∈ wsG from inT4 223 rfl rfl), by decide +kernel⟩) rfl (by decide) (show Cond.classLink RL 13 "java/lang/IndexOutOfBoundsException" ∈ wsG from inT2 187 rfl rfl) (List.mem_filter.mpr ⟨castIOB, rfl⟩) rfl (Or.inl ⟨dL_valueAfter_17, rfl⟩) (Nat.le_of_ble_eq_true rfl) rfl ?_
      refine x_iconst 2 dL_valueAfter_19 rfl ?_
      exact x_iret rfl dL_valueAfter_20 ⟨rfl, rfl, rfl⟩
    · cases h1
      skip
      refine XT.catch [_, _] _ [] rfl (fun z hz => (List.mem_cons.mp hz).elim (fun e => by subst e; exact Or.inr ⟨by decide, "java/lang/IllegalStateException", (show Cond.classLink RL 21 "java/lang/IllegalStateException" ∈ wsG from inT4 223 rfl rfl), by decide +kernel⟩) (fun hz => by obtain rfl := List.mem_singleton.mp hz; exact Or.inr ⟨by decide, "java/lang/IndexOutOfBoundsException", (show Cond.classLink RL 13 "java/lang/IndexOutOfBoundsException" ∈ wsG from inT2 187 rfl rfl), by decide +kernel⟩)) rfl (by decide) (show Cond.classLink RL 15 "java/lang/IllegalArgumentException" ∈ wsG from inT2 188 rfl rfl) (List.mem_filter.mpr ⟨castIAE, rfl⟩) rfl (Or.inl ⟨dL_valueAfter_21, rfl⟩) (Nat.le_of_ble_eq_true rfl) rfl ?_
      refine x_iconst 3 dL_valueAfter_23 rfl ?_
      exact x_iret rfl dL_valueAfter_24 ⟨rfl, rfl, rfl⟩
  | ok v =>
    obtain rfl : t = 0 := hE
    refine X.less (bc' := a6 + 0) (bs' := b6 + 0) ?_ (Nat.le_refl _) (Nat.le_refl _)
    refine y_callV1 (bc := 0) (bs := 0) (cs_L_153 _) (ci := 7) rfl H0.1 H0.2 (As := [.int x1, .int x2]) (rest := [.int 0, .ref o]) rfl rfl (Nat.le_of_ble_eq_true rfl) (dep (show d + 1 ≤ d + 1 from Nat.le_refl _) (Nat.le_of_ble_eq_true rfl)) dL_valueAfter_5 hc ?_
    refine x_i2l dL_valueAfter_8 ?_
    refine x_last Ho.1 Ho.2 (j := 0) rfl ⟨by decide, by decide⟩ dL_valueAfter_9 ?_
    refine x_goto 25 dL_valueAfter_10 rfl ?_
    refine x_iconst 0 dL_valueAfter_25 rfl ?_
    exact x_iret rfl dL_valueAfter_26 ⟨rfl, rfl, rfl⟩
theorem wL_daysUntilFaded (d : Nat) {K K1 : Kt} {I I1 : Mem} {x0 o a6 b6 : Nat} {x1 : Int32} {r : Except String Int32} {t : Int32} (H0 : LO K 7 x0) (Ho : LA K1 103 1 o) (hc : Ct (mX9_daysUntilFaded d) cX9_daysUntilFaded a6 b6 [.ref x0, .int x1] I K (Ro (rI r) I1 K1)) (hE : Ec ["java/lang/IllegalStateException", "java/lang/IndexOutOfBoundsException"] r t) : Ct (mL_daysUntilFaded (d + 1)) cL_daysUntilFaded a6 b6 [.ref x0, .int x1, .ref o] I K (Ro (.inl (some (.int t))) I1 (KJ K1 o r)) := by
  refine Ct.ofH rfl pn_L (catR (catI (catR cat0))) (Nat.le_of_ble_eq_true rfl) (show X _ _ _ _ _ _ 0 [.ref x0, .int x1, .ref o, .retAddr 0] [] _ from ?_)
  refine x_aloadn dL_daysUntilFaded_0 rfl ?_
  refine x_iconst 0 dL_daysUntilFaded_1 rfl ?_
  refine x_aloadn dL_daysUntilFaded_2 rfl ?_
  refine x_iloadn dL_daysUntilFaded_3 rfl ?_
  cases r with
  | error E =>
    obtain ⟨i, h1, h2, rfl⟩ := hE
    refine X.less (bc' := a6 + 0) (bs' := b6 + 0) ?_ (Nat.le_refl _) (Nat.le_refl _)
    refine y_callVe (bc := 0) (bs := 0) (cs_L_156 _) (ci := 7) rfl H0.1 H0.2 (As := [.int x1]) (rest := [.int 0, .ref o]) rfl rfl (Nat.le_of_ble_eq_true rfl) (dep (show d + 1 ≤ d + 1 from Nat.le_refl _) (Nat.le_of_ble_eq_true rfl)) dL_daysUntilFaded_4 hc ?_
    rcases (show i = 0 ∨ i = 1 ∨ i = 2 by omega) with rfl | rfl | rfl
    · cases h1
      refine XT.catch [] _ [_] rfl (fun z hz => by cases hz) rfl (by decide) (show Cond.classLink RL 21 "java/lang/IllegalStateException" ∈ wsG from inT4 223 rfl rfl) (List.mem_filter.mpr ⟨castISE, rfl⟩) rfl (Or.inr ⟨3, dL_daysUntilFaded_12, rfl, rfl⟩) (Nat.le_of_ble_eq_true rfl) rfl ?_
      refine x_iconst 1 dL_daysUntilFaded_13 rfl ?_
      exact x_iret rfl dL_daysUntilFaded_14 ⟨rfl, rfl, rfl⟩
    · cases h1
      refine XT.catch [_] _ [] rfl (fun z hz => by obtain rfl := List.mem_singleton.mp hz; exact Or.inr ⟨by decide, "java/lang/IllegalStateException", (show Cond.classLink RL 21 "java/lang/IllegalStateException" ∈ wsG from inT4 223 rfl rfl), by decide +kernel⟩) rfl (by decide) (show Cond.classLink RL 13 "java/lang/IndexOutOfBoundsException" ∈ wsG from inT2 187 rfl rfl) (List.mem_filter.mpr ⟨castIOB, rfl⟩) rfl (Or.inr ⟨3, dL_daysUntilFaded_15, rfl, rfl⟩) (Nat.le_of_ble_eq_true rfl) rfl ?_
      refine x_iconst 2 dL_daysUntilFaded_16 rfl ?_
      exact x_iret rfl dL_daysUntilFaded_17 ⟨rfl, rfl, rfl⟩
    · cases h1
  | ok v =>
    obtain rfl : t = 0 := hE
    refine X.less (bc' := a6 + 0) (bs' := b6 + 0) ?_ (Nat.le_refl _) (Nat.le_refl _)
    refine y_callV1 (bc := 0) (bs := 0) (cs_L_156 _) (ci := 7) rfl H0.1 H0.2 (As := [.int x1]) (rest := [.int 0, .ref o]) rfl rfl (Nat.le_of_ble_eq_true rfl) (dep (show d + 1 ≤ d + 1 from Nat.le_refl _) (Nat.le_of_ble_eq_true rfl)) dL_daysUntilFaded_4 hc ?_
    refine x_i2l dL_daysUntilFaded_7 ?_
    refine x_last Ho.1 Ho.2 (j := 0) rfl ⟨by decide, by decide⟩ dL_daysUntilFaded_8 ?_
    refine x_goto 18 dL_daysUntilFaded_9 rfl ?_
    refine x_iconst 0 dL_daysUntilFaded_18 rfl ?_
    exact x_iret rfl dL_daysUntilFaded_19 ⟨rfl, rfl, rfl⟩
theorem wL_writeStall (d : Nat) {K K1 : Kt} {I I1 : Mem} {x0 o a6 b6 : Nat} {x1 : Int32} {r : Except String Int32} {t : Int32} (H0 : LO K 7 x0) (Ho : LA K1 103 1 o) (hc : Ct (mX9_writeStall d) cX9_writeStall a6 b6 [.ref x0, .int x1] I K (Ro (rI r) I1 K1)) (hE : Ec ["java/lang/IllegalStateException", "java/lang/IndexOutOfBoundsException"] r t) : Ct (mL_writeStall (d + 1)) cL_writeStall a6 b6 [.ref x0, .int x1, .ref o] I K (Ro (.inl (some (.int t))) I1 (KJ K1 o r)) := by
  refine Ct.ofH rfl pn_L (catR (catI (catR cat0))) (Nat.le_of_ble_eq_true rfl) (show X _ _ _ _ _ _ 0 [.ref x0, .int x1, .ref o, .retAddr 0] [] _ from ?_)
  refine x_aloadn dL_writeStall_0 rfl ?_
  refine x_iconst 0 dL_writeStall_1 rfl ?_
  refine x_aloadn dL_writeStall_2 rfl ?_
  refine x_iloadn dL_writeStall_3 rfl ?_
  cases r with
  | error E =>
    obtain ⟨i, h1, h2, rfl⟩ := hE
    refine X.less (bc' := a6 + 0) (bs' := b6 + 0) ?_ (Nat.le_refl _) (Nat.le_refl _)
    refine y_callVe (bc := 0) (bs := 0) (cs_L_159 _) (ci := 7) rfl H0.1 H0.2 (As := [.int x1]) (rest := [.int 0, .ref o]) rfl rfl (Nat.le_of_ble_eq_true rfl) (dep (show d + 1 ≤ d + 1 from Nat.le_refl _) (Nat.le_of_ble_eq_true rfl)) dL_writeStall_4 hc ?_
    rcases (show i = 0 ∨ i = 1 ∨ i = 2 by omega) with rfl | rfl | rfl
    · cases h1
      refine XT.catch [] _ [_] rfl (fun z hz => by cases hz) rfl (by decide) (show Cond.classLink RL 21 "java/lang/IllegalStateException" ∈ wsG from inT4 223 rfl rfl) (List.mem_filter.mpr ⟨castISE, rfl⟩) rfl (Or.inr ⟨3, dL_writeStall_12, rfl, rfl⟩) (Nat.le_of_ble_eq_true rfl) rfl ?_
      refine x_iconst 1 dL_writeStall_13 rfl ?_
      exact x_iret rfl dL_writeStall_14 ⟨rfl, rfl, rfl⟩
    · cases h1
      refine XT.catch [_] _ [] rfl (fun z hz => by obtain rfl := List.mem_singleton.mp hz; exact Or.inr ⟨by decide, "java/lang/IllegalStateException", (show Cond.classLink RL 21 "java/lang/IllegalStateException" ∈ wsG from inT4 223 rfl rfl), by decide +kernel⟩) rfl (by decide) (show Cond.classLink RL 13 "java/lang/IndexOutOfBoundsException" ∈ wsG from inT2 187 rfl rfl) (List.mem_filter.mpr ⟨castIOB, rfl⟩) rfl (Or.inr ⟨3, dL_writeStall_15, rfl, rfl⟩) (Nat.le_of_ble_eq_true rfl) rfl ?_
      refine x_iconst 2 dL_writeStall_16 rfl ?_
      exact x_iret rfl dL_writeStall_17 ⟨rfl, rfl, rfl⟩
    · cases h1
  | ok v =>
    obtain rfl : t = 0 := hE
    refine X.less (bc' := a6 + 0) (bs' := b6 + 0) ?_ (Nat.le_refl _) (Nat.le_refl _)
    refine y_callV1 (bc := 0) (bs := 0) (cs_L_159 _) (ci := 7) rfl H0.1 H0.2 (As := [.int x1]) (rest := [.int 0, .ref o]) rfl rfl (Nat.le_of_ble_eq_true rfl) (dep (show d + 1 ≤ d + 1 from Nat.le_refl _) (Nat.le_of_ble_eq_true rfl)) dL_writeStall_4 hc ?_
    refine x_i2l dL_writeStall_7 ?_
    refine x_last Ho.1 Ho.2 (j := 0) rfl ⟨by decide, by decide⟩ dL_writeStall_8 ?_
    refine x_goto 18 dL_writeStall_9 rfl ?_
    refine x_iconst 0 dL_writeStall_18 rfl ?_
    exact x_iret rfl dL_writeStall_19 ⟨rfl, rfl, rfl⟩
theorem wL_writePerson (d : Nat) {K K1 : Kt} {I I1 : Mem} {x0 o a6 b6 : Nat} {x1 : Int32} {r : Except String Int32} {t : Int32} (H0 : LO K 7 x0) (Ho : LA K1 103 1 o) (hc : Ct (mX9_writePerson d) cX9_writePerson a6 b6 [.ref x0, .int x1] I K (Ro (rI r) I1 K1)) (hE : Ec ["java/lang/IllegalStateException", "java/lang/IndexOutOfBoundsException"] r t) : Ct (mL_writePerson (d + 1)) cL_writePerson a6 b6 [.ref x0, .int x1, .ref o] I K (Ro (.inl (some (.int t))) I1 (KJ K1 o r)) := by
  refine Ct.ofH rfl pn_L (catR (catI (catR cat0))) (Nat.le_of_ble_eq_true rfl) (show X _ _ _ _ _ _ 0 [.ref x0, .int x1, .ref o, .retAddr 0] [] _ from ?_)
  refine x_aloadn dL_writePerson_0 rfl ?_
  refine x_iconst 0 dL_writePerson_1 rfl ?_
  refine x_aloadn dL_writePerson_2 rfl ?_
  refine x_iloadn dL_writePerson_3 rfl ?_
  cases r with
  | error E =>
    obtain ⟨i, h1, h2, rfl⟩ := hE
    refine X.less (bc' := a6 + 0) (bs' := b6 + 0) ?_ (Nat.le_refl _) (Nat.le_refl _)
    refine y_callVe (bc := 0) (bs := 0) (cs_L_162 _) (ci := 7) rfl H0.1 H0.2 (As := [.int x1]) (rest := [.int 0, .ref o]) rfl rfl (Nat.le_of_ble_eq_true rfl) (dep (show d + 1 ≤ d + 1 from Nat.le_refl _) (Nat.le_of_ble_eq_true rfl)) dL_writePerson_4 hc ?_
    rcases (show i = 0 ∨ i = 1 ∨ i = 2 by omega) with rfl | rfl | rfl
    · cases h1
      refine XT.catch [] _ [_] rfl (fun z hz => by cases hz) rfl (by decide) (show Cond.classLink RL 21 "java/lang/IllegalStateException" ∈ wsG from inT4 223 rfl rfl) (List.mem_filter.mpr ⟨castISE, rfl⟩) rfl (Or.inr ⟨3, dL_writePerson_12, rfl, rfl⟩) (Nat.le_of_ble_eq_true rfl) rfl ?_
      refine x_iconst 1 dL_writePerson_13 rfl ?_
      exact x_iret rfl dL_writePerson_14 ⟨rfl, rfl, rfl⟩
    · cases h1
      refine XT.catch [_] _ [] rfl (fun z hz => by obtain rfl := List.mem_singleton.mp hz; exact Or.inr ⟨by decide, "java/lang/IllegalStateException", (show Cond.classLink RL 21 "java/lang/IllegalStateException" ∈ wsG from inT4 223 rfl rfl), by decide +kernel⟩) rfl (by decide) (show Cond.classLink RL 13 "java/lang/IndexOutOfBoundsException" ∈ wsG from inT2 187 rfl rfl) (List.mem_filter.mpr ⟨castIOB, rfl⟩) rfl (Or.inr ⟨3, dL_writePerson_15, rfl, rfl⟩) (Nat.le_of_ble_eq_true rfl) rfl ?_
      refine x_iconst 2 dL_writePerson_16 rfl ?_
      exact x_iret rfl dL_writePerson_17 ⟨rfl, rfl, rfl⟩
    · cases h1
  | ok v =>
    obtain rfl : t = 0 := hE
    refine X.less (bc' := a6 + 0) (bs' := b6 + 0) ?_ (Nat.le_refl _) (Nat.le_refl _)
    refine y_callV1 (bc := 0) (bs := 0) (cs_L_162 _) (ci := 7) rfl H0.1 H0.2 (As := [.int x1]) (rest := [.int 0, .ref o]) rfl rfl (Nat.le_of_ble_eq_true rfl) (dep (show d + 1 ≤ d + 1 from Nat.le_refl _) (Nat.le_of_ble_eq_true rfl)) dL_writePerson_4 hc ?_
    refine x_i2l dL_writePerson_7 ?_
    refine x_last Ho.1 Ho.2 (j := 0) rfl ⟨by decide, by decide⟩ dL_writePerson_8 ?_
    refine x_goto 18 dL_writePerson_9 rfl ?_
    refine x_iconst 0 dL_writePerson_18 rfl ?_
    exact x_iret rfl dL_writePerson_19 ⟨rfl, rfl, rfl⟩
theorem wL_outputByte (d : Nat) {K K1 : Kt} {I I1 : Mem} {x0 o a6 b6 : Nat} {x1 : Int32} {r : Except String Int32} {t : Int32} (H0 : LO K 7 x0) (Ho : LA K1 103 1 o) (hc : Ct (mX9_outputByte d) cX9_outputByte a6 b6 [.ref x0, .int x1] I K (Ro (rI r) I1 K1)) (hE : Ec ["java/lang/IndexOutOfBoundsException"] r t) : Ct (mL_outputByte (d + 1)) cL_outputByte a6 b6 [.ref x0, .int x1, .ref o] I K (Ro (.inl (some (.int t))) I1 (KJ K1 o r)) := by
  refine Ct.ofH rfl pn_L (catR (catI (catR cat0))) (Nat.le_of_ble_eq_true rfl) (show X _ _ _ _ _ _ 0 [.ref x0, .int x1, .ref o, .retAddr 0] [] _ from ?_)
  refine x_aloadn dL_outputByte_0 rfl ?_
  refine x_iconst 0 dL_outputByte_1 rfl ?_
  refine x_aloadn dL_outputByte_2 rfl ?_
  refine x_iloadn dL_outputByte_3 rfl ?_
  cases r with
  | error E =>
    obtain ⟨i, h1, h2, rfl⟩ := hE
    refine X.less (bc' := a6 + 0) (bs' := b6 + 0) ?_ (Nat.le_refl _) (Nat.le_refl _)
    refine y_callVe (bc := 0) (bs := 0) (cs_L_165 _) (ci := 7) rfl H0.1 H0.2 (As := [.int x1]) (rest := [.int 0, .ref o]) rfl rfl (Nat.le_of_ble_eq_true rfl) (dep (show d + 1 ≤ d + 1 from Nat.le_refl _) (Nat.le_of_ble_eq_true rfl)) dL_outputByte_4 hc ?_
    rcases (show i = 0 ∨ i = 1 ∨ i = 2 by omega) with rfl | rfl | rfl
    · cases h1
      refine XT.catch [] _ [] rfl (fun z hz => by cases hz) rfl (by decide) (show Cond.classLink RL 13 "java/lang/IndexOutOfBoundsException" ∈ wsG from inT2 187 rfl rfl) (List.mem_filter.mpr ⟨castIOB, rfl⟩) rfl (Or.inr ⟨3, dL_outputByte_12, rfl, rfl⟩) (Nat.le_of_ble_eq_true rfl) rfl ?_
      refine x_iconst 1 dL_outputByte_13 rfl ?_
      exact x_iret rfl dL_outputByte_14 ⟨rfl, rfl, rfl⟩
    · cases h1
    · cases h1
  | ok v =>
    obtain rfl : t = 0 := hE
    refine X.less (bc' := a6 + 0) (bs' := b6 + 0) ?_ (Nat.le_refl _) (Nat.le_refl _)
    refine y_callV1 (bc := 0) (bs := 0) (cs_L_165 _) (ci := 7) rfl H0.1 H0.2 (As := [.int x1]) (rest := [.int 0, .ref o]) rfl rfl (Nat.le_of_ble_eq_true rfl) (dep (show d + 1 ≤ d + 1 from Nat.le_refl _) (Nat.le_of_ble_eq_true rfl)) dL_outputByte_4 hc ?_
    refine x_i2l dL_outputByte_7 ?_
    refine x_last Ho.1 Ho.2 (j := 0) rfl ⟨by decide, by decide⟩ dL_outputByte_8 ?_
    refine x_goto 15 dL_outputByte_9 rfl ?_
    refine x_iconst 0 dL_outputByte_15 rfl ?_
    exact x_iret rfl dL_outputByte_16 ⟨rfl, rfl, rfl⟩
theorem wL_advance (d : Nat) {K K1 : Kt} {I I1 : Mem} {x0 o a6 b6 : Nat} {x1 : Int32} {r : Except String Int32} {t : Int32} (H0 : LO K 7 x0) (Ho : LA K1 103 1 o) (hc : Ct (mX9_advance d) cX9_advance a6 b6 [.ref x0, .int x1] I K (Ro (rI r) I1 K1)) (hE : Ec ["java/lang/IllegalStateException", "java/lang/IllegalArgumentException"] r t) : Ct (mL_advance (d + 1)) cL_advance a6 b6 [.ref x0, .int x1, .ref o] I K (Ro (.inl (some (.int t))) I1 (KJ K1 o r)) := by
  refine Ct.ofH rfl pn_L (catR (catI (catR cat0))) (Nat.le_of_ble_eq_true rfl) (show X _ _ _ _ _ _ 0 [.ref x0, .int x1, .ref o, .retAddr 0] [] _ from ?_)
  refine x_aloadn dL_advance_0 rfl ?_
  refine x_iconst 0 dL_advance_1 rfl ?_
  refine x_aloadn dL_advance_2 rfl ?_
  refine x_iloadn dL_advance_3 rfl ?_
  cases r with
  | error E =>
    obtain ⟨i, h1, h2, rfl⟩ := hE
    refine X.less (bc' := a6 + 0) (bs' := b6 + 0) ?_ (Nat.le_refl _) (Nat.le_refl _)
    refine y_callVe (bc := 0) (bs := 0) (cs_L_168 _) (ci := 7) rfl H0.1 H0.2 (As := [.int x1]) (rest := [.int 0, .ref o]) rfl rfl (Nat.le_of_ble_eq_true rfl) (dep (show d + 1 ≤ d + 1 from Nat.le_refl _) (Nat.le_of_ble_eq_true rfl)) dL_advance_4 hc ?_
    rcases (show i = 0 ∨ i = 1 ∨ i = 2 by omega) with rfl | rfl | rfl
    · cases h1
      refine XT.catch [] _ [_] rfl (fun z hz => by cases hz) rfl (by decide) (show Cond.classLink RL 21 "java/lang/IllegalStateException" ∈ wsG from inT4 223 rfl rfl) (List.mem_filter.mpr ⟨castISE, rfl⟩) rfl (Or.inr ⟨3, dL_advance_12, rfl, rfl⟩) (Nat.le_of_ble_eq_true rfl) rfl ?_
      refine x_iconst 1 dL_advance_13 rfl ?_
      exact x_iret rfl dL_advance_14 ⟨rfl, rfl, rfl⟩
    · cases h1
      refine XT.catch [_] _ [] rfl (fun z hz => by obtain rfl := List.mem_singleton.mp hz; exact Or.inr ⟨by decide, "java/lang/IllegalStateException", (show Cond.classLink RL 21 "java/lang/IllegalStateException" ∈ wsG from inT4 223 rfl rfl), by decide +kernel⟩) rfl (by decide) (show Cond.classLink RL 15 "java/lang/IllegalArgumentException" ∈ wsG from inT2 188 rfl rfl) (List.mem_filter.mpr ⟨castIAE, rfl⟩) rfl (Or.inr ⟨3, dL_advance_15, rfl, rfl⟩) (Nat.le_of_ble_eq_true rfl) rfl ?_
      refine x_iconst 2 dL_advance_16 rfl ?_
      exact x_iret rfl dL_advance_17 ⟨rfl, rfl, rfl⟩
    · cases h1
  | ok v =>
    obtain rfl : t = 0 := hE
    refine X.less (bc' := a6 + 0) (bs' := b6 + 0) ?_ (Nat.le_refl _) (Nat.le_refl _)
    refine y_callV1 (bc := 0) (bs := 0) (cs_L_168 _) (ci := 7) rfl H0.1 H0.2 (As := [.int x1]) (rest := [.int 0, .ref o]) rfl rfl (Nat.le_of_ble_eq_true rfl) (dep (show d + 1 ≤ d + 1 from Nat.le_refl _) (Nat.le_of_ble_eq_true rfl)) dL_advance_4 hc ?_
    refine x_i2l dL_advance_7 ?_
    refine x_last Ho.1 Ho.2 (j := 0) rfl ⟨by decide, by decide⟩ dL_advance_8 ?_
    refine x_goto 18 dL_advance_9 rfl ?_
    refine x_iconst 0 dL_advance_18 rfl ?_
    exact x_iret rfl dL_advance_19 ⟨rfl, rfl, rfl⟩
theorem wL_buy (d : Nat) {K K1 : Kt} {I I1 : Mem} {x0 o a6 b6 : Nat} {x1 x2 : Int32} {r : Except String Int32} {t : Int32} (H0 : LO K 7 x0) (Ho : LA K1 103 1 o) (hc : Ct (mX9_buy d) cX9_buy a6 b6 [.ref x0, .int x1, .int x2] I K (Ro (rI r) I1 K1)) (hE : Ec ["java/lang/IllegalStateException", "java/lang/IndexOutOfBoundsException", "java/lang/IllegalArgumentException"] r t) : Ct (mL_buy (d + 1)) cL_buy a6 b6 [.ref x0, .int x1, .int x2, .ref o] I K (Ro (.inl (some (.int t))) I1 (KJ K1 o r)) := by
  refine Ct.ofH rfl pn_L (catR (catI (catI (catR cat0)))) (Nat.le_of_ble_eq_true rfl) (show X _ _ _ _ _ _ 0 [.ref x0, .int x1, .int x2, .ref o, .retAddr 0] [] _ from ?_)
  refine x_aloadn dL_buy_0 rfl ?_
  refine x_iconst 0 dL_buy_1 rfl ?_
  refine x_aloadn dL_buy_2 rfl ?_
  refine x_iloadn dL_buy_3 rfl ?_
  refine x_iloadn dL_buy_4 rfl ?_
  cases r with
  | error E =>
    obtain ⟨i, h1, h2, rfl⟩ := hE
    refine X.less (bc' := a6 + 0) (bs' := b6 + 0) ?_ (Nat.le_refl _) (Nat.le_refl _)
    refine y_callVe (bc := 0) (bs := 0) (cs_L_171 _) (ci := 7) rfl H0.1 H0.2 (As := [.int x1, .int x2]) (rest := [.int 0, .ref o]) rfl rfl (Nat.le_of_ble_eq_true rfl) (dep (show d + 1 ≤ d + 1 from Nat.le_refl _) (Nat.le_of_ble_eq_true rfl)) dL_buy_5 hc ?_
    rcases (show i = 0 ∨ i = 1 ∨ i = 2 by omega) with rfl | rfl | rfl
    · cases h1
      refine XT.catch [] _ [_, _] rfl (fun z hz => by cases hz) rfl (by decide) (show Cond.classLink RL 21 "java/lang/IllegalStateException" ∈ wsG from inT4 223 rfl rfl) (List.mem_filter.mpr ⟨castISE, rfl⟩) rfl (Or.inl ⟨dL_buy_13, rfl⟩) (Nat.le_of_ble_eq_true rfl) rfl ?_
      refine x_iconst 1 dL_buy_15 rfl ?_
      exact x_iret rfl dL_buy_16 ⟨rfl, rfl, rfl⟩
    · cases h1
      refine XT.catch [_] _ [_] rfl (fun z hz => by obtain rfl := List.mem_singleton.mp hz; exact Or.inr ⟨by decide, "java/lang/IllegalStateException", (show Cond.classLink RL 21 "java/lang/IllegalStateException" ∈ wsG from inT4 223 rfl rfl), by decide +kernel⟩) rfl (by decide) (show Cond.classLink RL 13 "java/lang/IndexOutOfBoundsException" ∈ wsG from inT2 187 rfl rfl) (List.mem_filter.mpr ⟨castIOB, rfl⟩) rfl (Or.inl ⟨dL_buy_17, rfl⟩) (Nat.le_of_ble_eq_true rfl) rfl ?_
      refine x_iconst 2 dL_buy_19 rfl ?_
      exact x_iret rfl dL_buy_20 ⟨rfl, rfl, rfl⟩
    · cases h1
      skip
      refine XT.catch [_, _] _ [] rfl (fun z hz => (List.mem_cons.mp hz).elim (fun e => by subst e; exact Or.inr ⟨by decide, "java/lang/IllegalStateException", (show Cond.classLink RL 21 "java/lang/IllegalStateException" ∈ wsG from inT4 223 rfl rfl), by decide +kernel⟩) (fun hz => by obtain rfl := List.mem_singleton.mp hz; exact Or.inr ⟨by decide, "java/lang/IndexOutOfBoundsException", (show Cond.classLink RL 13 "java/lang/IndexOutOfBoundsException" ∈ wsG from inT2 187 rfl rfl), by decide +kernel⟩)) rfl (by decide) (show Cond.classLink RL 15 "java/lang/IllegalArgumentException" ∈ wsG from inT2 188 rfl rfl) (List.mem_filter.mpr ⟨castIAE, rfl⟩) rfl (Or.inl ⟨dL_buy_21, rfl⟩) (Nat.le_of_ble_eq_true rfl) rfl ?_
      refine x_iconst 3 dL_buy_23 rfl ?_
      exact x_iret rfl dL_buy_24 ⟨rfl, rfl, rfl⟩
  | ok v =>
    obtain rfl : t = 0 := hE
    refine X.less (bc' := a6 + 0) (bs' := b6 + 0) ?_ (Nat.le_refl _) (Nat.le_refl _)
    refine y_callV1 (bc := 0) (bs := 0) (cs_L_171 _) (ci := 7) rfl H0.1 H0.2 (As := [.int x1, .int x2]) (rest := [.int 0, .ref o]) rfl rfl (Nat.le_of_ble_eq_true rfl) (dep (show d + 1 ≤ d + 1 from Nat.le_refl _) (Nat.le_of_ble_eq_true rfl)) dL_buy_5 hc ?_
    refine x_i2l dL_buy_8 ?_
    refine x_last Ho.1 Ho.2 (j := 0) rfl ⟨by decide, by decide⟩ dL_buy_9 ?_
    refine x_goto 25 dL_buy_10 rfl ?_
    refine x_iconst 0 dL_buy_25 rfl ?_
    exact x_iret rfl dL_buy_26 ⟨rfl, rfl, rfl⟩
theorem wL_sell (d : Nat) {K K1 : Kt} {I I1 : Mem} {x0 o a6 b6 : Nat} {x1 x2 : Int32} {r : Except String Int32} {t : Int32} (H0 : LO K 7 x0) (Ho : LA K1 103 1 o) (hc : Ct (mX9_sell d) cX9_sell a6 b6 [.ref x0, .int x1, .int x2] I K (Ro (rI r) I1 K1)) (hE : Ec ["java/lang/IllegalStateException", "java/lang/IndexOutOfBoundsException", "java/lang/IllegalArgumentException"] r t) : Ct (mL_sell (d + 1)) cL_sell a6 b6 [.ref x0, .int x1, .int x2, .ref o] I K (Ro (.inl (some (.int t))) I1 (KJ K1 o r)) := by
  refine Ct.ofH rfl pn_L (catR (catI (catI (catR cat0)))) (Nat.le_of_ble_eq_true rfl) (show X _ _ _ _ _ _ 0 [.ref x0, .int x1, .int x2, .ref o, .retAddr 0] [] _ from ?_)
  refine x_aloadn dL_sell_0 rfl ?_
  refine x_iconst 0 dL_sell_1 rfl ?_
  refine x_aloadn dL_sell_2 rfl ?_
  refine x_iloadn dL_sell_3 rfl ?_
  refine x_iloadn dL_sell_4 rfl ?_
  cases r with
  | error E =>
    obtain ⟨i, h1, h2, rfl⟩ := hE
    refine X.less (bc' := a6 + 0) (bs' := b6 + 0) ?_ (Nat.le_refl _) (Nat.le_refl _)
    refine y_callVe (bc := 0) (bs := 0) (cs_L_174 _) (ci := 7) rfl H0.1 H0.2 (As := [.int x1, .int x2]) (rest := [.int 0, .ref o]) rfl rfl (Nat.le_of_ble_eq_true rfl) (dep (show d + 1 ≤ d + 1 from Nat.le_refl _) (Nat.le_of_ble_eq_true rfl)) dL_sell_5 hc ?_
    rcases (show i = 0 ∨ i = 1 ∨ i = 2 by omega) with rfl | rfl | rfl
    · cases h1
      refine XT.catch [] _ [_, _] rfl (fun z hz => by cases hz) rfl (by decide) (show Cond.classLink RL 21 "java/lang/IllegalStateException" ∈ wsG from inT4 223 rfl rfl) (List.mem_filter.mpr ⟨castISE, rfl⟩) rfl (Or.inl ⟨dL_sell_13, rfl⟩) (Nat.le_of_ble_eq_true rfl) rfl ?_
      refine x_iconst 1 dL_sell_15 rfl ?_
      exact x_iret rfl dL_sell_16 ⟨rfl, rfl, rfl⟩
    · cases h1
      refine XT.catch [_] _ [_] rfl (fun z hz => by obtain rfl := List.mem_singleton.mp hz; exact Or.inr ⟨by decide, "java/lang/IllegalStateException", (show Cond.classLink RL 21 "java/lang/IllegalStateException" ∈ wsG from inT4 223 rfl rfl), by decide +kernel⟩) rfl (by decide) (show Cond.classLink RL 13 "java/lang/IndexOutOfBoundsException" ∈ wsG from inT2 187 rfl rfl) (List.mem_filter.mpr ⟨castIOB, rfl⟩) rfl (Or.inl ⟨dL_sell_17, rfl⟩) (Nat.le_of_ble_eq_true rfl) rfl ?_
      refine x_iconst 2 dL_sell_19 rfl ?_
      exact x_iret rfl dL_sell_20 ⟨rfl, rfl, rfl⟩
    · cases h1
      skip
      refine XT.catch [_, _] _ [] rfl (fun z hz => (List.mem_cons.mp hz).elim (fun e => by subst e; exact Or.inr ⟨by decide, "java/lang/IllegalStateException", (show Cond.classLink RL 21 "java/lang/IllegalStateException" ∈ wsG from inT4 223 rfl rfl), by decide +kernel⟩) (fun hz => by obtain rfl := List.mem_singleton.mp hz; exact Or.inr ⟨by decide, "java/lang/IndexOutOfBoundsException", (show Cond.classLink RL 13 "java/lang/IndexOutOfBoundsException" ∈ wsG from inT2 187 rfl rfl), by decide +kernel⟩)) rfl (by decide) (show Cond.classLink RL 15 "java/lang/IllegalArgumentException" ∈ wsG from inT2 188 rfl rfl) (List.mem_filter.mpr ⟨castIAE, rfl⟩) rfl (Or.inl ⟨dL_sell_21, rfl⟩) (Nat.le_of_ble_eq_true rfl) rfl ?_
      refine x_iconst 3 dL_sell_23 rfl ?_
      exact x_iret rfl dL_sell_24 ⟨rfl, rfl, rfl⟩
  | ok v =>
    obtain rfl : t = 0 := hE
    refine X.less (bc' := a6 + 0) (bs' := b6 + 0) ?_ (Nat.le_refl _) (Nat.le_refl _)
    refine y_callV1 (bc := 0) (bs := 0) (cs_L_174 _) (ci := 7) rfl H0.1 H0.2 (As := [.int x1, .int x2]) (rest := [.int 0, .ref o]) rfl rfl (Nat.le_of_ble_eq_true rfl) (dep (show d + 1 ≤ d + 1 from Nat.le_refl _) (Nat.le_of_ble_eq_true rfl)) dL_sell_5 hc ?_
    refine x_i2l dL_sell_8 ?_
    refine x_last Ho.1 Ho.2 (j := 0) rfl ⟨by decide, by decide⟩ dL_sell_9 ?_
    refine x_goto 25 dL_sell_10 rfl ?_
    refine x_iconst 0 dL_sell_25 rfl ?_
    exact x_iret rfl dL_sell_26 ⟨rfl, rfl, rfl⟩
theorem wL_returnWish (d : Nat) {K K1 : Kt} {I I1 : Mem} {x0 o a6 b6 : Nat} {x1 : Int32} {r : Except String Int32} {t : Int32} (H0 : LO K 7 x0) (Ho : LA K1 103 1 o) (hc : Ct (mX9_returnWish d) cX9_returnWish a6 b6 [.ref x0, .int x1] I K (Ro (rI r) I1 K1)) (hE : Ec ["java/lang/IllegalStateException", "java/lang/IndexOutOfBoundsException", "java/lang/IllegalArgumentException"] r t) : Ct (mL_returnWish (d + 1)) cL_returnWish a6 b6 [.ref x0, .int x1, .ref o] I K (Ro (.inl (some (.int t))) I1 (KJ K1 o r)) := by
  refine Ct.ofH rfl pn_L (catR (catI (catR cat0))) (Nat.le_of_ble_eq_true rfl) (show X _ _ _ _ _ _ 0 [.ref x0, .int x1, .ref o, .retAddr 0] [] _ from ?_)
  refine x_aloadn dL_returnWish_0 rfl ?_
  refine x_iconst 0 dL_returnWish_1 rfl ?_
  refine x_aloadn dL_returnWish_2 rfl ?_
  refine x_iloadn dL_returnWish_3 rfl ?_
  cases r with
  | error E =>
    obtain ⟨i, h1, h2, rfl⟩ := hE
    refine X.less (bc' := a6 + 0) (bs' := b6 + 0) ?_ (Nat.le_refl _) (Nat.le_refl _)
    refine y_callVe (bc := 0) (bs := 0) (cs_L_177 _) (ci := 7) rfl H0.1 H0.2 (As := [.int x1]) (rest := [.int 0, .ref o]) rfl rfl (Nat.le_of_ble_eq_true rfl) (dep (show d + 1 ≤ d + 1 from Nat.le_refl _) (Nat.le_of_ble_eq_true rfl)) dL_returnWish_4 hc ?_
    rcases (show i = 0 ∨ i = 1 ∨ i = 2 by omega) with rfl | rfl | rfl
    · cases h1
      refine XT.catch [] _ [_, _] rfl (fun z hz => by cases hz) rfl (by decide) (show Cond.classLink RL 21 "java/lang/IllegalStateException" ∈ wsG from inT4 223 rfl rfl) (List.mem_filter.mpr ⟨castISE, rfl⟩) rfl (Or.inr ⟨3, dL_returnWish_12, rfl, rfl⟩) (Nat.le_of_ble_eq_true rfl) rfl ?_
      refine x_iconst 1 dL_returnWish_13 rfl ?_
      exact x_iret rfl dL_returnWish_14 ⟨rfl, rfl, rfl⟩
    · cases h1
      refine XT.catch [_] _ [_] rfl (fun z hz => by obtain rfl := List.mem_singleton.mp hz; exact Or.inr ⟨by decide, "java/lang/IllegalStateException", (show Cond.classLink RL 21 "java/lang/IllegalStateException" ∈ wsG from inT4 223 rfl rfl), by decide +kernel⟩) rfl (by decide) (show Cond.classLink RL 13 "java/lang/IndexOutOfBoundsException" ∈ wsG from inT2 187 rfl rfl) (List.mem_filter.mpr ⟨castIOB, rfl⟩) rfl (Or.inr ⟨3, dL_returnWish_15, rfl, rfl⟩) (Nat.le_of_ble_eq_true rfl) rfl ?_
      refine x_iconst 2 dL_returnWish_16 rfl ?_
      exact x_iret rfl dL_returnWish_17 ⟨rfl, rfl, rfl⟩
    · cases h1
      skip
      refine XT.catch [_, _] _ [] rfl (fun z hz => (List.mem_cons.mp hz).elim (fun e => by subst e; exact Or.inr ⟨by decide, "java/lang/IllegalStateException", (show Cond.classLink RL 21 "java/lang/IllegalStateException" ∈ wsG from inT4 223 rfl rfl), by decide +kernel⟩) (fun hz => by obtain rfl := List.mem_singleton.mp hz; exact Or.inr ⟨by decide, "java/lang/IndexOutOfBoundsException", (show Cond.classLink RL 13 "java/lang/IndexOutOfBoundsException" ∈ wsG from inT2 187 rfl rfl), by decide +kernel⟩)) rfl (by decide) (show Cond.classLink RL 15 "java/lang/IllegalArgumentException" ∈ wsG from inT2 188 rfl rfl) (List.mem_filter.mpr ⟨castIAE, rfl⟩) rfl (Or.inr ⟨3, dL_returnWish_18, rfl, rfl⟩) (Nat.le_of_ble_eq_true rfl) rfl ?_
      refine x_iconst 3 dL_returnWish_19 rfl ?_
      exact x_iret rfl dL_returnWish_20 ⟨rfl, rfl, rfl⟩
  | ok v =>
    obtain rfl : t = 0 := hE
    refine X.less (bc' := a6 + 0) (bs' := b6 + 0) ?_ (Nat.le_refl _) (Nat.le_refl _)
    refine y_callV1 (bc := 0) (bs := 0) (cs_L_177 _) (ci := 7) rfl H0.1 H0.2 (As := [.int x1]) (rest := [.int 0, .ref o]) rfl rfl (Nat.le_of_ble_eq_true rfl) (dep (show d + 1 ≤ d + 1 from Nat.le_refl _) (Nat.le_of_ble_eq_true rfl)) dL_returnWish_4 hc ?_
    refine x_i2l dL_returnWish_7 ?_
    refine x_last Ho.1 Ho.2 (j := 0) rfl ⟨by decide, by decide⟩ dL_returnWish_8 ?_
    refine x_goto 21 dL_returnWish_9 rfl ?_
    refine x_iconst 0 dL_returnWish_21 rfl ?_
    exact x_iret rfl dL_returnWish_22 ⟨rfl, rfl, rfl⟩
theorem wL_grant (d : Nat) {K K1 : Kt} {I I1 : Mem} {x0 o a6 b6 : Nat} {x1 : Int32} {r : Except String Int32} {t : Int32} (H0 : LO K 7 x0) (Ho : LA K1 103 1 o) (hc : Ct (mX9_grant d) cX9_grant a6 b6 [.ref x0, .int x1] I K (Ro (rI r) I1 K1)) (hE : Ec ["java/lang/IllegalStateException", "java/lang/IndexOutOfBoundsException", "java/lang/IllegalArgumentException"] r t) : Ct (mL_grant (d + 1)) cL_grant a6 b6 [.ref x0, .int x1, .ref o] I K (Ro (.inl (some (.int t))) I1 (KJ K1 o r)) := by
  refine Ct.ofH rfl pn_L (catR (catI (catR cat0))) (Nat.le_of_ble_eq_true rfl) (show X _ _ _ _ _ _ 0 [.ref x0, .int x1, .ref o, .retAddr 0] [] _ from ?_)
  refine x_aloadn dL_grant_0 rfl ?_
  refine x_iconst 0 dL_grant_1 rfl ?_
  refine x_aloadn dL_grant_2 rfl ?_
  refine x_iloadn dL_grant_3 rfl ?_
  cases r with
  | error E =>
    obtain ⟨i, h1, h2, rfl⟩ := hE
    refine X.less (bc' := a6 + 0) (bs' := b6 + 0) ?_ (Nat.le_refl _) (Nat.le_refl _)
    refine y_callVe (bc := 0) (bs := 0) (cs_L_180 _) (ci := 7) rfl H0.1 H0.2 (As := [.int x1]) (rest := [.int 0, .ref o]) rfl rfl (Nat.le_of_ble_eq_true rfl) (dep (show d + 1 ≤ d + 1 from Nat.le_refl _) (Nat.le_of_ble_eq_true rfl)) dL_grant_4 hc ?_
    rcases (show i = 0 ∨ i = 1 ∨ i = 2 by omega) with rfl | rfl | rfl
    · cases h1
      refine XT.catch [] _ [_, _] rfl (fun z hz => by cases hz) rfl (by decide) (show Cond.classLink RL 21 "java/lang/IllegalStateException" ∈ wsG from inT4 223 rfl rfl) (List.mem_filter.mpr ⟨castISE, rfl⟩) rfl (Or.inr ⟨3, dL_grant_12, rfl, rfl⟩) (Nat.le_of_ble_eq_true rfl) rfl ?_
      refine x_iconst 1 dL_grant_13 rfl ?_
      exact x_iret rfl dL_grant_14 ⟨rfl, rfl, rfl⟩
    · cases h1
      refine XT.catch [_] _ [_] rfl (fun z hz => by obtain rfl := List.mem_singleton.mp hz; exact Or.inr ⟨by decide, "java/lang/IllegalStateException", (show Cond.classLink RL 21 "java/lang/IllegalStateException" ∈ wsG from inT4 223 rfl rfl), by decide +kernel⟩) rfl (by decide) (show Cond.classLink RL 13 "java/lang/IndexOutOfBoundsException" ∈ wsG from inT2 187 rfl rfl) (List.mem_filter.mpr ⟨castIOB, rfl⟩) rfl (Or.inr ⟨3, dL_grant_15, rfl, rfl⟩) (Nat.le_of_ble_eq_true rfl) rfl ?_
      refine x_iconst 2 dL_grant_16 rfl ?_
      exact x_iret rfl dL_grant_17 ⟨rfl, rfl, rfl⟩
    · cases h1
      skip
      refine XT.catch [_, _] _ [] rfl (fun z hz => (List.mem_cons.mp hz).elim (fun e => by subst e; exact Or.inr ⟨by decide, "java/lang/IllegalStateException", (show Cond.classLink RL 21 "java/lang/IllegalStateException" ∈ wsG from inT4 223 rfl rfl), by decide +kernel⟩) (fun hz => by obtain rfl := List.mem_singleton.mp hz; exact Or.inr ⟨by decide, "java/lang/IndexOutOfBoundsException", (show Cond.classLink RL 13 "java/lang/IndexOutOfBoundsException" ∈ wsG from inT2 187 rfl rfl), by decide +kernel⟩)) rfl (by decide) (show Cond.classLink RL 15 "java/lang/IllegalArgumentException" ∈ wsG from inT2 188 rfl rfl) (List.mem_filter.mpr ⟨castIAE, rfl⟩) rfl (Or.inr ⟨3, dL_grant_18, rfl, rfl⟩) (Nat.le_of_ble_eq_true rfl) rfl ?_
      refine x_iconst 3 dL_grant_19 rfl ?_
      exact x_iret rfl dL_grant_20 ⟨rfl, rfl, rfl⟩
  | ok v =>
    obtain rfl : t = 0 := hE
    refine X.less (bc' := a6 + 0) (bs' := b6 + 0) ?_ (Nat.le_refl _) (Nat.le_refl _)
    refine y_callV1 (bc := 0) (bs := 0) (cs_L_180 _) (ci := 7) rfl H0.1 H0.2 (As := [.int x1]) (rest := [.int 0, .ref o]) rfl rfl (Nat.le_of_ble_eq_true rfl) (dep (show d + 1 ≤ d + 1 from Nat.le_refl _) (Nat.le_of_ble_eq_true rfl)) dL_grant_4 hc ?_
    refine x_i2l dL_grant_7 ?_
    refine x_last Ho.1 Ho.2 (j := 0) rfl ⟨by decide, by decide⟩ dL_grant_8 ?_
    refine x_goto 21 dL_grant_9 rfl ?_
    refine x_iconst 0 dL_grant_21 rfl ?_
    exact x_iret rfl dL_grant_22 ⟨rfl, rfl, rfl⟩
theorem wL_setLimit (d : Nat) {K K1 : Kt} {I I1 : Mem} {x0 o a6 b6 : Nat} {x1 x2 : Int32} {r : Except String Int32} {t : Int32} (H0 : LO K 7 x0) (Ho : LA K1 103 1 o) (hc : Ct (mX9_setLimit d) cX9_setLimit a6 b6 [.ref x0, .int x1, .int x2] I K (Ro (rI r) I1 K1)) (hE : Ec ["java/lang/IllegalStateException", "java/lang/IndexOutOfBoundsException", "java/lang/IllegalArgumentException"] r t) : Ct (mL_setLimit (d + 1)) cL_setLimit a6 b6 [.ref x0, .int x1, .int x2, .ref o] I K (Ro (.inl (some (.int t))) I1 (KJ K1 o r)) := by
  refine Ct.ofH rfl pn_L (catR (catI (catI (catR cat0)))) (Nat.le_of_ble_eq_true rfl) (show X _ _ _ _ _ _ 0 [.ref x0, .int x1, .int x2, .ref o, .retAddr 0] [] _ from ?_)
  refine x_aloadn dL_setLimit_0 rfl ?_
  refine x_iconst 0 dL_setLimit_1 rfl ?_
  refine x_aloadn dL_setLimit_2 rfl ?_
  refine x_iloadn dL_setLimit_3 rfl ?_
  refine x_iloadn dL_setLimit_4 rfl ?_
  cases r with
  | error E =>
    obtain ⟨i, h1, h2, rfl⟩ := hE
    refine X.less (bc' := a6 + 0) (bs' := b6 + 0) ?_ (Nat.le_refl _) (Nat.le_refl _)
    refine y_callVe (bc := 0) (bs := 0) (cs_L_183 _) (ci := 7) rfl H0.1 H0.2 (As := [.int x1, .int x2]) (rest := [.int 0, .ref o]) rfl rfl (Nat.le_of_ble_eq_true rfl) (dep (show d + 1 ≤ d + 1 from Nat.le_refl _) (Nat.le_of_ble_eq_true rfl)) dL_setLimit_5 hc ?_
    rcases (show i = 0 ∨ i = 1 ∨ i = 2 by omega) with rfl | rfl | rfl
    · cases h1
      refine XT.catch [] _ [_, _] rfl (fun z hz => by cases hz) rfl (by decide) (show Cond.classLink RL 21 "java/lang/IllegalStateException" ∈ wsG from inT4 223 rfl rfl) (List.mem_filter.mpr ⟨castISE, rfl⟩) rfl (Or.inl ⟨dL_setLimit_13, rfl⟩) (Nat.le_of_ble_eq_true rfl) rfl ?_
      refine x_iconst 1 dL_setLimit_15 rfl ?_
      exact x_iret rfl dL_setLimit_16 ⟨rfl, rfl, rfl⟩
    · cases h1
      refine XT.catch [_] _ [_] rfl (fun z hz => by obtain rfl := List.mem_singleton.mp hz; exact Or.inr ⟨by decide, "java/lang/IllegalStateException", (show Cond.classLink RL 21 "java/lang/IllegalStateException" ∈ wsG from inT4 223 rfl rfl), by decide +kernel⟩) rfl (by decide) (show Cond.classLink RL 13 "java/lang/IndexOutOfBoundsException" ∈ wsG from inT2 187 rfl rfl) (List.mem_filter.mpr ⟨castIOB, rfl⟩) rfl (Or.inl ⟨dL_setLimit_17, rfl⟩) (Nat.le_of_ble_eq_true rfl) rfl ?_
      refine x_iconst 2 dL_setLimit_19 rfl ?_
      exact x_iret rfl dL_setLimit_20 ⟨rfl, rfl, rfl⟩
    · cases h1
      skip
      refine XT.catch [_, _] _ [] rfl (fun z hz => (List.mem_cons.mp hz).elim (fun e => by subst e; exact Or.inr ⟨by decide, "java/lang/IllegalStateException", (show Cond.classLink RL 21 "java/lang/IllegalStateException" ∈ wsG from inT4 223 rfl rfl), by decide +kernel⟩) (fun hz => by obtain rfl := List.mem_singleton.mp hz; exact Or.inr ⟨by decide, "java/lang/IndexOutOfBoundsException", (show Cond.classLink RL 13 "java/lang/IndexOutOfBoundsException" ∈ wsG from inT2 187 rfl rfl), by decide +kernel⟩)) rfl (by decide) (show Cond.classLink RL 15 "java/lang/IllegalArgumentException" ∈ wsG from inT2 188 rfl rfl) (List.mem_filter.mpr ⟨castIAE, rfl⟩) rfl (Or.inl ⟨dL_setLimit_21, rfl⟩) (Nat.le_of_ble_eq_true rfl) rfl ?_
      refine x_iconst 3 dL_setLimit_23 rfl ?_
      exact x_iret rfl dL_setLimit_24 ⟨rfl, rfl, rfl⟩
  | ok v =>
    obtain rfl : t = 0 := hE
    refine X.less (bc' := a6 + 0) (bs' := b6 + 0) ?_ (Nat.le_refl _) (Nat.le_refl _)
    refine y_callV1 (bc := 0) (bs := 0) (cs_L_183 _) (ci := 7) rfl H0.1 H0.2 (As := [.int x1, .int x2]) (rest := [.int 0, .ref o]) rfl rfl (Nat.le_of_ble_eq_true rfl) (dep (show d + 1 ≤ d + 1 from Nat.le_refl _) (Nat.le_of_ble_eq_true rfl)) dL_setLimit_5 hc ?_
    refine x_i2l dL_setLimit_8 ?_
    refine x_last Ho.1 Ho.2 (j := 0) rfl ⟨by decide, by decide⟩ dL_setLimit_9 ?_
    refine x_goto 25 dL_setLimit_10 rfl ?_
    refine x_iconst 0 dL_setLimit_25 rfl ?_
    exact x_iret rfl dL_setLimit_26 ⟨rfl, rfl, rfl⟩
theorem wL_setMargin (d : Nat) {K K1 : Kt} {I I1 : Mem} {x0 o a6 b6 : Nat} {x1 x2 : Int32} {r : Except String Int32} {t : Int32} (H0 : LO K 7 x0) (Ho : LA K1 103 1 o) (hc : Ct (mX9_setMargin d) cX9_setMargin a6 b6 [.ref x0, .int x1, .int x2] I K (Ro (rI r) I1 K1)) (hE : Ec ["java/lang/IllegalStateException", "java/lang/IndexOutOfBoundsException", "java/lang/IllegalArgumentException"] r t) : Ct (mL_setMargin (d + 1)) cL_setMargin a6 b6 [.ref x0, .int x1, .int x2, .ref o] I K (Ro (.inl (some (.int t))) I1 (KJ K1 o r)) := by
  refine Ct.ofH rfl pn_L (catR (catI (catI (catR cat0)))) (Nat.le_of_ble_eq_true rfl) (show X _ _ _ _ _ _ 0 [.ref x0, .int x1, .int x2, .ref o, .retAddr 0] [] _ from ?_)
  refine x_aloadn dL_setMargin_0 rfl ?_
  refine x_iconst 0 dL_setMargin_1 rfl ?_
  refine x_aloadn dL_setMargin_2 rfl ?_
  refine x_iloadn dL_setMargin_3 rfl ?_
  refine x_iloadn dL_setMargin_4 rfl ?_
  cases r with
  | error E =>
    obtain ⟨i, h1, h2, rfl⟩ := hE
    refine X.less (bc' := a6 + 0) (bs' := b6 + 0) ?_ (Nat.le_refl _) (Nat.le_refl _)
    refine y_callVe (bc := 0) (bs := 0) (cs_L_186 _) (ci := 7) rfl H0.1 H0.2 (As := [.int x1, .int x2]) (rest := [.int 0, .ref o]) rfl rfl (Nat.le_of_ble_eq_true rfl) (dep (show d + 1 ≤ d + 1 from Nat.le_refl _) (Nat.le_of_ble_eq_true rfl)) dL_setMargin_5 hc ?_
    rcases (show i = 0 ∨ i = 1 ∨ i = 2 by omega) with rfl | rfl | rfl
    · cases h1
      refine XT.catch [] _ [_, _] rfl (fun z hz => by cases hz) rfl (by decide) (show Cond.classLink RL 21 "java/lang/IllegalStateException" ∈ wsG from inT4 223 rfl rfl) (List.mem_filter.mpr ⟨castISE, rfl⟩) rfl (Or.inl ⟨dL_setMargin_13, rfl⟩) (Nat.le_of_ble_eq_true rfl) rfl ?_
      refine x_iconst 1 dL_setMargin_15 rfl ?_
      exact x_iret rfl dL_setMargin_16 ⟨rfl, rfl, rfl⟩
    · cases h1
      refine XT.catch [_] _ [_] rfl (fun z hz => by obtain rfl := List.mem_singleton.mp hz; exact Or.inr ⟨by decide, "java/lang/IllegalStateException", (show Cond.classLink RL 21 "java/lang/IllegalStateException" ∈ wsG from inT4 223 rfl rfl), by decide +kernel⟩) rfl (by decide) (show Cond.classLink RL 13 "java/lang/IndexOutOfBoundsException" ∈ wsG from inT2 187 rfl rfl) (List.mem_filter.mpr ⟨castIOB, rfl⟩) rfl (Or.inl ⟨dL_setMargin_17, rfl⟩) (Nat.le_of_ble_eq_true rfl) rfl ?_
      refine x_iconst 2 dL_setMargin_19 rfl ?_
      exact x_iret rfl dL_setMargin_20 ⟨rfl, rfl, rfl⟩
    · cases h1
      skip
      refine XT.catch [_, _] _ [] rfl (fun z hz => (List.mem_cons.mp hz).elim (fun e => by subst e; exact Or.inr ⟨by decide, "java/lang/IllegalStateException", (show Cond.classLink RL 21 "java/lang/IllegalStateException" ∈ wsG from inT4 223 rfl rfl), by decide +kernel⟩) (fun hz => by obtain rfl := List.mem_singleton.mp hz; exact Or.inr ⟨by decide, "java/lang/IndexOutOfBoundsException", (show Cond.classLink RL 13 "java/lang/IndexOutOfBoundsException" ∈ wsG from inT2 187 rfl rfl), by decide +kernel⟩)) rfl (by decide) (show Cond.classLink RL 15 "java/lang/IllegalArgumentException" ∈ wsG from inT2 188 rfl rfl) (List.mem_filter.mpr ⟨castIAE, rfl⟩) rfl (Or.inl ⟨dL_setMargin_21, rfl⟩) (Nat.le_of_ble_eq_true rfl) rfl ?_
      refine x_iconst 3 dL_setMargin_23 rfl ?_
      exact x_iret rfl dL_setMargin_24 ⟨rfl, rfl, rfl⟩
  | ok v =>
    obtain rfl : t = 0 := hE
    refine X.less (bc' := a6 + 0) (bs' := b6 + 0) ?_ (Nat.le_refl _) (Nat.le_refl _)
    refine y_callV1 (bc := 0) (bs := 0) (cs_L_186 _) (ci := 7) rfl H0.1 H0.2 (As := [.int x1, .int x2]) (rest := [.int 0, .ref o]) rfl rfl (Nat.le_of_ble_eq_true rfl) (dep (show d + 1 ≤ d + 1 from Nat.le_refl _) (Nat.le_of_ble_eq_true rfl)) dL_setMargin_5 hc ?_
    refine x_i2l dL_setMargin_8 ?_
    refine x_last Ho.1 Ho.2 (j := 0) rfl ⟨by decide, by decide⟩ dL_setMargin_9 ?_
    refine x_goto 25 dL_setMargin_10 rfl ?_
    refine x_iconst 0 dL_setMargin_25 rfl ?_
    exact x_iret rfl dL_setMargin_26 ⟨rfl, rfl, rfl⟩
theorem wL_undo (d : Nat) {K K1 : Kt} {I I1 : Mem} {x0 o a6 b6 : Nat} {r : Except String Int32} {t : Int32} (H0 : LO K 7 x0) (Ho : LA K1 103 1 o) (hc : Ct (mX9_undo d) cX9_undo a6 b6 [.ref x0] I K (Ro (rI r) I1 K1)) (hE : Ec ["java/lang/IllegalStateException"] r t) : Ct (mL_undo (d + 1)) cL_undo a6 b6 [.ref x0, .ref o] I K (Ro (.inl (some (.int t))) I1 (KJ K1 o r)) := by
  refine Ct.ofH rfl pn_L (catR (catR cat0)) (Nat.le_of_ble_eq_true rfl) (show X _ _ _ _ _ _ 0 [.ref x0, .ref o, .retAddr 0] [] _ from ?_)
  refine x_aloadn dL_undo_0 rfl ?_
  refine x_iconst 0 dL_undo_1 rfl ?_
  refine x_aloadn dL_undo_2 rfl ?_
  cases r with
  | error E =>
    obtain ⟨i, h1, h2, rfl⟩ := hE
    refine X.less (bc' := a6 + 0) (bs' := b6 + 0) ?_ (Nat.le_refl _) (Nat.le_refl _)
    refine y_callVe (bc := 0) (bs := 0) (cs_L_189 _) (ci := 7) rfl H0.1 H0.2 (As := []) (rest := [.int 0, .ref o]) rfl rfl (Nat.le_of_ble_eq_true rfl) (dep (show d + 1 ≤ d + 1 from Nat.le_refl _) (Nat.le_of_ble_eq_true rfl)) dL_undo_3 hc ?_
    rcases (show i = 0 ∨ i = 1 ∨ i = 2 by omega) with rfl | rfl | rfl
    · cases h1
      refine XT.catch [] _ [] rfl (fun z hz => by cases hz) rfl (by decide) (show Cond.classLink RL 21 "java/lang/IllegalStateException" ∈ wsG from inT4 223 rfl rfl) (List.mem_filter.mpr ⟨castISE, rfl⟩) rfl (Or.inr ⟨2, dL_undo_11, rfl, rfl⟩) (Nat.le_of_ble_eq_true rfl) rfl ?_
      refine x_iconst 1 dL_undo_12 rfl ?_
      exact x_iret rfl dL_undo_13 ⟨rfl, rfl, rfl⟩
    · cases h1
    · cases h1
  | ok v =>
    obtain rfl : t = 0 := hE
    refine X.less (bc' := a6 + 0) (bs' := b6 + 0) ?_ (Nat.le_refl _) (Nat.le_refl _)
    refine y_callV1 (bc := 0) (bs := 0) (cs_L_189 _) (ci := 7) rfl H0.1 H0.2 (As := []) (rest := [.int 0, .ref o]) rfl rfl (Nat.le_of_ble_eq_true rfl) (dep (show d + 1 ≤ d + 1 from Nat.le_refl _) (Nat.le_of_ble_eq_true rfl)) dL_undo_3 hc ?_
    refine x_i2l dL_undo_6 ?_
    refine x_last Ho.1 Ho.2 (j := 0) rfl ⟨by decide, by decide⟩ dL_undo_7 ?_
    refine x_goto 14 dL_undo_8 rfl ?_
    refine x_iconst 0 dL_undo_14 rfl ?_
    exact x_iret rfl dL_undo_15 ⟨rfl, rfl, rfl⟩
theorem wL_saveState (d : Nat) {K K1 : Kt} {I I1 : Mem} {x0 o a6 b6 : Nat} {x1 : Int32} {r : Except String Int32} {t : Int32} (H0 : LO K 7 x0) (Ho : LA K1 103 1 o) (hc : Ct (mX9_saveState d) cX9_saveState a6 b6 [.ref x0, .int x1] I K (Ro (rI r) I1 K1)) (hE : Ec ["java/lang/IllegalStateException", "java/lang/IndexOutOfBoundsException"] r t) : Ct (mL_saveState (d + 1)) cL_saveState a6 b6 [.ref x0, .int x1, .ref o] I K (Ro (.inl (some (.int t))) I1 (KJ K1 o r)) := by
  refine Ct.ofH rfl pn_L (catR (catI (catR cat0))) (Nat.le_of_ble_eq_true rfl) (show X _ _ _ _ _ _ 0 [.ref x0, .int x1, .ref o, .retAddr 0] [] _ from ?_)
  refine x_aloadn dL_saveState_0 rfl ?_
  refine x_iconst 0 dL_saveState_1 rfl ?_
  refine x_aloadn dL_saveState_2 rfl ?_
  refine x_iloadn dL_saveState_3 rfl ?_
  cases r with
  | error E =>
    obtain ⟨i, h1, h2, rfl⟩ := hE
    refine X.less (bc' := a6 + 0) (bs' := b6 + 0) ?_ (Nat.le_refl _) (Nat.le_refl _)
    refine y_callVe (bc := 0) (bs := 0) (cs_L_192 _) (ci := 7) rfl H0.1 H0.2 (As := [.int x1]) (rest := [.int 0, .ref o]) rfl rfl (Nat.le_of_ble_eq_true rfl) (dep (show d + 1 ≤ d + 1 from Nat.le_refl _) (Nat.le_of_ble_eq_true rfl)) dL_saveState_4 hc ?_
    rcases (show i = 0 ∨ i = 1 ∨ i = 2 by omega) with rfl | rfl | rfl
    · cases h1
      refine XT.catch [] _ [_] rfl (fun z hz => by cases hz) rfl (by decide) (show Cond.classLink RL 21 "java/lang/IllegalStateException" ∈ wsG from inT4 223 rfl rfl) (List.mem_filter.mpr ⟨castISE, rfl⟩) rfl (Or.inr ⟨3, dL_saveState_12, rfl, rfl⟩) (Nat.le_of_ble_eq_true rfl) rfl ?_
      refine x_iconst 1 dL_saveState_13 rfl ?_
      exact x_iret rfl dL_saveState_14 ⟨rfl, rfl, rfl⟩
    · cases h1
      refine XT.catch [_] _ [] rfl (fun z hz => by obtain rfl := List.mem_singleton.mp hz; exact Or.inr ⟨by decide, "java/lang/IllegalStateException", (show Cond.classLink RL 21 "java/lang/IllegalStateException" ∈ wsG from inT4 223 rfl rfl), by decide +kernel⟩) rfl (by decide) (show Cond.classLink RL 13 "java/lang/IndexOutOfBoundsException" ∈ wsG from inT2 187 rfl rfl) (List.mem_filter.mpr ⟨castIOB, rfl⟩) rfl (Or.inr ⟨3, dL_saveState_15, rfl, rfl⟩) (Nat.le_of_ble_eq_true rfl) rfl ?_
      refine x_iconst 2 dL_saveState_16 rfl ?_
      exact x_iret rfl dL_saveState_17 ⟨rfl, rfl, rfl⟩
    · cases h1
  | ok v =>
    obtain rfl : t = 0 := hE
    refine X.less (bc' := a6 + 0) (bs' := b6 + 0) ?_ (Nat.le_refl _) (Nat.le_refl _)
    refine y_callV1 (bc := 0) (bs := 0) (cs_L_192 _) (ci := 7) rfl H0.1 H0.2 (As := [.int x1]) (rest := [.int 0, .ref o]) rfl rfl (Nat.le_of_ble_eq_true rfl) (dep (show d + 1 ≤ d + 1 from Nat.le_refl _) (Nat.le_of_ble_eq_true rfl)) dL_saveState_4 hc ?_
    refine x_i2l dL_saveState_7 ?_
    refine x_last Ho.1 Ho.2 (j := 0) rfl ⟨by decide, by decide⟩ dL_saveState_8 ?_
    refine x_goto 18 dL_saveState_9 rfl ?_
    refine x_iconst 0 dL_saveState_18 rfl ?_
    exact x_iret rfl dL_saveState_19 ⟨rfl, rfl, rfl⟩
theorem wL_restoreState (d : Nat) {K K1 : Kt} {I I1 : Mem} {x0 o a6 b6 : Nat} {x1 : Int32} {r : Except String Int32} {t : Int32} (H0 : LO K 7 x0) (Ho : LA K1 103 1 o) (hc : Ct (mX9_restoreState d) cX9_restoreState a6 b6 [.ref x0, .int x1] I K (Ro (rI r) I1 K1)) (hE : Ec ["java/lang/IndexOutOfBoundsException", "java/lang/IllegalStateException"] r t) : Ct (mL_restoreState (d + 1)) cL_restoreState a6 b6 [.ref x0, .int x1, .ref o] I K (Ro (.inl (some (.int t))) I1 (KJ K1 o r)) := by
  refine Ct.ofH rfl pn_L (catR (catI (catR cat0))) (Nat.le_of_ble_eq_true rfl) (show X _ _ _ _ _ _ 0 [.ref x0, .int x1, .ref o, .retAddr 0] [] _ from ?_)
  refine x_aloadn dL_restoreState_0 rfl ?_
  refine x_iconst 0 dL_restoreState_1 rfl ?_
  refine x_aloadn dL_restoreState_2 rfl ?_
  refine x_iloadn dL_restoreState_3 rfl ?_
  cases r with
  | error E =>
    obtain ⟨i, h1, h2, rfl⟩ := hE
    refine X.less (bc' := a6 + 0) (bs' := b6 + 0) ?_ (Nat.le_refl _) (Nat.le_refl _)
    refine y_callVe (bc := 0) (bs := 0) (cs_L_195 _) (ci := 7) rfl H0.1 H0.2 (As := [.int x1]) (rest := [.int 0, .ref o]) rfl rfl (Nat.le_of_ble_eq_true rfl) (dep (show d + 1 ≤ d + 1 from Nat.le_refl _) (Nat.le_of_ble_eq_true rfl)) dL_restoreState_4 hc ?_
    rcases (show i = 0 ∨ i = 1 ∨ i = 2 by omega) with rfl | rfl | rfl
    · cases h1
      refine XT.catch [] _ [_] rfl (fun z hz => by cases hz) rfl (by decide) (show Cond.classLink RL 13 "java/lang/IndexOutOfBoundsException" ∈ wsG from inT2 187 rfl rfl) (List.mem_filter.mpr ⟨castIOB, rfl⟩) rfl (Or.inr ⟨3, dL_restoreState_12, rfl, rfl⟩) (Nat.le_of_ble_eq_true rfl) rfl ?_
      refine x_iconst 1 dL_restoreState_13 rfl ?_
      exact x_iret rfl dL_restoreState_14 ⟨rfl, rfl, rfl⟩
    · cases h1
      refine XT.catch [_] _ [] rfl (fun z hz => by obtain rfl := List.mem_singleton.mp hz; exact Or.inr ⟨by decide, "java/lang/IndexOutOfBoundsException", (show Cond.classLink RL 13 "java/lang/IndexOutOfBoundsException" ∈ wsG from inT2 187 rfl rfl), by decide +kernel⟩) rfl (by decide) (show Cond.classLink RL 21 "java/lang/IllegalStateException" ∈ wsG from inT4 223 rfl rfl) (List.mem_filter.mpr ⟨castISE, rfl⟩) rfl (Or.inr ⟨3, dL_restoreState_15, rfl, rfl⟩) (Nat.le_of_ble_eq_true rfl) rfl ?_
      refine x_iconst 2 dL_restoreState_16 rfl ?_
      exact x_iret rfl dL_restoreState_17 ⟨rfl, rfl, rfl⟩
    · cases h1
  | ok v =>
    obtain rfl : t = 0 := hE
    refine X.less (bc' := a6 + 0) (bs' := b6 + 0) ?_ (Nat.le_refl _) (Nat.le_refl _)
    refine y_callV1 (bc := 0) (bs := 0) (cs_L_195 _) (ci := 7) rfl H0.1 H0.2 (As := [.int x1]) (rest := [.int 0, .ref o]) rfl rfl (Nat.le_of_ble_eq_true rfl) (dep (show d + 1 ≤ d + 1 from Nat.le_refl _) (Nat.le_of_ble_eq_true rfl)) dL_restoreState_4 hc ?_
    refine x_i2l dL_restoreState_7 ?_
    refine x_last Ho.1 Ho.2 (j := 0) rfl ⟨by decide, by decide⟩ dL_restoreState_8 ?_
    refine x_goto 18 dL_restoreState_9 rfl ?_
    refine x_iconst 0 dL_restoreState_18 rfl ?_
    exact x_iret rfl dL_restoreState_19 ⟨rfl, rfl, rfl⟩
