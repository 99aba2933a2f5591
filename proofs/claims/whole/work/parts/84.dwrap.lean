theorem dL_parseSetup_0 : decode cL_parseSetup 0 = .ok (.aload_n 2, 1) := by decide +kernel
theorem dL_parseSetup_1 : decode cL_parseSetup 1 = .ok (.iconst 0, 1) := by decide +kernel
theorem dL_parseSetup_2 : decode cL_parseSetup 2 = .ok (.aload_n 0, 1) := by decide +kernel
theorem dL_parseSetup_3 : decode cL_parseSetup 3 = .ok (.iload_n 1, 1) := by decide +kernel
theorem dL_parseSetup_4 : decode cL_parseSetup 4 = .ok (.invokevirtual 7, 3) := by decide +kernel
theorem dL_parseSetup_7 : decode cL_parseSetup 7 = .ok (.i2l, 1) := by decide +kernel
theorem dL_parseSetup_8 : decode cL_parseSetup 8 = .ok (.lastore, 1) := by decide +kernel
theorem dL_parseSetup_9 : decode cL_parseSetup 9 = .ok (.goto 9, 3) := by decide +kernel
theorem dL_parseSetup_12 : decode cL_parseSetup 12 = .ok (.astore_n 3, 1) := by decide +kernel
theorem dL_parseSetup_13 : decode cL_parseSetup 13 = .ok (.iconst 1, 1) := by decide +kernel
theorem dL_parseSetup_14 : decode cL_parseSetup 14 = .ok (.ireturn, 1) := by decide +kernel
theorem dL_parseSetup_15 : decode cL_parseSetup 15 = .ok (.astore_n 3, 1) := by decide +kernel
theorem dL_parseSetup_16 : decode cL_parseSetup 16 = .ok (.iconst 2, 1) := by decide +kernel
theorem dL_parseSetup_17 : decode cL_parseSetup 17 = .ok (.ireturn, 1) := by decide +kernel
theorem dL_parseSetup_18 : decode cL_parseSetup 18 = .ok (.iconst 0, 1) := by decide +kernel
theorem dL_parseSetup_19 : decode cL_parseSetup 19 = .ok (.ireturn, 1) := by decide +kernel
theorem dL_day_0 : decode cL_day 0 = .ok (.aload_n 1, 1) := by decide +kernel
theorem dL_day_1 : decode cL_day 1 = .ok (.iconst 0, 1) := by decide +kernel
theorem dL_day_2 : decode cL_day 2 = .ok (.aload_n 0, 1) := by decide +kernel
theorem dL_day_3 : decode cL_day 3 = .ok (.invokevirtual 17, 3) := by decide +kernel
theorem dL_day_6 : decode cL_day 6 = .ok (.i2l, 1) := by decide +kernel
theorem dL_day_7 : decode cL_day 7 = .ok (.lastore, 1) := by decide +kernel
theorem dL_day_8 : decode cL_day 8 = .ok (.goto 6, 3) := by decide +kernel
theorem dL_day_11 : decode cL_day 11 = .ok (.astore_n 2, 1) := by decide +kernel
theorem dL_day_12 : decode cL_day 12 = .ok (.iconst 1, 1) := by decide +kernel
theorem dL_day_13 : decode cL_day 13 = .ok (.ireturn, 1) := by decide +kernel
theorem dL_day_14 : decode cL_day 14 = .ok (.iconst 0, 1) := by decide +kernel
theorem dL_day_15 : decode cL_day 15 = .ok (.ireturn, 1) := by decide +kernel
theorem dL_yearLength_0 : decode cL_yearLength 0 = .ok (.aload_n 1, 1) := by decide +kernel
theorem dL_yearLength_1 : decode cL_yearLength 1 = .ok (.iconst 0, 1) := by decide +kernel
theorem dL_yearLength_2 : decode cL_yearLength 2 = .ok (.aload_n 0, 1) := by decide +kernel
theorem dL_yearLength_3 : decode cL_yearLength 3 = .ok (.invokevirtual 23, 3) := by decide +kernel
theorem dL_yearLength_6 : decode cL_yearLength 6 = .ok (.i2l, 1) := by decide +kernel
theorem dL_yearLength_7 : decode cL_yearLength 7 = .ok (.lastore, 1) := by decide +kernel
theorem dL_yearLength_8 : decode cL_yearLength 8 = .ok (.goto 6, 3) := by decide +kernel
theorem dL_yearLength_11 : decode cL_yearLength 11 = .ok (.astore_n 2, 1) := by decide +kernel
theorem dL_yearLength_12 : decode cL_yearLength 12 = .ok (.iconst 1, 1) := by decide +kernel
theorem dL_yearLength_13 : decode cL_yearLength 13 = .ok (.ireturn, 1) := by decide +kernel
theorem dL_yearLength_14 : decode cL_yearLength 14 = .ok (.iconst 0, 1) := by decide +kernel
theorem dL_yearLength_15 : decode cL_yearLength 15 = .ok (.ireturn, 1) := by decide +kernel
theorem dL_dayOfYear_0 : decode cL_dayOfYear 0 = .ok (.aload_n 1, 1) := by decide +kernel
theorem dL_dayOfYear_1 : decode cL_dayOfYear 1 = .ok (.iconst 0, 1) := by decide +kernel
theorem dL_dayOfYear_2 : decode cL_dayOfYear 2 = .ok (.aload_n 0, 1) := by decide +kernel
theorem dL_dayOfYear_3 : decode cL_dayOfYear 3 = .ok (.invokevirtual 26, 3) := by decide +kernel
theorem dL_dayOfYear_6 : decode cL_dayOfYear 6 = .ok (.i2l, 1) := by decide +kernel
theorem dL_dayOfYear_7 : decode cL_dayOfYear 7 = .ok (.lastore, 1) := by decide +kernel
theorem dL_dayOfYear_8 : decode cL_dayOfYear 8 = .ok (.goto 6, 3) := by decide +kernel
theorem dL_dayOfYear_11 : decode cL_dayOfYear 11 = .ok (.astore_n 2, 1) := by decide +kernel
theorem dL_dayOfYear_12 : decode cL_dayOfYear 12 = .ok (.iconst 1, 1) := by decide +kernel
theorem dL_dayOfYear_13 : decode cL_dayOfYear 13 = .ok (.ireturn, 1) := by decide +kernel
theorem dL_dayOfYear_14 : decode cL_dayOfYear 14 = .ok (.iconst 0, 1) := by decide +kernel
theorem dL_dayOfYear_15 : decode cL_dayOfYear 15 = .ok (.ireturn, 1) := by decide +kernel
theorem dL_grantedCount_0 : decode cL_grantedCount 0 = .ok (.aload_n 1, 1) := by decide +kernel
theorem dL_grantedCount_1 : decode cL_grantedCount 1 = .ok (.iconst 0, 1) := by decide +kernel
theorem dL_grantedCount_2 : decode cL_grantedCount 2 = .ok (.aload_n 0, 1) := by decide +kernel
theorem dL_grantedCount_3 : decode cL_grantedCount 3 = .ok (.invokevirtual 29, 3) := by decide +kernel
theorem dL_grantedCount_6 : decode cL_grantedCount 6 = .ok (.i2l, 1) := by decide +kernel
theorem dL_grantedCount_7 : decode cL_grantedCount 7 = .ok (.lastore, 1) := by decide +kernel
theorem dL_grantedCount_8 : decode cL_grantedCount 8 = .ok (.goto 6, 3) := by decide +kernel
theorem dL_grantedCount_11 : decode cL_grantedCount 11 = .ok (.astore_n 2, 1) := by decide +kernel
theorem dL_grantedCount_12 : decode cL_grantedCount 12 = .ok (.iconst 1, 1) := by decide +kernel
theorem dL_grantedCount_13 : decode cL_grantedCount 13 = .ok (.ireturn, 1) := by decide +kernel
theorem dL_grantedCount_14 : decode cL_grantedCount 14 = .ok (.iconst 0, 1) := by decide +kernel
theorem dL_grantedCount_15 : decode cL_grantedCount 15 = .ok (.ireturn, 1) := by decide +kernel
theorem dL_fadedCount_0 : decode cL_fadedCount 0 = .ok (.aload_n 1, 1) := by decide +kernel
theorem dL_fadedCount_1 : decode cL_fadedCount 1 = .ok (.iconst 0, 1) := by decide +kernel
theorem dL_fadedCount_2 : decode cL_fadedCount 2 = .ok (.aload_n 0, 1) := by decide +kernel
theorem dL_fadedCount_3 : decode cL_fadedCount 3 = .ok (.invokevirtual 32, 3) := by decide +kernel
theorem dL_fadedCount_6 : decode cL_fadedCount 6 = .ok (.i2l, 1) := by decide +kernel
theorem dL_fadedCount_7 : decode cL_fadedCount 7 = .ok (.lastore, 1) := by decide +kernel
theorem dL_fadedCount_8 : decode cL_fadedCount 8 = .ok (.goto 6, 3) := by decide +kernel
theorem dL_fadedCount_11 : decode cL_fadedCount 11 = .ok (.astore_n 2, 1) := by decide +kernel
theorem dL_fadedCount_12 : decode cL_fadedCount 12 = .ok (.iconst 1, 1) := by decide +kernel
theorem dL_fadedCount_13 : decode cL_fadedCount 13 = .ok (.ireturn, 1) := by decide +kernel
theorem dL_fadedCount_14 : decode cL_fadedCount 14 = .ok (.iconst 0, 1) := by decide +kernel
theorem dL_fadedCount_15 : decode cL_fadedCount 15 = .ok (.ireturn, 1) := by decide +kernel
theorem dL_imbalance_0 : decode cL_imbalance 0 = .ok (.aload_n 1, 1) := by decide +kernel
theorem dL_imbalance_1 : decode cL_imbalance 1 = .ok (.iconst 0, 1) := by decide +kernel
theorem dL_imbalance_2 : decode cL_imbalance 2 = .ok (.aload_n 0, 1) := by decide +kernel
theorem dL_imbalance_3 : decode cL_imbalance 3 = .ok (.invokevirtual 35, 3) := by decide +kernel
theorem dL_imbalance_6 : decode cL_imbalance 6 = .ok (.i2l, 1) := by decide +kernel
theorem dL_imbalance_7 : decode cL_imbalance 7 = .ok (.lastore, 1) := by decide +kernel
theorem dL_imbalance_8 : decode cL_imbalance 8 = .ok (.goto 6, 3) := by decide +kernel
theorem dL_imbalance_11 : decode cL_imbalance 11 = .ok (.astore_n 2, 1) := by decide +kernel
theorem dL_imbalance_12 : decode cL_imbalance 12 = .ok (.iconst 1, 1) := by decide +kernel
theorem dL_imbalance_13 : decode cL_imbalance 13 = .ok (.ireturn, 1) := by decide +kernel
theorem dL_imbalance_14 : decode cL_imbalance 14 = .ok (.iconst 0, 1) := by decide +kernel
theorem dL_imbalance_15 : decode cL_imbalance 15 = .ok (.ireturn, 1) := by decide +kernel
theorem dL_averageWear_0 : decode cL_averageWear 0 = .ok (.aload_n 1, 1) := by decide +kernel
theorem dL_averageWear_1 : decode cL_averageWear 1 = .ok (.iconst 0, 1) := by decide +kernel
theorem dL_averageWear_2 : decode cL_averageWear 2 = .ok (.aload_n 0, 1) := by decide +kernel
theorem dL_averageWear_3 : decode cL_averageWear 3 = .ok (.invokevirtual 38, 3) := by decide +kernel
theorem dL_averageWear_6 : decode cL_averageWear 6 = .ok (.dastore, 1) := by decide +kernel
theorem dL_averageWear_7 : decode cL_averageWear 7 = .ok (.goto 6, 3) := by decide +kernel
theorem dL_averageWear_10 : decode cL_averageWear 10 = .ok (.astore_n 2, 1) := by decide +kernel
theorem dL_averageWear_11 : decode cL_averageWear 11 = .ok (.iconst 1, 1) := by decide +kernel
theorem dL_averageWear_12 : decode cL_averageWear 12 = .ok (.ireturn, 1) := by decide +kernel
theorem dL_averageWear_13 : decode cL_averageWear 13 = .ok (.iconst 0, 1) := by decide +kernel
theorem dL_averageWear_14 : decode cL_averageWear 14 = .ok (.ireturn, 1) := by decide +kernel
theorem dL_averageStars_0 : decode cL_averageStars 0 = .ok (.aload_n 1, 1) := by decide +kernel
theorem dL_averageStars_1 : decode cL_averageStars 1 = .ok (.iconst 0, 1) := by decide +kernel
theorem dL_averageStars_2 : decode cL_averageStars 2 = .ok (.aload_n 0, 1) := by decide +kernel
theorem dL_averageStars_3 : decode cL_averageStars 3 = .ok (.invokevirtual 42, 3) := by decide +kernel
theorem dL_averageStars_6 : decode cL_averageStars 6 = .ok (.f2d, 1) := by decide +kernel
theorem dL_averageStars_7 : decode cL_averageStars 7 = .ok (.dastore, 1) := by decide +kernel
theorem dL_averageStars_8 : decode cL_averageStars 8 = .ok (.goto 6, 3) := by decide +kernel
theorem dL_averageStars_11 : decode cL_averageStars 11 = .ok (.astore_n 2, 1) := by decide +kernel
theorem dL_averageStars_12 : decode cL_averageStars 12 = .ok (.iconst 1, 1) := by decide +kernel
theorem dL_averageStars_13 : decode cL_averageStars 13 = .ok (.ireturn, 1) := by decide +kernel
theorem dL_averageStars_14 : decode cL_averageStars 14 = .ok (.iconst 0, 1) := by decide +kernel
theorem dL_averageStars_15 : decode cL_averageStars 15 = .ok (.ireturn, 1) := by decide +kernel
theorem dL_personCount_0 : decode cL_personCount 0 = .ok (.aload_n 1, 1) := by decide +kernel
theorem dL_personCount_1 : decode cL_personCount 1 = .ok (.iconst 0, 1) := by decide +kernel
theorem dL_personCount_2 : decode cL_personCount 2 = .ok (.aload_n 0, 1) := by decide +kernel
theorem dL_personCount_3 : decode cL_personCount 3 = .ok (.invokevirtual 46, 3) := by decide +kernel
theorem dL_personCount_6 : decode cL_personCount 6 = .ok (.i2l, 1) := by decide +kernel
theorem dL_personCount_7 : decode cL_personCount 7 = .ok (.lastore, 1) := by decide +kernel
theorem dL_personCount_8 : decode cL_personCount 8 = .ok (.goto 6, 3) := by decide +kernel
theorem dL_personCount_11 : decode cL_personCount 11 = .ok (.astore_n 2, 1) := by decide +kernel
theorem dL_personCount_12 : decode cL_personCount 12 = .ok (.iconst 1, 1) := by decide +kernel
theorem dL_personCount_13 : decode cL_personCount 13 = .ok (.ireturn, 1) := by decide +kernel
theorem dL_personCount_14 : decode cL_personCount 14 = .ok (.iconst 0, 1) := by decide +kernel
theorem dL_personCount_15 : decode cL_personCount 15 = .ok (.ireturn, 1) := by decide +kernel
theorem dL_personLetter_0 : decode cL_personLetter 0 = .ok (.aload_n 3, 1) := by decide +kernel
theorem dL_personLetter_1 : decode cL_personLetter 1 = .ok (.iconst 0, 1) := by decide +kernel
theorem dL_personLetter_2 : decode cL_personLetter 2 = .ok (.aload_n 0, 1) := by decide +kernel
theorem dL_personLetter_3 : decode cL_personLetter 3 = .ok (.iload_n 1, 1) := by decide +kernel
theorem dL_personLetter_4 : decode cL_personLetter 4 = .ok (.iload_n 2, 1) := by decide +kernel
theorem dL_personLetter_5 : decode cL_personLetter 5 = .ok (.invokevirtual 49, 3) := by decide +kernel
theorem dL_personLetter_8 : decode cL_personLetter 8 = .ok (.i2l, 1) := by decide +kernel
theorem dL_personLetter_9 : decode cL_personLetter 9 = .ok (.lastore, 1) := by decide +kernel
theorem dL_personLetter_10 : decode cL_personLetter 10 = .ok (.goto 11, 3) := by decide +kernel
theorem dL_personLetter_13 : decode cL_personLetter 13 = .ok (.astore 4, 2) := by decide +kernel
theorem dL_personLetter_15 : decode cL_personLetter 15 = .ok (.iconst 1, 1) := by decide +kernel
theorem dL_personLetter_16 : decode cL_personLetter 16 = .ok (.ireturn, 1) := by decide +kernel
theorem dL_personLetter_17 : decode cL_personLetter 17 = .ok (.astore 4, 2) := by decide +kernel
theorem dL_personLetter_19 : decode cL_personLetter 19 = .ok (.iconst 2, 1) := by decide +kernel
theorem dL_personLetter_20 : decode cL_personLetter 20 = .ok (.ireturn, 1) := by decide +kernel
theorem dL_personLetter_21 : decode cL_personLetter 21 = .ok (.iconst 0, 1) := by decide +kernel
theorem dL_personLetter_22 : decode cL_personLetter 22 = .ok (.ireturn, 1) := by decide +kernel
theorem dL_coins_0 : decode cL_coins 0 = .ok (.aload_n 2, 1) := by decide +kernel
theorem dL_coins_1 : decode cL_coins 1 = .ok (.iconst 0, 1) := by decide +kernel
theorem dL_coins_2 : decode cL_coins 2 = .ok (.aload_n 0, 1) := by decide +kernel
theorem dL_coins_3 : decode cL_coins 3 = .ok (.iload_n 1, 1) := by decide +kernel
theorem dL_coins_4 : decode cL_coins 4 = .ok (.invokevirtual 53, 3) := by decide +kernel
theorem dL_coins_7 : decode cL_coins 7 = .ok (.i2l, 1) := by decide +kernel
theorem dL_coins_8 : decode cL_coins 8 = .ok (.lastore, 1) := by decide +kernel
theorem dL_coins_9 : decode cL_coins 9 = .ok (.goto 9, 3) := by decide +kernel
theorem dL_coins_12 : decode cL_coins 12 = .ok (.astore_n 3, 1) := by decide +kernel
theorem dL_coins_13 : decode cL_coins 13 = .ok (.iconst 1, 1) := by decide +kernel
theorem dL_coins_14 : decode cL_coins 14 = .ok (.ireturn, 1) := by decide +kernel
theorem dL_coins_15 : decode cL_coins 15 = .ok (.astore_n 3, 1) := by decide +kernel
theorem dL_coins_16 : decode cL_coins 16 = .ok (.iconst 2, 1) := by decide +kernel
theorem dL_coins_17 : decode cL_coins 17 = .ok (.ireturn, 1) := by decide +kernel
theorem dL_coins_18 : decode cL_coins 18 = .ok (.iconst 0, 1) := by decide +kernel
theorem dL_coins_19 : decode cL_coins 19 = .ok (.ireturn, 1) := by decide +kernel
theorem dL_birthday_0 : decode cL_birthday 0 = .ok (.aload_n 2, 1) := by decide +kernel
theorem dL_birthday_1 : decode cL_birthday 1 = .ok (.iconst 0, 1) := by decide +kernel
theorem dL_birthday_2 : decode cL_birthday 2 = .ok (.aload_n 0, 1) := by decide +kernel
theorem dL_birthday_3 : decode cL_birthday 3 = .ok (.iload_n 1, 1) := by decide +kernel
theorem dL_birthday_4 : decode cL_birthday 4 = .ok (.invokevirtual 56, 3) := by decide +kernel
theorem dL_birthday_7 : decode cL_birthday 7 = .ok (.i2l, 1) := by decide +kernel
theorem dL_birthday_8 : decode cL_birthday 8 = .ok (.lastore, 1) := by decide +kernel
theorem dL_birthday_9 : decode cL_birthday 9 = .ok (.goto 9, 3) := by decide +kernel
theorem dL_birthday_12 : decode cL_birthday 12 = .ok (.astore_n 3, 1) := by decide +kernel
theorem dL_birthday_13 : decode cL_birthday 13 = .ok (.iconst 1, 1) := by decide +kernel
theorem dL_birthday_14 : decode cL_birthday 14 = .ok (.ireturn, 1) := by decide +kernel
theorem dL_birthday_15 : decode cL_birthday 15 = .ok (.astore_n 3, 1) := by decide +kernel
theorem dL_birthday_16 : decode cL_birthday 16 = .ok (.iconst 2, 1) := by decide +kernel
theorem dL_birthday_17 : decode cL_birthday 17 = .ok (.ireturn, 1) := by decide +kernel
theorem dL_birthday_18 : decode cL_birthday 18 = .ok (.iconst 0, 1) := by decide +kernel
theorem dL_birthday_19 : decode cL_birthday 19 = .ok (.ireturn, 1) := by decide +kernel
theorem dL_candles_0 : decode cL_candles 0 = .ok (.aload_n 2, 1) := by decide +kernel
theorem dL_candles_1 : decode cL_candles 1 = .ok (.iconst 0, 1) := by decide +kernel
theorem dL_candles_2 : decode cL_candles 2 = .ok (.aload_n 0, 1) := by decide +kernel
theorem dL_candles_3 : decode cL_candles 3 = .ok (.iload_n 1, 1) := by decide +kernel
theorem dL_candles_4 : decode cL_candles 4 = .ok (.invokevirtual 59, 3) := by decide +kernel
theorem dL_candles_7 : decode cL_candles 7 = .ok (.i2l, 1) := by decide +kernel
theorem dL_candles_8 : decode cL_candles 8 = .ok (.lastore, 1) := by decide +kernel
theorem dL_candles_9 : decode cL_candles 9 = .ok (.goto 9, 3) := by decide +kernel
theorem dL_candles_12 : decode cL_candles 12 = .ok (.astore_n 3, 1) := by decide +kernel
theorem dL_candles_13 : decode cL_candles 13 = .ok (.iconst 1, 1) := by decide +kernel
theorem dL_candles_14 : decode cL_candles 14 = .ok (.ireturn, 1) := by decide +kernel
theorem dL_candles_15 : decode cL_candles 15 = .ok (.astore_n 3, 1) := by decide +kernel
theorem dL_candles_16 : decode cL_candles 16 = .ok (.iconst 2, 1) := by decide +kernel
theorem dL_candles_17 : decode cL_candles 17 = .ok (.ireturn, 1) := by decide +kernel
theorem dL_candles_18 : decode cL_candles 18 = .ok (.iconst 0, 1) := by decide +kernel
theorem dL_candles_19 : decode cL_candles 19 = .ok (.ireturn, 1) := by decide +kernel
theorem dL_happiness_0 : decode cL_happiness 0 = .ok (.aload_n 2, 1) := by decide +kernel
theorem dL_happiness_1 : decode cL_happiness 1 = .ok (.iconst 0, 1) := by decide +kernel
theorem dL_happiness_2 : decode cL_happiness 2 = .ok (.aload_n 0, 1) := by decide +kernel
theorem dL_happiness_3 : decode cL_happiness 3 = .ok (.iload_n 1, 1) := by decide +kernel
theorem dL_happiness_4 : decode cL_happiness 4 = .ok (.invokevirtual 62, 3) := by decide +kernel
theorem dL_happiness_7 : decode cL_happiness 7 = .ok (.i2l, 1) := by decide +kernel
theorem dL_happiness_8 : decode cL_happiness 8 = .ok (.lastore, 1) := by decide +kernel
theorem dL_happiness_9 : decode cL_happiness 9 = .ok (.goto 9, 3) := by decide +kernel
theorem dL_happiness_12 : decode cL_happiness 12 = .ok (.astore_n 3, 1) := by decide +kernel
theorem dL_happiness_13 : decode cL_happiness 13 = .ok (.iconst 1, 1) := by decide +kernel
theorem dL_happiness_14 : decode cL_happiness 14 = .ok (.ireturn, 1) := by decide +kernel
theorem dL_happiness_15 : decode cL_happiness 15 = .ok (.astore_n 3, 1) := by decide +kernel
theorem dL_happiness_16 : decode cL_happiness 16 = .ok (.iconst 2, 1) := by decide +kernel
theorem dL_happiness_17 : decode cL_happiness 17 = .ok (.ireturn, 1) := by decide +kernel
theorem dL_happiness_18 : decode cL_happiness 18 = .ok (.iconst 0, 1) := by decide +kernel
theorem dL_happiness_19 : decode cL_happiness 19 = .ok (.ireturn, 1) := by decide +kernel
theorem dL_ownedCount_0 : decode cL_ownedCount 0 = .ok (.aload_n 2, 1) := by decide +kernel
theorem dL_ownedCount_1 : decode cL_ownedCount 1 = .ok (.iconst 0, 1) := by decide +kernel
theorem dL_ownedCount_2 : decode cL_ownedCount 2 = .ok (.aload_n 0, 1) := by decide +kernel
theorem dL_ownedCount_3 : decode cL_ownedCount 3 = .ok (.iload_n 1, 1) := by decide +kernel
theorem dL_ownedCount_4 : decode cL_ownedCount 4 = .ok (.invokevirtual 65, 3) := by decide +kernel
theorem dL_ownedCount_7 : decode cL_ownedCount 7 = .ok (.i2l, 1) := by decide +kernel
theorem dL_ownedCount_8 : decode cL_ownedCount 8 = .ok (.lastore, 1) := by decide +kernel
theorem dL_ownedCount_9 : decode cL_ownedCount 9 = .ok (.goto 9, 3) := by decide +kernel
theorem dL_ownedCount_12 : decode cL_ownedCount 12 = .ok (.astore_n 3, 1) := by decide +kernel
theorem dL_ownedCount_13 : decode cL_ownedCount 13 = .ok (.iconst 1, 1) := by decide +kernel
theorem dL_ownedCount_14 : decode cL_ownedCount 14 = .ok (.ireturn, 1) := by decide +kernel
theorem dL_ownedCount_15 : decode cL_ownedCount 15 = .ok (.astore_n 3, 1) := by decide +kernel
theorem dL_ownedCount_16 : decode cL_ownedCount 16 = .ok (.iconst 2, 1) := by decide +kernel
theorem dL_ownedCount_17 : decode cL_ownedCount 17 = .ok (.ireturn, 1) := by decide +kernel
theorem dL_ownedCount_18 : decode cL_ownedCount 18 = .ok (.iconst 0, 1) := by decide +kernel
theorem dL_ownedCount_19 : decode cL_ownedCount 19 = .ok (.ireturn, 1) := by decide +kernel
theorem dL_shoppingLimit_0 : decode cL_shoppingLimit 0 = .ok (.aload_n 2, 1) := by decide +kernel
theorem dL_shoppingLimit_1 : decode cL_shoppingLimit 1 = .ok (.iconst 0, 1) := by decide +kernel
theorem dL_shoppingLimit_2 : decode cL_shoppingLimit 2 = .ok (.aload_n 0, 1) := by decide +kernel
theorem dL_shoppingLimit_3 : decode cL_shoppingLimit 3 = .ok (.iload_n 1, 1) := by decide +kernel
theorem dL_shoppingLimit_4 : decode cL_shoppingLimit 4 = .ok (.invokevirtual 68, 3) := by decide +kernel
theorem dL_shoppingLimit_7 : decode cL_shoppingLimit 7 = .ok (.i2l, 1) := by decide +kernel
theorem dL_shoppingLimit_8 : decode cL_shoppingLimit 8 = .ok (.lastore, 1) := by decide +kernel
theorem dL_shoppingLimit_9 : decode cL_shoppingLimit 9 = .ok (.goto 9, 3) := by decide +kernel
theorem dL_shoppingLimit_12 : decode cL_shoppingLimit 12 = .ok (.astore_n 3, 1) := by decide +kernel
theorem dL_shoppingLimit_13 : decode cL_shoppingLimit 13 = .ok (.iconst 1, 1) := by decide +kernel
theorem dL_shoppingLimit_14 : decode cL_shoppingLimit 14 = .ok (.ireturn, 1) := by decide +kernel
theorem dL_shoppingLimit_15 : decode cL_shoppingLimit 15 = .ok (.astore_n 3, 1) := by decide +kernel
theorem dL_shoppingLimit_16 : decode cL_shoppingLimit 16 = .ok (.iconst 2, 1) := by decide +kernel
theorem dL_shoppingLimit_17 : decode cL_shoppingLimit 17 = .ok (.ireturn, 1) := by decide +kernel
theorem dL_shoppingLimit_18 : decode cL_shoppingLimit 18 = .ok (.iconst 0, 1) := by decide +kernel
theorem dL_shoppingLimit_19 : decode cL_shoppingLimit 19 = .ok (.ireturn, 1) := by decide +kernel
theorem dL_daysUntilBirthday_0 : decode cL_daysUntilBirthday 0 = .ok (.aload_n 2, 1) := by decide +kernel
theorem dL_daysUntilBirthday_1 : decode cL_daysUntilBirthday 1 = .ok (.iconst 0, 1) := by decide +kernel
theorem dL_daysUntilBirthday_2 : decode cL_daysUntilBirthday 2 = .ok (.aload_n 0, 1) := by decide +kernel
theorem dL_daysUntilBirthday_3 : decode cL_daysUntilBirthday 3 = .ok (.iload_n 1, 1) := by decide +kernel
theorem dL_daysUntilBirthday_4 : decode cL_daysUntilBirthday 4 = .ok (.invokevirtual 71, 3) := by decide +kernel
theorem dL_daysUntilBirthday_7 : decode cL_daysUntilBirthday 7 = .ok (.i2l, 1) := by decide +kernel
theorem dL_daysUntilBirthday_8 : decode cL_daysUntilBirthday 8 = .ok (.lastore, 1) := by decide +kernel
theorem dL_daysUntilBirthday_9 : decode cL_daysUntilBirthday 9 = .ok (.goto 9, 3) := by decide +kernel
theorem dL_daysUntilBirthday_12 : decode cL_daysUntilBirthday 12 = .ok (.astore_n 3, 1) := by decide +kernel
theorem dL_daysUntilBirthday_13 : decode cL_daysUntilBirthday 13 = .ok (.iconst 1, 1) := by decide +kernel
theorem dL_daysUntilBirthday_14 : decode cL_daysUntilBirthday 14 = .ok (.ireturn, 1) := by decide +kernel
theorem dL_daysUntilBirthday_15 : decode cL_daysUntilBirthday 15 = .ok (.astore_n 3, 1) := by decide +kernel
theorem dL_daysUntilBirthday_16 : decode cL_daysUntilBirthday 16 = .ok (.iconst 2, 1) := by decide +kernel
theorem dL_daysUntilBirthday_17 : decode cL_daysUntilBirthday 17 = .ok (.ireturn, 1) := by decide +kernel
theorem dL_daysUntilBirthday_18 : decode cL_daysUntilBirthday 18 = .ok (.iconst 0, 1) := by decide +kernel
theorem dL_daysUntilBirthday_19 : decode cL_daysUntilBirthday 19 = .ok (.ireturn, 1) := by decide +kernel
theorem dL_stallCount_0 : decode cL_stallCount 0 = .ok (.aload_n 1, 1) := by decide +kernel
theorem dL_stallCount_1 : decode cL_stallCount 1 = .ok (.iconst 0, 1) := by decide +kernel
theorem dL_stallCount_2 : decode cL_stallCount 2 = .ok (.aload_n 0, 1) := by decide +kernel
theorem dL_stallCount_3 : decode cL_stallCount 3 = .ok (.invokevirtual 74, 3) := by decide +kernel
theorem dL_stallCount_6 : decode cL_stallCount 6 = .ok (.i2l, 1) := by decide +kernel
theorem dL_stallCount_7 : decode cL_stallCount 7 = .ok (.lastore, 1) := by decide +kernel
theorem dL_stallCount_8 : decode cL_stallCount 8 = .ok (.goto 6, 3) := by decide +kernel
theorem dL_stallCount_11 : decode cL_stallCount 11 = .ok (.astore_n 2, 1) := by decide +kernel
theorem dL_stallCount_12 : decode cL_stallCount 12 = .ok (.iconst 1, 1) := by decide +kernel
theorem dL_stallCount_13 : decode cL_stallCount 13 = .ok (.ireturn, 1) := by decide +kernel
theorem dL_stallCount_14 : decode cL_stallCount 14 = .ok (.iconst 0, 1) := by decide +kernel
theorem dL_stallCount_15 : decode cL_stallCount 15 = .ok (.ireturn, 1) := by decide +kernel
theorem dL_cash_0 : decode cL_cash 0 = .ok (.aload_n 2, 1) := by decide +kernel
theorem dL_cash_1 : decode cL_cash 1 = .ok (.iconst 0, 1) := by decide +kernel
theorem dL_cash_2 : decode cL_cash 2 = .ok (.aload_n 0, 1) := by decide +kernel
theorem dL_cash_3 : decode cL_cash 3 = .ok (.iload_n 1, 1) := by decide +kernel
theorem dL_cash_4 : decode cL_cash 4 = .ok (.invokevirtual 77, 3) := by decide +kernel
theorem dL_cash_7 : decode cL_cash 7 = .ok (.i2l, 1) := by decide +kernel
theorem dL_cash_8 : decode cL_cash 8 = .ok (.lastore, 1) := by decide +kernel
theorem dL_cash_9 : decode cL_cash 9 = .ok (.goto 9, 3) := by decide +kernel
theorem dL_cash_12 : decode cL_cash 12 = .ok (.astore_n 3, 1) := by decide +kernel
theorem dL_cash_13 : decode cL_cash 13 = .ok (.iconst 1, 1) := by decide +kernel
theorem dL_cash_14 : decode cL_cash 14 = .ok (.ireturn, 1) := by decide +kernel
theorem dL_cash_15 : decode cL_cash 15 = .ok (.astore_n 3, 1) := by decide +kernel
theorem dL_cash_16 : decode cL_cash 16 = .ok (.iconst 2, 1) := by decide +kernel
theorem dL_cash_17 : decode cL_cash 17 = .ok (.ireturn, 1) := by decide +kernel
theorem dL_cash_18 : decode cL_cash 18 = .ok (.iconst 0, 1) := by decide +kernel
theorem dL_cash_19 : decode cL_cash 19 = .ok (.ireturn, 1) := by decide +kernel
theorem dL_stars_0 : decode cL_stars 0 = .ok (.aload_n 2, 1) := by decide +kernel
theorem dL_stars_1 : decode cL_stars 1 = .ok (.iconst 0, 1) := by decide +kernel
theorem dL_stars_2 : decode cL_stars 2 = .ok (.aload_n 0, 1) := by decide +kernel
theorem dL_stars_3 : decode cL_stars 3 = .ok (.iload_n 1, 1) := by decide +kernel
theorem dL_stars_4 : decode cL_stars 4 = .ok (.invokevirtual 80, 3) := by decide +kernel
theorem dL_stars_7 : decode cL_stars 7 = .ok (.i2l, 1) := by decide +kernel
theorem dL_stars_8 : decode cL_stars 8 = .ok (.lastore, 1) := by decide +kernel
theorem dL_stars_9 : decode cL_stars 9 = .ok (.goto 9, 3) := by decide +kernel
theorem dL_stars_12 : decode cL_stars 12 = .ok (.astore_n 3, 1) := by decide +kernel
theorem dL_stars_13 : decode cL_stars 13 = .ok (.iconst 1, 1) := by decide +kernel
theorem dL_stars_14 : decode cL_stars 14 = .ok (.ireturn, 1) := by decide +kernel
theorem dL_stars_15 : decode cL_stars 15 = .ok (.astore_n 3, 1) := by decide +kernel
theorem dL_stars_16 : decode cL_stars 16 = .ok (.iconst 2, 1) := by decide +kernel
theorem dL_stars_17 : decode cL_stars 17 = .ok (.ireturn, 1) := by decide +kernel
theorem dL_stars_18 : decode cL_stars 18 = .ok (.iconst 0, 1) := by decide +kernel
theorem dL_stars_19 : decode cL_stars 19 = .ok (.ireturn, 1) := by decide +kernel
theorem dL_margin_0 : decode cL_margin 0 = .ok (.aload_n 2, 1) := by decide +kernel
theorem dL_margin_1 : decode cL_margin 1 = .ok (.iconst 0, 1) := by decide +kernel
theorem dL_margin_2 : decode cL_margin 2 = .ok (.aload_n 0, 1) := by decide +kernel
theorem dL_margin_3 : decode cL_margin 3 = .ok (.iload_n 1, 1) := by decide +kernel
theorem dL_margin_4 : decode cL_margin 4 = .ok (.invokevirtual 83, 3) := by decide +kernel
theorem dL_margin_7 : decode cL_margin 7 = .ok (.i2l, 1) := by decide +kernel
theorem dL_margin_8 : decode cL_margin 8 = .ok (.lastore, 1) := by decide +kernel
theorem dL_margin_9 : decode cL_margin 9 = .ok (.goto 9, 3) := by decide +kernel
theorem dL_margin_12 : decode cL_margin 12 = .ok (.astore_n 3, 1) := by decide +kernel
theorem dL_margin_13 : decode cL_margin 13 = .ok (.iconst 1, 1) := by decide +kernel
theorem dL_margin_14 : decode cL_margin 14 = .ok (.ireturn, 1) := by decide +kernel
theorem dL_margin_15 : decode cL_margin 15 = .ok (.astore_n 3, 1) := by decide +kernel
theorem dL_margin_16 : decode cL_margin 16 = .ok (.iconst 2, 1) := by decide +kernel
theorem dL_margin_17 : decode cL_margin 17 = .ok (.ireturn, 1) := by decide +kernel
theorem dL_margin_18 : decode cL_margin 18 = .ok (.iconst 0, 1) := by decide +kernel
theorem dL_margin_19 : decode cL_margin 19 = .ok (.ireturn, 1) := by decide +kernel
theorem dL_stockCount_0 : decode cL_stockCount 0 = .ok (.aload_n 2, 1) := by decide +kernel
theorem dL_stockCount_1 : decode cL_stockCount 1 = .ok (.iconst 0, 1) := by decide +kernel
theorem dL_stockCount_2 : decode cL_stockCount 2 = .ok (.aload_n 0, 1) := by decide +kernel
theorem dL_stockCount_3 : decode cL_stockCount 3 = .ok (.iload_n 1, 1) := by decide +kernel
theorem dL_stockCount_4 : decode cL_stockCount 4 = .ok (.invokevirtual 86, 3) := by decide +kernel
theorem dL_stockCount_7 : decode cL_stockCount 7 = .ok (.i2l, 1) := by decide +kernel
theorem dL_stockCount_8 : decode cL_stockCount 8 = .ok (.lastore, 1) := by decide +kernel
theorem dL_stockCount_9 : decode cL_stockCount 9 = .ok (.goto 9, 3) := by decide +kernel
theorem dL_stockCount_12 : decode cL_stockCount 12 = .ok (.astore_n 3, 1) := by decide +kernel
theorem dL_stockCount_13 : decode cL_stockCount 13 = .ok (.iconst 1, 1) := by decide +kernel
theorem dL_stockCount_14 : decode cL_stockCount 14 = .ok (.ireturn, 1) := by decide +kernel
theorem dL_stockCount_15 : decode cL_stockCount 15 = .ok (.astore_n 3, 1) := by decide +kernel
theorem dL_stockCount_16 : decode cL_stockCount 16 = .ok (.iconst 2, 1) := by decide +kernel
theorem dL_stockCount_17 : decode cL_stockCount 17 = .ok (.ireturn, 1) := by decide +kernel
theorem dL_stockCount_18 : decode cL_stockCount 18 = .ok (.iconst 0, 1) := by decide +kernel
theorem dL_stockCount_19 : decode cL_stockCount 19 = .ok (.ireturn, 1) := by decide +kernel
theorem dL_wishLetter_0 : decode cL_wishLetter 0 = .ok (.aload_n 3, 1) := by decide +kernel
theorem dL_wishLetter_1 : decode cL_wishLetter 1 = .ok (.iconst 0, 1) := by decide +kernel
theorem dL_wishLetter_2 : decode cL_wishLetter 2 = .ok (.aload_n 0, 1) := by decide +kernel
theorem dL_wishLetter_3 : decode cL_wishLetter 3 = .ok (.iload_n 1, 1) := by decide +kernel
theorem dL_wishLetter_4 : decode cL_wishLetter 4 = .ok (.iload_n 2, 1) := by decide +kernel
theorem dL_wishLetter_5 : decode cL_wishLetter 5 = .ok (.invokevirtual 89, 3) := by decide +kernel
theorem dL_wishLetter_8 : decode cL_wishLetter 8 = .ok (.i2l, 1) := by decide +kernel
theorem dL_wishLetter_9 : decode cL_wishLetter 9 = .ok (.lastore, 1) := by decide +kernel
theorem dL_wishLetter_10 : decode cL_wishLetter 10 = .ok (.goto 11, 3) := by decide +kernel
theorem dL_wishLetter_13 : decode cL_wishLetter 13 = .ok (.astore 4, 2) := by decide +kernel
theorem dL_wishLetter_15 : decode cL_wishLetter 15 = .ok (.iconst 1, 1) := by decide +kernel
theorem dL_wishLetter_16 : decode cL_wishLetter 16 = .ok (.ireturn, 1) := by decide +kernel
theorem dL_wishLetter_17 : decode cL_wishLetter 17 = .ok (.astore 4, 2) := by decide +kernel
theorem dL_wishLetter_19 : decode cL_wishLetter 19 = .ok (.iconst 2, 1) := by decide +kernel
theorem dL_wishLetter_20 : decode cL_wishLetter 20 = .ok (.ireturn, 1) := by decide +kernel
theorem dL_wishLetter_21 : decode cL_wishLetter 21 = .ok (.iconst 0, 1) := by decide +kernel
theorem dL_wishLetter_22 : decode cL_wishLetter 22 = .ok (.ireturn, 1) := by decide +kernel
theorem dL_baseValue_0 : decode cL_baseValue 0 = .ok (.aload_n 2, 1) := by decide +kernel
theorem dL_baseValue_1 : decode cL_baseValue 1 = .ok (.iconst 0, 1) := by decide +kernel
theorem dL_baseValue_2 : decode cL_baseValue 2 = .ok (.aload_n 0, 1) := by decide +kernel
theorem dL_baseValue_3 : decode cL_baseValue 3 = .ok (.iload_n 1, 1) := by decide +kernel
theorem dL_baseValue_4 : decode cL_baseValue 4 = .ok (.invokevirtual 92, 3) := by decide +kernel
theorem dL_baseValue_7 : decode cL_baseValue 7 = .ok (.i2l, 1) := by decide +kernel
theorem dL_baseValue_8 : decode cL_baseValue 8 = .ok (.lastore, 1) := by decide +kernel
theorem dL_baseValue_9 : decode cL_baseValue 9 = .ok (.goto 9, 3) := by decide +kernel
theorem dL_baseValue_12 : decode cL_baseValue 12 = .ok (.astore_n 3, 1) := by decide +kernel
theorem dL_baseValue_13 : decode cL_baseValue 13 = .ok (.iconst 1, 1) := by decide +kernel
theorem dL_baseValue_14 : decode cL_baseValue 14 = .ok (.ireturn, 1) := by decide +kernel
theorem dL_baseValue_15 : decode cL_baseValue 15 = .ok (.astore_n 3, 1) := by decide +kernel
theorem dL_baseValue_16 : decode cL_baseValue 16 = .ok (.iconst 2, 1) := by decide +kernel
theorem dL_baseValue_17 : decode cL_baseValue 17 = .ok (.ireturn, 1) := by decide +kernel
theorem dL_baseValue_18 : decode cL_baseValue 18 = .ok (.iconst 0, 1) := by decide +kernel
theorem dL_baseValue_19 : decode cL_baseValue 19 = .ok (.ireturn, 1) := by decide +kernel
theorem dL_strength_0 : decode cL_strength 0 = .ok (.aload_n 2, 1) := by decide +kernel
theorem dL_strength_1 : decode cL_strength 1 = .ok (.iconst 0, 1) := by decide +kernel
theorem dL_strength_2 : decode cL_strength 2 = .ok (.aload_n 0, 1) := by decide +kernel
theorem dL_strength_3 : decode cL_strength 3 = .ok (.iload_n 1, 1) := by decide +kernel
theorem dL_strength_4 : decode cL_strength 4 = .ok (.invokevirtual 95, 3) := by decide +kernel
theorem dL_strength_7 : decode cL_strength 7 = .ok (.i2l, 1) := by decide +kernel
theorem dL_strength_8 : decode cL_strength 8 = .ok (.lastore, 1) := by decide +kernel
theorem dL_strength_9 : decode cL_strength 9 = .ok (.goto 9, 3) := by decide +kernel
theorem dL_strength_12 : decode cL_strength 12 = .ok (.astore_n 3, 1) := by decide +kernel
theorem dL_strength_13 : decode cL_strength 13 = .ok (.iconst 1, 1) := by decide +kernel
theorem dL_strength_14 : decode cL_strength 14 = .ok (.ireturn, 1) := by decide +kernel
theorem dL_strength_15 : decode cL_strength 15 = .ok (.astore_n 3, 1) := by decide +kernel
theorem dL_strength_16 : decode cL_strength 16 = .ok (.iconst 2, 1) := by decide +kernel
theorem dL_strength_17 : decode cL_strength 17 = .ok (.ireturn, 1) := by decide +kernel
theorem dL_strength_18 : decode cL_strength 18 = .ok (.iconst 0, 1) := by decide +kernel
theorem dL_strength_19 : decode cL_strength 19 = .ok (.ireturn, 1) := by decide +kernel
theorem dL_wear_0 : decode cL_wear 0 = .ok (.aload_n 2, 1) := by decide +kernel
theorem dL_wear_1 : decode cL_wear 1 = .ok (.iconst 0, 1) := by decide +kernel
theorem dL_wear_2 : decode cL_wear 2 = .ok (.aload_n 0, 1) := by decide +kernel
theorem dL_wear_3 : decode cL_wear 3 = .ok (.iload_n 1, 1) := by decide +kernel
theorem dL_wear_4 : decode cL_wear 4 = .ok (.invokevirtual 98, 3) := by decide +kernel
theorem dL_wear_7 : decode cL_wear 7 = .ok (.i2l, 1) := by decide +kernel
theorem dL_wear_8 : decode cL_wear 8 = .ok (.lastore, 1) := by decide +kernel
theorem dL_wear_9 : decode cL_wear 9 = .ok (.goto 9, 3) := by decide +kernel
theorem dL_wear_12 : decode cL_wear 12 = .ok (.astore_n 3, 1) := by decide +kernel
theorem dL_wear_13 : decode cL_wear 13 = .ok (.iconst 1, 1) := by decide +kernel
theorem dL_wear_14 : decode cL_wear 14 = .ok (.ireturn, 1) := by decide +kernel
theorem dL_wear_15 : decode cL_wear 15 = .ok (.astore_n 3, 1) := by decide +kernel
theorem dL_wear_16 : decode cL_wear 16 = .ok (.iconst 2, 1) := by decide +kernel
theorem dL_wear_17 : decode cL_wear 17 = .ok (.ireturn, 1) := by decide +kernel
theorem dL_wear_18 : decode cL_wear 18 = .ok (.iconst 0, 1) := by decide +kernel
theorem dL_wear_19 : decode cL_wear 19 = .ok (.ireturn, 1) := by decide +kernel
theorem dL_value_0 : decode cL_value 0 = .ok (.aload_n 2, 1) := by decide +kernel
theorem dL_value_1 : decode cL_value 1 = .ok (.iconst 0, 1) := by decide +kernel
theorem dL_value_2 : decode cL_value 2 = .ok (.aload_n 0, 1) := by decide +kernel
theorem dL_value_3 : decode cL_value 3 = .ok (.iload_n 1, 1) := by decide +kernel
theorem dL_value_4 : decode cL_value 4 = .ok (.invokevirtual 101, 3) := by decide +kernel
theorem dL_value_7 : decode cL_value 7 = .ok (.i2l, 1) := by decide +kernel
theorem dL_value_8 : decode cL_value 8 = .ok (.lastore, 1) := by decide +kernel
theorem dL_value_9 : decode cL_value 9 = .ok (.goto 9, 3) := by decide +kernel
theorem dL_value_12 : decode cL_value 12 = .ok (.astore_n 3, 1) := by decide +kernel
theorem dL_value_13 : decode cL_value 13 = .ok (.iconst 1, 1) := by decide +kernel
theorem dL_value_14 : decode cL_value 14 = .ok (.ireturn, 1) := by decide +kernel
theorem dL_value_15 : decode cL_value 15 = .ok (.astore_n 3, 1) := by decide +kernel
theorem dL_value_16 : decode cL_value 16 = .ok (.iconst 2, 1) := by decide +kernel
theorem dL_value_17 : decode cL_value 17 = .ok (.ireturn, 1) := by decide +kernel
theorem dL_value_18 : decode cL_value 18 = .ok (.iconst 0, 1) := by decide +kernel
theorem dL_value_19 : decode cL_value 19 = .ok (.ireturn, 1) := by decide +kernel
theorem dL_owner_0 : decode cL_owner 0 = .ok (.aload_n 2, 1) := by decide +kernel
theorem dL_owner_1 : decode cL_owner 1 = .ok (.iconst 0, 1) := by decide +kernel
theorem dL_owner_2 : decode cL_owner 2 = .ok (.aload_n 0, 1) := by decide +kernel
theorem dL_owner_3 : decode cL_owner 3 = .ok (.iload_n 1, 1) := by decide +kernel
theorem dL_owner_4 : decode cL_owner 4 = .ok (.invokevirtual 104, 3) := by decide +kernel
theorem dL_owner_7 : decode cL_owner 7 = .ok (.i2l, 1) := by decide +kernel
theorem dL_owner_8 : decode cL_owner 8 = .ok (.lastore, 1) := by decide +kernel
theorem dL_owner_9 : decode cL_owner 9 = .ok (.goto 9, 3) := by decide +kernel
theorem dL_owner_12 : decode cL_owner 12 = .ok (.astore_n 3, 1) := by decide +kernel
theorem dL_owner_13 : decode cL_owner 13 = .ok (.iconst 1, 1) := by decide +kernel
theorem dL_owner_14 : decode cL_owner 14 = .ok (.ireturn, 1) := by decide +kernel
theorem dL_owner_15 : decode cL_owner 15 = .ok (.astore_n 3, 1) := by decide +kernel
theorem dL_owner_16 : decode cL_owner 16 = .ok (.iconst 2, 1) := by decide +kernel
theorem dL_owner_17 : decode cL_owner 17 = .ok (.ireturn, 1) := by decide +kernel
theorem dL_owner_18 : decode cL_owner 18 = .ok (.iconst 0, 1) := by decide +kernel
theorem dL_owner_19 : decode cL_owner 19 = .ok (.ireturn, 1) := by decide +kernel
theorem dL_stallOf_0 : decode cL_stallOf 0 = .ok (.aload_n 2, 1) := by decide +kernel
theorem dL_stallOf_1 : decode cL_stallOf 1 = .ok (.iconst 0, 1) := by decide +kernel
theorem dL_stallOf_2 : decode cL_stallOf 2 = .ok (.aload_n 0, 1) := by decide +kernel
theorem dL_stallOf_3 : decode cL_stallOf 3 = .ok (.iload_n 1, 1) := by decide +kernel
theorem dL_stallOf_4 : decode cL_stallOf 4 = .ok (.invokevirtual 107, 3) := by decide +kernel
theorem dL_stallOf_7 : decode cL_stallOf 7 = .ok (.i2l, 1) := by decide +kernel
theorem dL_stallOf_8 : decode cL_stallOf 8 = .ok (.lastore, 1) := by decide +kernel
theorem dL_stallOf_9 : decode cL_stallOf 9 = .ok (.goto 9, 3) := by decide +kernel
theorem dL_stallOf_12 : decode cL_stallOf 12 = .ok (.astore_n 3, 1) := by decide +kernel
theorem dL_stallOf_13 : decode cL_stallOf 13 = .ok (.iconst 1, 1) := by decide +kernel
theorem dL_stallOf_14 : decode cL_stallOf 14 = .ok (.ireturn, 1) := by decide +kernel
theorem dL_stallOf_15 : decode cL_stallOf 15 = .ok (.astore_n 3, 1) := by decide +kernel
theorem dL_stallOf_16 : decode cL_stallOf 16 = .ok (.iconst 2, 1) := by decide +kernel
theorem dL_stallOf_17 : decode cL_stallOf 17 = .ok (.ireturn, 1) := by decide +kernel
theorem dL_stallOf_18 : decode cL_stallOf 18 = .ok (.iconst 0, 1) := by decide +kernel
theorem dL_stallOf_19 : decode cL_stallOf 19 = .ok (.ireturn, 1) := by decide +kernel
theorem dL_isGranted_0 : decode cL_isGranted 0 = .ok (.aload_n 2, 1) := by decide +kernel
theorem dL_isGranted_1 : decode cL_isGranted 1 = .ok (.iconst 0, 1) := by decide +kernel
theorem dL_isGranted_2 : decode cL_isGranted 2 = .ok (.aload_n 0, 1) := by decide +kernel
theorem dL_isGranted_3 : decode cL_isGranted 3 = .ok (.iload_n 1, 1) := by decide +kernel
theorem dL_isGranted_4 : decode cL_isGranted 4 = .ok (.invokevirtual 110, 3) := by decide +kernel
theorem dL_isGranted_7 : decode cL_isGranted 7 = .ok (.ifCond .eq 7, 3) := by decide +kernel
theorem dL_isGranted_10 : decode cL_isGranted 10 = .ok (.lconst 1, 1) := by decide +kernel
theorem dL_isGranted_11 : decode cL_isGranted 11 = .ok (.goto 4, 3) := by decide +kernel
theorem dL_isGranted_14 : decode cL_isGranted 14 = .ok (.lconst 0, 1) := by decide +kernel
theorem dL_isGranted_15 : decode cL_isGranted 15 = .ok (.lastore, 1) := by decide +kernel
theorem dL_isGranted_16 : decode cL_isGranted 16 = .ok (.goto 9, 3) := by decide +kernel
theorem dL_isGranted_19 : decode cL_isGranted 19 = .ok (.astore_n 3, 1) := by decide +kernel
theorem dL_isGranted_20 : decode cL_isGranted 20 = .ok (.iconst 1, 1) := by decide +kernel
theorem dL_isGranted_21 : decode cL_isGranted 21 = .ok (.ireturn, 1) := by decide +kernel
theorem dL_isGranted_22 : decode cL_isGranted 22 = .ok (.astore_n 3, 1) := by decide +kernel
theorem dL_isGranted_23 : decode cL_isGranted 23 = .ok (.iconst 2, 1) := by decide +kernel
theorem dL_isGranted_24 : decode cL_isGranted 24 = .ok (.ireturn, 1) := by decide +kernel
theorem dL_isGranted_25 : decode cL_isGranted 25 = .ok (.iconst 0, 1) := by decide +kernel
theorem dL_isGranted_26 : decode cL_isGranted 26 = .ok (.ireturn, 1) := by decide +kernel
theorem dL_purchaseDay_0 : decode cL_purchaseDay 0 = .ok (.aload_n 2, 1) := by decide +kernel
theorem dL_purchaseDay_1 : decode cL_purchaseDay 1 = .ok (.iconst 0, 1) := by decide +kernel
theorem dL_purchaseDay_2 : decode cL_purchaseDay 2 = .ok (.aload_n 0, 1) := by decide +kernel
theorem dL_purchaseDay_3 : decode cL_purchaseDay 3 = .ok (.iload_n 1, 1) := by decide +kernel
theorem dL_purchaseDay_4 : decode cL_purchaseDay 4 = .ok (.invokevirtual 114, 3) := by decide +kernel
theorem dL_purchaseDay_7 : decode cL_purchaseDay 7 = .ok (.i2l, 1) := by decide +kernel
theorem dL_purchaseDay_8 : decode cL_purchaseDay 8 = .ok (.lastore, 1) := by decide +kernel
theorem dL_purchaseDay_9 : decode cL_purchaseDay 9 = .ok (.goto 9, 3) := by decide +kernel
theorem dL_purchaseDay_12 : decode cL_purchaseDay 12 = .ok (.astore_n 3, 1) := by decide +kernel
theorem dL_purchaseDay_13 : decode cL_purchaseDay 13 = .ok (.iconst 1, 1) := by decide +kernel
theorem dL_purchaseDay_14 : decode cL_purchaseDay 14 = .ok (.ireturn, 1) := by decide +kernel
theorem dL_purchaseDay_15 : decode cL_purchaseDay 15 = .ok (.astore_n 3, 1) := by decide +kernel
theorem dL_purchaseDay_16 : decode cL_purchaseDay 16 = .ok (.iconst 2, 1) := by decide +kernel
theorem dL_purchaseDay_17 : decode cL_purchaseDay 17 = .ok (.ireturn, 1) := by decide +kernel
theorem dL_purchaseDay_18 : decode cL_purchaseDay 18 = .ok (.iconst 0, 1) := by decide +kernel
theorem dL_purchaseDay_19 : decode cL_purchaseDay 19 = .ok (.ireturn, 1) := by decide +kernel
theorem dL_purchasePrice_0 : decode cL_purchasePrice 0 = .ok (.aload_n 2, 1) := by decide +kernel
theorem dL_purchasePrice_1 : decode cL_purchasePrice 1 = .ok (.iconst 0, 1) := by decide +kernel
theorem dL_purchasePrice_2 : decode cL_purchasePrice 2 = .ok (.aload_n 0, 1) := by decide +kernel
theorem dL_purchasePrice_3 : decode cL_purchasePrice 3 = .ok (.iload_n 1, 1) := by decide +kernel
theorem dL_purchasePrice_4 : decode cL_purchasePrice 4 = .ok (.invokevirtual 117, 3) := by decide +kernel
theorem dL_purchasePrice_7 : decode cL_purchasePrice 7 = .ok (.i2l, 1) := by decide +kernel
theorem dL_purchasePrice_8 : decode cL_purchasePrice 8 = .ok (.lastore, 1) := by decide +kernel
theorem dL_purchasePrice_9 : decode cL_purchasePrice 9 = .ok (.goto 9, 3) := by decide +kernel
theorem dL_purchasePrice_12 : decode cL_purchasePrice 12 = .ok (.astore_n 3, 1) := by decide +kernel
theorem dL_purchasePrice_13 : decode cL_purchasePrice 13 = .ok (.iconst 1, 1) := by decide +kernel
theorem dL_purchasePrice_14 : decode cL_purchasePrice 14 = .ok (.ireturn, 1) := by decide +kernel
theorem dL_purchasePrice_15 : decode cL_purchasePrice 15 = .ok (.astore_n 3, 1) := by decide +kernel
theorem dL_purchasePrice_16 : decode cL_purchasePrice 16 = .ok (.iconst 2, 1) := by decide +kernel
theorem dL_purchasePrice_17 : decode cL_purchasePrice 17 = .ok (.ireturn, 1) := by decide +kernel
theorem dL_purchasePrice_18 : decode cL_purchasePrice 18 = .ok (.iconst 0, 1) := by decide +kernel
theorem dL_purchasePrice_19 : decode cL_purchasePrice 19 = .ok (.ireturn, 1) := by decide +kernel
theorem dL_price_0 : decode cL_price 0 = .ok (.aload_n 2, 1) := by decide +kernel
theorem dL_price_1 : decode cL_price 1 = .ok (.iconst 0, 1) := by decide +kernel
theorem dL_price_2 : decode cL_price 2 = .ok (.aload_n 0, 1) := by decide +kernel
theorem dL_price_3 : decode cL_price 3 = .ok (.iload_n 1, 1) := by decide +kernel
theorem dL_price_4 : decode cL_price 4 = .ok (.invokevirtual 120, 3) := by decide +kernel
theorem dL_price_7 : decode cL_price 7 = .ok (.i2l, 1) := by decide +kernel
theorem dL_price_8 : decode cL_price 8 = .ok (.lastore, 1) := by decide +kernel
theorem dL_price_9 : decode cL_price 9 = .ok (.goto 9, 3) := by decide +kernel
theorem dL_price_12 : decode cL_price 12 = .ok (.astore_n 3, 1) := by decide +kernel
theorem dL_price_13 : decode cL_price 13 = .ok (.iconst 1, 1) := by decide +kernel
theorem dL_price_14 : decode cL_price 14 = .ok (.ireturn, 1) := by decide +kernel
theorem dL_price_15 : decode cL_price 15 = .ok (.astore_n 3, 1) := by decide +kernel
theorem dL_price_16 : decode cL_price 16 = .ok (.iconst 2, 1) := by decide +kernel
theorem dL_price_17 : decode cL_price 17 = .ok (.ireturn, 1) := by decide +kernel
theorem dL_price_18 : decode cL_price 18 = .ok (.iconst 0, 1) := by decide +kernel
theorem dL_price_19 : decode cL_price 19 = .ok (.ireturn, 1) := by decide +kernel
theorem dL_offer_0 : decode cL_offer 0 = .ok (.aload_n 3, 1) := by decide +kernel
theorem dL_offer_1 : decode cL_offer 1 = .ok (.iconst 0, 1) := by decide +kernel
theorem dL_offer_2 : decode cL_offer 2 = .ok (.aload_n 0, 1) := by decide +kernel
theorem dL_offer_3 : decode cL_offer 3 = .ok (.iload_n 1, 1) := by decide +kernel
theorem dL_offer_4 : decode cL_offer 4 = .ok (.iload_n 2, 1) := by decide +kernel
theorem dL_offer_5 : decode cL_offer 5 = .ok (.invokevirtual 123, 3) := by decide +kernel
theorem dL_offer_8 : decode cL_offer 8 = .ok (.i2l, 1) := by decide +kernel
theorem dL_offer_9 : decode cL_offer 9 = .ok (.lastore, 1) := by decide +kernel
theorem dL_offer_10 : decode cL_offer 10 = .ok (.goto 11, 3) := by decide +kernel
theorem dL_offer_13 : decode cL_offer 13 = .ok (.astore 4, 2) := by decide +kernel
theorem dL_offer_15 : decode cL_offer 15 = .ok (.iconst 1, 1) := by decide +kernel
theorem dL_offer_16 : decode cL_offer 16 = .ok (.ireturn, 1) := by decide +kernel
theorem dL_offer_17 : decode cL_offer 17 = .ok (.astore 4, 2) := by decide +kernel
theorem dL_offer_19 : decode cL_offer 19 = .ok (.iconst 2, 1) := by decide +kernel
theorem dL_offer_20 : decode cL_offer 20 = .ok (.ireturn, 1) := by decide +kernel
theorem dL_offer_21 : decode cL_offer 21 = .ok (.iconst 0, 1) := by decide +kernel
theorem dL_offer_22 : decode cL_offer 22 = .ok (.ireturn, 1) := by decide +kernel
theorem dL_refund_0 : decode cL_refund 0 = .ok (.aload_n 2, 1) := by decide +kernel
theorem dL_refund_1 : decode cL_refund 1 = .ok (.iconst 0, 1) := by decide +kernel
theorem dL_refund_2 : decode cL_refund 2 = .ok (.aload_n 0, 1) := by decide +kernel
theorem dL_refund_3 : decode cL_refund 3 = .ok (.iload_n 1, 1) := by decide +kernel
theorem dL_refund_4 : decode cL_refund 4 = .ok (.invokevirtual 126, 3) := by decide +kernel
theorem dL_refund_7 : decode cL_refund 7 = .ok (.i2l, 1) := by decide +kernel
theorem dL_refund_8 : decode cL_refund 8 = .ok (.lastore, 1) := by decide +kernel
theorem dL_refund_9 : decode cL_refund 9 = .ok (.goto 9, 3) := by decide +kernel
theorem dL_refund_12 : decode cL_refund 12 = .ok (.astore_n 3, 1) := by decide +kernel
theorem dL_refund_13 : decode cL_refund 13 = .ok (.iconst 1, 1) := by decide +kernel
theorem dL_refund_14 : decode cL_refund 14 = .ok (.ireturn, 1) := by decide +kernel
theorem dL_refund_15 : decode cL_refund 15 = .ok (.astore_n 3, 1) := by decide +kernel
theorem dL_refund_16 : decode cL_refund 16 = .ok (.iconst 2, 1) := by decide +kernel
theorem dL_refund_17 : decode cL_refund 17 = .ok (.ireturn, 1) := by decide +kernel
theorem dL_refund_18 : decode cL_refund 18 = .ok (.iconst 0, 1) := by decide +kernel
theorem dL_refund_19 : decode cL_refund 19 = .ok (.ireturn, 1) := by decide +kernel
theorem dL_buyObstacle_0 : decode cL_buyObstacle 0 = .ok (.aload_n 3, 1) := by decide +kernel
theorem dL_buyObstacle_1 : decode cL_buyObstacle 1 = .ok (.iconst 0, 1) := by decide +kernel
theorem dL_buyObstacle_2 : decode cL_buyObstacle 2 = .ok (.aload_n 0, 1) := by decide +kernel
theorem dL_buyObstacle_3 : decode cL_buyObstacle 3 = .ok (.iload_n 1, 1) := by decide +kernel
theorem dL_buyObstacle_4 : decode cL_buyObstacle 4 = .ok (.iload_n 2, 1) := by decide +kernel
theorem dL_buyObstacle_5 : decode cL_buyObstacle 5 = .ok (.invokevirtual 129, 3) := by decide +kernel
theorem dL_buyObstacle_8 : decode cL_buyObstacle 8 = .ok (.i2l, 1) := by decide +kernel
theorem dL_buyObstacle_9 : decode cL_buyObstacle 9 = .ok (.lastore, 1) := by decide +kernel
theorem dL_buyObstacle_10 : decode cL_buyObstacle 10 = .ok (.goto 11, 3) := by decide +kernel
theorem dL_buyObstacle_13 : decode cL_buyObstacle 13 = .ok (.astore 4, 2) := by decide +kernel
theorem dL_buyObstacle_15 : decode cL_buyObstacle 15 = .ok (.iconst 1, 1) := by decide +kernel
theorem dL_buyObstacle_16 : decode cL_buyObstacle 16 = .ok (.ireturn, 1) := by decide +kernel
theorem dL_buyObstacle_17 : decode cL_buyObstacle 17 = .ok (.astore 4, 2) := by decide +kernel
theorem dL_buyObstacle_19 : decode cL_buyObstacle 19 = .ok (.iconst 2, 1) := by decide +kernel
theorem dL_buyObstacle_20 : decode cL_buyObstacle 20 = .ok (.ireturn, 1) := by decide +kernel
theorem dL_buyObstacle_21 : decode cL_buyObstacle 21 = .ok (.iconst 0, 1) := by decide +kernel
theorem dL_buyObstacle_22 : decode cL_buyObstacle 22 = .ok (.ireturn, 1) := by decide +kernel
theorem dL_sellObstacle_0 : decode cL_sellObstacle 0 = .ok (.aload_n 3, 1) := by decide +kernel
theorem dL_sellObstacle_1 : decode cL_sellObstacle 1 = .ok (.iconst 0, 1) := by decide +kernel
theorem dL_sellObstacle_2 : decode cL_sellObstacle 2 = .ok (.aload_n 0, 1) := by decide +kernel
theorem dL_sellObstacle_3 : decode cL_sellObstacle 3 = .ok (.iload_n 1, 1) := by decide +kernel
theorem dL_sellObstacle_4 : decode cL_sellObstacle 4 = .ok (.iload_n 2, 1) := by decide +kernel
theorem dL_sellObstacle_5 : decode cL_sellObstacle 5 = .ok (.invokevirtual 132, 3) := by decide +kernel
theorem dL_sellObstacle_8 : decode cL_sellObstacle 8 = .ok (.i2l, 1) := by decide +kernel
theorem dL_sellObstacle_9 : decode cL_sellObstacle 9 = .ok (.lastore, 1) := by decide +kernel
theorem dL_sellObstacle_10 : decode cL_sellObstacle 10 = .ok (.goto 11, 3) := by decide +kernel
theorem dL_sellObstacle_13 : decode cL_sellObstacle 13 = .ok (.astore 4, 2) := by decide +kernel
theorem dL_sellObstacle_15 : decode cL_sellObstacle 15 = .ok (.iconst 1, 1) := by decide +kernel
theorem dL_sellObstacle_16 : decode cL_sellObstacle 16 = .ok (.ireturn, 1) := by decide +kernel
theorem dL_sellObstacle_17 : decode cL_sellObstacle 17 = .ok (.astore 4, 2) := by decide +kernel
theorem dL_sellObstacle_19 : decode cL_sellObstacle 19 = .ok (.iconst 2, 1) := by decide +kernel
theorem dL_sellObstacle_20 : decode cL_sellObstacle 20 = .ok (.ireturn, 1) := by decide +kernel
theorem dL_sellObstacle_21 : decode cL_sellObstacle 21 = .ok (.iconst 0, 1) := by decide +kernel
theorem dL_sellObstacle_22 : decode cL_sellObstacle 22 = .ok (.ireturn, 1) := by decide +kernel
theorem dL_returnObstacle_0 : decode cL_returnObstacle 0 = .ok (.aload_n 2, 1) := by decide +kernel
theorem dL_returnObstacle_1 : decode cL_returnObstacle 1 = .ok (.iconst 0, 1) := by decide +kernel
theorem dL_returnObstacle_2 : decode cL_returnObstacle 2 = .ok (.aload_n 0, 1) := by decide +kernel
theorem dL_returnObstacle_3 : decode cL_returnObstacle 3 = .ok (.iload_n 1, 1) := by decide +kernel
theorem dL_returnObstacle_4 : decode cL_returnObstacle 4 = .ok (.invokevirtual 135, 3) := by decide +kernel
theorem dL_returnObstacle_7 : decode cL_returnObstacle 7 = .ok (.i2l, 1) := by decide +kernel
theorem dL_returnObstacle_8 : decode cL_returnObstacle 8 = .ok (.lastore, 1) := by decide +kernel
theorem dL_returnObstacle_9 : decode cL_returnObstacle 9 = .ok (.goto 9, 3) := by decide +kernel
theorem dL_returnObstacle_12 : decode cL_returnObstacle 12 = .ok (.astore_n 3, 1) := by decide +kernel
theorem dL_returnObstacle_13 : decode cL_returnObstacle 13 = .ok (.iconst 1, 1) := by decide +kernel
theorem dL_returnObstacle_14 : decode cL_returnObstacle 14 = .ok (.ireturn, 1) := by decide +kernel
theorem dL_returnObstacle_15 : decode cL_returnObstacle 15 = .ok (.astore_n 3, 1) := by decide +kernel
theorem dL_returnObstacle_16 : decode cL_returnObstacle 16 = .ok (.iconst 2, 1) := by decide +kernel
theorem dL_returnObstacle_17 : decode cL_returnObstacle 17 = .ok (.ireturn, 1) := by decide +kernel
theorem dL_returnObstacle_18 : decode cL_returnObstacle 18 = .ok (.iconst 0, 1) := by decide +kernel
theorem dL_returnObstacle_19 : decode cL_returnObstacle 19 = .ok (.ireturn, 1) := by decide +kernel
theorem dL_grantObstacle_0 : decode cL_grantObstacle 0 = .ok (.aload_n 2, 1) := by decide +kernel
theorem dL_grantObstacle_1 : decode cL_grantObstacle 1 = .ok (.iconst 0, 1) := by decide +kernel
theorem dL_grantObstacle_2 : decode cL_grantObstacle 2 = .ok (.aload_n 0, 1) := by decide +kernel
theorem dL_grantObstacle_3 : decode cL_grantObstacle 3 = .ok (.iload_n 1, 1) := by decide +kernel
theorem dL_grantObstacle_4 : decode cL_grantObstacle 4 = .ok (.invokevirtual 138, 3) := by decide +kernel
theorem dL_grantObstacle_7 : decode cL_grantObstacle 7 = .ok (.i2l, 1) := by decide +kernel
theorem dL_grantObstacle_8 : decode cL_grantObstacle 8 = .ok (.lastore, 1) := by decide +kernel
theorem dL_grantObstacle_9 : decode cL_grantObstacle 9 = .ok (.goto 9, 3) := by decide +kernel
theorem dL_grantObstacle_12 : decode cL_grantObstacle 12 = .ok (.astore_n 3, 1) := by decide +kernel
theorem dL_grantObstacle_13 : decode cL_grantObstacle 13 = .ok (.iconst 1, 1) := by decide +kernel
theorem dL_grantObstacle_14 : decode cL_grantObstacle 14 = .ok (.ireturn, 1) := by decide +kernel
theorem dL_grantObstacle_15 : decode cL_grantObstacle 15 = .ok (.astore_n 3, 1) := by decide +kernel
theorem dL_grantObstacle_16 : decode cL_grantObstacle 16 = .ok (.iconst 2, 1) := by decide +kernel
theorem dL_grantObstacle_17 : decode cL_grantObstacle 17 = .ok (.ireturn, 1) := by decide +kernel
theorem dL_grantObstacle_18 : decode cL_grantObstacle 18 = .ok (.iconst 0, 1) := by decide +kernel
theorem dL_grantObstacle_19 : decode cL_grantObstacle 19 = .ok (.ireturn, 1) := by decide +kernel
theorem dL_cheapestWish_0 : decode cL_cheapestWish 0 = .ok (.aload_n 2, 1) := by decide +kernel
theorem dL_cheapestWish_1 : decode cL_cheapestWish 1 = .ok (.iconst 0, 1) := by decide +kernel
theorem dL_cheapestWish_2 : decode cL_cheapestWish 2 = .ok (.aload_n 0, 1) := by decide +kernel
theorem dL_cheapestWish_3 : decode cL_cheapestWish 3 = .ok (.iload_n 1, 1) := by decide +kernel
theorem dL_cheapestWish_4 : decode cL_cheapestWish 4 = .ok (.invokevirtual 141, 3) := by decide +kernel
theorem dL_cheapestWish_7 : decode cL_cheapestWish 7 = .ok (.i2l, 1) := by decide +kernel
theorem dL_cheapestWish_8 : decode cL_cheapestWish 8 = .ok (.lastore, 1) := by decide +kernel
theorem dL_cheapestWish_9 : decode cL_cheapestWish 9 = .ok (.goto 9, 3) := by decide +kernel
theorem dL_cheapestWish_12 : decode cL_cheapestWish 12 = .ok (.astore_n 3, 1) := by decide +kernel
theorem dL_cheapestWish_13 : decode cL_cheapestWish 13 = .ok (.iconst 1, 1) := by decide +kernel
theorem dL_cheapestWish_14 : decode cL_cheapestWish 14 = .ok (.ireturn, 1) := by decide +kernel
theorem dL_cheapestWish_15 : decode cL_cheapestWish 15 = .ok (.astore_n 3, 1) := by decide +kernel
theorem dL_cheapestWish_16 : decode cL_cheapestWish 16 = .ok (.iconst 2, 1) := by decide +kernel
theorem dL_cheapestWish_17 : decode cL_cheapestWish 17 = .ok (.ireturn, 1) := by decide +kernel
theorem dL_cheapestWish_18 : decode cL_cheapestWish 18 = .ok (.iconst 0, 1) := by decide +kernel
theorem dL_cheapestWish_19 : decode cL_cheapestWish 19 = .ok (.ireturn, 1) := by decide +kernel
theorem dL_bestGrant_0 : decode cL_bestGrant 0 = .ok (.aload_n 2, 1) := by decide +kernel
theorem dL_bestGrant_1 : decode cL_bestGrant 1 = .ok (.iconst 0, 1) := by decide +kernel
theorem dL_bestGrant_2 : decode cL_bestGrant 2 = .ok (.aload_n 0, 1) := by decide +kernel
theorem dL_bestGrant_3 : decode cL_bestGrant 3 = .ok (.iload_n 1, 1) := by decide +kernel
theorem dL_bestGrant_4 : decode cL_bestGrant 4 = .ok (.invokevirtual 144, 3) := by decide +kernel
theorem dL_bestGrant_7 : decode cL_bestGrant 7 = .ok (.i2l, 1) := by decide +kernel
theorem dL_bestGrant_8 : decode cL_bestGrant 8 = .ok (.lastore, 1) := by decide +kernel
theorem dL_bestGrant_9 : decode cL_bestGrant 9 = .ok (.goto 9, 3) := by decide +kernel
theorem dL_bestGrant_12 : decode cL_bestGrant 12 = .ok (.astore_n 3, 1) := by decide +kernel
theorem dL_bestGrant_13 : decode cL_bestGrant 13 = .ok (.iconst 1, 1) := by decide +kernel
theorem dL_bestGrant_14 : decode cL_bestGrant 14 = .ok (.ireturn, 1) := by decide +kernel
theorem dL_bestGrant_15 : decode cL_bestGrant 15 = .ok (.astore_n 3, 1) := by decide +kernel
theorem dL_bestGrant_16 : decode cL_bestGrant 16 = .ok (.iconst 2, 1) := by decide +kernel
theorem dL_bestGrant_17 : decode cL_bestGrant 17 = .ok (.ireturn, 1) := by decide +kernel
theorem dL_bestGrant_18 : decode cL_bestGrant 18 = .ok (.iconst 0, 1) := by decide +kernel
theorem dL_bestGrant_19 : decode cL_bestGrant 19 = .ok (.ireturn, 1) := by decide +kernel
theorem dL_bestOffer_0 : decode cL_bestOffer 0 = .ok (.aload_n 2, 1) := by decide +kernel
theorem dL_bestOffer_1 : decode cL_bestOffer 1 = .ok (.iconst 0, 1) := by decide +kernel
theorem dL_bestOffer_2 : decode cL_bestOffer 2 = .ok (.aload_n 0, 1) := by decide +kernel
theorem dL_bestOffer_3 : decode cL_bestOffer 3 = .ok (.iload_n 1, 1) := by decide +kernel
theorem dL_bestOffer_4 : decode cL_bestOffer 4 = .ok (.invokevirtual 147, 3) := by decide +kernel
theorem dL_bestOffer_7 : decode cL_bestOffer 7 = .ok (.i2l, 1) := by decide +kernel
theorem dL_bestOffer_8 : decode cL_bestOffer 8 = .ok (.lastore, 1) := by decide +kernel
theorem dL_bestOffer_9 : decode cL_bestOffer 9 = .ok (.goto 9, 3) := by decide +kernel
theorem dL_bestOffer_12 : decode cL_bestOffer 12 = .ok (.astore_n 3, 1) := by decide +kernel
theorem dL_bestOffer_13 : decode cL_bestOffer 13 = .ok (.iconst 1, 1) := by decide +kernel
theorem dL_bestOffer_14 : decode cL_bestOffer 14 = .ok (.ireturn, 1) := by decide +kernel
theorem dL_bestOffer_15 : decode cL_bestOffer 15 = .ok (.astore_n 3, 1) := by decide +kernel
theorem dL_bestOffer_16 : decode cL_bestOffer 16 = .ok (.iconst 2, 1) := by decide +kernel
theorem dL_bestOffer_17 : decode cL_bestOffer 17 = .ok (.ireturn, 1) := by decide +kernel
theorem dL_bestOffer_18 : decode cL_bestOffer 18 = .ok (.iconst 0, 1) := by decide +kernel
theorem dL_bestOffer_19 : decode cL_bestOffer 19 = .ok (.ireturn, 1) := by decide +kernel
theorem dL_coinsAfter_0 : decode cL_coinsAfter 0 = .ok (.aload_n 3, 1) := by decide +kernel
theorem dL_coinsAfter_1 : decode cL_coinsAfter 1 = .ok (.iconst 0, 1) := by decide +kernel
theorem dL_coinsAfter_2 : decode cL_coinsAfter 2 = .ok (.aload_n 0, 1) := by decide +kernel
theorem dL_coinsAfter_3 : decode cL_coinsAfter 3 = .ok (.iload_n 1, 1) := by decide +kernel
theorem dL_coinsAfter_4 : decode cL_coinsAfter 4 = .ok (.iload_n 2, 1) := by decide +kernel
theorem dL_coinsAfter_5 : decode cL_coinsAfter 5 = .ok (.invokevirtual 150, 3) := by decide +kernel
theorem dL_coinsAfter_8 : decode cL_coinsAfter 8 = .ok (.i2l, 1) := by decide +kernel
theorem dL_coinsAfter_9 : decode cL_coinsAfter 9 = .ok (.lastore, 1) := by decide +kernel
theorem dL_coinsAfter_10 : decode cL_coinsAfter 10 = .ok (.goto 15, 3) := by decide +kernel
theorem dL_coinsAfter_13 : decode cL_coinsAfter 13 = .ok (.astore 4, 2) := by decide +kernel
theorem dL_coinsAfter_15 : decode cL_coinsAfter 15 = .ok (.iconst 1, 1) := by decide +kernel
theorem dL_coinsAfter_16 : decode cL_coinsAfter 16 = .ok (.ireturn, 1) := by decide +kernel
theorem dL_coinsAfter_17 : decode cL_coinsAfter 17 = .ok (.astore 4, 2) := by decide +kernel
theorem dL_coinsAfter_19 : decode cL_coinsAfter 19 = .ok (.iconst 2, 1) := by decide +kernel
theorem dL_coinsAfter_20 : decode cL_coinsAfter 20 = .ok (.ireturn, 1) := by decide +kernel
theorem dL_coinsAfter_21 : decode cL_coinsAfter 21 = .ok (.astore 4, 2) := by decide +kernel
theorem dL_coinsAfter_23 : decode cL_coinsAfter 23 = .ok (.iconst 3, 1) := by decide +kernel
theorem dL_coinsAfter_24 : decode cL_coinsAfter 24 = .ok (.ireturn, 1) := by decide +kernel
theorem dL_coinsAfter_25 : decode cL_coinsAfter 25 = .ok (.iconst 0, 1) := by decide +kernel
theorem dL_coinsAfter_26 : decode cL_coinsAfter 26 = .ok (.ireturn, 1) := by decide +kernel
theorem dL_valueAfter_0 : decode cL_valueAfter 0 = .ok (.aload_n 3, 1) := by decide +kernel
theorem dL_valueAfter_1 : decode cL_valueAfter 1 = .ok (.iconst 0, 1) := by decide +kernel
theorem dL_valueAfter_2 : decode cL_valueAfter 2 = .ok (.aload_n 0, 1) := by decide +kernel
theorem dL_valueAfter_3 : decode cL_valueAfter 3 = .ok (.iload_n 1, 1) := by decide +kernel
theorem dL_valueAfter_4 : decode cL_valueAfter 4 = .ok (.iload_n 2, 1) := by decide +kernel
theorem dL_valueAfter_5 : decode cL_valueAfter 5 = .ok (.invokevirtual 153, 3) := by decide +kernel
theorem dL_valueAfter_8 : decode cL_valueAfter 8 = .ok (.i2l, 1) := by decide +kernel
theorem dL_valueAfter_9 : decode cL_valueAfter 9 = .ok (.lastore, 1) := by decide +kernel
theorem dL_valueAfter_10 : decode cL_valueAfter 10 = .ok (.goto 15, 3) := by decide +kernel
theorem dL_valueAfter_13 : decode cL_valueAfter 13 = .ok (.astore 4, 2) := by decide +kernel
theorem dL_valueAfter_15 : decode cL_valueAfter 15 = .ok (.iconst 1, 1) := by decide +kernel
theorem dL_valueAfter_16 : decode cL_valueAfter 16 = .ok (.ireturn, 1) := by decide +kernel
theorem dL_valueAfter_17 : decode cL_valueAfter 17 = .ok (.astore 4, 2) := by decide +kernel
theorem dL_valueAfter_19 : decode cL_valueAfter 19 = .ok (.iconst 2, 1) := by decide +kernel
theorem dL_valueAfter_20 : decode cL_valueAfter 20 = .ok (.ireturn, 1) := by decide +kernel
theorem dL_valueAfter_21 : decode cL_valueAfter 21 = .ok (.astore 4, 2) := by decide +kernel
theorem dL_valueAfter_23 : decode cL_valueAfter 23 = .ok (.iconst 3, 1) := by decide +kernel
theorem dL_valueAfter_24 : decode cL_valueAfter 24 = .ok (.ireturn, 1) := by decide +kernel
theorem dL_valueAfter_25 : decode cL_valueAfter 25 = .ok (.iconst 0, 1) := by decide +kernel
theorem dL_valueAfter_26 : decode cL_valueAfter 26 = .ok (.ireturn, 1) := by decide +kernel
theorem dL_daysUntilFaded_0 : decode cL_daysUntilFaded 0 = .ok (.aload_n 2, 1) := by decide +kernel
theorem dL_daysUntilFaded_1 : decode cL_daysUntilFaded 1 = .ok (.iconst 0, 1) := by decide +kernel
theorem dL_daysUntilFaded_2 : decode cL_daysUntilFaded 2 = .ok (.aload_n 0, 1) := by decide +kernel
theorem dL_daysUntilFaded_3 : decode cL_daysUntilFaded 3 = .ok (.iload_n 1, 1) := by decide +kernel
theorem dL_daysUntilFaded_4 : decode cL_daysUntilFaded 4 = .ok (.invokevirtual 156, 3) := by decide +kernel
theorem dL_daysUntilFaded_7 : decode cL_daysUntilFaded 7 = .ok (.i2l, 1) := by decide +kernel
theorem dL_daysUntilFaded_8 : decode cL_daysUntilFaded 8 = .ok (.lastore, 1) := by decide +kernel
theorem dL_daysUntilFaded_9 : decode cL_daysUntilFaded 9 = .ok (.goto 9, 3) := by decide +kernel
theorem dL_daysUntilFaded_12 : decode cL_daysUntilFaded 12 = .ok (.astore_n 3, 1) := by decide +kernel
theorem dL_daysUntilFaded_13 : decode cL_daysUntilFaded 13 = .ok (.iconst 1, 1) := by decide +kernel
theorem dL_daysUntilFaded_14 : decode cL_daysUntilFaded 14 = .ok (.ireturn, 1) := by decide +kernel
theorem dL_daysUntilFaded_15 : decode cL_daysUntilFaded 15 = .ok (.astore_n 3, 1) := by decide +kernel
theorem dL_daysUntilFaded_16 : decode cL_daysUntilFaded 16 = .ok (.iconst 2, 1) := by decide +kernel
theorem dL_daysUntilFaded_17 : decode cL_daysUntilFaded 17 = .ok (.ireturn, 1) := by decide +kernel
theorem dL_daysUntilFaded_18 : decode cL_daysUntilFaded 18 = .ok (.iconst 0, 1) := by decide +kernel
theorem dL_daysUntilFaded_19 : decode cL_daysUntilFaded 19 = .ok (.ireturn, 1) := by decide +kernel
theorem dL_writeStall_0 : decode cL_writeStall 0 = .ok (.aload_n 2, 1) := by decide +kernel
theorem dL_writeStall_1 : decode cL_writeStall 1 = .ok (.iconst 0, 1) := by decide +kernel
theorem dL_writeStall_2 : decode cL_writeStall 2 = .ok (.aload_n 0, 1) := by decide +kernel
theorem dL_writeStall_3 : decode cL_writeStall 3 = .ok (.iload_n 1, 1) := by decide +kernel
theorem dL_writeStall_4 : decode cL_writeStall 4 = .ok (.invokevirtual 159, 3) := by decide +kernel
theorem dL_writeStall_7 : decode cL_writeStall 7 = .ok (.i2l, 1) := by decide +kernel
theorem dL_writeStall_8 : decode cL_writeStall 8 = .ok (.lastore, 1) := by decide +kernel
theorem dL_writeStall_9 : decode cL_writeStall 9 = .ok (.goto 9, 3) := by decide +kernel
theorem dL_writeStall_12 : decode cL_writeStall 12 = .ok (.astore_n 3, 1) := by decide +kernel
theorem dL_writeStall_13 : decode cL_writeStall 13 = .ok (.iconst 1, 1) := by decide +kernel
theorem dL_writeStall_14 : decode cL_writeStall 14 = .ok (.ireturn, 1) := by decide +kernel
theorem dL_writeStall_15 : decode cL_writeStall 15 = .ok (.astore_n 3, 1) := by decide +kernel
theorem dL_writeStall_16 : decode cL_writeStall 16 = .ok (.iconst 2, 1) := by decide +kernel
theorem dL_writeStall_17 : decode cL_writeStall 17 = .ok (.ireturn, 1) := by decide +kernel
theorem dL_writeStall_18 : decode cL_writeStall 18 = .ok (.iconst 0, 1) := by decide +kernel
theorem dL_writeStall_19 : decode cL_writeStall 19 = .ok (.ireturn, 1) := by decide +kernel
theorem dL_writePerson_0 : decode cL_writePerson 0 = .ok (.aload_n 2, 1) := by decide +kernel
theorem dL_writePerson_1 : decode cL_writePerson 1 = .ok (.iconst 0, 1) := by decide +kernel
theorem dL_writePerson_2 : decode cL_writePerson 2 = .ok (.aload_n 0, 1) := by decide +kernel
theorem dL_writePerson_3 : decode cL_writePerson 3 = .ok (.iload_n 1, 1) := by decide +kernel
theorem dL_writePerson_4 : decode cL_writePerson 4 = .ok (.invokevirtual 162, 3) := by decide +kernel
theorem dL_writePerson_7 : decode cL_writePerson 7 = .ok (.i2l, 1) := by decide +kernel
theorem dL_writePerson_8 : decode cL_writePerson 8 = .ok (.lastore, 1) := by decide +kernel
theorem dL_writePerson_9 : decode cL_writePerson 9 = .ok (.goto 9, 3) := by decide +kernel
theorem dL_writePerson_12 : decode cL_writePerson 12 = .ok (.astore_n 3, 1) := by decide +kernel
theorem dL_writePerson_13 : decode cL_writePerson 13 = .ok (.iconst 1, 1) := by decide +kernel
theorem dL_writePerson_14 : decode cL_writePerson 14 = .ok (.ireturn, 1) := by decide +kernel
theorem dL_writePerson_15 : decode cL_writePerson 15 = .ok (.astore_n 3, 1) := by decide +kernel
theorem dL_writePerson_16 : decode cL_writePerson 16 = .ok (.iconst 2, 1) := by decide +kernel
theorem dL_writePerson_17 : decode cL_writePerson 17 = .ok (.ireturn, 1) := by decide +kernel
theorem dL_writePerson_18 : decode cL_writePerson 18 = .ok (.iconst 0, 1) := by decide +kernel
theorem dL_writePerson_19 : decode cL_writePerson 19 = .ok (.ireturn, 1) := by decide +kernel
theorem dL_outputByte_0 : decode cL_outputByte 0 = .ok (.aload_n 2, 1) := by decide +kernel
theorem dL_outputByte_1 : decode cL_outputByte 1 = .ok (.iconst 0, 1) := by decide +kernel
theorem dL_outputByte_2 : decode cL_outputByte 2 = .ok (.aload_n 0, 1) := by decide +kernel
theorem dL_outputByte_3 : decode cL_outputByte 3 = .ok (.iload_n 1, 1) := by decide +kernel
theorem dL_outputByte_4 : decode cL_outputByte 4 = .ok (.invokevirtual 165, 3) := by decide +kernel
theorem dL_outputByte_7 : decode cL_outputByte 7 = .ok (.i2l, 1) := by decide +kernel
theorem dL_outputByte_8 : decode cL_outputByte 8 = .ok (.lastore, 1) := by decide +kernel
theorem dL_outputByte_9 : decode cL_outputByte 9 = .ok (.goto 6, 3) := by decide +kernel
theorem dL_outputByte_12 : decode cL_outputByte 12 = .ok (.astore_n 3, 1) := by decide +kernel
theorem dL_outputByte_13 : decode cL_outputByte 13 = .ok (.iconst 1, 1) := by decide +kernel
theorem dL_outputByte_14 : decode cL_outputByte 14 = .ok (.ireturn, 1) := by decide +kernel
theorem dL_outputByte_15 : decode cL_outputByte 15 = .ok (.iconst 0, 1) := by decide +kernel
theorem dL_outputByte_16 : decode cL_outputByte 16 = .ok (.ireturn, 1) := by decide +kernel
theorem dL_advance_0 : decode cL_advance 0 = .ok (.aload_n 2, 1) := by decide +kernel
theorem dL_advance_1 : decode cL_advance 1 = .ok (.iconst 0, 1) := by decide +kernel
theorem dL_advance_2 : decode cL_advance 2 = .ok (.aload_n 0, 1) := by decide +kernel
theorem dL_advance_3 : decode cL_advance 3 = .ok (.iload_n 1, 1) := by decide +kernel
theorem dL_advance_4 : decode cL_advance 4 = .ok (.invokevirtual 168, 3) := by decide +kernel
theorem dL_advance_7 : decode cL_advance 7 = .ok (.i2l, 1) := by decide +kernel
theorem dL_advance_8 : decode cL_advance 8 = .ok (.lastore, 1) := by decide +kernel
theorem dL_advance_9 : decode cL_advance 9 = .ok (.goto 9, 3) := by decide +kernel
theorem dL_advance_12 : decode cL_advance 12 = .ok (.astore_n 3, 1) := by decide +kernel
theorem dL_advance_13 : decode cL_advance 13 = .ok (.iconst 1, 1) := by decide +kernel
theorem dL_advance_14 : decode cL_advance 14 = .ok (.ireturn, 1) := by decide +kernel
theorem dL_advance_15 : decode cL_advance 15 = .ok (.astore_n 3, 1) := by decide +kernel
theorem dL_advance_16 : decode cL_advance 16 = .ok (.iconst 2, 1) := by decide +kernel
theorem dL_advance_17 : decode cL_advance 17 = .ok (.ireturn, 1) := by decide +kernel
theorem dL_advance_18 : decode cL_advance 18 = .ok (.iconst 0, 1) := by decide +kernel
theorem dL_advance_19 : decode cL_advance 19 = .ok (.ireturn, 1) := by decide +kernel
theorem dL_buy_0 : decode cL_buy 0 = .ok (.aload_n 3, 1) := by decide +kernel
theorem dL_buy_1 : decode cL_buy 1 = .ok (.iconst 0, 1) := by decide +kernel
theorem dL_buy_2 : decode cL_buy 2 = .ok (.aload_n 0, 1) := by decide +kernel
theorem dL_buy_3 : decode cL_buy 3 = .ok (.iload_n 1, 1) := by decide +kernel
theorem dL_buy_4 : decode cL_buy 4 = .ok (.iload_n 2, 1) := by decide +kernel
theorem dL_buy_5 : decode cL_buy 5 = .ok (.invokevirtual 171, 3) := by decide +kernel
theorem dL_buy_8 : decode cL_buy 8 = .ok (.i2l, 1) := by decide +kernel
theorem dL_buy_9 : decode cL_buy 9 = .ok (.lastore, 1) := by decide +kernel
theorem dL_buy_10 : decode cL_buy 10 = .ok (.goto 15, 3) := by decide +kernel
theorem dL_buy_13 : decode cL_buy 13 = .ok (.astore 4, 2) := by decide +kernel
theorem dL_buy_15 : decode cL_buy 15 = .ok (.iconst 1, 1) := by decide +kernel
theorem dL_buy_16 : decode cL_buy 16 = .ok (.ireturn, 1) := by decide +kernel
theorem dL_buy_17 : decode cL_buy 17 = .ok (.astore 4, 2) := by decide +kernel
theorem dL_buy_19 : decode cL_buy 19 = .ok (.iconst 2, 1) := by decide +kernel
theorem dL_buy_20 : decode cL_buy 20 = .ok (.ireturn, 1) := by decide +kernel
theorem dL_buy_21 : decode cL_buy 21 = .ok (.astore 4, 2) := by decide +kernel
theorem dL_buy_23 : decode cL_buy 23 = .ok (.iconst 3, 1) := by decide +kernel
theorem dL_buy_24 : decode cL_buy 24 = .ok (.ireturn, 1) := by decide +kernel
theorem dL_buy_25 : decode cL_buy 25 = .ok (.iconst 0, 1) := by decide +kernel
theorem dL_buy_26 : decode cL_buy 26 = .ok (.ireturn, 1) := by decide +kernel
theorem dL_sell_0 : decode cL_sell 0 = .ok (.aload_n 3, 1) := by decide +kernel
theorem dL_sell_1 : decode cL_sell 1 = .ok (.iconst 0, 1) := by decide +kernel
theorem dL_sell_2 : decode cL_sell 2 = .ok (.aload_n 0, 1) := by decide +kernel
theorem dL_sell_3 : decode cL_sell 3 = .ok (.iload_n 1, 1) := by decide +kernel
theorem dL_sell_4 : decode cL_sell 4 = .ok (.iload_n 2, 1) := by decide +kernel
theorem dL_sell_5 : decode cL_sell 5 = .ok (.invokevirtual 174, 3) := by decide +kernel
theorem dL_sell_8 : decode cL_sell 8 = .ok (.i2l, 1) := by decide +kernel
theorem dL_sell_9 : decode cL_sell 9 = .ok (.lastore, 1) := by decide +kernel
theorem dL_sell_10 : decode cL_sell 10 = .ok (.goto 15, 3) := by decide +kernel
theorem dL_sell_13 : decode cL_sell 13 = .ok (.astore 4, 2) := by decide +kernel
theorem dL_sell_15 : decode cL_sell 15 = .ok (.iconst 1, 1) := by decide +kernel
theorem dL_sell_16 : decode cL_sell 16 = .ok (.ireturn, 1) := by decide +kernel
theorem dL_sell_17 : decode cL_sell 17 = .ok (.astore 4, 2) := by decide +kernel
theorem dL_sell_19 : decode cL_sell 19 = .ok (.iconst 2, 1) := by decide +kernel
theorem dL_sell_20 : decode cL_sell 20 = .ok (.ireturn, 1) := by decide +kernel
theorem dL_sell_21 : decode cL_sell 21 = .ok (.astore 4, 2) := by decide +kernel
theorem dL_sell_23 : decode cL_sell 23 = .ok (.iconst 3, 1) := by decide +kernel
theorem dL_sell_24 : decode cL_sell 24 = .ok (.ireturn, 1) := by decide +kernel
theorem dL_sell_25 : decode cL_sell 25 = .ok (.iconst 0, 1) := by decide +kernel
theorem dL_sell_26 : decode cL_sell 26 = .ok (.ireturn, 1) := by decide +kernel
theorem dL_returnWish_0 : decode cL_returnWish 0 = .ok (.aload_n 2, 1) := by decide +kernel
theorem dL_returnWish_1 : decode cL_returnWish 1 = .ok (.iconst 0, 1) := by decide +kernel
theorem dL_returnWish_2 : decode cL_returnWish 2 = .ok (.aload_n 0, 1) := by decide +kernel
theorem dL_returnWish_3 : decode cL_returnWish 3 = .ok (.iload_n 1, 1) := by decide +kernel
theorem dL_returnWish_4 : decode cL_returnWish 4 = .ok (.invokevirtual 177, 3) := by decide +kernel
theorem dL_returnWish_7 : decode cL_returnWish 7 = .ok (.i2l, 1) := by decide +kernel
theorem dL_returnWish_8 : decode cL_returnWish 8 = .ok (.lastore, 1) := by decide +kernel
theorem dL_returnWish_9 : decode cL_returnWish 9 = .ok (.goto 12, 3) := by decide +kernel
theorem dL_returnWish_12 : decode cL_returnWish 12 = .ok (.astore_n 3, 1) := by decide +kernel
theorem dL_returnWish_13 : decode cL_returnWish 13 = .ok (.iconst 1, 1) := by decide +kernel
theorem dL_returnWish_14 : decode cL_returnWish 14 = .ok (.ireturn, 1) := by decide +kernel
theorem dL_returnWish_15 : decode cL_returnWish 15 = .ok (.astore_n 3, 1) := by decide +kernel
theorem dL_returnWish_16 : decode cL_returnWish 16 = .ok (.iconst 2, 1) := by decide +kernel
theorem dL_returnWish_17 : decode cL_returnWish 17 = .ok (.ireturn, 1) := by decide +kernel
theorem dL_returnWish_18 : decode cL_returnWish 18 = .ok (.astore_n 3, 1) := by decide +kernel
theorem dL_returnWish_19 : decode cL_returnWish 19 = .ok (.iconst 3, 1) := by decide +kernel
theorem dL_returnWish_20 : decode cL_returnWish 20 = .ok (.ireturn, 1) := by decide +kernel
theorem dL_returnWish_21 : decode cL_returnWish 21 = .ok (.iconst 0, 1) := by decide +kernel
theorem dL_returnWish_22 : decode cL_returnWish 22 = .ok (.ireturn, 1) := by decide +kernel
theorem dL_grant_0 : decode cL_grant 0 = .ok (.aload_n 2, 1) := by decide +kernel
theorem dL_grant_1 : decode cL_grant 1 = .ok (.iconst 0, 1) := by decide +kernel
theorem dL_grant_2 : decode cL_grant 2 = .ok (.aload_n 0, 1) := by decide +kernel
theorem dL_grant_3 : decode cL_grant 3 = .ok (.iload_n 1, 1) := by decide +kernel
theorem dL_grant_4 : decode cL_grant 4 = .ok (.invokevirtual 180, 3) := by decide +kernel
theorem dL_grant_7 : decode cL_grant 7 = .ok (.i2l, 1) := by decide +kernel
theorem dL_grant_8 : decode cL_grant 8 = .ok (.lastore, 1) := by decide +kernel
theorem dL_grant_9 : decode cL_grant 9 = .ok (.goto 12, 3) := by decide +kernel
theorem dL_grant_12 : decode cL_grant 12 = .ok (.astore_n 3, 1) := by decide +kernel
theorem dL_grant_13 : decode cL_grant 13 = .ok (.iconst 1, 1) := by decide +kernel
theorem dL_grant_14 : decode cL_grant 14 = .ok (.ireturn, 1) := by decide +kernel
theorem dL_grant_15 : decode cL_grant 15 = .ok (.astore_n 3, 1) := by decide +kernel
theorem dL_grant_16 : decode cL_grant 16 = .ok (.iconst 2, 1) := by decide +kernel
theorem dL_grant_17 : decode cL_grant 17 = .ok (.ireturn, 1) := by decide +kernel
theorem dL_grant_18 : decode cL_grant 18 = .ok (.astore_n 3, 1) := by decide +kernel
theorem dL_grant_19 : decode cL_grant 19 = .ok (.iconst 3, 1) := by decide +kernel
theorem dL_grant_20 : decode cL_grant 20 = .ok (.ireturn, 1) := by decide +kernel
theorem dL_grant_21 : decode cL_grant 21 = .ok (.iconst 0, 1) := by decide +kernel
theorem dL_grant_22 : decode cL_grant 22 = .ok (.ireturn, 1) := by decide +kernel
theorem dL_setLimit_0 : decode cL_setLimit 0 = .ok (.aload_n 3, 1) := by decide +kernel
theorem dL_setLimit_1 : decode cL_setLimit 1 = .ok (.iconst 0, 1) := by decide +kernel
theorem dL_setLimit_2 : decode cL_setLimit 2 = .ok (.aload_n 0, 1) := by decide +kernel
theorem dL_setLimit_3 : decode cL_setLimit 3 = .ok (.iload_n 1, 1) := by decide +kernel
theorem dL_setLimit_4 : decode cL_setLimit 4 = .ok (.iload_n 2, 1) := by decide +kernel
theorem dL_setLimit_5 : decode cL_setLimit 5 = .ok (.invokevirtual 183, 3) := by decide +kernel
theorem dL_setLimit_8 : decode cL_setLimit 8 = .ok (.i2l, 1) := by decide +kernel
theorem dL_setLimit_9 : decode cL_setLimit 9 = .ok (.lastore, 1) := by decide +kernel
theorem dL_setLimit_10 : decode cL_setLimit 10 = .ok (.goto 15, 3) := by decide +kernel
theorem dL_setLimit_13 : decode cL_setLimit 13 = .ok (.astore 4, 2) := by decide +kernel
theorem dL_setLimit_15 : decode cL_setLimit 15 = .ok (.iconst 1, 1) := by decide +kernel
theorem dL_setLimit_16 : decode cL_setLimit 16 = .ok (.ireturn, 1) := by decide +kernel
theorem dL_setLimit_17 : decode cL_setLimit 17 = .ok (.astore 4, 2) := by decide +kernel
theorem dL_setLimit_19 : decode cL_setLimit 19 = .ok (.iconst 2, 1) := by decide +kernel
theorem dL_setLimit_20 : decode cL_setLimit 20 = .ok (.ireturn, 1) := by decide +kernel
theorem dL_setLimit_21 : decode cL_setLimit 21 = .ok (.astore 4, 2) := by decide +kernel
theorem dL_setLimit_23 : decode cL_setLimit 23 = .ok (.iconst 3, 1) := by decide +kernel
theorem dL_setLimit_24 : decode cL_setLimit 24 = .ok (.ireturn, 1) := by decide +kernel
theorem dL_setLimit_25 : decode cL_setLimit 25 = .ok (.iconst 0, 1) := by decide +kernel
theorem dL_setLimit_26 : decode cL_setLimit 26 = .ok (.ireturn, 1) := by decide +kernel
theorem dL_setMargin_0 : decode cL_setMargin 0 = .ok (.aload_n 3, 1) := by decide +kernel
theorem dL_setMargin_1 : decode cL_setMargin 1 = .ok (.iconst 0, 1) := by decide +kernel
theorem dL_setMargin_2 : decode cL_setMargin 2 = .ok (.aload_n 0, 1) := by decide +kernel
theorem dL_setMargin_3 : decode cL_setMargin 3 = .ok (.iload_n 1, 1) := by decide +kernel
theorem dL_setMargin_4 : decode cL_setMargin 4 = .ok (.iload_n 2, 1) := by decide +kernel
theorem dL_setMargin_5 : decode cL_setMargin 5 = .ok (.invokevirtual 186, 3) := by decide +kernel
theorem dL_setMargin_8 : decode cL_setMargin 8 = .ok (.i2l, 1) := by decide +kernel
theorem dL_setMargin_9 : decode cL_setMargin 9 = .ok (.lastore, 1) := by decide +kernel
theorem dL_setMargin_10 : decode cL_setMargin 10 = .ok (.goto 15, 3) := by decide +kernel
theorem dL_setMargin_13 : decode cL_setMargin 13 = .ok (.astore 4, 2) := by decide +kernel
theorem dL_setMargin_15 : decode cL_setMargin 15 = .ok (.iconst 1, 1) := by decide +kernel
theorem dL_setMargin_16 : decode cL_setMargin 16 = .ok (.ireturn, 1) := by decide +kernel
theorem dL_setMargin_17 : decode cL_setMargin 17 = .ok (.astore 4, 2) := by decide +kernel
theorem dL_setMargin_19 : decode cL_setMargin 19 = .ok (.iconst 2, 1) := by decide +kernel
theorem dL_setMargin_20 : decode cL_setMargin 20 = .ok (.ireturn, 1) := by decide +kernel
theorem dL_setMargin_21 : decode cL_setMargin 21 = .ok (.astore 4, 2) := by decide +kernel
theorem dL_setMargin_23 : decode cL_setMargin 23 = .ok (.iconst 3, 1) := by decide +kernel
theorem dL_setMargin_24 : decode cL_setMargin 24 = .ok (.ireturn, 1) := by decide +kernel
theorem dL_setMargin_25 : decode cL_setMargin 25 = .ok (.iconst 0, 1) := by decide +kernel
theorem dL_setMargin_26 : decode cL_setMargin 26 = .ok (.ireturn, 1) := by decide +kernel
theorem dL_undo_0 : decode cL_undo 0 = .ok (.aload_n 1, 1) := by decide +kernel
theorem dL_undo_1 : decode cL_undo 1 = .ok (.iconst 0, 1) := by decide +kernel
theorem dL_undo_2 : decode cL_undo 2 = .ok (.aload_n 0, 1) := by decide +kernel
theorem dL_undo_3 : decode cL_undo 3 = .ok (.invokevirtual 189, 3) := by decide +kernel
theorem dL_undo_6 : decode cL_undo 6 = .ok (.i2l, 1) := by decide +kernel
theorem dL_undo_7 : decode cL_undo 7 = .ok (.lastore, 1) := by decide +kernel
theorem dL_undo_8 : decode cL_undo 8 = .ok (.goto 6, 3) := by decide +kernel
theorem dL_undo_11 : decode cL_undo 11 = .ok (.astore_n 2, 1) := by decide +kernel
theorem dL_undo_12 : decode cL_undo 12 = .ok (.iconst 1, 1) := by decide +kernel
theorem dL_undo_13 : decode cL_undo 13 = .ok (.ireturn, 1) := by decide +kernel
theorem dL_undo_14 : decode cL_undo 14 = .ok (.iconst 0, 1) := by decide +kernel
theorem dL_undo_15 : decode cL_undo 15 = .ok (.ireturn, 1) := by decide +kernel
theorem dL_saveState_0 : decode cL_saveState 0 = .ok (.aload_n 2, 1) := by decide +kernel
theorem dL_saveState_1 : decode cL_saveState 1 = .ok (.iconst 0, 1) := by decide +kernel
theorem dL_saveState_2 : decode cL_saveState 2 = .ok (.aload_n 0, 1) := by decide +kernel
theorem dL_saveState_3 : decode cL_saveState 3 = .ok (.iload_n 1, 1) := by decide +kernel
theorem dL_saveState_4 : decode cL_saveState 4 = .ok (.invokevirtual 192, 3) := by decide +kernel
theorem dL_saveState_7 : decode cL_saveState 7 = .ok (.i2l, 1) := by decide +kernel
theorem dL_saveState_8 : decode cL_saveState 8 = .ok (.lastore, 1) := by decide +kernel
theorem dL_saveState_9 : decode cL_saveState 9 = .ok (.goto 9, 3) := by decide +kernel
theorem dL_saveState_12 : decode cL_saveState 12 = .ok (.astore_n 3, 1) := by decide +kernel
theorem dL_saveState_13 : decode cL_saveState 13 = .ok (.iconst 1, 1) := by decide +kernel
theorem dL_saveState_14 : decode cL_saveState 14 = .ok (.ireturn, 1) := by decide +kernel
theorem dL_saveState_15 : decode cL_saveState 15 = .ok (.astore_n 3, 1) := by decide +kernel
theorem dL_saveState_16 : decode cL_saveState 16 = .ok (.iconst 2, 1) := by decide +kernel
theorem dL_saveState_17 : decode cL_saveState 17 = .ok (.ireturn, 1) := by decide +kernel
theorem dL_saveState_18 : decode cL_saveState 18 = .ok (.iconst 0, 1) := by decide +kernel
theorem dL_saveState_19 : decode cL_saveState 19 = .ok (.ireturn, 1) := by decide +kernel
theorem dL_restoreState_0 : decode cL_restoreState 0 = .ok (.aload_n 2, 1) := by decide +kernel
theorem dL_restoreState_1 : decode cL_restoreState 1 = .ok (.iconst 0, 1) := by decide +kernel
theorem dL_restoreState_2 : decode cL_restoreState 2 = .ok (.aload_n 0, 1) := by decide +kernel
theorem dL_restoreState_3 : decode cL_restoreState 3 = .ok (.iload_n 1, 1) := by decide +kernel
theorem dL_restoreState_4 : decode cL_restoreState 4 = .ok (.invokevirtual 195, 3) := by decide +kernel
theorem dL_restoreState_7 : decode cL_restoreState 7 = .ok (.i2l, 1) := by decide +kernel
theorem dL_restoreState_8 : decode cL_restoreState 8 = .ok (.lastore, 1) := by decide +kernel
theorem dL_restoreState_9 : decode cL_restoreState 9 = .ok (.goto 9, 3) := by decide +kernel
theorem dL_restoreState_12 : decode cL_restoreState 12 = .ok (.astore_n 3, 1) := by decide +kernel
theorem dL_restoreState_13 : decode cL_restoreState 13 = .ok (.iconst 1, 1) := by decide +kernel
theorem dL_restoreState_14 : decode cL_restoreState 14 = .ok (.ireturn, 1) := by decide +kernel
theorem dL_restoreState_15 : decode cL_restoreState 15 = .ok (.astore_n 3, 1) := by decide +kernel
theorem dL_restoreState_16 : decode cL_restoreState 16 = .ok (.iconst 2, 1) := by decide +kernel
theorem dL_restoreState_17 : decode cL_restoreState 17 = .ok (.ireturn, 1) := by decide +kernel
theorem dL_restoreState_18 : decode cL_restoreState 18 = .ok (.iconst 0, 1) := by decide +kernel
theorem dL_restoreState_19 : decode cL_restoreState 19 = .ok (.ireturn, 1) := by decide +kernel
