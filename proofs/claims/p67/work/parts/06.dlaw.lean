theorem dX10_init_0 : decode cX10_init 0 = .ok (.aload_n 0, 1) := by decide +kernel
theorem dX10_init_1 : decode cX10_init 1 = .ok (.invokespecial 1, 3) := by decide +kernel
theorem dX10_init_4 : decode cX10_init 4 = .ok (.aload_n 0, 1) := by decide +kernel
theorem dX10_init_5 : decode cX10_init 5 = .ok (.iconst 3, 1) := by decide +kernel
theorem dX10_init_6 : decode cX10_init 6 = .ok (.putfield 7, 3) := by decide +kernel
theorem dX10_init_9 : decode cX10_init 9 = .ok (.aload_n 0, 1) := by decide +kernel
theorem dX10_init_10 : decode cX10_init 10 = .ok (.bipush 10, 2) := by decide +kernel
theorem dX10_init_12 : decode cX10_init 12 = .ok (.putfield 13, 3) := by decide +kernel
theorem dX10_init_15 : decode cX10_init 15 = .ok (.aload_n 0, 1) := by decide +kernel
theorem dX10_init_16 : decode cX10_init 16 = .ok (.iconst (-1), 1) := by decide +kernel
theorem dX10_init_17 : decode cX10_init 17 = .ok (.putfield 16, 3) := by decide +kernel
theorem dX10_init_20 : decode cX10_init 20 = .ok (.aload_n 0, 1) := by decide +kernel
theorem dX10_init_21 : decode cX10_init 21 = .ok (.iconst (-1), 1) := by decide +kernel
theorem dX10_init_22 : decode cX10_init 22 = .ok (.putfield 19, 3) := by decide +kernel
theorem dX10_init_25 : decode cX10_init 25 = .ok (.aload_n 0, 1) := by decide +kernel
theorem dX10_init_26 : decode cX10_init 26 = .ok (.new 22, 3) := by decide +kernel
theorem dX10_init_29 : decode cX10_init 29 = .ok (.dup, 1) := by decide +kernel
theorem dX10_init_30 : decode cX10_init 30 = .ok (.invokespecial 24, 3) := by decide +kernel
theorem dX10_init_33 : decode cX10_init 33 = .ok (.putfield 25, 3) := by decide +kernel
theorem dX10_init_36 : decode cX10_init 36 = .ok (.aload_n 0, 1) := by decide +kernel
theorem dX10_init_37 : decode cX10_init 37 = .ok (.new 22, 3) := by decide +kernel
theorem dX10_init_40 : decode cX10_init 40 = .ok (.dup, 1) := by decide +kernel
theorem dX10_init_41 : decode cX10_init 41 = .ok (.invokespecial 24, 3) := by decide +kernel
theorem dX10_init_44 : decode cX10_init 44 = .ok (.putfield 29, 3) := by decide +kernel
theorem dX10_init_47 : decode cX10_init 47 = .ok (.aload_n 0, 1) := by decide +kernel
theorem dX10_init_48 : decode cX10_init 48 = .ok (.new 22, 3) := by decide +kernel
theorem dX10_init_51 : decode cX10_init 51 = .ok (.dup, 1) := by decide +kernel
theorem dX10_init_52 : decode cX10_init 52 = .ok (.invokespecial 24, 3) := by decide +kernel
theorem dX10_init_55 : decode cX10_init 55 = .ok (.putfield 32, 3) := by decide +kernel
theorem dX10_init_58 : decode cX10_init 58 = .ok (.return_, 1) := by decide +kernel
theorem dX10_owned_0 : decode cX10_owned 0 = .ok (.iconst 0, 1) := by decide +kernel
theorem dX10_owned_1 : decode cX10_owned 1 = .ok (.istore_n 2, 1) := by decide +kernel
theorem dX10_owned_2 : decode cX10_owned 2 = .ok (.iconst 0, 1) := by decide +kernel
theorem dX10_owned_3 : decode cX10_owned 3 = .ok (.istore_n 3, 1) := by decide +kernel
theorem dX10_owned_4 : decode cX10_owned 4 = .ok (.iload_n 3, 1) := by decide +kernel
theorem dX10_owned_5 : decode cX10_owned 5 = .ok (.aload_n 0, 1) := by decide +kernel
theorem dX10_owned_6 : decode cX10_owned 6 = .ok (.getfield 32, 3) := by decide +kernel
theorem dX10_owned_9 : decode cX10_owned 9 = .ok (.invokevirtual 45, 3) := by decide +kernel
theorem dX10_owned_12 : decode cX10_owned 12 = .ok (.if_icmp .ge 30, 3) := by decide +kernel
theorem dX10_owned_15 : decode cX10_owned 15 = .ok (.aload_n 0, 1) := by decide +kernel
theorem dX10_owned_16 : decode cX10_owned 16 = .ok (.getfield 32, 3) := by decide +kernel
theorem dX10_owned_19 : decode cX10_owned 19 = .ok (.iload_n 3, 1) := by decide +kernel
theorem dX10_owned_20 : decode cX10_owned 20 = .ok (.invokevirtual 49, 3) := by decide +kernel
theorem dX10_owned_23 : decode cX10_owned 23 = .ok (.checkcast 69, 3) := by decide +kernel
theorem dX10_owned_26 : decode cX10_owned 26 = .ok (.getfield 74, 3) := by decide +kernel
theorem dX10_owned_29 : decode cX10_owned 29 = .ok (.iload_n 1, 1) := by decide +kernel
theorem dX10_owned_30 : decode cX10_owned 30 = .ok (.if_icmp .ne 6, 3) := by decide +kernel
theorem dX10_owned_33 : decode cX10_owned 33 = .ok (.iinc 2 1, 3) := by decide +kernel
theorem dX10_owned_36 : decode cX10_owned 36 = .ok (.iinc 3 1, 3) := by decide +kernel
theorem dX10_owned_39 : decode cX10_owned 39 = .ok (.goto (-35), 3) := by decide +kernel
theorem dX10_owned_42 : decode cX10_owned 42 = .ok (.iload_n 2, 1) := by decide +kernel
theorem dX10_owned_43 : decode cX10_owned 43 = .ok (.ireturn, 1) := by decide +kernel
theorem dX10_stock_0 : decode cX10_stock 0 = .ok (.iconst 0, 1) := by decide +kernel
theorem dX10_stock_1 : decode cX10_stock 1 = .ok (.istore_n 2, 1) := by decide +kernel
theorem dX10_stock_2 : decode cX10_stock 2 = .ok (.iconst 0, 1) := by decide +kernel
theorem dX10_stock_3 : decode cX10_stock 3 = .ok (.istore_n 3, 1) := by decide +kernel
theorem dX10_stock_4 : decode cX10_stock 4 = .ok (.iload_n 3, 1) := by decide +kernel
theorem dX10_stock_5 : decode cX10_stock 5 = .ok (.aload_n 0, 1) := by decide +kernel
theorem dX10_stock_6 : decode cX10_stock 6 = .ok (.getfield 32, 3) := by decide +kernel
theorem dX10_stock_9 : decode cX10_stock 9 = .ok (.invokevirtual 45, 3) := by decide +kernel
theorem dX10_stock_12 : decode cX10_stock 12 = .ok (.if_icmp .ge 30, 3) := by decide +kernel
theorem dX10_stock_15 : decode cX10_stock 15 = .ok (.aload_n 0, 1) := by decide +kernel
theorem dX10_stock_16 : decode cX10_stock 16 = .ok (.getfield 32, 3) := by decide +kernel
theorem dX10_stock_19 : decode cX10_stock 19 = .ok (.iload_n 3, 1) := by decide +kernel
theorem dX10_stock_20 : decode cX10_stock 20 = .ok (.invokevirtual 49, 3) := by decide +kernel
theorem dX10_stock_23 : decode cX10_stock 23 = .ok (.checkcast 69, 3) := by decide +kernel
theorem dX10_stock_26 : decode cX10_stock 26 = .ok (.getfield 77, 3) := by decide +kernel
theorem dX10_stock_29 : decode cX10_stock 29 = .ok (.iload_n 1, 1) := by decide +kernel
theorem dX10_stock_30 : decode cX10_stock 30 = .ok (.if_icmp .ne 6, 3) := by decide +kernel
theorem dX10_stock_33 : decode cX10_stock 33 = .ok (.iinc 2 1, 3) := by decide +kernel
theorem dX10_stock_36 : decode cX10_stock 36 = .ok (.iinc 3 1, 3) := by decide +kernel
theorem dX10_stock_39 : decode cX10_stock 39 = .ok (.goto (-35), 3) := by decide +kernel
theorem dX10_stock_42 : decode cX10_stock 42 = .ok (.iload_n 2, 1) := by decide +kernel
theorem dX10_stock_43 : decode cX10_stock 43 = .ok (.ireturn, 1) := by decide +kernel
theorem dX10_price_0 : decode cX10_price 0 = .ok (.aload_n 0, 1) := by decide +kernel
theorem dX10_price_1 : decode cX10_price 1 = .ok (.getfield 32, 3) := by decide +kernel
theorem dX10_price_4 : decode cX10_price 4 = .ok (.iload_n 1, 1) := by decide +kernel
theorem dX10_price_5 : decode cX10_price 5 = .ok (.invokevirtual 49, 3) := by decide +kernel
theorem dX10_price_8 : decode cX10_price 8 = .ok (.checkcast 69, 3) := by decide +kernel
theorem dX10_price_11 : decode cX10_price 11 = .ok (.astore_n 2, 1) := by decide +kernel
theorem dX10_price_12 : decode cX10_price 12 = .ok (.aload_n 0, 1) := by decide +kernel
theorem dX10_price_13 : decode cX10_price 13 = .ok (.getfield 29, 3) := by decide +kernel
theorem dX10_price_16 : decode cX10_price 16 = .ok (.aload_n 2, 1) := by decide +kernel
theorem dX10_price_17 : decode cX10_price 17 = .ok (.getfield 77, 3) := by decide +kernel
theorem dX10_price_20 : decode cX10_price 20 = .ok (.invokevirtual 49, 3) := by decide +kernel
theorem dX10_price_23 : decode cX10_price 23 = .ok (.checkcast 63, 3) := by decide +kernel
theorem dX10_price_26 : decode cX10_price 26 = .ok (.astore_n 3, 1) := by decide +kernel
theorem dX10_price_27 : decode cX10_price 27 = .ok (.iconst 1, 1) := by decide +kernel
theorem dX10_price_28 : decode cX10_price 28 = .ok (.aload_n 2, 1) := by decide +kernel
theorem dX10_price_29 : decode cX10_price 29 = .ok (.invokevirtual 80, 3) := by decide +kernel
theorem dX10_price_32 : decode cX10_price 32 = .ok (.bipush 100, 2) := by decide +kernel
theorem dX10_price_34 : decode cX10_price 34 = .ok (.aload_n 3, 1) := by decide +kernel
theorem dX10_price_35 : decode cX10_price 35 = .ok (.iconst 3, 1) := by decide +kernel
theorem dX10_price_36 : decode cX10_price 36 = .ok (.iaload, 1) := by decide +kernel
theorem dX10_price_37 : decode cX10_price 37 = .ok (.iadd, 1) := by decide +kernel
theorem dX10_price_38 : decode cX10_price 38 = .ok (.imul, 1) := by decide +kernel
theorem dX10_price_39 : decode cX10_price 39 = .ok (.bipush 50, 2) := by decide +kernel
theorem dX10_price_41 : decode cX10_price 41 = .ok (.aload_n 3, 1) := by decide +kernel
theorem dX10_price_42 : decode cX10_price 42 = .ok (.iconst 2, 1) := by decide +kernel
theorem dX10_price_43 : decode cX10_price 43 = .ok (.iaload, 1) := by decide +kernel
theorem dX10_price_44 : decode cX10_price 44 = .ok (.iadd, 1) := by decide +kernel
theorem dX10_price_45 : decode cX10_price 45 = .ok (.imul, 1) := by decide +kernel
theorem dX10_price_46 : decode cX10_price 46 = .ok (.ldc 83, 2) := by decide +kernel
theorem dX10_price_48 : decode cX10_price 48 = .ok (.idiv, 1) := by decide +kernel
theorem dX10_price_49 : decode cX10_price 49 = .ok (.invokestatic 84, 3) := by decide +kernel
theorem dX10_price_52 : decode cX10_price 52 = .ok (.ireturn, 1) := by decide +kernel
theorem dX10_offer_0 : decode cX10_offer 0 = .ok (.aload_n 0, 1) := by decide +kernel
theorem dX10_offer_1 : decode cX10_offer 1 = .ok (.getfield 32, 3) := by decide +kernel
theorem dX10_offer_4 : decode cX10_offer 4 = .ok (.iload_n 1, 1) := by decide +kernel
theorem dX10_offer_5 : decode cX10_offer 5 = .ok (.invokevirtual 49, 3) := by decide +kernel
theorem dX10_offer_8 : decode cX10_offer 8 = .ok (.checkcast 69, 3) := by decide +kernel
theorem dX10_offer_11 : decode cX10_offer 11 = .ok (.invokevirtual 80, 3) := by decide +kernel
theorem dX10_offer_14 : decode cX10_offer 14 = .ok (.bipush 50, 2) := by decide +kernel
theorem dX10_offer_16 : decode cX10_offer 16 = .ok (.aload_n 0, 1) := by decide +kernel
theorem dX10_offer_17 : decode cX10_offer 17 = .ok (.getfield 29, 3) := by decide +kernel
theorem dX10_offer_20 : decode cX10_offer 20 = .ok (.iload_n 2, 1) := by decide +kernel
theorem dX10_offer_21 : decode cX10_offer 21 = .ok (.invokevirtual 49, 3) := by decide +kernel
theorem dX10_offer_24 : decode cX10_offer 24 = .ok (.checkcast 63, 3) := by decide +kernel
theorem dX10_offer_27 : decode cX10_offer 27 = .ok (.iconst 2, 1) := by decide +kernel
theorem dX10_offer_28 : decode cX10_offer 28 = .ok (.iaload, 1) := by decide +kernel
theorem dX10_offer_29 : decode cX10_offer 29 = .ok (.iadd, 1) := by decide +kernel
theorem dX10_offer_30 : decode cX10_offer 30 = .ok (.imul, 1) := by decide +kernel
theorem dX10_offer_31 : decode cX10_offer 31 = .ok (.sipush 1000, 3) := by decide +kernel
theorem dX10_offer_34 : decode cX10_offer 34 = .ok (.idiv, 1) := by decide +kernel
theorem dX10_offer_35 : decode cX10_offer 35 = .ok (.ireturn, 1) := by decide +kernel
theorem dX10_whyBuy_0 : decode cX10_whyBuy 0 = .ok (.aload_n 0, 1) := by decide +kernel
theorem dX10_whyBuy_1 : decode cX10_whyBuy 1 = .ok (.getfield 32, 3) := by decide +kernel
theorem dX10_whyBuy_4 : decode cX10_whyBuy 4 = .ok (.iload_n 2, 1) := by decide +kernel
theorem dX10_whyBuy_5 : decode cX10_whyBuy 5 = .ok (.invokevirtual 49, 3) := by decide +kernel
theorem dX10_whyBuy_8 : decode cX10_whyBuy 8 = .ok (.checkcast 69, 3) := by decide +kernel
theorem dX10_whyBuy_11 : decode cX10_whyBuy 11 = .ok (.getfield 77, 3) := by decide +kernel
theorem dX10_whyBuy_14 : decode cX10_whyBuy 14 = .ok (.ifCond .ge 7, 3) := by decide +kernel
theorem dX10_whyBuy_17 : decode cX10_whyBuy 17 = .ok (.iconst 1, 1) := by decide +kernel
theorem dX10_whyBuy_18 : decode cX10_whyBuy 18 = .ok (.goto 43, 3) := by decide +kernel
theorem dX10_whyBuy_21 : decode cX10_whyBuy 21 = .ok (.aload_n 0, 1) := by decide +kernel
theorem dX10_whyBuy_22 : decode cX10_whyBuy 22 = .ok (.getfield 25, 3) := by decide +kernel
theorem dX10_whyBuy_25 : decode cX10_whyBuy 25 = .ok (.iload_n 1, 1) := by decide +kernel
theorem dX10_whyBuy_26 : decode cX10_whyBuy 26 = .ok (.invokevirtual 49, 3) := by decide +kernel
theorem dX10_whyBuy_29 : decode cX10_whyBuy 29 = .ok (.checkcast 53, 3) := by decide +kernel
theorem dX10_whyBuy_32 : decode cX10_whyBuy 32 = .ok (.getfield 93, 3) := by decide +kernel
theorem dX10_whyBuy_35 : decode cX10_whyBuy 35 = .ok (.aload_n 0, 1) := by decide +kernel
theorem dX10_whyBuy_36 : decode cX10_whyBuy 36 = .ok (.iload_n 2, 1) := by decide +kernel
theorem dX10_whyBuy_37 : decode cX10_whyBuy 37 = .ok (.invokevirtual 96, 3) := by decide +kernel
theorem dX10_whyBuy_40 : decode cX10_whyBuy 40 = .ok (.if_icmp .ge 7, 3) := by decide +kernel
theorem dX10_whyBuy_43 : decode cX10_whyBuy 43 = .ok (.iconst 2, 1) := by decide +kernel
theorem dX10_whyBuy_44 : decode cX10_whyBuy 44 = .ok (.goto 17, 3) := by decide +kernel
theorem dX10_whyBuy_47 : decode cX10_whyBuy 47 = .ok (.aload_n 0, 1) := by decide +kernel
theorem dX10_whyBuy_48 : decode cX10_whyBuy 48 = .ok (.iload_n 1, 1) := by decide +kernel
theorem dX10_whyBuy_49 : decode cX10_whyBuy 49 = .ok (.invokevirtual 100, 3) := by decide +kernel
theorem dX10_whyBuy_52 : decode cX10_whyBuy 52 = .ok (.iconst 4, 1) := by decide +kernel
theorem dX10_whyBuy_53 : decode cX10_whyBuy 53 = .ok (.if_icmp .ne 7, 3) := by decide +kernel
theorem dX10_whyBuy_56 : decode cX10_whyBuy 56 = .ok (.iconst 3, 1) := by decide +kernel
theorem dX10_whyBuy_57 : decode cX10_whyBuy 57 = .ok (.goto 4, 3) := by decide +kernel
theorem dX10_whyBuy_60 : decode cX10_whyBuy 60 = .ok (.iconst 0, 1) := by decide +kernel
theorem dX10_whyBuy_61 : decode cX10_whyBuy 61 = .ok (.ireturn, 1) := by decide +kernel
theorem dX10_whySell_0 : decode cX10_whySell 0 = .ok (.aload_n 0, 1) := by decide +kernel
theorem dX10_whySell_1 : decode cX10_whySell 1 = .ok (.getfield 32, 3) := by decide +kernel
theorem dX10_whySell_4 : decode cX10_whySell 4 = .ok (.iload_n 1, 1) := by decide +kernel
theorem dX10_whySell_5 : decode cX10_whySell 5 = .ok (.invokevirtual 49, 3) := by decide +kernel
theorem dX10_whySell_8 : decode cX10_whySell 8 = .ok (.checkcast 69, 3) := by decide +kernel
theorem dX10_whySell_11 : decode cX10_whySell 11 = .ok (.getfield 74, 3) := by decide +kernel
theorem dX10_whySell_14 : decode cX10_whySell 14 = .ok (.ifCond .ge 7, 3) := by decide +kernel
theorem dX10_whySell_17 : decode cX10_whySell 17 = .ok (.iconst 1, 1) := by decide +kernel
theorem dX10_whySell_18 : decode cX10_whySell 18 = .ok (.goto 55, 3) := by decide +kernel
theorem dX10_whySell_21 : decode cX10_whySell 21 = .ok (.aload_n 0, 1) := by decide +kernel
theorem dX10_whySell_22 : decode cX10_whySell 22 = .ok (.iload_n 2, 1) := by decide +kernel
theorem dX10_whySell_23 : decode cX10_whySell 23 = .ok (.invokevirtual 103, 3) := by decide +kernel
theorem dX10_whySell_26 : decode cX10_whySell 26 = .ok (.aload_n 0, 1) := by decide +kernel
theorem dX10_whySell_27 : decode cX10_whySell 27 = .ok (.getfield 29, 3) := by decide +kernel
theorem dX10_whySell_30 : decode cX10_whySell 30 = .ok (.iload_n 2, 1) := by decide +kernel
theorem dX10_whySell_31 : decode cX10_whySell 31 = .ok (.invokevirtual 49, 3) := by decide +kernel
theorem dX10_whySell_34 : decode cX10_whySell 34 = .ok (.checkcast 63, 3) := by decide +kernel
theorem dX10_whySell_37 : decode cX10_whySell 37 = .ok (.iconst 0, 1) := by decide +kernel
theorem dX10_whySell_38 : decode cX10_whySell 38 = .ok (.iaload, 1) := by decide +kernel
theorem dX10_whySell_39 : decode cX10_whySell 39 = .ok (.if_icmp .ne 7, 3) := by decide +kernel
theorem dX10_whySell_42 : decode cX10_whySell 42 = .ok (.iconst 2, 1) := by decide +kernel
theorem dX10_whySell_43 : decode cX10_whySell 43 = .ok (.goto 30, 3) := by decide +kernel
theorem dX10_whySell_46 : decode cX10_whySell 46 = .ok (.aload_n 0, 1) := by decide +kernel
theorem dX10_whySell_47 : decode cX10_whySell 47 = .ok (.getfield 29, 3) := by decide +kernel
theorem dX10_whySell_50 : decode cX10_whySell 50 = .ok (.iload_n 2, 1) := by decide +kernel
theorem dX10_whySell_51 : decode cX10_whySell 51 = .ok (.invokevirtual 49, 3) := by decide +kernel
theorem dX10_whySell_54 : decode cX10_whySell 54 = .ok (.checkcast 63, 3) := by decide +kernel
theorem dX10_whySell_57 : decode cX10_whySell 57 = .ok (.iconst 1, 1) := by decide +kernel
theorem dX10_whySell_58 : decode cX10_whySell 58 = .ok (.iaload, 1) := by decide +kernel
theorem dX10_whySell_59 : decode cX10_whySell 59 = .ok (.aload_n 0, 1) := by decide +kernel
theorem dX10_whySell_60 : decode cX10_whySell 60 = .ok (.iload_n 1, 1) := by decide +kernel
theorem dX10_whySell_61 : decode cX10_whySell 61 = .ok (.iload_n 2, 1) := by decide +kernel
theorem dX10_whySell_62 : decode cX10_whySell 62 = .ok (.invokevirtual 106, 3) := by decide +kernel
theorem dX10_whySell_65 : decode cX10_whySell 65 = .ok (.if_icmp .ge 7, 3) := by decide +kernel
theorem dX10_whySell_68 : decode cX10_whySell 68 = .ok (.iconst 3, 1) := by decide +kernel
theorem dX10_whySell_69 : decode cX10_whySell 69 = .ok (.goto 4, 3) := by decide +kernel
theorem dX10_whySell_72 : decode cX10_whySell 72 = .ok (.iconst 0, 1) := by decide +kernel
theorem dX10_whySell_73 : decode cX10_whySell 73 = .ok (.ireturn, 1) := by decide +kernel
theorem dX10_whyGrant_0 : decode cX10_whyGrant 0 = .ok (.aload_n 0, 1) := by decide +kernel
theorem dX10_whyGrant_1 : decode cX10_whyGrant 1 = .ok (.getfield 32, 3) := by decide +kernel
theorem dX10_whyGrant_4 : decode cX10_whyGrant 4 = .ok (.iload_n 1, 1) := by decide +kernel
theorem dX10_whyGrant_5 : decode cX10_whyGrant 5 = .ok (.invokevirtual 49, 3) := by decide +kernel
theorem dX10_whyGrant_8 : decode cX10_whyGrant 8 = .ok (.checkcast 69, 3) := by decide +kernel
theorem dX10_whyGrant_11 : decode cX10_whyGrant 11 = .ok (.astore_n 2, 1) := by decide +kernel
theorem dX10_whyGrant_12 : decode cX10_whyGrant 12 = .ok (.aload_n 2, 1) := by decide +kernel
theorem dX10_whyGrant_13 : decode cX10_whyGrant 13 = .ok (.getfield 74, 3) := by decide +kernel
theorem dX10_whyGrant_16 : decode cX10_whyGrant 16 = .ok (.ifCond .ge 5, 3) := by decide +kernel
theorem dX10_whyGrant_19 : decode cX10_whyGrant 19 = .ok (.iconst 1, 1) := by decide +kernel
theorem dX10_whyGrant_20 : decode cX10_whyGrant 20 = .ok (.ireturn, 1) := by decide +kernel
theorem dX10_whyGrant_21 : decode cX10_whyGrant 21 = .ok (.aload_n 0, 1) := by decide +kernel
theorem dX10_whyGrant_22 : decode cX10_whyGrant 22 = .ok (.getfield 25, 3) := by decide +kernel
theorem dX10_whyGrant_25 : decode cX10_whyGrant 25 = .ok (.aload_n 2, 1) := by decide +kernel
theorem dX10_whyGrant_26 : decode cX10_whyGrant 26 = .ok (.getfield 74, 3) := by decide +kernel
theorem dX10_whyGrant_29 : decode cX10_whyGrant 29 = .ok (.invokevirtual 49, 3) := by decide +kernel
theorem dX10_whyGrant_32 : decode cX10_whyGrant 32 = .ok (.checkcast 53, 3) := by decide +kernel
theorem dX10_whyGrant_35 : decode cX10_whyGrant 35 = .ok (.astore_n 3, 1) := by decide +kernel
theorem dX10_whyGrant_36 : decode cX10_whyGrant 36 = .ok (.aload_n 3, 1) := by decide +kernel
theorem dX10_whyGrant_37 : decode cX10_whyGrant 37 = .ok (.getfield 116, 3) := by decide +kernel
theorem dX10_whyGrant_40 : decode cX10_whyGrant 40 = .ok (.aload_n 0, 1) := by decide +kernel
theorem dX10_whyGrant_41 : decode cX10_whyGrant 41 = .ok (.getfield 39, 3) := by decide +kernel
theorem dX10_whyGrant_44 : decode cX10_whyGrant 44 = .ok (.aload_n 0, 1) := by decide +kernel
theorem dX10_whyGrant_45 : decode cX10_whyGrant 45 = .ok (.getfield 36, 3) := by decide +kernel
theorem dX10_whyGrant_48 : decode cX10_whyGrant 48 = .ok (.irem, 1) := by decide +kernel
theorem dX10_whyGrant_49 : decode cX10_whyGrant 49 = .ok (.if_icmp .eq 7, 3) := by decide +kernel
theorem dX10_whyGrant_52 : decode cX10_whyGrant 52 = .ok (.iconst 2, 1) := by decide +kernel
theorem dX10_whyGrant_53 : decode cX10_whyGrant 53 = .ok (.goto 19, 3) := by decide +kernel
theorem dX10_whyGrant_56 : decode cX10_whyGrant 56 = .ok (.aload_n 3, 1) := by decide +kernel
theorem dX10_whyGrant_57 : decode cX10_whyGrant 57 = .ok (.getfield 119, 3) := by decide +kernel
theorem dX10_whyGrant_60 : decode cX10_whyGrant 60 = .ok (.aload_n 2, 1) := by decide +kernel
theorem dX10_whyGrant_61 : decode cX10_whyGrant 61 = .ok (.getfield 122, 3) := by decide +kernel
theorem dX10_whyGrant_64 : decode cX10_whyGrant 64 = .ok (.if_icmp .ge 7, 3) := by decide +kernel
theorem dX10_whyGrant_67 : decode cX10_whyGrant 67 = .ok (.iconst 3, 1) := by decide +kernel
theorem dX10_whyGrant_68 : decode cX10_whyGrant 68 = .ok (.goto 4, 3) := by decide +kernel
theorem dX10_whyGrant_71 : decode cX10_whyGrant 71 = .ok (.iconst 0, 1) := by decide +kernel
theorem dX10_whyGrant_72 : decode cX10_whyGrant 72 = .ok (.ireturn, 1) := by decide +kernel
theorem dX10_take_0 : decode cX10_take 0 = .ok (.aload_n 0, 1) := by decide +kernel
theorem dX10_take_1 : decode cX10_take 1 = .ok (.getfield 32, 3) := by decide +kernel
theorem dX10_take_4 : decode cX10_take 4 = .ok (.iload_n 2, 1) := by decide +kernel
theorem dX10_take_5 : decode cX10_take 5 = .ok (.invokevirtual 49, 3) := by decide +kernel
theorem dX10_take_8 : decode cX10_take 8 = .ok (.checkcast 69, 3) := by decide +kernel
theorem dX10_take_11 : decode cX10_take 11 = .ok (.astore 4, 2) := by decide +kernel
theorem dX10_take_13 : decode cX10_take 13 = .ok (.aload 4, 2) := by decide +kernel
theorem dX10_take_15 : decode cX10_take 15 = .ok (.getfield 77, 3) := by decide +kernel
theorem dX10_take_18 : decode cX10_take 18 = .ok (.istore 5, 2) := by decide +kernel
theorem dX10_take_20 : decode cX10_take 20 = .ok (.aload_n 0, 1) := by decide +kernel
theorem dX10_take_21 : decode cX10_take 21 = .ok (.getfield 25, 3) := by decide +kernel
theorem dX10_take_24 : decode cX10_take 24 = .ok (.iload_n 1, 1) := by decide +kernel
theorem dX10_take_25 : decode cX10_take 25 = .ok (.invokevirtual 49, 3) := by decide +kernel
theorem dX10_take_28 : decode cX10_take 28 = .ok (.checkcast 53, 3) := by decide +kernel
theorem dX10_take_31 : decode cX10_take 31 = .ok (.dup, 1) := by decide +kernel
theorem dX10_take_32 : decode cX10_take 32 = .ok (.getfield 93, 3) := by decide +kernel
theorem dX10_take_35 : decode cX10_take 35 = .ok (.iload_n 3, 1) := by decide +kernel
theorem dX10_take_36 : decode cX10_take 36 = .ok (.isub, 1) := by decide +kernel
theorem dX10_take_37 : decode cX10_take 37 = .ok (.putfield 93, 3) := by decide +kernel
theorem dX10_take_40 : decode cX10_take 40 = .ok (.aload_n 0, 1) := by decide +kernel
theorem dX10_take_41 : decode cX10_take 41 = .ok (.getfield 29, 3) := by decide +kernel
theorem dX10_take_44 : decode cX10_take 44 = .ok (.iload 5, 2) := by decide +kernel
theorem dX10_take_46 : decode cX10_take 46 = .ok (.invokevirtual 49, 3) := by decide +kernel
theorem dX10_take_49 : decode cX10_take 49 = .ok (.checkcast 63, 3) := by decide +kernel
theorem dX10_take_52 : decode cX10_take 52 = .ok (.iconst 1, 1) := by decide +kernel
theorem dX10_take_53 : decode cX10_take 53 = .ok (.dup2, 1) := by decide +kernel
theorem dX10_take_54 : decode cX10_take 54 = .ok (.iaload, 1) := by decide +kernel
theorem dX10_take_55 : decode cX10_take 55 = .ok (.iload_n 3, 1) := by decide +kernel
theorem dX10_take_56 : decode cX10_take 56 = .ok (.iadd, 1) := by decide +kernel
theorem dX10_take_57 : decode cX10_take 57 = .ok (.iastore, 1) := by decide +kernel
theorem dX10_take_58 : decode cX10_take 58 = .ok (.aload 4, 2) := by decide +kernel
theorem dX10_take_60 : decode cX10_take 60 = .ok (.iconst (-1), 1) := by decide +kernel
theorem dX10_take_61 : decode cX10_take 61 = .ok (.iload_n 1, 1) := by decide +kernel
theorem dX10_take_62 : decode cX10_take 62 = .ok (.invokevirtual 125, 3) := by decide +kernel
theorem dX10_take_65 : decode cX10_take 65 = .ok (.aload 4, 2) := by decide +kernel
theorem dX10_take_67 : decode cX10_take 67 = .ok (.aload_n 0, 1) := by decide +kernel
theorem dX10_take_68 : decode cX10_take 68 = .ok (.getfield 39, 3) := by decide +kernel
theorem dX10_take_71 : decode cX10_take 71 = .ok (.putfield 109, 3) := by decide +kernel
theorem dX10_take_74 : decode cX10_take 74 = .ok (.aload 4, 2) := by decide +kernel
theorem dX10_take_76 : decode cX10_take 76 = .ok (.iload_n 3, 1) := by decide +kernel
theorem dX10_take_77 : decode cX10_take 77 = .ok (.putfield 90, 3) := by decide +kernel
theorem dX10_take_80 : decode cX10_take 80 = .ok (.aload 4, 2) := by decide +kernel
theorem dX10_take_82 : decode cX10_take 82 = .ok (.iload 5, 2) := by decide +kernel
theorem dX10_take_84 : decode cX10_take 84 = .ok (.putfield 110, 3) := by decide +kernel
theorem dX10_take_87 : decode cX10_take 87 = .ok (.return_, 1) := by decide +kernel
theorem dX10_buy_0 : decode cX10_buy 0 = .ok (.aload_n 0, 1) := by decide +kernel
theorem dX10_buy_1 : decode cX10_buy 1 = .ok (.iload_n 2, 1) := by decide +kernel
theorem dX10_buy_2 : decode cX10_buy 2 = .ok (.invokevirtual 96, 3) := by decide +kernel
theorem dX10_buy_5 : decode cX10_buy 5 = .ok (.istore_n 3, 1) := by decide +kernel
theorem dX10_buy_6 : decode cX10_buy 6 = .ok (.aload_n 0, 1) := by decide +kernel
theorem dX10_buy_7 : decode cX10_buy 7 = .ok (.getfield 29, 3) := by decide +kernel
theorem dX10_buy_10 : decode cX10_buy 10 = .ok (.aload_n 0, 1) := by decide +kernel
theorem dX10_buy_11 : decode cX10_buy 11 = .ok (.getfield 32, 3) := by decide +kernel
theorem dX10_buy_14 : decode cX10_buy 14 = .ok (.iload_n 2, 1) := by decide +kernel
theorem dX10_buy_15 : decode cX10_buy 15 = .ok (.invokevirtual 49, 3) := by decide +kernel
theorem dX10_buy_18 : decode cX10_buy 18 = .ok (.checkcast 69, 3) := by decide +kernel
theorem dX10_buy_21 : decode cX10_buy 21 = .ok (.getfield 77, 3) := by decide +kernel
theorem dX10_buy_24 : decode cX10_buy 24 = .ok (.invokevirtual 49, 3) := by decide +kernel
theorem dX10_buy_27 : decode cX10_buy 27 = .ok (.checkcast 63, 3) := by decide +kernel
theorem dX10_buy_30 : decode cX10_buy 30 = .ok (.astore 4, 2) := by decide +kernel
theorem dX10_buy_32 : decode cX10_buy 32 = .ok (.aload_n 0, 1) := by decide +kernel
theorem dX10_buy_33 : decode cX10_buy 33 = .ok (.iload_n 1, 1) := by decide +kernel
theorem dX10_buy_34 : decode cX10_buy 34 = .ok (.iload_n 2, 1) := by decide +kernel
theorem dX10_buy_35 : decode cX10_buy 35 = .ok (.iload_n 3, 1) := by decide +kernel
theorem dX10_buy_36 : decode cX10_buy 36 = .ok (.invokevirtual 129, 3) := by decide +kernel
theorem dX10_buy_39 : decode cX10_buy 39 = .ok (.aload 4, 2) := by decide +kernel
theorem dX10_buy_41 : decode cX10_buy 41 = .ok (.iconst 2, 1) := by decide +kernel
theorem dX10_buy_42 : decode cX10_buy 42 = .ok (.bipush 50, 2) := by decide +kernel
theorem dX10_buy_44 : decode cX10_buy 44 = .ok (.aload 4, 2) := by decide +kernel
theorem dX10_buy_46 : decode cX10_buy 46 = .ok (.iconst 2, 1) := by decide +kernel
theorem dX10_buy_47 : decode cX10_buy 47 = .ok (.iaload, 1) := by decide +kernel
theorem dX10_buy_48 : decode cX10_buy 48 = .ok (.iconst 1, 1) := by decide +kernel
theorem dX10_buy_49 : decode cX10_buy 49 = .ok (.iadd, 1) := by decide +kernel
theorem dX10_buy_50 : decode cX10_buy 50 = .ok (.invokestatic 133, 3) := by decide +kernel
theorem dX10_buy_53 : decode cX10_buy 53 = .ok (.iastore, 1) := by decide +kernel
theorem dX10_buy_54 : decode cX10_buy 54 = .ok (.iload_n 3, 1) := by decide +kernel
theorem dX10_buy_55 : decode cX10_buy 55 = .ok (.ireturn, 1) := by decide +kernel
theorem dX10_give_0 : decode cX10_give 0 = .ok (.aload_n 0, 1) := by decide +kernel
theorem dX10_give_1 : decode cX10_give 1 = .ok (.getfield 32, 3) := by decide +kernel
theorem dX10_give_4 : decode cX10_give 4 = .ok (.iload_n 1, 1) := by decide +kernel
theorem dX10_give_5 : decode cX10_give 5 = .ok (.invokevirtual 49, 3) := by decide +kernel
theorem dX10_give_8 : decode cX10_give 8 = .ok (.checkcast 69, 3) := by decide +kernel
theorem dX10_give_11 : decode cX10_give 11 = .ok (.astore 4, 2) := by decide +kernel
theorem dX10_give_13 : decode cX10_give 13 = .ok (.aload_n 0, 1) := by decide +kernel
theorem dX10_give_14 : decode cX10_give 14 = .ok (.getfield 25, 3) := by decide +kernel
theorem dX10_give_17 : decode cX10_give 17 = .ok (.aload 4, 2) := by decide +kernel
theorem dX10_give_19 : decode cX10_give 19 = .ok (.getfield 74, 3) := by decide +kernel
theorem dX10_give_22 : decode cX10_give 22 = .ok (.invokevirtual 49, 3) := by decide +kernel
theorem dX10_give_25 : decode cX10_give 25 = .ok (.checkcast 53, 3) := by decide +kernel
theorem dX10_give_28 : decode cX10_give 28 = .ok (.dup, 1) := by decide +kernel
theorem dX10_give_29 : decode cX10_give 29 = .ok (.getfield 93, 3) := by decide +kernel
theorem dX10_give_32 : decode cX10_give 32 = .ok (.iload_n 3, 1) := by decide +kernel
theorem dX10_give_33 : decode cX10_give 33 = .ok (.iadd, 1) := by decide +kernel
theorem dX10_give_34 : decode cX10_give 34 = .ok (.putfield 93, 3) := by decide +kernel
theorem dX10_give_37 : decode cX10_give 37 = .ok (.aload_n 0, 1) := by decide +kernel
theorem dX10_give_38 : decode cX10_give 38 = .ok (.getfield 29, 3) := by decide +kernel
theorem dX10_give_41 : decode cX10_give 41 = .ok (.iload_n 2, 1) := by decide +kernel
theorem dX10_give_42 : decode cX10_give 42 = .ok (.invokevirtual 49, 3) := by decide +kernel
theorem dX10_give_45 : decode cX10_give 45 = .ok (.checkcast 63, 3) := by decide +kernel
theorem dX10_give_48 : decode cX10_give 48 = .ok (.iconst 1, 1) := by decide +kernel
theorem dX10_give_49 : decode cX10_give 49 = .ok (.dup2, 1) := by decide +kernel
theorem dX10_give_50 : decode cX10_give 50 = .ok (.iaload, 1) := by decide +kernel
theorem dX10_give_51 : decode cX10_give 51 = .ok (.iload_n 3, 1) := by decide +kernel
theorem dX10_give_52 : decode cX10_give 52 = .ok (.isub, 1) := by decide +kernel
theorem dX10_give_53 : decode cX10_give 53 = .ok (.iastore, 1) := by decide +kernel
theorem dX10_give_54 : decode cX10_give 54 = .ok (.aload 4, 2) := by decide +kernel
theorem dX10_give_56 : decode cX10_give 56 = .ok (.iload_n 2, 1) := by decide +kernel
theorem dX10_give_57 : decode cX10_give 57 = .ok (.iconst (-1), 1) := by decide +kernel
theorem dX10_give_58 : decode cX10_give 58 = .ok (.invokevirtual 125, 3) := by decide +kernel
theorem dX10_give_61 : decode cX10_give 61 = .ok (.iload_n 3, 1) := by decide +kernel
theorem dX10_give_62 : decode cX10_give 62 = .ok (.ireturn, 1) := by decide +kernel
theorem dX10_sell_0 : decode cX10_sell 0 = .ok (.aload_n 0, 1) := by decide +kernel
theorem dX10_sell_1 : decode cX10_sell 1 = .ok (.iload_n 1, 1) := by decide +kernel
theorem dX10_sell_2 : decode cX10_sell 2 = .ok (.iload_n 2, 1) := by decide +kernel
theorem dX10_sell_3 : decode cX10_sell 3 = .ok (.aload_n 0, 1) := by decide +kernel
theorem dX10_sell_4 : decode cX10_sell 4 = .ok (.iload_n 1, 1) := by decide +kernel
theorem dX10_sell_5 : decode cX10_sell 5 = .ok (.iload_n 2, 1) := by decide +kernel
theorem dX10_sell_6 : decode cX10_sell 6 = .ok (.invokevirtual 106, 3) := by decide +kernel
theorem dX10_sell_9 : decode cX10_sell 9 = .ok (.invokevirtual 136, 3) := by decide +kernel
theorem dX10_sell_12 : decode cX10_sell 12 = .ok (.ireturn, 1) := by decide +kernel
theorem dX10_grant_0 : decode cX10_grant 0 = .ok (.aload_n 0, 1) := by decide +kernel
theorem dX10_grant_1 : decode cX10_grant 1 = .ok (.getfield 32, 3) := by decide +kernel
theorem dX10_grant_4 : decode cX10_grant 4 = .ok (.iload_n 1, 1) := by decide +kernel
theorem dX10_grant_5 : decode cX10_grant 5 = .ok (.invokevirtual 49, 3) := by decide +kernel
theorem dX10_grant_8 : decode cX10_grant 8 = .ok (.checkcast 69, 3) := by decide +kernel
theorem dX10_grant_11 : decode cX10_grant 11 = .ok (.astore_n 2, 1) := by decide +kernel
theorem dX10_grant_12 : decode cX10_grant 12 = .ok (.aload_n 0, 1) := by decide +kernel
theorem dX10_grant_13 : decode cX10_grant 13 = .ok (.getfield 25, 3) := by decide +kernel
theorem dX10_grant_16 : decode cX10_grant 16 = .ok (.aload_n 2, 1) := by decide +kernel
theorem dX10_grant_17 : decode cX10_grant 17 = .ok (.getfield 74, 3) := by decide +kernel
theorem dX10_grant_20 : decode cX10_grant 20 = .ok (.invokevirtual 49, 3) := by decide +kernel
theorem dX10_grant_23 : decode cX10_grant 23 = .ok (.checkcast 53, 3) := by decide +kernel
theorem dX10_grant_26 : decode cX10_grant 26 = .ok (.astore_n 3, 1) := by decide +kernel
theorem dX10_grant_27 : decode cX10_grant 27 = .ok (.aload_n 3, 1) := by decide +kernel
theorem dX10_grant_28 : decode cX10_grant 28 = .ok (.dup, 1) := by decide +kernel
theorem dX10_grant_29 : decode cX10_grant 29 = .ok (.getfield 140, 3) := by decide +kernel
theorem dX10_grant_32 : decode cX10_grant 32 = .ok (.aload_n 2, 1) := by decide +kernel
theorem dX10_grant_33 : decode cX10_grant 33 = .ok (.invokevirtual 143, 3) := by decide +kernel
theorem dX10_grant_36 : decode cX10_grant 36 = .ok (.iadd, 1) := by decide +kernel
theorem dX10_grant_37 : decode cX10_grant 37 = .ok (.putfield 140, 3) := by decide +kernel
theorem dX10_grant_40 : decode cX10_grant 40 = .ok (.aload_n 2, 1) := by decide +kernel
theorem dX10_grant_41 : decode cX10_grant 41 = .ok (.iconst (-1), 1) := by decide +kernel
theorem dX10_grant_42 : decode cX10_grant 42 = .ok (.iconst (-1), 1) := by decide +kernel
theorem dX10_grant_43 : decode cX10_grant 43 = .ok (.invokevirtual 125, 3) := by decide +kernel
theorem dX10_grant_46 : decode cX10_grant 46 = .ok (.aload_n 2, 1) := by decide +kernel
theorem dX10_grant_47 : decode cX10_grant 47 = .ok (.iconst 1, 1) := by decide +kernel
theorem dX10_grant_48 : decode cX10_grant 48 = .ok (.putfield 146, 3) := by decide +kernel
theorem dX10_grant_51 : decode cX10_grant 51 = .ok (.aload_n 3, 1) := by decide +kernel
theorem dX10_grant_52 : decode cX10_grant 52 = .ok (.getfield 140, 3) := by decide +kernel
theorem dX10_grant_55 : decode cX10_grant 55 = .ok (.ireturn, 1) := by decide +kernel
theorem dX10_cheapest_0 : decode cX10_cheapest 0 = .ok (.iconst (-1), 1) := by decide +kernel
theorem dX10_cheapest_1 : decode cX10_cheapest 1 = .ok (.istore_n 3, 1) := by decide +kernel
theorem dX10_cheapest_2 : decode cX10_cheapest 2 = .ok (.iconst 0, 1) := by decide +kernel
theorem dX10_cheapest_3 : decode cX10_cheapest 3 = .ok (.istore 4, 2) := by decide +kernel
theorem dX10_cheapest_5 : decode cX10_cheapest 5 = .ok (.iload 4, 2) := by decide +kernel
theorem dX10_cheapest_7 : decode cX10_cheapest 7 = .ok (.aload_n 0, 1) := by decide +kernel
theorem dX10_cheapest_8 : decode cX10_cheapest 8 = .ok (.getfield 32, 3) := by decide +kernel
theorem dX10_cheapest_11 : decode cX10_cheapest 11 = .ok (.invokevirtual 45, 3) := by decide +kernel
theorem dX10_cheapest_14 : decode cX10_cheapest 14 = .ok (.if_icmp .ge 50, 3) := by decide +kernel
theorem dX10_cheapest_17 : decode cX10_cheapest 17 = .ok (.aload_n 0, 1) := by decide +kernel
theorem dX10_cheapest_18 : decode cX10_cheapest 18 = .ok (.iload_n 1, 1) := by decide +kernel
theorem dX10_cheapest_19 : decode cX10_cheapest 19 = .ok (.iload 4, 2) := by decide +kernel
theorem dX10_cheapest_21 : decode cX10_cheapest 21 = .ok (.invokevirtual 150, 3) := by decide +kernel
theorem dX10_cheapest_24 : decode cX10_cheapest 24 = .ok (.ifCond .ne 34, 3) := by decide +kernel
theorem dX10_cheapest_27 : decode cX10_cheapest 27 = .ok (.aload_n 0, 1) := by decide +kernel
theorem dX10_cheapest_28 : decode cX10_cheapest 28 = .ok (.iload 4, 2) := by decide +kernel
theorem dX10_cheapest_30 : decode cX10_cheapest 30 = .ok (.invokevirtual 96, 3) := by decide +kernel
theorem dX10_cheapest_33 : decode cX10_cheapest 33 = .ok (.iload_n 2, 1) := by decide +kernel
theorem dX10_cheapest_34 : decode cX10_cheapest 34 = .ok (.if_icmp .gt 24, 3) := by decide +kernel
theorem dX10_cheapest_37 : decode cX10_cheapest 37 = .ok (.iload_n 3, 1) := by decide +kernel
theorem dX10_cheapest_38 : decode cX10_cheapest 38 = .ok (.ifCond .lt 17, 3) := by decide +kernel
theorem dX10_cheapest_41 : decode cX10_cheapest 41 = .ok (.aload_n 0, 1) := by decide +kernel
theorem dX10_cheapest_42 : decode cX10_cheapest 42 = .ok (.iload 4, 2) := by decide +kernel
theorem dX10_cheapest_44 : decode cX10_cheapest 44 = .ok (.invokevirtual 96, 3) := by decide +kernel
theorem dX10_cheapest_47 : decode cX10_cheapest 47 = .ok (.aload_n 0, 1) := by decide +kernel
theorem dX10_cheapest_48 : decode cX10_cheapest 48 = .ok (.iload_n 3, 1) := by decide +kernel
theorem dX10_cheapest_49 : decode cX10_cheapest 49 = .ok (.invokevirtual 96, 3) := by decide +kernel
theorem dX10_cheapest_52 : decode cX10_cheapest 52 = .ok (.if_icmp .ge 6, 3) := by decide +kernel
theorem dX10_cheapest_55 : decode cX10_cheapest 55 = .ok (.iload 4, 2) := by decide +kernel
theorem dX10_cheapest_57 : decode cX10_cheapest 57 = .ok (.istore_n 3, 1) := by decide +kernel
theorem dX10_cheapest_58 : decode cX10_cheapest 58 = .ok (.iinc 4 1, 3) := by decide +kernel
theorem dX10_cheapest_61 : decode cX10_cheapest 61 = .ok (.goto (-56), 3) := by decide +kernel
theorem dX10_cheapest_64 : decode cX10_cheapest 64 = .ok (.iload_n 3, 1) := by decide +kernel
theorem dX10_cheapest_65 : decode cX10_cheapest 65 = .ok (.ireturn, 1) := by decide +kernel
theorem dX10_bestGrant_0 : decode cX10_bestGrant 0 = .ok (.iconst (-1), 1) := by decide +kernel
theorem dX10_bestGrant_1 : decode cX10_bestGrant 1 = .ok (.istore_n 2, 1) := by decide +kernel
theorem dX10_bestGrant_2 : decode cX10_bestGrant 2 = .ok (.iconst 0, 1) := by decide +kernel
theorem dX10_bestGrant_3 : decode cX10_bestGrant 3 = .ok (.istore_n 3, 1) := by decide +kernel
theorem dX10_bestGrant_4 : decode cX10_bestGrant 4 = .ok (.iload_n 3, 1) := by decide +kernel
theorem dX10_bestGrant_5 : decode cX10_bestGrant 5 = .ok (.aload_n 0, 1) := by decide +kernel
theorem dX10_bestGrant_6 : decode cX10_bestGrant 6 = .ok (.getfield 32, 3) := by decide +kernel
theorem dX10_bestGrant_9 : decode cX10_bestGrant 9 = .ok (.invokevirtual 45, 3) := by decide +kernel
theorem dX10_bestGrant_12 : decode cX10_bestGrant 12 = .ok (.if_icmp .ge 72, 3) := by decide +kernel
theorem dX10_bestGrant_15 : decode cX10_bestGrant 15 = .ok (.aload_n 0, 1) := by decide +kernel
theorem dX10_bestGrant_16 : decode cX10_bestGrant 16 = .ok (.getfield 32, 3) := by decide +kernel
theorem dX10_bestGrant_19 : decode cX10_bestGrant 19 = .ok (.iload_n 3, 1) := by decide +kernel
theorem dX10_bestGrant_20 : decode cX10_bestGrant 20 = .ok (.invokevirtual 49, 3) := by decide +kernel
theorem dX10_bestGrant_23 : decode cX10_bestGrant 23 = .ok (.checkcast 69, 3) := by decide +kernel
theorem dX10_bestGrant_26 : decode cX10_bestGrant 26 = .ok (.getfield 74, 3) := by decide +kernel
theorem dX10_bestGrant_29 : decode cX10_bestGrant 29 = .ok (.iload_n 1, 1) := by decide +kernel
theorem dX10_bestGrant_30 : decode cX10_bestGrant 30 = .ok (.if_icmp .ne 48, 3) := by decide +kernel
theorem dX10_bestGrant_33 : decode cX10_bestGrant 33 = .ok (.aload_n 0, 1) := by decide +kernel
theorem dX10_bestGrant_34 : decode cX10_bestGrant 34 = .ok (.iload_n 3, 1) := by decide +kernel
theorem dX10_bestGrant_35 : decode cX10_bestGrant 35 = .ok (.invokevirtual 153, 3) := by decide +kernel
theorem dX10_bestGrant_38 : decode cX10_bestGrant 38 = .ok (.ifCond .ne 40, 3) := by decide +kernel
theorem dX10_bestGrant_41 : decode cX10_bestGrant 41 = .ok (.iload_n 2, 1) := by decide +kernel
theorem dX10_bestGrant_42 : decode cX10_bestGrant 42 = .ok (.ifCond .lt 34, 3) := by decide +kernel
theorem dX10_bestGrant_45 : decode cX10_bestGrant 45 = .ok (.aload_n 0, 1) := by decide +kernel
theorem dX10_bestGrant_46 : decode cX10_bestGrant 46 = .ok (.getfield 32, 3) := by decide +kernel
theorem dX10_bestGrant_49 : decode cX10_bestGrant 49 = .ok (.iload_n 3, 1) := by decide +kernel
theorem dX10_bestGrant_50 : decode cX10_bestGrant 50 = .ok (.invokevirtual 49, 3) := by decide +kernel
theorem dX10_bestGrant_53 : decode cX10_bestGrant 53 = .ok (.checkcast 69, 3) := by decide +kernel
theorem dX10_bestGrant_56 : decode cX10_bestGrant 56 = .ok (.invokevirtual 143, 3) := by decide +kernel
theorem dX10_bestGrant_59 : decode cX10_bestGrant 59 = .ok (.aload_n 0, 1) := by decide +kernel
theorem dX10_bestGrant_60 : decode cX10_bestGrant 60 = .ok (.getfield 32, 3) := by decide +kernel
theorem dX10_bestGrant_63 : decode cX10_bestGrant 63 = .ok (.iload_n 2, 1) := by decide +kernel
theorem dX10_bestGrant_64 : decode cX10_bestGrant 64 = .ok (.invokevirtual 49, 3) := by decide +kernel
theorem dX10_bestGrant_67 : decode cX10_bestGrant 67 = .ok (.checkcast 69, 3) := by decide +kernel
theorem dX10_bestGrant_70 : decode cX10_bestGrant 70 = .ok (.invokevirtual 143, 3) := by decide +kernel
theorem dX10_bestGrant_73 : decode cX10_bestGrant 73 = .ok (.if_icmp .le 5, 3) := by decide +kernel
theorem dX10_bestGrant_76 : decode cX10_bestGrant 76 = .ok (.iload_n 3, 1) := by decide +kernel
theorem dX10_bestGrant_77 : decode cX10_bestGrant 77 = .ok (.istore_n 2, 1) := by decide +kernel
theorem dX10_bestGrant_78 : decode cX10_bestGrant 78 = .ok (.iinc 3 1, 3) := by decide +kernel
theorem dX10_bestGrant_81 : decode cX10_bestGrant 81 = .ok (.goto (-77), 3) := by decide +kernel
theorem dX10_bestGrant_84 : decode cX10_bestGrant 84 = .ok (.iload_n 2, 1) := by decide +kernel
theorem dX10_bestGrant_85 : decode cX10_bestGrant 85 = .ok (.ireturn, 1) := by decide +kernel
theorem dX10_bestOffer_0 : decode cX10_bestOffer 0 = .ok (.iconst (-1), 1) := by decide +kernel
theorem dX10_bestOffer_1 : decode cX10_bestOffer 1 = .ok (.istore_n 2, 1) := by decide +kernel
theorem dX10_bestOffer_2 : decode cX10_bestOffer 2 = .ok (.iconst 0, 1) := by decide +kernel
theorem dX10_bestOffer_3 : decode cX10_bestOffer 3 = .ok (.istore_n 3, 1) := by decide +kernel
theorem dX10_bestOffer_4 : decode cX10_bestOffer 4 = .ok (.iload_n 3, 1) := by decide +kernel
theorem dX10_bestOffer_5 : decode cX10_bestOffer 5 = .ok (.aload_n 0, 1) := by decide +kernel
theorem dX10_bestOffer_6 : decode cX10_bestOffer 6 = .ok (.getfield 29, 3) := by decide +kernel
theorem dX10_bestOffer_9 : decode cX10_bestOffer 9 = .ok (.invokevirtual 45, 3) := by decide +kernel
theorem dX10_bestOffer_12 : decode cX10_bestOffer 12 = .ok (.if_icmp .ge 39, 3) := by decide +kernel
theorem dX10_bestOffer_15 : decode cX10_bestOffer 15 = .ok (.aload_n 0, 1) := by decide +kernel
theorem dX10_bestOffer_16 : decode cX10_bestOffer 16 = .ok (.iload_n 1, 1) := by decide +kernel
theorem dX10_bestOffer_17 : decode cX10_bestOffer 17 = .ok (.iload_n 3, 1) := by decide +kernel
theorem dX10_bestOffer_18 : decode cX10_bestOffer 18 = .ok (.invokevirtual 156, 3) := by decide +kernel
theorem dX10_bestOffer_21 : decode cX10_bestOffer 21 = .ok (.ifCond .ne 24, 3) := by decide +kernel
theorem dX10_bestOffer_24 : decode cX10_bestOffer 24 = .ok (.iload_n 2, 1) := by decide +kernel
theorem dX10_bestOffer_25 : decode cX10_bestOffer 25 = .ok (.ifCond .lt 18, 3) := by decide +kernel
theorem dX10_bestOffer_28 : decode cX10_bestOffer 28 = .ok (.aload_n 0, 1) := by decide +kernel
theorem dX10_bestOffer_29 : decode cX10_bestOffer 29 = .ok (.iload_n 1, 1) := by decide +kernel
theorem dX10_bestOffer_30 : decode cX10_bestOffer 30 = .ok (.iload_n 3, 1) := by decide +kernel
theorem dX10_bestOffer_31 : decode cX10_bestOffer 31 = .ok (.invokevirtual 106, 3) := by decide +kernel
theorem dX10_bestOffer_34 : decode cX10_bestOffer 34 = .ok (.aload_n 0, 1) := by decide +kernel
theorem dX10_bestOffer_35 : decode cX10_bestOffer 35 = .ok (.iload_n 1, 1) := by decide +kernel
theorem dX10_bestOffer_36 : decode cX10_bestOffer 36 = .ok (.iload_n 2, 1) := by decide +kernel
theorem dX10_bestOffer_37 : decode cX10_bestOffer 37 = .ok (.invokevirtual 106, 3) := by decide +kernel
theorem dX10_bestOffer_40 : decode cX10_bestOffer 40 = .ok (.if_icmp .le 5, 3) := by decide +kernel
theorem dX10_bestOffer_43 : decode cX10_bestOffer 43 = .ok (.iload_n 3, 1) := by decide +kernel
theorem dX10_bestOffer_44 : decode cX10_bestOffer 44 = .ok (.istore_n 2, 1) := by decide +kernel
theorem dX10_bestOffer_45 : decode cX10_bestOffer 45 = .ok (.iinc 3 1, 3) := by decide +kernel
theorem dX10_bestOffer_48 : decode cX10_bestOffer 48 = .ok (.goto (-44), 3) := by decide +kernel
theorem dX10_bestOffer_51 : decode cX10_bestOffer 51 = .ok (.iload_n 2, 1) := by decide +kernel
theorem dX10_bestOffer_52 : decode cX10_bestOffer 52 = .ok (.ireturn, 1) := by decide +kernel
theorem dX10_bargain_0 : decode cX10_bargain 0 = .ok (.iconst 0, 1) := by decide +kernel
theorem dX10_bargain_1 : decode cX10_bargain 1 = .ok (.istore_n 2, 1) := by decide +kernel
theorem dX10_bargain_2 : decode cX10_bargain 2 = .ok (.iload_n 2, 1) := by decide +kernel
theorem dX10_bargain_3 : decode cX10_bargain 3 = .ok (.aload_n 0, 1) := by decide +kernel
theorem dX10_bargain_4 : decode cX10_bargain 4 = .ok (.getfield 32, 3) := by decide +kernel
theorem dX10_bargain_7 : decode cX10_bargain 7 = .ok (.invokevirtual 45, 3) := by decide +kernel
theorem dX10_bargain_10 : decode cX10_bargain 10 = .ok (.if_icmp .ge 85, 3) := by decide +kernel
theorem dX10_bargain_13 : decode cX10_bargain 13 = .ok (.aload_n 0, 1) := by decide +kernel
theorem dX10_bargain_14 : decode cX10_bargain 14 = .ok (.getfield 32, 3) := by decide +kernel
theorem dX10_bargain_17 : decode cX10_bargain 17 = .ok (.iload_n 2, 1) := by decide +kernel
theorem dX10_bargain_18 : decode cX10_bargain 18 = .ok (.invokevirtual 49, 3) := by decide +kernel
theorem dX10_bargain_21 : decode cX10_bargain 21 = .ok (.checkcast 69, 3) := by decide +kernel
theorem dX10_bargain_24 : decode cX10_bargain 24 = .ok (.astore_n 3, 1) := by decide +kernel
theorem dX10_bargain_25 : decode cX10_bargain 25 = .ok (.aload_n 3, 1) := by decide +kernel
theorem dX10_bargain_26 : decode cX10_bargain 26 = .ok (.getfield 74, 3) := by decide +kernel
theorem dX10_bargain_29 : decode cX10_bargain 29 = .ok (.iload_n 1, 1) := by decide +kernel
theorem dX10_bargain_30 : decode cX10_bargain 30 = .ok (.if_icmp .eq 6, 3) := by decide +kernel
theorem dX10_bargain_33 : decode cX10_bargain 33 = .ok (.goto 56, 3) := by decide +kernel
theorem dX10_bargain_36 : decode cX10_bargain 36 = .ok (.aload_n 0, 1) := by decide +kernel
theorem dX10_bargain_37 : decode cX10_bargain 37 = .ok (.iload_n 2, 1) := by decide +kernel
theorem dX10_bargain_38 : decode cX10_bargain 38 = .ok (.invokevirtual 159, 3) := by decide +kernel
theorem dX10_bargain_41 : decode cX10_bargain 41 = .ok (.istore 4, 2) := by decide +kernel
theorem dX10_bargain_43 : decode cX10_bargain 43 = .ok (.iload 4, 2) := by decide +kernel
theorem dX10_bargain_45 : decode cX10_bargain 45 = .ok (.ifCond .lt 44, 3) := by decide +kernel
theorem dX10_bargain_48 : decode cX10_bargain 48 = .ok (.aload_n 0, 1) := by decide +kernel
theorem dX10_bargain_49 : decode cX10_bargain 49 = .ok (.iload_n 2, 1) := by decide +kernel
theorem dX10_bargain_50 : decode cX10_bargain 50 = .ok (.iload 4, 2) := by decide +kernel
theorem dX10_bargain_52 : decode cX10_bargain 52 = .ok (.invokevirtual 106, 3) := by decide +kernel
theorem dX10_bargain_55 : decode cX10_bargain 55 = .ok (.aload_n 3, 1) := by decide +kernel
theorem dX10_bargain_56 : decode cX10_bargain 56 = .ok (.getfield 109, 3) := by decide +kernel
theorem dX10_bargain_59 : decode cX10_bargain 59 = .ok (.ifCond .ge 10, 3) := by decide +kernel
theorem dX10_bargain_62 : decode cX10_bargain 62 = .ok (.aload_n 3, 1) := by decide +kernel
theorem dX10_bargain_63 : decode cX10_bargain 63 = .ok (.invokevirtual 143, 3) := by decide +kernel
theorem dX10_bargain_66 : decode cX10_bargain 66 = .ok (.goto 7, 3) := by decide +kernel
theorem dX10_bargain_69 : decode cX10_bargain 69 = .ok (.aload_n 3, 1) := by decide +kernel
theorem dX10_bargain_70 : decode cX10_bargain 70 = .ok (.getfield 90, 3) := by decide +kernel
theorem dX10_bargain_73 : decode cX10_bargain 73 = .ok (.if_icmp .gt 6, 3) := by decide +kernel
theorem dX10_bargain_76 : decode cX10_bargain 76 = .ok (.goto 13, 3) := by decide +kernel
theorem dX10_bargain_79 : decode cX10_bargain 79 = .ok (.aload_n 0, 1) := by decide +kernel
theorem dX10_bargain_80 : decode cX10_bargain 80 = .ok (.iload_n 2, 1) := by decide +kernel
theorem dX10_bargain_81 : decode cX10_bargain 81 = .ok (.iload 4, 2) := by decide +kernel
theorem dX10_bargain_83 : decode cX10_bargain 83 = .ok (.invokevirtual 162, 3) := by decide +kernel
theorem dX10_bargain_86 : decode cX10_bargain 86 = .ok (.istore 5, 2) := by decide +kernel
theorem dX10_bargain_88 : decode cX10_bargain 88 = .ok (.return_, 1) := by decide +kernel
theorem dX10_bargain_89 : decode cX10_bargain 89 = .ok (.iinc 2 1, 3) := by decide +kernel
theorem dX10_bargain_92 : decode cX10_bargain 92 = .ok (.goto (-90), 3) := by decide +kernel
theorem dX10_bargain_95 : decode cX10_bargain 95 = .ok (.return_, 1) := by decide +kernel
theorem dX10_bid_0 : decode cX10_bid 0 = .ok (.aload_n 0, 1) := by decide +kernel
theorem dX10_bid_1 : decode cX10_bid 1 = .ok (.getfield 25, 3) := by decide +kernel
theorem dX10_bid_4 : decode cX10_bid 4 = .ok (.iload_n 1, 1) := by decide +kernel
theorem dX10_bid_5 : decode cX10_bid 5 = .ok (.invokevirtual 49, 3) := by decide +kernel
theorem dX10_bid_8 : decode cX10_bid 8 = .ok (.checkcast 53, 3) := by decide +kernel
theorem dX10_bid_11 : decode cX10_bid 11 = .ok (.getfield 93, 3) := by decide +kernel
theorem dX10_bid_14 : decode cX10_bid 14 = .ok (.iconst 2, 1) := by decide +kernel
theorem dX10_bid_15 : decode cX10_bid 15 = .ok (.idiv, 1) := by decide +kernel
theorem dX10_bid_16 : decode cX10_bid 16 = .ok (.aload_n 0, 1) := by decide +kernel
theorem dX10_bid_17 : decode cX10_bid 17 = .ok (.getfield 32, 3) := by decide +kernel
theorem dX10_bid_20 : decode cX10_bid 20 = .ok (.iload_n 2, 1) := by decide +kernel
theorem dX10_bid_21 : decode cX10_bid 21 = .ok (.invokevirtual 49, 3) := by decide +kernel
theorem dX10_bid_24 : decode cX10_bid 24 = .ok (.checkcast 69, 3) := by decide +kernel
theorem dX10_bid_27 : decode cX10_bid 27 = .ok (.invokevirtual 143, 3) := by decide +kernel
theorem dX10_bid_30 : decode cX10_bid 30 = .ok (.invokestatic 133, 3) := by decide +kernel
theorem dX10_bid_33 : decode cX10_bid 33 = .ok (.ireturn, 1) := by decide +kernel
theorem dX10_hammer_0 : decode cX10_hammer 0 = .ok (.iconst (-1), 1) := by decide +kernel
theorem dX10_hammer_1 : decode cX10_hammer 1 = .ok (.istore_n 2, 1) := by decide +kernel
theorem dX10_hammer_2 : decode cX10_hammer 2 = .ok (.iconst 0, 1) := by decide +kernel
theorem dX10_hammer_3 : decode cX10_hammer 3 = .ok (.istore_n 3, 1) := by decide +kernel
theorem dX10_hammer_4 : decode cX10_hammer 4 = .ok (.iload_n 3, 1) := by decide +kernel
theorem dX10_hammer_5 : decode cX10_hammer 5 = .ok (.aload_n 0, 1) := by decide +kernel
theorem dX10_hammer_6 : decode cX10_hammer 6 = .ok (.getfield 32, 3) := by decide +kernel
theorem dX10_hammer_9 : decode cX10_hammer 9 = .ok (.invokevirtual 45, 3) := by decide +kernel
theorem dX10_hammer_12 : decode cX10_hammer 12 = .ok (.if_icmp .ge 64, 3) := by decide +kernel
theorem dX10_hammer_15 : decode cX10_hammer 15 = .ok (.aload_n 0, 1) := by decide +kernel
theorem dX10_hammer_16 : decode cX10_hammer 16 = .ok (.getfield 32, 3) := by decide +kernel
theorem dX10_hammer_19 : decode cX10_hammer 19 = .ok (.iload_n 3, 1) := by decide +kernel
theorem dX10_hammer_20 : decode cX10_hammer 20 = .ok (.invokevirtual 49, 3) := by decide +kernel
theorem dX10_hammer_23 : decode cX10_hammer 23 = .ok (.checkcast 69, 3) := by decide +kernel
theorem dX10_hammer_26 : decode cX10_hammer 26 = .ok (.getfield 77, 3) := by decide +kernel
theorem dX10_hammer_29 : decode cX10_hammer 29 = .ok (.iload_n 1, 1) := by decide +kernel
theorem dX10_hammer_30 : decode cX10_hammer 30 = .ok (.if_icmp .ne 40, 3) := by decide +kernel
theorem dX10_hammer_33 : decode cX10_hammer 33 = .ok (.iload_n 2, 1) := by decide +kernel
theorem dX10_hammer_34 : decode cX10_hammer 34 = .ok (.ifCond .lt 34, 3) := by decide +kernel
theorem dX10_hammer_37 : decode cX10_hammer 37 = .ok (.aload_n 0, 1) := by decide +kernel
theorem dX10_hammer_38 : decode cX10_hammer 38 = .ok (.getfield 32, 3) := by decide +kernel
theorem dX10_hammer_41 : decode cX10_hammer 41 = .ok (.iload_n 3, 1) := by decide +kernel
theorem dX10_hammer_42 : decode cX10_hammer 42 = .ok (.invokevirtual 49, 3) := by decide +kernel
theorem dX10_hammer_45 : decode cX10_hammer 45 = .ok (.checkcast 69, 3) := by decide +kernel
theorem dX10_hammer_48 : decode cX10_hammer 48 = .ok (.invokevirtual 143, 3) := by decide +kernel
theorem dX10_hammer_51 : decode cX10_hammer 51 = .ok (.aload_n 0, 1) := by decide +kernel
theorem dX10_hammer_52 : decode cX10_hammer 52 = .ok (.getfield 32, 3) := by decide +kernel
theorem dX10_hammer_55 : decode cX10_hammer 55 = .ok (.iload_n 2, 1) := by decide +kernel
theorem dX10_hammer_56 : decode cX10_hammer 56 = .ok (.invokevirtual 49, 3) := by decide +kernel
theorem dX10_hammer_59 : decode cX10_hammer 59 = .ok (.checkcast 69, 3) := by decide +kernel
theorem dX10_hammer_62 : decode cX10_hammer 62 = .ok (.invokevirtual 143, 3) := by decide +kernel
theorem dX10_hammer_65 : decode cX10_hammer 65 = .ok (.if_icmp .le 5, 3) := by decide +kernel
theorem dX10_hammer_68 : decode cX10_hammer 68 = .ok (.iload_n 3, 1) := by decide +kernel
theorem dX10_hammer_69 : decode cX10_hammer 69 = .ok (.istore_n 2, 1) := by decide +kernel
theorem dX10_hammer_70 : decode cX10_hammer 70 = .ok (.iinc 3 1, 3) := by decide +kernel
theorem dX10_hammer_73 : decode cX10_hammer 73 = .ok (.goto (-69), 3) := by decide +kernel
theorem dX10_hammer_76 : decode cX10_hammer 76 = .ok (.iload_n 2, 1) := by decide +kernel
theorem dX10_hammer_77 : decode cX10_hammer 77 = .ok (.ifCond .ge 4, 3) := by decide +kernel
theorem dX10_hammer_80 : decode cX10_hammer 80 = .ok (.return_, 1) := by decide +kernel
theorem dX10_hammer_81 : decode cX10_hammer 81 = .ok (.iconst (-1), 1) := by decide +kernel
theorem dX10_hammer_82 : decode cX10_hammer 82 = .ok (.istore_n 3, 1) := by decide +kernel
theorem dX10_hammer_83 : decode cX10_hammer 83 = .ok (.iconst 0, 1) := by decide +kernel
theorem dX10_hammer_84 : decode cX10_hammer 84 = .ok (.istore 4, 2) := by decide +kernel
theorem dX10_hammer_86 : decode cX10_hammer 86 = .ok (.iload 4, 2) := by decide +kernel
theorem dX10_hammer_88 : decode cX10_hammer 88 = .ok (.aload_n 0, 1) := by decide +kernel
theorem dX10_hammer_89 : decode cX10_hammer 89 = .ok (.getfield 25, 3) := by decide +kernel
theorem dX10_hammer_92 : decode cX10_hammer 92 = .ok (.invokevirtual 45, 3) := by decide +kernel
theorem dX10_hammer_95 : decode cX10_hammer 95 = .ok (.if_icmp .ge 42, 3) := by decide +kernel
theorem dX10_hammer_98 : decode cX10_hammer 98 = .ok (.aload_n 0, 1) := by decide +kernel
theorem dX10_hammer_99 : decode cX10_hammer 99 = .ok (.iload 4, 2) := by decide +kernel
theorem dX10_hammer_101 : decode cX10_hammer 101 = .ok (.invokevirtual 100, 3) := by decide +kernel
theorem dX10_hammer_104 : decode cX10_hammer 104 = .ok (.iconst 4, 1) := by decide +kernel
theorem dX10_hammer_105 : decode cX10_hammer 105 = .ok (.if_icmp .ge 26, 3) := by decide +kernel
theorem dX10_hammer_108 : decode cX10_hammer 108 = .ok (.iload_n 3, 1) := by decide +kernel
theorem dX10_hammer_109 : decode cX10_hammer 109 = .ok (.ifCond .lt 19, 3) := by decide +kernel
theorem dX10_hammer_112 : decode cX10_hammer 112 = .ok (.aload_n 0, 1) := by decide +kernel
theorem dX10_hammer_113 : decode cX10_hammer 113 = .ok (.iload 4, 2) := by decide +kernel
theorem dX10_hammer_115 : decode cX10_hammer 115 = .ok (.iload_n 2, 1) := by decide +kernel
theorem dX10_hammer_116 : decode cX10_hammer 116 = .ok (.invokevirtual 165, 3) := by decide +kernel
theorem dX10_hammer_119 : decode cX10_hammer 119 = .ok (.aload_n 0, 1) := by decide +kernel
theorem dX10_hammer_120 : decode cX10_hammer 120 = .ok (.iload_n 3, 1) := by decide +kernel
theorem dX10_hammer_121 : decode cX10_hammer 121 = .ok (.iload_n 2, 1) := by decide +kernel
theorem dX10_hammer_122 : decode cX10_hammer 122 = .ok (.invokevirtual 165, 3) := by decide +kernel
theorem dX10_hammer_125 : decode cX10_hammer 125 = .ok (.if_icmp .le 6, 3) := by decide +kernel
theorem dX10_hammer_128 : decode cX10_hammer 128 = .ok (.iload 4, 2) := by decide +kernel
theorem dX10_hammer_130 : decode cX10_hammer 130 = .ok (.istore_n 3, 1) := by decide +kernel
theorem dX10_hammer_131 : decode cX10_hammer 131 = .ok (.iinc 4 1, 3) := by decide +kernel
theorem dX10_hammer_134 : decode cX10_hammer 134 = .ok (.goto (-48), 3) := by decide +kernel
theorem dX10_hammer_137 : decode cX10_hammer 137 = .ok (.iload_n 3, 1) := by decide +kernel
theorem dX10_hammer_138 : decode cX10_hammer 138 = .ok (.ifCond .lt 50, 3) := by decide +kernel
theorem dX10_hammer_141 : decode cX10_hammer 141 = .ok (.aload_n 0, 1) := by decide +kernel
theorem dX10_hammer_142 : decode cX10_hammer 142 = .ok (.iload_n 3, 1) := by decide +kernel
theorem dX10_hammer_143 : decode cX10_hammer 143 = .ok (.iload_n 2, 1) := by decide +kernel
theorem dX10_hammer_144 : decode cX10_hammer 144 = .ok (.invokevirtual 165, 3) := by decide +kernel
theorem dX10_hammer_147 : decode cX10_hammer 147 = .ok (.iconst 1, 1) := by decide +kernel
theorem dX10_hammer_148 : decode cX10_hammer 148 = .ok (.if_icmp .lt 40, 3) := by decide +kernel
theorem dX10_hammer_151 : decode cX10_hammer 151 = .ok (.aload_n 0, 1) := by decide +kernel
theorem dX10_hammer_152 : decode cX10_hammer 152 = .ok (.iload_n 3, 1) := by decide +kernel
theorem dX10_hammer_153 : decode cX10_hammer 153 = .ok (.iload_n 2, 1) := by decide +kernel
theorem dX10_hammer_154 : decode cX10_hammer 154 = .ok (.invokevirtual 165, 3) := by decide +kernel
theorem dX10_hammer_157 : decode cX10_hammer 157 = .ok (.aload_n 0, 1) := by decide +kernel
theorem dX10_hammer_158 : decode cX10_hammer 158 = .ok (.getfield 32, 3) := by decide +kernel
theorem dX10_hammer_161 : decode cX10_hammer 161 = .ok (.iload_n 2, 1) := by decide +kernel
theorem dX10_hammer_162 : decode cX10_hammer 162 = .ok (.invokevirtual 49, 3) := by decide +kernel
theorem dX10_hammer_165 : decode cX10_hammer 165 = .ok (.checkcast 69, 3) := by decide +kernel
theorem dX10_hammer_168 : decode cX10_hammer 168 = .ok (.invokevirtual 143, 3) := by decide +kernel
theorem dX10_hammer_171 : decode cX10_hammer 171 = .ok (.iconst 2, 1) := by decide +kernel
theorem dX10_hammer_172 : decode cX10_hammer 172 = .ok (.idiv, 1) := by decide +kernel
theorem dX10_hammer_173 : decode cX10_hammer 173 = .ok (.if_icmp .lt 15, 3) := by decide +kernel
theorem dX10_hammer_176 : decode cX10_hammer 176 = .ok (.aload_n 0, 1) := by decide +kernel
theorem dX10_hammer_177 : decode cX10_hammer 177 = .ok (.iload_n 3, 1) := by decide +kernel
theorem dX10_hammer_178 : decode cX10_hammer 178 = .ok (.iload_n 2, 1) := by decide +kernel
theorem dX10_hammer_179 : decode cX10_hammer 179 = .ok (.aload_n 0, 1) := by decide +kernel
theorem dX10_hammer_180 : decode cX10_hammer 180 = .ok (.iload_n 3, 1) := by decide +kernel
theorem dX10_hammer_181 : decode cX10_hammer 181 = .ok (.iload_n 2, 1) := by decide +kernel
theorem dX10_hammer_182 : decode cX10_hammer 182 = .ok (.invokevirtual 165, 3) := by decide +kernel
theorem dX10_hammer_185 : decode cX10_hammer 185 = .ok (.invokevirtual 129, 3) := by decide +kernel
theorem dX10_hammer_188 : decode cX10_hammer 188 = .ok (.return_, 1) := by decide +kernel
theorem dX10_tax_0 : decode cX10_tax 0 = .ok (.iconst 0, 1) := by decide +kernel
theorem dX10_tax_1 : decode cX10_tax 1 = .ok (.istore_n 2, 1) := by decide +kernel
theorem dX10_tax_2 : decode cX10_tax 2 = .ok (.iconst 0, 1) := by decide +kernel
theorem dX10_tax_3 : decode cX10_tax 3 = .ok (.istore_n 3, 1) := by decide +kernel
theorem dX10_tax_4 : decode cX10_tax 4 = .ok (.iload_n 3, 1) := by decide +kernel
theorem dX10_tax_5 : decode cX10_tax 5 = .ok (.aload_n 0, 1) := by decide +kernel
theorem dX10_tax_6 : decode cX10_tax 6 = .ok (.getfield 29, 3) := by decide +kernel
theorem dX10_tax_9 : decode cX10_tax 9 = .ok (.invokevirtual 45, 3) := by decide +kernel
theorem dX10_tax_12 : decode cX10_tax 12 = .ok (.if_icmp .ge 40, 3) := by decide +kernel
theorem dX10_tax_15 : decode cX10_tax 15 = .ok (.aload_n 0, 1) := by decide +kernel
theorem dX10_tax_16 : decode cX10_tax 16 = .ok (.getfield 29, 3) := by decide +kernel
theorem dX10_tax_19 : decode cX10_tax 19 = .ok (.iload_n 3, 1) := by decide +kernel
theorem dX10_tax_20 : decode cX10_tax 20 = .ok (.invokevirtual 49, 3) := by decide +kernel
theorem dX10_tax_23 : decode cX10_tax 23 = .ok (.checkcast 63, 3) := by decide +kernel
theorem dX10_tax_26 : decode cX10_tax 26 = .ok (.iconst 1, 1) := by decide +kernel
theorem dX10_tax_27 : decode cX10_tax 27 = .ok (.iaload, 1) := by decide +kernel
theorem dX10_tax_28 : decode cX10_tax 28 = .ok (.aload_n 0, 1) := by decide +kernel
theorem dX10_tax_29 : decode cX10_tax 29 = .ok (.getfield 29, 3) := by decide +kernel
theorem dX10_tax_32 : decode cX10_tax 32 = .ok (.iload_n 2, 1) := by decide +kernel
theorem dX10_tax_33 : decode cX10_tax 33 = .ok (.invokevirtual 49, 3) := by decide +kernel
theorem dX10_tax_36 : decode cX10_tax 36 = .ok (.checkcast 63, 3) := by decide +kernel
theorem dX10_tax_39 : decode cX10_tax 39 = .ok (.iconst 1, 1) := by decide +kernel
theorem dX10_tax_40 : decode cX10_tax 40 = .ok (.iaload, 1) := by decide +kernel
theorem dX10_tax_41 : decode cX10_tax 41 = .ok (.if_icmp .ge 5, 3) := by decide +kernel
theorem dX10_tax_44 : decode cX10_tax 44 = .ok (.iload_n 3, 1) := by decide +kernel
theorem dX10_tax_45 : decode cX10_tax 45 = .ok (.istore_n 2, 1) := by decide +kernel
theorem dX10_tax_46 : decode cX10_tax 46 = .ok (.iinc 3 1, 3) := by decide +kernel
theorem dX10_tax_49 : decode cX10_tax 49 = .ok (.goto (-45), 3) := by decide +kernel
theorem dX10_tax_52 : decode cX10_tax 52 = .ok (.aload_n 0, 1) := by decide +kernel
theorem dX10_tax_53 : decode cX10_tax 53 = .ok (.getfield 25, 3) := by decide +kernel
theorem dX10_tax_56 : decode cX10_tax 56 = .ok (.iload_n 1, 1) := by decide +kernel
theorem dX10_tax_57 : decode cX10_tax 57 = .ok (.invokevirtual 49, 3) := by decide +kernel
theorem dX10_tax_60 : decode cX10_tax 60 = .ok (.checkcast 53, 3) := by decide +kernel
theorem dX10_tax_63 : decode cX10_tax 63 = .ok (.getfield 93, 3) := by decide +kernel
theorem dX10_tax_66 : decode cX10_tax 66 = .ok (.aload_n 0, 1) := by decide +kernel
theorem dX10_tax_67 : decode cX10_tax 67 = .ok (.getfield 42, 3) := by decide +kernel
theorem dX10_tax_70 : decode cX10_tax 70 = .ok (.imul, 1) := by decide +kernel
theorem dX10_tax_71 : decode cX10_tax 71 = .ok (.bipush 100, 2) := by decide +kernel
theorem dX10_tax_73 : decode cX10_tax 73 = .ok (.idiv, 1) := by decide +kernel
theorem dX10_tax_74 : decode cX10_tax 74 = .ok (.istore_n 3, 1) := by decide +kernel
theorem dX10_tax_75 : decode cX10_tax 75 = .ok (.aload_n 0, 1) := by decide +kernel
theorem dX10_tax_76 : decode cX10_tax 76 = .ok (.getfield 25, 3) := by decide +kernel
theorem dX10_tax_79 : decode cX10_tax 79 = .ok (.iload_n 1, 1) := by decide +kernel
theorem dX10_tax_80 : decode cX10_tax 80 = .ok (.invokevirtual 49, 3) := by decide +kernel
theorem dX10_tax_83 : decode cX10_tax 83 = .ok (.checkcast 53, 3) := by decide +kernel
theorem dX10_tax_86 : decode cX10_tax 86 = .ok (.dup, 1) := by decide +kernel
theorem dX10_tax_87 : decode cX10_tax 87 = .ok (.getfield 93, 3) := by decide +kernel
theorem dX10_tax_90 : decode cX10_tax 90 = .ok (.iload_n 3, 1) := by decide +kernel
theorem dX10_tax_91 : decode cX10_tax 91 = .ok (.isub, 1) := by decide +kernel
theorem dX10_tax_92 : decode cX10_tax 92 = .ok (.putfield 93, 3) := by decide +kernel
theorem dX10_tax_95 : decode cX10_tax 95 = .ok (.aload_n 0, 1) := by decide +kernel
theorem dX10_tax_96 : decode cX10_tax 96 = .ok (.getfield 29, 3) := by decide +kernel
theorem dX10_tax_99 : decode cX10_tax 99 = .ok (.iload_n 2, 1) := by decide +kernel
theorem dX10_tax_100 : decode cX10_tax 100 = .ok (.invokevirtual 49, 3) := by decide +kernel
theorem dX10_tax_103 : decode cX10_tax 103 = .ok (.checkcast 63, 3) := by decide +kernel
theorem dX10_tax_106 : decode cX10_tax 106 = .ok (.iconst 1, 1) := by decide +kernel
theorem dX10_tax_107 : decode cX10_tax 107 = .ok (.dup2, 1) := by decide +kernel
theorem dX10_tax_108 : decode cX10_tax 108 = .ok (.iaload, 1) := by decide +kernel
theorem dX10_tax_109 : decode cX10_tax 109 = .ok (.iload_n 3, 1) := by decide +kernel
theorem dX10_tax_110 : decode cX10_tax 110 = .ok (.iadd, 1) := by decide +kernel
theorem dX10_tax_111 : decode cX10_tax 111 = .ok (.iastore, 1) := by decide +kernel
theorem dX10_tax_112 : decode cX10_tax 112 = .ok (.return_, 1) := by decide +kernel
theorem dX10_granted_0 : decode cX10_granted 0 = .ok (.iconst 0, 1) := by decide +kernel
theorem dX10_granted_1 : decode cX10_granted 1 = .ok (.istore_n 1, 1) := by decide +kernel
theorem dX10_granted_2 : decode cX10_granted 2 = .ok (.iconst 0, 1) := by decide +kernel
theorem dX10_granted_3 : decode cX10_granted 3 = .ok (.istore_n 2, 1) := by decide +kernel
theorem dX10_granted_4 : decode cX10_granted 4 = .ok (.iload_n 2, 1) := by decide +kernel
theorem dX10_granted_5 : decode cX10_granted 5 = .ok (.aload_n 0, 1) := by decide +kernel
theorem dX10_granted_6 : decode cX10_granted 6 = .ok (.getfield 32, 3) := by decide +kernel
theorem dX10_granted_9 : decode cX10_granted 9 = .ok (.invokevirtual 45, 3) := by decide +kernel
theorem dX10_granted_12 : decode cX10_granted 12 = .ok (.if_icmp .ge 29, 3) := by decide +kernel
theorem dX10_granted_15 : decode cX10_granted 15 = .ok (.aload_n 0, 1) := by decide +kernel
theorem dX10_granted_16 : decode cX10_granted 16 = .ok (.getfield 32, 3) := by decide +kernel
theorem dX10_granted_19 : decode cX10_granted 19 = .ok (.iload_n 2, 1) := by decide +kernel
theorem dX10_granted_20 : decode cX10_granted 20 = .ok (.invokevirtual 49, 3) := by decide +kernel
theorem dX10_granted_23 : decode cX10_granted 23 = .ok (.checkcast 69, 3) := by decide +kernel
theorem dX10_granted_26 : decode cX10_granted 26 = .ok (.getfield 146, 3) := by decide +kernel
theorem dX10_granted_29 : decode cX10_granted 29 = .ok (.ifCond .eq 6, 3) := by decide +kernel
theorem dX10_granted_32 : decode cX10_granted 32 = .ok (.iinc 1 1, 3) := by decide +kernel
theorem dX10_granted_35 : decode cX10_granted 35 = .ok (.iinc 2 1, 3) := by decide +kernel
theorem dX10_granted_38 : decode cX10_granted 38 = .ok (.goto (-34), 3) := by decide +kernel
theorem dX10_granted_41 : decode cX10_granted 41 = .ok (.iload_n 1, 1) := by decide +kernel
theorem dX10_granted_42 : decode cX10_granted 42 = .ok (.ireturn, 1) := by decide +kernel
theorem dX10_advance_0 : decode cX10_advance 0 = .ok (.aload_n 0, 1) := by decide +kernel
theorem dX10_advance_1 : decode cX10_advance 1 = .ok (.invokevirtual 168, 3) := by decide +kernel
theorem dX10_advance_4 : decode cX10_advance 4 = .ok (.istore_n 2, 1) := by decide +kernel
theorem dX10_advance_5 : decode cX10_advance 5 = .ok (.iconst 0, 1) := by decide +kernel
theorem dX10_advance_6 : decode cX10_advance 6 = .ok (.istore_n 3, 1) := by decide +kernel
theorem dX10_advance_7 : decode cX10_advance 7 = .ok (.iload_n 3, 1) := by decide +kernel
theorem dX10_advance_8 : decode cX10_advance 8 = .ok (.iload_n 1, 1) := by decide +kernel
theorem dX10_advance_9 : decode cX10_advance 9 = .ok (.if_icmp .ge 429, 3) := by decide +kernel
theorem dX10_advance_12 : decode cX10_advance 12 = .ok (.aload_n 0, 1) := by decide +kernel
theorem dX10_advance_13 : decode cX10_advance 13 = .ok (.getfield 39, 3) := by decide +kernel
theorem dX10_advance_16 : decode cX10_advance 16 = .ok (.aload_n 0, 1) := by decide +kernel
theorem dX10_advance_17 : decode cX10_advance 17 = .ok (.getfield 36, 3) := by decide +kernel
theorem dX10_advance_20 : decode cX10_advance 20 = .ok (.irem, 1) := by decide +kernel
theorem dX10_advance_21 : decode cX10_advance 21 = .ok (.istore 4, 2) := by decide +kernel
theorem dX10_advance_23 : decode cX10_advance 23 = .ok (.iconst 0, 1) := by decide +kernel
theorem dX10_advance_24 : decode cX10_advance 24 = .ok (.istore 5, 2) := by decide +kernel
theorem dX10_advance_26 : decode cX10_advance 26 = .ok (.iload 5, 2) := by decide +kernel
theorem dX10_advance_28 : decode cX10_advance 28 = .ok (.aload_n 0, 1) := by decide +kernel
theorem dX10_advance_29 : decode cX10_advance 29 = .ok (.getfield 25, 3) := by decide +kernel
theorem dX10_advance_32 : decode cX10_advance 32 = .ok (.invokevirtual 45, 3) := by decide +kernel
theorem dX10_advance_35 : decode cX10_advance 35 = .ok (.if_icmp .ge 83, 3) := by decide +kernel
theorem dX10_advance_38 : decode cX10_advance 38 = .ok (.aload_n 0, 1) := by decide +kernel
theorem dX10_advance_39 : decode cX10_advance 39 = .ok (.getfield 25, 3) := by decide +kernel
theorem dX10_advance_42 : decode cX10_advance 42 = .ok (.iload 5, 2) := by decide +kernel
theorem dX10_advance_44 : decode cX10_advance 44 = .ok (.invokevirtual 49, 3) := by decide +kernel
theorem dX10_advance_47 : decode cX10_advance 47 = .ok (.checkcast 53, 3) := by decide +kernel
theorem dX10_advance_50 : decode cX10_advance 50 = .ok (.astore 6, 2) := by decide +kernel
theorem dX10_advance_52 : decode cX10_advance 52 = .ok (.aload 6, 2) := by decide +kernel
theorem dX10_advance_54 : decode cX10_advance 54 = .ok (.getfield 116, 3) := by decide +kernel
theorem dX10_advance_57 : decode cX10_advance 57 = .ok (.iload 4, 2) := by decide +kernel
theorem dX10_advance_59 : decode cX10_advance 59 = .ok (.if_icmp .eq 6, 3) := by decide +kernel
theorem dX10_advance_62 : decode cX10_advance 62 = .ok (.goto 50, 3) := by decide +kernel
theorem dX10_advance_65 : decode cX10_advance 65 = .ok (.aload 6, 2) := by decide +kernel
theorem dX10_advance_67 : decode cX10_advance 67 = .ok (.dup, 1) := by decide +kernel
theorem dX10_advance_68 : decode cX10_advance 68 = .ok (.getfield 119, 3) := by decide +kernel
theorem dX10_advance_71 : decode cX10_advance 71 = .ok (.iconst 1, 1) := by decide +kernel
theorem dX10_advance_72 : decode cX10_advance 72 = .ok (.iadd, 1) := by decide +kernel
theorem dX10_advance_73 : decode cX10_advance 73 = .ok (.putfield 119, 3) := by decide +kernel
theorem dX10_advance_76 : decode cX10_advance 76 = .ok (.aload 6, 2) := by decide +kernel
theorem dX10_advance_78 : decode cX10_advance 78 = .ok (.getfield 170, 3) := by decide +kernel
theorem dX10_advance_81 : decode cX10_advance 81 = .ok (.ifCond .eq 12, 3) := by decide +kernel
theorem dX10_advance_84 : decode cX10_advance 84 = .ok (.aload_n 0, 1) := by decide +kernel
theorem dX10_advance_85 : decode cX10_advance 85 = .ok (.iload 5, 2) := by decide +kernel
theorem dX10_advance_87 : decode cX10_advance 87 = .ok (.invokevirtual 173, 3) := by decide +kernel
theorem dX10_advance_90 : decode cX10_advance 90 = .ok (.goto 4, 3) := by decide +kernel
theorem dX10_advance_93 : decode cX10_advance 93 = .ok (.iconst (-1), 1) := by decide +kernel
theorem dX10_advance_94 : decode cX10_advance 94 = .ok (.istore 7, 2) := by decide +kernel
theorem dX10_advance_96 : decode cX10_advance 96 = .ok (.iload 7, 2) := by decide +kernel
theorem dX10_advance_98 : decode cX10_advance 98 = .ok (.ifCond .ge 6, 3) := by decide +kernel
theorem dX10_advance_101 : decode cX10_advance 101 = .ok (.goto 11, 3) := by decide +kernel
theorem dX10_advance_104 : decode cX10_advance 104 = .ok (.aload_n 0, 1) := by decide +kernel
theorem dX10_advance_105 : decode cX10_advance 105 = .ok (.iload 7, 2) := by decide +kernel
theorem dX10_advance_107 : decode cX10_advance 107 = .ok (.invokevirtual 176, 3) := by decide +kernel
theorem dX10_advance_110 : decode cX10_advance 110 = .ok (.istore 8, 2) := by decide +kernel
theorem dX10_advance_112 : decode cX10_advance 112 = .ok (.iinc 5 1, 3) := by decide +kernel
theorem dX10_advance_115 : decode cX10_advance 115 = .ok (.goto (-89), 3) := by decide +kernel
theorem dX10_advance_118 : decode cX10_advance 118 = .ok (.iconst 0, 1) := by decide +kernel
theorem dX10_advance_119 : decode cX10_advance 119 = .ok (.istore 5, 2) := by decide +kernel
theorem dX10_advance_121 : decode cX10_advance 121 = .ok (.iload 5, 2) := by decide +kernel
theorem dX10_advance_123 : decode cX10_advance 123 = .ok (.aload_n 0, 1) := by decide +kernel
theorem dX10_advance_124 : decode cX10_advance 124 = .ok (.getfield 25, 3) := by decide +kernel
theorem dX10_advance_127 : decode cX10_advance 127 = .ok (.invokevirtual 45, 3) := by decide +kernel
theorem dX10_advance_130 : decode cX10_advance 130 = .ok (.if_icmp .ge 72, 3) := by decide +kernel
theorem dX10_advance_133 : decode cX10_advance 133 = .ok (.aload_n 0, 1) := by decide +kernel
theorem dX10_advance_134 : decode cX10_advance 134 = .ok (.getfield 25, 3) := by decide +kernel
theorem dX10_advance_137 : decode cX10_advance 137 = .ok (.iload 5, 2) := by decide +kernel
theorem dX10_advance_139 : decode cX10_advance 139 = .ok (.invokevirtual 49, 3) := by decide +kernel
theorem dX10_advance_142 : decode cX10_advance 142 = .ok (.checkcast 53, 3) := by decide +kernel
theorem dX10_advance_145 : decode cX10_advance 145 = .ok (.getfield 179, 3) := by decide +kernel
theorem dX10_advance_148 : decode cX10_advance 148 = .ok (.ifCond .le 27, 3) := by decide +kernel
theorem dX10_advance_151 : decode cX10_advance 151 = .ok (.aload_n 0, 1) := by decide +kernel
theorem dX10_advance_152 : decode cX10_advance 152 = .ok (.iload 5, 2) := by decide +kernel
theorem dX10_advance_154 : decode cX10_advance 154 = .ok (.aload_n 0, 1) := by decide +kernel
theorem dX10_advance_155 : decode cX10_advance 155 = .ok (.getfield 25, 3) := by decide +kernel
theorem dX10_advance_158 : decode cX10_advance 158 = .ok (.iload 5, 2) := by decide +kernel
theorem dX10_advance_160 : decode cX10_advance 160 = .ok (.invokevirtual 49, 3) := by decide +kernel
theorem dX10_advance_163 : decode cX10_advance 163 = .ok (.checkcast 53, 3) := by decide +kernel
theorem dX10_advance_166 : decode cX10_advance 166 = .ok (.getfield 179, 3) := by decide +kernel
theorem dX10_advance_169 : decode cX10_advance 169 = .ok (.invokevirtual 182, 3) := by decide +kernel
theorem dX10_advance_172 : decode cX10_advance 172 = .ok (.goto 4, 3) := by decide +kernel
theorem dX10_advance_175 : decode cX10_advance 175 = .ok (.iconst (-1), 1) := by decide +kernel
theorem dX10_advance_176 : decode cX10_advance 176 = .ok (.istore 6, 2) := by decide +kernel
theorem dX10_advance_178 : decode cX10_advance 178 = .ok (.iload 6, 2) := by decide +kernel
theorem dX10_advance_180 : decode cX10_advance 180 = .ok (.ifCond .ge 6, 3) := by decide +kernel
theorem dX10_advance_183 : decode cX10_advance 183 = .ok (.goto 13, 3) := by decide +kernel
theorem dX10_advance_186 : decode cX10_advance 186 = .ok (.aload_n 0, 1) := by decide +kernel
theorem dX10_advance_187 : decode cX10_advance 187 = .ok (.iload 5, 2) := by decide +kernel
theorem dX10_advance_189 : decode cX10_advance 189 = .ok (.iload 6, 2) := by decide +kernel
theorem dX10_advance_191 : decode cX10_advance 191 = .ok (.invokevirtual 185, 3) := by decide +kernel
theorem dX10_advance_194 : decode cX10_advance 194 = .ok (.istore 7, 2) := by decide +kernel
theorem dX10_advance_196 : decode cX10_advance 196 = .ok (.iinc 5 1, 3) := by decide +kernel
theorem dX10_advance_199 : decode cX10_advance 199 = .ok (.goto (-78), 3) := by decide +kernel
theorem dX10_advance_202 : decode cX10_advance 202 = .ok (.iconst 0, 1) := by decide +kernel
theorem dX10_advance_203 : decode cX10_advance 203 = .ok (.istore 5, 2) := by decide +kernel
theorem dX10_advance_205 : decode cX10_advance 205 = .ok (.iload 5, 2) := by decide +kernel
theorem dX10_advance_207 : decode cX10_advance 207 = .ok (.aload_n 0, 1) := by decide +kernel
theorem dX10_advance_208 : decode cX10_advance 208 = .ok (.getfield 25, 3) := by decide +kernel
theorem dX10_advance_211 : decode cX10_advance 211 = .ok (.invokevirtual 45, 3) := by decide +kernel
theorem dX10_advance_214 : decode cX10_advance 214 = .ok (.if_icmp .ge 33, 3) := by decide +kernel
theorem dX10_advance_217 : decode cX10_advance 217 = .ok (.aload_n 0, 1) := by decide +kernel
theorem dX10_advance_218 : decode cX10_advance 218 = .ok (.getfield 25, 3) := by decide +kernel
theorem dX10_advance_221 : decode cX10_advance 221 = .ok (.iload 5, 2) := by decide +kernel
theorem dX10_advance_223 : decode cX10_advance 223 = .ok (.invokevirtual 49, 3) := by decide +kernel
theorem dX10_advance_226 : decode cX10_advance 226 = .ok (.checkcast 53, 3) := by decide +kernel
theorem dX10_advance_229 : decode cX10_advance 229 = .ok (.getfield 188, 3) := by decide +kernel
theorem dX10_advance_232 : decode cX10_advance 232 = .ok (.ifCond .eq 9, 3) := by decide +kernel
theorem dX10_advance_235 : decode cX10_advance 235 = .ok (.aload_n 0, 1) := by decide +kernel
theorem dX10_advance_236 : decode cX10_advance 236 = .ok (.iload 5, 2) := by decide +kernel
theorem dX10_advance_238 : decode cX10_advance 238 = .ok (.invokevirtual 191, 3) := by decide +kernel
theorem dX10_advance_241 : decode cX10_advance 241 = .ok (.iinc 5 1, 3) := by decide +kernel
theorem dX10_advance_244 : decode cX10_advance 244 = .ok (.goto (-39), 3) := by decide +kernel
theorem dX10_advance_247 : decode cX10_advance 247 = .ok (.iconst 0, 1) := by decide +kernel
theorem dX10_advance_248 : decode cX10_advance 248 = .ok (.istore 5, 2) := by decide +kernel
theorem dX10_advance_250 : decode cX10_advance 250 = .ok (.iload 5, 2) := by decide +kernel
theorem dX10_advance_252 : decode cX10_advance 252 = .ok (.aload_n 0, 1) := by decide +kernel
theorem dX10_advance_253 : decode cX10_advance 253 = .ok (.getfield 29, 3) := by decide +kernel
theorem dX10_advance_256 : decode cX10_advance 256 = .ok (.invokevirtual 45, 3) := by decide +kernel
theorem dX10_advance_259 : decode cX10_advance 259 = .ok (.if_icmp .ge 24, 3) := by decide +kernel
theorem dX10_advance_262 : decode cX10_advance 262 = .ok (.iload 4, 2) := by decide +kernel
theorem dX10_advance_264 : decode cX10_advance 264 = .ok (.aload_n 0, 1) := by decide +kernel
theorem dX10_advance_265 : decode cX10_advance 265 = .ok (.getfield 16, 3) := by decide +kernel
theorem dX10_advance_268 : decode cX10_advance 268 = .ok (.if_icmp .ne 15, 3) := by decide +kernel
theorem dX10_advance_271 : decode cX10_advance 271 = .ok (.aload_n 0, 1) := by decide +kernel
theorem dX10_advance_272 : decode cX10_advance 272 = .ok (.iload 5, 2) := by decide +kernel
theorem dX10_advance_274 : decode cX10_advance 274 = .ok (.invokevirtual 194, 3) := by decide +kernel
theorem dX10_advance_277 : decode cX10_advance 277 = .ok (.iinc 5 1, 3) := by decide +kernel
theorem dX10_advance_280 : decode cX10_advance 280 = .ok (.goto (-30), 3) := by decide +kernel
theorem dX10_advance_283 : decode cX10_advance 283 = .ok (.iconst 0, 1) := by decide +kernel
theorem dX10_advance_284 : decode cX10_advance 284 = .ok (.istore 5, 2) := by decide +kernel
theorem dX10_advance_286 : decode cX10_advance 286 = .ok (.iload 5, 2) := by decide +kernel
theorem dX10_advance_288 : decode cX10_advance 288 = .ok (.aload_n 0, 1) := by decide +kernel
theorem dX10_advance_289 : decode cX10_advance 289 = .ok (.getfield 25, 3) := by decide +kernel
theorem dX10_advance_292 : decode cX10_advance 292 = .ok (.invokevirtual 45, 3) := by decide +kernel
theorem dX10_advance_295 : decode cX10_advance 295 = .ok (.if_icmp .ge 24, 3) := by decide +kernel
theorem dX10_advance_298 : decode cX10_advance 298 = .ok (.iload 4, 2) := by decide +kernel
theorem dX10_advance_300 : decode cX10_advance 300 = .ok (.aload_n 0, 1) := by decide +kernel
theorem dX10_advance_301 : decode cX10_advance 301 = .ok (.getfield 19, 3) := by decide +kernel
theorem dX10_advance_304 : decode cX10_advance 304 = .ok (.if_icmp .ne 15, 3) := by decide +kernel
theorem dX10_advance_307 : decode cX10_advance 307 = .ok (.aload_n 0, 1) := by decide +kernel
theorem dX10_advance_308 : decode cX10_advance 308 = .ok (.iload 5, 2) := by decide +kernel
theorem dX10_advance_310 : decode cX10_advance 310 = .ok (.invokevirtual 197, 3) := by decide +kernel
theorem dX10_advance_313 : decode cX10_advance 313 = .ok (.iinc 5 1, 3) := by decide +kernel
theorem dX10_advance_316 : decode cX10_advance 316 = .ok (.goto (-30), 3) := by decide +kernel
theorem dX10_advance_319 : decode cX10_advance 319 = .ok (.aload_n 0, 1) := by decide +kernel
theorem dX10_advance_320 : decode cX10_advance 320 = .ok (.dup, 1) := by decide +kernel
theorem dX10_advance_321 : decode cX10_advance 321 = .ok (.getfield 39, 3) := by decide +kernel
theorem dX10_advance_324 : decode cX10_advance 324 = .ok (.iconst 1, 1) := by decide +kernel
theorem dX10_advance_325 : decode cX10_advance 325 = .ok (.iadd, 1) := by decide +kernel
theorem dX10_advance_326 : decode cX10_advance 326 = .ok (.putfield 39, 3) := by decide +kernel
theorem dX10_advance_329 : decode cX10_advance 329 = .ok (.iconst 0, 1) := by decide +kernel
theorem dX10_advance_330 : decode cX10_advance 330 = .ok (.istore 5, 2) := by decide +kernel
theorem dX10_advance_332 : decode cX10_advance 332 = .ok (.iload 5, 2) := by decide +kernel
theorem dX10_advance_334 : decode cX10_advance 334 = .ok (.aload_n 0, 1) := by decide +kernel
theorem dX10_advance_335 : decode cX10_advance 335 = .ok (.getfield 32, 3) := by decide +kernel
theorem dX10_advance_338 : decode cX10_advance 338 = .ok (.invokevirtual 45, 3) := by decide +kernel
theorem dX10_advance_341 : decode cX10_advance 341 = .ok (.if_icmp .ge 91, 3) := by decide +kernel
theorem dX10_advance_344 : decode cX10_advance 344 = .ok (.aload_n 0, 1) := by decide +kernel
theorem dX10_advance_345 : decode cX10_advance 345 = .ok (.getfield 39, 3) := by decide +kernel
theorem dX10_advance_348 : decode cX10_advance 348 = .ok (.aload_n 0, 1) := by decide +kernel
theorem dX10_advance_349 : decode cX10_advance 349 = .ok (.getfield 36, 3) := by decide +kernel
theorem dX10_advance_352 : decode cX10_advance 352 = .ok (.irem, 1) := by decide +kernel
theorem dX10_advance_353 : decode cX10_advance 353 = .ok (.ifCond .ne 79, 3) := by decide +kernel
theorem dX10_advance_356 : decode cX10_advance 356 = .ok (.aload_n 0, 1) := by decide +kernel
theorem dX10_advance_357 : decode cX10_advance 357 = .ok (.getfield 32, 3) := by decide +kernel
theorem dX10_advance_360 : decode cX10_advance 360 = .ok (.iload 5, 2) := by decide +kernel
theorem dX10_advance_362 : decode cX10_advance 362 = .ok (.invokevirtual 49, 3) := by decide +kernel
theorem dX10_advance_365 : decode cX10_advance 365 = .ok (.checkcast 69, 3) := by decide +kernel
theorem dX10_advance_368 : decode cX10_advance 368 = .ok (.astore 6, 2) := by decide +kernel
theorem dX10_advance_370 : decode cX10_advance 370 = .ok (.aload 6, 2) := by decide +kernel
theorem dX10_advance_372 : decode cX10_advance 372 = .ok (.getfield 77, 3) := by decide +kernel
theorem dX10_advance_375 : decode cX10_advance 375 = .ok (.ifCond .ge 14, 3) := by decide +kernel
theorem dX10_advance_378 : decode cX10_advance 378 = .ok (.aload 6, 2) := by decide +kernel
theorem dX10_advance_380 : decode cX10_advance 380 = .ok (.getfield 74, 3) := by decide +kernel
theorem dX10_advance_383 : decode cX10_advance 383 = .ok (.ifCond .ge 6, 3) := by decide +kernel
theorem dX10_advance_386 : decode cX10_advance 386 = .ok (.goto 40, 3) := by decide +kernel
theorem dX10_advance_389 : decode cX10_advance 389 = .ok (.aload 6, 2) := by decide +kernel
theorem dX10_advance_391 : decode cX10_advance 391 = .ok (.dup, 1) := by decide +kernel
theorem dX10_advance_392 : decode cX10_advance 392 = .ok (.getfield 199, 3) := by decide +kernel
theorem dX10_advance_395 : decode cX10_advance 395 = .ok (.iconst 1, 1) := by decide +kernel
theorem dX10_advance_396 : decode cX10_advance 396 = .ok (.iadd, 1) := by decide +kernel
theorem dX10_advance_397 : decode cX10_advance 397 = .ok (.putfield 199, 3) := by decide +kernel
theorem dX10_advance_400 : decode cX10_advance 400 = .ok (.aload 6, 2) := by decide +kernel
theorem dX10_advance_402 : decode cX10_advance 402 = .ok (.getfield 199, 3) := by decide +kernel
theorem dX10_advance_405 : decode cX10_advance 405 = .ok (.bipush 10, 2) := by decide +kernel
theorem dX10_advance_407 : decode cX10_advance 407 = .ok (.if_icmp .ge 6, 3) := by decide +kernel
theorem dX10_advance_410 : decode cX10_advance 410 = .ok (.goto 16, 3) := by decide +kernel
theorem dX10_advance_413 : decode cX10_advance 413 = .ok (.aload 6, 2) := by decide +kernel
theorem dX10_advance_415 : decode cX10_advance 415 = .ok (.iconst (-1), 1) := by decide +kernel
theorem dX10_advance_416 : decode cX10_advance 416 = .ok (.iconst (-1), 1) := by decide +kernel
theorem dX10_advance_417 : decode cX10_advance 417 = .ok (.invokevirtual 125, 3) := by decide +kernel
theorem dX10_advance_420 : decode cX10_advance 420 = .ok (.aload 6, 2) := by decide +kernel
theorem dX10_advance_422 : decode cX10_advance 422 = .ok (.iconst 1, 1) := by decide +kernel
theorem dX10_advance_423 : decode cX10_advance 423 = .ok (.putfield 202, 3) := by decide +kernel
theorem dX10_advance_426 : decode cX10_advance 426 = .ok (.iinc 5 1, 3) := by decide +kernel
theorem dX10_advance_429 : decode cX10_advance 429 = .ok (.goto (-97), 3) := by decide +kernel
theorem dX10_advance_432 : decode cX10_advance 432 = .ok (.iinc 3 1, 3) := by decide +kernel
theorem dX10_advance_435 : decode cX10_advance 435 = .ok (.goto (-428), 3) := by decide +kernel
theorem dX10_advance_438 : decode cX10_advance 438 = .ok (.aload_n 0, 1) := by decide +kernel
theorem dX10_advance_439 : decode cX10_advance 439 = .ok (.invokevirtual 168, 3) := by decide +kernel
theorem dX10_advance_442 : decode cX10_advance 442 = .ok (.iload_n 2, 1) := by decide +kernel
theorem dX10_advance_443 : decode cX10_advance 443 = .ok (.isub, 1) := by decide +kernel
theorem dX10_advance_444 : decode cX10_advance 444 = .ok (.ireturn, 1) := by decide +kernel
theorem dX11_init_0 : decode cX11_init 0 = .ok (.aload_n 0, 1) := by decide +kernel
theorem dX11_init_1 : decode cX11_init 1 = .ok (.invokespecial 1, 3) := by decide +kernel
theorem dX11_init_4 : decode cX11_init 4 = .ok (.return_, 1) := by decide +kernel
theorem dX12_init_0 : decode cX12_init 0 = .ok (.aload_n 0, 1) := by decide +kernel
theorem dX12_init_1 : decode cX12_init 1 = .ok (.invokespecial 1, 3) := by decide +kernel
theorem dX12_init_4 : decode cX12_init 4 = .ok (.aload_n 0, 1) := by decide +kernel
theorem dX12_init_5 : decode cX12_init 5 = .ok (.iconst (-1), 1) := by decide +kernel
theorem dX12_init_6 : decode cX12_init 6 = .ok (.putfield 7, 3) := by decide +kernel
theorem dX12_init_9 : decode cX12_init 9 = .ok (.aload_n 0, 1) := by decide +kernel
theorem dX12_init_10 : decode cX12_init 10 = .ok (.iconst (-1), 1) := by decide +kernel
theorem dX12_init_11 : decode cX12_init 11 = .ok (.putfield 13, 3) := by decide +kernel
theorem dX12_init_14 : decode cX12_init 14 = .ok (.aload_n 0, 1) := by decide +kernel
theorem dX12_init_15 : decode cX12_init 15 = .ok (.iconst (-1), 1) := by decide +kernel
theorem dX12_init_16 : decode cX12_init 16 = .ok (.putfield 16, 3) := by decide +kernel
theorem dX12_init_19 : decode cX12_init 19 = .ok (.aload_n 0, 1) := by decide +kernel
theorem dX12_init_20 : decode cX12_init 20 = .ok (.iconst (-1), 1) := by decide +kernel
theorem dX12_init_21 : decode cX12_init 21 = .ok (.putfield 19, 3) := by decide +kernel
theorem dX12_init_24 : decode cX12_init 24 = .ok (.aload_n 0, 1) := by decide +kernel
theorem dX12_init_25 : decode cX12_init 25 = .ok (.iconst (-1), 1) := by decide +kernel
theorem dX12_init_26 : decode cX12_init 26 = .ok (.putfield 22, 3) := by decide +kernel
theorem dX12_init_29 : decode cX12_init 29 = .ok (.return_, 1) := by decide +kernel
theorem dX12_place_0 : decode cX12_place 0 = .ok (.aload_n 0, 1) := by decide +kernel
theorem dX12_place_1 : decode cX12_place 1 = .ok (.iload_n 1, 1) := by decide +kernel
theorem dX12_place_2 : decode cX12_place 2 = .ok (.putfield 7, 3) := by decide +kernel
theorem dX12_place_5 : decode cX12_place 5 = .ok (.aload_n 0, 1) := by decide +kernel
theorem dX12_place_6 : decode cX12_place 6 = .ok (.iload_n 2, 1) := by decide +kernel
theorem dX12_place_7 : decode cX12_place 7 = .ok (.putfield 13, 3) := by decide +kernel
theorem dX12_place_10 : decode cX12_place 10 = .ok (.aload_n 0, 1) := by decide +kernel
theorem dX12_place_11 : decode cX12_place 11 = .ok (.iconst (-1), 1) := by decide +kernel
theorem dX12_place_12 : decode cX12_place 12 = .ok (.putfield 16, 3) := by decide +kernel
theorem dX12_place_15 : decode cX12_place 15 = .ok (.aload_n 0, 1) := by decide +kernel
theorem dX12_place_16 : decode cX12_place 16 = .ok (.iconst (-1), 1) := by decide +kernel
theorem dX12_place_17 : decode cX12_place 17 = .ok (.putfield 19, 3) := by decide +kernel
theorem dX12_place_20 : decode cX12_place 20 = .ok (.aload_n 0, 1) := by decide +kernel
theorem dX12_place_21 : decode cX12_place 21 = .ok (.iconst (-1), 1) := by decide +kernel
theorem dX12_place_22 : decode cX12_place 22 = .ok (.putfield 22, 3) := by decide +kernel
theorem dX12_place_25 : decode cX12_place 25 = .ok (.return_, 1) := by decide +kernel
theorem dX12_left_0 : decode cX12_left 0 = .ok (.aload_n 0, 1) := by decide +kernel
theorem dX12_left_1 : decode cX12_left 1 = .ok (.getfield 26, 3) := by decide +kernel
theorem dX12_left_4 : decode cX12_left 4 = .ok (.bipush 10, 2) := by decide +kernel
theorem dX12_left_6 : decode cX12_left 6 = .ok (.aload_n 0, 1) := by decide +kernel
theorem dX12_left_7 : decode cX12_left 7 = .ok (.getfield 32, 3) := by decide +kernel
theorem dX12_left_10 : decode cX12_left 10 = .ok (.isub, 1) := by decide +kernel
theorem dX12_left_11 : decode cX12_left 11 = .ok (.imul, 1) := by decide +kernel
theorem dX12_left_12 : decode cX12_left 12 = .ok (.ireturn, 1) := by decide +kernel
theorem dX12_value_0 : decode cX12_value 0 = .ok (.aload_n 0, 1) := by decide +kernel
theorem dX12_value_1 : decode cX12_value 1 = .ok (.invokevirtual 42, 3) := by decide +kernel
theorem dX12_value_4 : decode cX12_value 4 = .ok (.bipush 10, 2) := by decide +kernel
theorem dX12_value_6 : decode cX12_value 6 = .ok (.idiv, 1) := by decide +kernel
theorem dX12_value_7 : decode cX12_value 7 = .ok (.ireturn, 1) := by decide +kernel
theorem dL_put_0 : decode cL_put 0 = .ok (.aload_n 1, 1) := by decide +kernel
theorem dL_put_1 : decode cL_put 1 = .ok (.iconst 5, 1) := by decide +kernel
theorem dL_put_2 : decode cL_put 2 = .ok (.iaload, 1) := by decide +kernel
theorem dL_put_3 : decode cL_put 3 = .ok (.istore_n 3, 1) := by decide +kernel
theorem dL_put_4 : decode cL_put 4 = .ok (.aload_n 1, 1) := by decide +kernel
theorem dL_put_5 : decode cL_put 5 = .ok (.iload_n 3, 1) := by decide +kernel
theorem dL_put_6 : decode cL_put 6 = .ok (.iconst 4, 1) := by decide +kernel
theorem dL_put_7 : decode cL_put 7 = .ok (.idiv, 1) := by decide +kernel
theorem dL_put_8 : decode cL_put 8 = .ok (.aload_n 1, 1) := by decide +kernel
theorem dL_put_9 : decode cL_put 9 = .ok (.iload_n 3, 1) := by decide +kernel
theorem dL_put_10 : decode cL_put 10 = .ok (.iconst 4, 1) := by decide +kernel
theorem dL_put_11 : decode cL_put 11 = .ok (.idiv, 1) := by decide +kernel
theorem dL_put_12 : decode cL_put 12 = .ok (.iaload, 1) := by decide +kernel
theorem dL_put_13 : decode cL_put 13 = .ok (.bipush 8, 2) := by decide +kernel
theorem dL_put_15 : decode cL_put 15 = .ok (.ishl, 1) := by decide +kernel
theorem dL_put_16 : decode cL_put 16 = .ok (.iload_n 2, 1) := by decide +kernel
theorem dL_put_17 : decode cL_put 17 = .ok (.ior, 1) := by decide +kernel
theorem dL_put_18 : decode cL_put 18 = .ok (.iastore, 1) := by decide +kernel
theorem dL_put_19 : decode cL_put 19 = .ok (.aload_n 1, 1) := by decide +kernel
theorem dL_put_20 : decode cL_put 20 = .ok (.iconst 5, 1) := by decide +kernel
theorem dL_put_21 : decode cL_put 21 = .ok (.dup2, 1) := by decide +kernel
theorem dL_put_22 : decode cL_put 22 = .ok (.iaload, 1) := by decide +kernel
theorem dL_put_23 : decode cL_put 23 = .ok (.iconst 1, 1) := by decide +kernel
theorem dL_put_24 : decode cL_put 24 = .ok (.iadd, 1) := by decide +kernel
theorem dL_put_25 : decode cL_put 25 = .ok (.iastore, 1) := by decide +kernel
theorem dL_put_26 : decode cL_put 26 = .ok (.aload_n 1, 1) := by decide +kernel
theorem dL_put_27 : decode cL_put 27 = .ok (.bipush 6, 2) := by decide +kernel
theorem dL_put_29 : decode cL_put 29 = .ok (.dup2, 1) := by decide +kernel
theorem dL_put_30 : decode cL_put 30 = .ok (.iaload, 1) := by decide +kernel
theorem dL_put_31 : decode cL_put 31 = .ok (.iconst 1, 1) := by decide +kernel
theorem dL_put_32 : decode cL_put 32 = .ok (.iadd, 1) := by decide +kernel
theorem dL_put_33 : decode cL_put 33 = .ok (.iastore, 1) := by decide +kernel
theorem dL_put_34 : decode cL_put 34 = .ok (.aload_n 1, 1) := by decide +kernel
theorem dL_put_35 : decode cL_put 35 = .ok (.iconst 5, 1) := by decide +kernel
theorem dL_put_36 : decode cL_put 36 = .ok (.iaload, 1) := by decide +kernel
theorem dL_put_37 : decode cL_put 37 = .ok (.bipush 20, 2) := by decide +kernel
theorem dL_put_39 : decode cL_put 39 = .ok (.if_icmp .ne 8, 3) := by decide +kernel
theorem dL_put_42 : decode cL_put 42 = .ok (.aload_n 0, 1) := by decide +kernel
theorem dL_put_43 : decode cL_put 43 = .ok (.aload_n 1, 1) := by decide +kernel
theorem dL_put_44 : decode cL_put 44 = .ok (.invokestatic 7, 3) := by decide +kernel
theorem dL_put_47 : decode cL_put 47 = .ok (.return_, 1) := by decide +kernel
theorem dL_flush_0 : decode cL_flush 0 = .ok (.aload_n 0, 1) := by decide +kernel
theorem dL_flush_1 : decode cL_flush 1 = .ok (.aload_n 1, 1) := by decide +kernel
theorem dL_flush_2 : decode cL_flush 2 = .ok (.iconst 0, 1) := by decide +kernel
theorem dL_flush_3 : decode cL_flush 3 = .ok (.iaload, 1) := by decide +kernel
theorem dL_flush_4 : decode cL_flush 4 = .ok (.aload_n 1, 1) := by decide +kernel
theorem dL_flush_5 : decode cL_flush 5 = .ok (.iconst 1, 1) := by decide +kernel
theorem dL_flush_6 : decode cL_flush 6 = .ok (.iaload, 1) := by decide +kernel
theorem dL_flush_7 : decode cL_flush 7 = .ok (.aload_n 1, 1) := by decide +kernel
theorem dL_flush_8 : decode cL_flush 8 = .ok (.iconst 2, 1) := by decide +kernel
theorem dL_flush_9 : decode cL_flush 9 = .ok (.iaload, 1) := by decide +kernel
theorem dL_flush_10 : decode cL_flush 10 = .ok (.aload_n 1, 1) := by decide +kernel
theorem dL_flush_11 : decode cL_flush 11 = .ok (.iconst 3, 1) := by decide +kernel
theorem dL_flush_12 : decode cL_flush 12 = .ok (.iaload, 1) := by decide +kernel
theorem dL_flush_13 : decode cL_flush 13 = .ok (.aload_n 1, 1) := by decide +kernel
theorem dL_flush_14 : decode cL_flush 14 = .ok (.iconst 4, 1) := by decide +kernel
theorem dL_flush_15 : decode cL_flush 15 = .ok (.iaload, 1) := by decide +kernel
theorem dL_flush_16 : decode cL_flush 16 = .ok (.invokevirtual 13, 3) := by decide +kernel
theorem dL_flush_19 : decode cL_flush 19 = .ok (.istore_n 2, 1) := by decide +kernel
theorem dL_flush_20 : decode cL_flush 20 = .ok (.aload_n 1, 1) := by decide +kernel
theorem dL_flush_21 : decode cL_flush 21 = .ok (.iconst 5, 1) := by decide +kernel
theorem dL_flush_22 : decode cL_flush 22 = .ok (.iconst 0, 1) := by decide +kernel
theorem dL_flush_23 : decode cL_flush 23 = .ok (.iastore, 1) := by decide +kernel
theorem dL_flush_24 : decode cL_flush 24 = .ok (.return_, 1) := by decide +kernel
theorem dL_said_0 : decode cL_said 0 = .ok (.aload_n 1, 1) := by decide +kernel
theorem dL_said_1 : decode cL_said 1 = .ok (.bipush 6, 2) := by decide +kernel
theorem dL_said_3 : decode cL_said 3 = .ok (.iaload, 1) := by decide +kernel
theorem dL_said_4 : decode cL_said 4 = .ok (.istore_n 2, 1) := by decide +kernel
theorem dL_said_5 : decode cL_said 5 = .ok (.aload_n 1, 1) := by decide +kernel
theorem dL_said_6 : decode cL_said 6 = .ok (.iconst 5, 1) := by decide +kernel
theorem dL_said_7 : decode cL_said 7 = .ok (.iaload, 1) := by decide +kernel
theorem dL_said_8 : decode cL_said 8 = .ok (.ifCond .le 13, 3) := by decide +kernel
theorem dL_said_11 : decode cL_said 11 = .ok (.aload_n 0, 1) := by decide +kernel
theorem dL_said_12 : decode cL_said 12 = .ok (.aload_n 1, 1) := by decide +kernel
theorem dL_said_13 : decode cL_said 13 = .ok (.bipush 32, 2) := by decide +kernel
theorem dL_said_15 : decode cL_said 15 = .ok (.invokestatic 21, 3) := by decide +kernel
theorem dL_said_18 : decode cL_said 18 = .ok (.goto (-13), 3) := by decide +kernel
theorem dL_said_21 : decode cL_said 21 = .ok (.aload_n 1, 1) := by decide +kernel
theorem dL_said_22 : decode cL_said 22 = .ok (.bipush 6, 2) := by decide +kernel
theorem dL_said_24 : decode cL_said 24 = .ok (.iconst 0, 1) := by decide +kernel
theorem dL_said_25 : decode cL_said 25 = .ok (.iastore, 1) := by decide +kernel
theorem dL_said_26 : decode cL_said 26 = .ok (.iload_n 2, 1) := by decide +kernel
theorem dL_said_27 : decode cL_said 27 = .ok (.ireturn, 1) := by decide +kernel
theorem dL_cell_0 : decode cL_cell 0 = .ok (.iload_n 1, 1) := by decide +kernel
theorem dL_cell_1 : decode cL_cell 1 = .ok (.aload_n 0, 1) := by decide +kernel
theorem dL_cell_2 : decode cL_cell 2 = .ok (.arraylength, 1) := by decide +kernel
theorem dL_cell_3 : decode cL_cell 3 = .ok (.if_icmp .ge 9, 3) := by decide +kernel
theorem dL_cell_6 : decode cL_cell 6 = .ok (.aload_n 0, 1) := by decide +kernel
theorem dL_cell_7 : decode cL_cell 7 = .ok (.iload_n 1, 1) := by decide +kernel
theorem dL_cell_8 : decode cL_cell 8 = .ok (.iaload, 1) := by decide +kernel
theorem dL_cell_9 : decode cL_cell 9 = .ok (.goto 4, 3) := by decide +kernel
theorem dL_cell_12 : decode cL_cell 12 = .ok (.iconst 0, 1) := by decide +kernel
theorem dL_cell_13 : decode cL_cell 13 = .ok (.ireturn, 1) := by decide +kernel
theorem dL_market_0 : decode cL_market 0 = .ok (.new 25, 3) := by decide +kernel
theorem dL_market_3 : decode cL_market 3 = .ok (.dup, 1) := by decide +kernel
theorem dL_market_4 : decode cL_market 4 = .ok (.invokespecial 27, 3) := by decide +kernel
theorem dL_market_7 : decode cL_market 7 = .ok (.astore_n 1, 1) := by decide +kernel
theorem dL_market_8 : decode cL_market 8 = .ok (.aload_n 0, 1) := by decide +kernel
theorem dL_market_9 : decode cL_market 9 = .ok (.iconst 0, 1) := by decide +kernel
theorem dL_market_10 : decode cL_market 10 = .ok (.invokestatic 28, 3) := by decide +kernel
theorem dL_market_13 : decode cL_market 13 = .ok (.istore_n 2, 1) := by decide +kernel
theorem dL_market_14 : decode cL_market 14 = .ok (.aload_n 1, 1) := by decide +kernel
theorem dL_market_15 : decode cL_market 15 = .ok (.iconst 4, 1) := by decide +kernel
theorem dL_market_16 : decode cL_market 16 = .ok (.iload_n 2, 1) := by decide +kernel
theorem dL_market_17 : decode cL_market 17 = .ok (.iconst 3, 1) := by decide +kernel
theorem dL_market_18 : decode cL_market 18 = .ok (.iand, 1) := by decide +kernel
theorem dL_market_19 : decode cL_market 19 = .ok (.iadd, 1) := by decide +kernel
theorem dL_market_20 : decode cL_market 20 = .ok (.putfield 32, 3) := by decide +kernel
theorem dL_market_23 : decode cL_market 23 = .ok (.aload_n 1, 1) := by decide +kernel
theorem dL_market_24 : decode cL_market 24 = .ok (.iload_n 2, 1) := by decide +kernel
theorem dL_market_25 : decode cL_market 25 = .ok (.iconst 2, 1) := by decide +kernel
theorem dL_market_26 : decode cL_market 26 = .ok (.iushr, 1) := by decide +kernel
theorem dL_market_27 : decode cL_market 27 = .ok (.iconst 3, 1) := by decide +kernel
theorem dL_market_28 : decode cL_market 28 = .ok (.iand, 1) := by decide +kernel
theorem dL_market_29 : decode cL_market 29 = .ok (.putfield 36, 3) := by decide +kernel
theorem dL_market_32 : decode cL_market 32 = .ok (.aload_n 1, 1) := by decide +kernel
theorem dL_market_33 : decode cL_market 33 = .ok (.iload_n 2, 1) := by decide +kernel
theorem dL_market_34 : decode cL_market 34 = .ok (.iconst 4, 1) := by decide +kernel
theorem dL_market_35 : decode cL_market 35 = .ok (.iushr, 1) := by decide +kernel
theorem dL_market_36 : decode cL_market 36 = .ok (.bipush 31, 2) := by decide +kernel
theorem dL_market_38 : decode cL_market 38 = .ok (.iand, 1) := by decide +kernel
theorem dL_market_39 : decode cL_market 39 = .ok (.putfield 39, 3) := by decide +kernel
theorem dL_market_42 : decode cL_market 42 = .ok (.iload_n 2, 1) := by decide +kernel
theorem dL_market_43 : decode cL_market 43 = .ok (.bipush 9, 2) := by decide +kernel
theorem dL_market_45 : decode cL_market 45 = .ok (.iushr, 1) := by decide +kernel
theorem dL_market_46 : decode cL_market 46 = .ok (.iconst 1, 1) := by decide +kernel
theorem dL_market_47 : decode cL_market 47 = .ok (.iand, 1) := by decide +kernel
theorem dL_market_48 : decode cL_market 48 = .ok (.ifCond .ne 18, 3) := by decide +kernel
theorem dL_market_51 : decode cL_market 51 = .ok (.aload_n 1, 1) := by decide +kernel
theorem dL_market_52 : decode cL_market 52 = .ok (.iload_n 2, 1) := by decide +kernel
theorem dL_market_53 : decode cL_market 53 = .ok (.bipush 10, 2) := by decide +kernel
theorem dL_market_55 : decode cL_market 55 = .ok (.iushr, 1) := by decide +kernel
theorem dL_market_56 : decode cL_market 56 = .ok (.iconst 3, 1) := by decide +kernel
theorem dL_market_57 : decode cL_market 57 = .ok (.iand, 1) := by decide +kernel
theorem dL_market_58 : decode cL_market 58 = .ok (.aload_n 1, 1) := by decide +kernel
theorem dL_market_59 : decode cL_market 59 = .ok (.getfield 32, 3) := by decide +kernel
theorem dL_market_62 : decode cL_market 62 = .ok (.irem, 1) := by decide +kernel
theorem dL_market_63 : decode cL_market 63 = .ok (.putfield 42, 3) := by decide +kernel
theorem dL_market_66 : decode cL_market 66 = .ok (.iload_n 2, 1) := by decide +kernel
theorem dL_market_67 : decode cL_market 67 = .ok (.bipush 12, 2) := by decide +kernel
theorem dL_market_69 : decode cL_market 69 = .ok (.iushr, 1) := by decide +kernel
theorem dL_market_70 : decode cL_market 70 = .ok (.iconst 1, 1) := by decide +kernel
theorem dL_market_71 : decode cL_market 71 = .ok (.iand, 1) := by decide +kernel
theorem dL_market_72 : decode cL_market 72 = .ok (.ifCond .ne 29, 3) := by decide +kernel
theorem dL_market_75 : decode cL_market 75 = .ok (.aload_n 1, 1) := by decide +kernel
theorem dL_market_76 : decode cL_market 76 = .ok (.iload_n 2, 1) := by decide +kernel
theorem dL_market_77 : decode cL_market 77 = .ok (.bipush 13, 2) := by decide +kernel
theorem dL_market_79 : decode cL_market 79 = .ok (.iushr, 1) := by decide +kernel
theorem dL_market_80 : decode cL_market 80 = .ok (.iconst 3, 1) := by decide +kernel
theorem dL_market_81 : decode cL_market 81 = .ok (.iand, 1) := by decide +kernel
theorem dL_market_82 : decode cL_market 82 = .ok (.aload_n 1, 1) := by decide +kernel
theorem dL_market_83 : decode cL_market 83 = .ok (.getfield 32, 3) := by decide +kernel
theorem dL_market_86 : decode cL_market 86 = .ok (.irem, 1) := by decide +kernel
theorem dL_market_87 : decode cL_market 87 = .ok (.putfield 45, 3) := by decide +kernel
theorem dL_market_90 : decode cL_market 90 = .ok (.aload_n 1, 1) := by decide +kernel
theorem dL_market_91 : decode cL_market 91 = .ok (.iload_n 2, 1) := by decide +kernel
theorem dL_market_92 : decode cL_market 92 = .ok (.bipush 15, 2) := by decide +kernel
theorem dL_market_94 : decode cL_market 94 = .ok (.iushr, 1) := by decide +kernel
theorem dL_market_95 : decode cL_market 95 = .ok (.bipush 31, 2) := by decide +kernel
theorem dL_market_97 : decode cL_market 97 = .ok (.iand, 1) := by decide +kernel
theorem dL_market_98 : decode cL_market 98 = .ok (.putfield 48, 3) := by decide +kernel
theorem dL_market_101 : decode cL_market 101 = .ok (.iconst 1, 1) := by decide +kernel
theorem dL_market_102 : decode cL_market 102 = .ok (.iload_n 2, 1) := by decide +kernel
theorem dL_market_103 : decode cL_market 103 = .ok (.bipush 20, 2) := by decide +kernel
theorem dL_market_105 : decode cL_market 105 = .ok (.iushr, 1) := by decide +kernel
theorem dL_market_106 : decode cL_market 106 = .ok (.iconst 1, 1) := by decide +kernel
theorem dL_market_107 : decode cL_market 107 = .ok (.iand, 1) := by decide +kernel
theorem dL_market_108 : decode cL_market 108 = .ok (.iadd, 1) := by decide +kernel
theorem dL_market_109 : decode cL_market 109 = .ok (.istore_n 3, 1) := by decide +kernel
theorem dL_market_110 : decode cL_market 110 = .ok (.iconst 0, 1) := by decide +kernel
theorem dL_market_111 : decode cL_market 111 = .ok (.istore 4, 2) := by decide +kernel
theorem dL_market_113 : decode cL_market 113 = .ok (.iload 4, 2) := by decide +kernel
theorem dL_market_115 : decode cL_market 115 = .ok (.iload_n 3, 1) := by decide +kernel
theorem dL_market_116 : decode cL_market 116 = .ok (.if_icmp .ge 77, 3) := by decide +kernel
theorem dL_market_119 : decode cL_market 119 = .ok (.aload_n 0, 1) := by decide +kernel
theorem dL_market_120 : decode cL_market 120 = .ok (.iconst 1, 1) := by decide +kernel
theorem dL_market_121 : decode cL_market 121 = .ok (.iload 4, 2) := by decide +kernel
theorem dL_market_123 : decode cL_market 123 = .ok (.iadd, 1) := by decide +kernel
theorem dL_market_124 : decode cL_market 124 = .ok (.invokestatic 28, 3) := by decide +kernel
theorem dL_market_127 : decode cL_market 127 = .ok (.istore 5, 2) := by decide +kernel
theorem dL_market_129 : decode cL_market 129 = .ok (.aload_n 1, 1) := by decide +kernel
theorem dL_market_130 : decode cL_market 130 = .ok (.getfield 51, 3) := by decide +kernel
theorem dL_market_133 : decode cL_market 133 = .ok (.iconst 4, 1) := by decide +kernel
theorem dL_market_134 : decode cL_market 134 = .ok (.newarray .int, 2) := by decide +kernel
theorem dL_market_136 : decode cL_market 136 = .ok (.dup, 1) := by decide +kernel
theorem dL_market_137 : decode cL_market 137 = .ok (.iconst 0, 1) := by decide +kernel
theorem dL_market_138 : decode cL_market 138 = .ok (.iconst 1, 1) := by decide +kernel
theorem dL_market_139 : decode cL_market 139 = .ok (.iload 5, 2) := by decide +kernel
theorem dL_market_141 : decode cL_market 141 = .ok (.iconst 3, 1) := by decide +kernel
theorem dL_market_142 : decode cL_market 142 = .ok (.iand, 1) := by decide +kernel
theorem dL_market_143 : decode cL_market 143 = .ok (.iadd, 1) := by decide +kernel
theorem dL_market_144 : decode cL_market 144 = .ok (.iastore, 1) := by decide +kernel
theorem dL_market_145 : decode cL_market 145 = .ok (.dup, 1) := by decide +kernel
theorem dL_market_146 : decode cL_market 146 = .ok (.iconst 1, 1) := by decide +kernel
theorem dL_market_147 : decode cL_market 147 = .ok (.iload 5, 2) := by decide +kernel
theorem dL_market_149 : decode cL_market 149 = .ok (.iconst 2, 1) := by decide +kernel
theorem dL_market_150 : decode cL_market 150 = .ok (.iushr, 1) := by decide +kernel
theorem dL_market_151 : decode cL_market 151 = .ok (.bipush 63, 2) := by decide +kernel
theorem dL_market_153 : decode cL_market 153 = .ok (.iand, 1) := by decide +kernel
theorem dL_market_154 : decode cL_market 154 = .ok (.iastore, 1) := by decide +kernel
theorem dL_market_155 : decode cL_market 155 = .ok (.dup, 1) := by decide +kernel
theorem dL_market_156 : decode cL_market 156 = .ok (.iconst 2, 1) := by decide +kernel
theorem dL_market_157 : decode cL_market 157 = .ok (.iload 5, 2) := by decide +kernel
theorem dL_market_159 : decode cL_market 159 = .ok (.bipush 8, 2) := by decide +kernel
theorem dL_market_161 : decode cL_market 161 = .ok (.iushr, 1) := by decide +kernel
theorem dL_market_162 : decode cL_market 162 = .ok (.bipush 63, 2) := by decide +kernel
theorem dL_market_164 : decode cL_market 164 = .ok (.iand, 1) := by decide +kernel
theorem dL_market_165 : decode cL_market 165 = .ok (.bipush 51, 2) := by decide +kernel
theorem dL_market_167 : decode cL_market 167 = .ok (.irem, 1) := by decide +kernel
theorem dL_market_168 : decode cL_market 168 = .ok (.iastore, 1) := by decide +kernel
theorem dL_market_169 : decode cL_market 169 = .ok (.dup, 1) := by decide +kernel
theorem dL_market_170 : decode cL_market 170 = .ok (.iconst 3, 1) := by decide +kernel
theorem dL_market_171 : decode cL_market 171 = .ok (.iload 5, 2) := by decide +kernel
theorem dL_market_173 : decode cL_market 173 = .ok (.bipush 14, 2) := by decide +kernel
theorem dL_market_175 : decode cL_market 175 = .ok (.iushr, 1) := by decide +kernel
theorem dL_market_176 : decode cL_market 176 = .ok (.bipush 127, 2) := by decide +kernel
theorem dL_market_178 : decode cL_market 178 = .ok (.iand, 1) := by decide +kernel
theorem dL_market_179 : decode cL_market 179 = .ok (.bipush 101, 2) := by decide +kernel
theorem dL_market_181 : decode cL_market 181 = .ok (.irem, 1) := by decide +kernel
theorem dL_market_182 : decode cL_market 182 = .ok (.iastore, 1) := by decide +kernel
theorem dL_market_183 : decode cL_market 183 = .ok (.invokevirtual 55, 3) := by decide +kernel
theorem dL_market_186 : decode cL_market 186 = .ok (.pop, 1) := by decide +kernel
theorem dL_market_187 : decode cL_market 187 = .ok (.iinc 4 1, 3) := by decide +kernel
theorem dL_market_190 : decode cL_market 190 = .ok (.goto (-77), 3) := by decide +kernel
theorem dL_market_193 : decode cL_market 193 = .ok (.iconst 0, 1) := by decide +kernel
theorem dL_market_194 : decode cL_market 194 = .ok (.istore 4, 2) := by decide +kernel
theorem dL_market_196 : decode cL_market 196 = .ok (.iload 4, 2) := by decide +kernel
theorem dL_market_198 : decode cL_market 198 = .ok (.iconst 2, 1) := by decide +kernel
theorem dL_market_199 : decode cL_market 199 = .ok (.if_icmp .ge 145, 3) := by decide +kernel
theorem dL_market_202 : decode cL_market 202 = .ok (.aload_n 0, 1) := by decide +kernel
theorem dL_market_203 : decode cL_market 203 = .ok (.iconst 3, 1) := by decide +kernel
theorem dL_market_204 : decode cL_market 204 = .ok (.iload 4, 2) := by decide +kernel
theorem dL_market_206 : decode cL_market 206 = .ok (.iadd, 1) := by decide +kernel
theorem dL_market_207 : decode cL_market 207 = .ok (.invokestatic 28, 3) := by decide +kernel
theorem dL_market_210 : decode cL_market 210 = .ok (.istore 5, 2) := by decide +kernel
theorem dL_market_212 : decode cL_market 212 = .ok (.new 61, 3) := by decide +kernel
theorem dL_market_215 : decode cL_market 215 = .ok (.dup, 1) := by decide +kernel
theorem dL_market_216 : decode cL_market 216 = .ok (.invokespecial 63, 3) := by decide +kernel
theorem dL_market_219 : decode cL_market 219 = .ok (.astore 6, 2) := by decide +kernel
theorem dL_market_221 : decode cL_market 221 = .ok (.aload 6, 2) := by decide +kernel
theorem dL_market_223 : decode cL_market 223 = .ok (.iload 5, 2) := by decide +kernel
theorem dL_market_225 : decode cL_market 225 = .ok (.bipush 127, 2) := by decide +kernel
theorem dL_market_227 : decode cL_market 227 = .ok (.iand, 1) := by decide +kernel
theorem dL_market_228 : decode cL_market 228 = .ok (.putfield 64, 3) := by decide +kernel
theorem dL_market_231 : decode cL_market 231 = .ok (.aload 6, 2) := by decide +kernel
theorem dL_market_233 : decode cL_market 233 = .ok (.iload 5, 2) := by decide +kernel
theorem dL_market_235 : decode cL_market 235 = .ok (.bipush 7, 2) := by decide +kernel
theorem dL_market_237 : decode cL_market 237 = .ok (.iushr, 1) := by decide +kernel
theorem dL_market_238 : decode cL_market 238 = .ok (.bipush 7, 2) := by decide +kernel
theorem dL_market_240 : decode cL_market 240 = .ok (.iand, 1) := by decide +kernel
theorem dL_market_241 : decode cL_market 241 = .ok (.aload_n 1, 1) := by decide +kernel
theorem dL_market_242 : decode cL_market 242 = .ok (.getfield 32, 3) := by decide +kernel
theorem dL_market_245 : decode cL_market 245 = .ok (.irem, 1) := by decide +kernel
theorem dL_market_246 : decode cL_market 246 = .ok (.putfield 67, 3) := by decide +kernel
theorem dL_market_249 : decode cL_market 249 = .ok (.aload 6, 2) := by decide +kernel
theorem dL_market_251 : decode cL_market 251 = .ok (.iload 5, 2) := by decide +kernel
theorem dL_market_253 : decode cL_market 253 = .ok (.bipush 10, 2) := by decide +kernel
theorem dL_market_255 : decode cL_market 255 = .ok (.iushr, 1) := by decide +kernel
theorem dL_market_256 : decode cL_market 256 = .ok (.iconst 3, 1) := by decide +kernel
theorem dL_market_257 : decode cL_market 257 = .ok (.iand, 1) := by decide +kernel
theorem dL_market_258 : decode cL_market 258 = .ok (.putfield 70, 3) := by decide +kernel
theorem dL_market_261 : decode cL_market 261 = .ok (.aload 6, 2) := by decide +kernel
theorem dL_market_263 : decode cL_market 263 = .ok (.iload 5, 2) := by decide +kernel
theorem dL_market_265 : decode cL_market 265 = .ok (.bipush 12, 2) := by decide +kernel
theorem dL_market_267 : decode cL_market 267 = .ok (.iushr, 1) := by decide +kernel
theorem dL_market_268 : decode cL_market 268 = .ok (.iconst 1, 1) := by decide +kernel
theorem dL_market_269 : decode cL_market 269 = .ok (.iand, 1) := by decide +kernel
theorem dL_market_270 : decode cL_market 270 = .ok (.ifCond .ne 7, 3) := by decide +kernel
theorem dL_market_273 : decode cL_market 273 = .ok (.iconst 1, 1) := by decide +kernel
theorem dL_market_274 : decode cL_market 274 = .ok (.goto 4, 3) := by decide +kernel
theorem dL_market_277 : decode cL_market 277 = .ok (.iconst 0, 1) := by decide +kernel
theorem dL_market_278 : decode cL_market 278 = .ok (.putfield 73, 3) := by decide +kernel
theorem dL_market_281 : decode cL_market 281 = .ok (.aload 6, 2) := by decide +kernel
theorem dL_market_283 : decode cL_market 283 = .ok (.iload 5, 2) := by decide +kernel
theorem dL_market_285 : decode cL_market 285 = .ok (.bipush 13, 2) := by decide +kernel
theorem dL_market_287 : decode cL_market 287 = .ok (.iushr, 1) := by decide +kernel
theorem dL_market_288 : decode cL_market 288 = .ok (.iconst 1, 1) := by decide +kernel
theorem dL_market_289 : decode cL_market 289 = .ok (.iand, 1) := by decide +kernel
theorem dL_market_290 : decode cL_market 290 = .ok (.ifCond .ne 7, 3) := by decide +kernel
theorem dL_market_293 : decode cL_market 293 = .ok (.iconst 1, 1) := by decide +kernel
theorem dL_market_294 : decode cL_market 294 = .ok (.goto 4, 3) := by decide +kernel
theorem dL_market_297 : decode cL_market 297 = .ok (.iconst 0, 1) := by decide +kernel
theorem dL_market_298 : decode cL_market 298 = .ok (.putfield 77, 3) := by decide +kernel
theorem dL_market_301 : decode cL_market 301 = .ok (.aload 6, 2) := by decide +kernel
theorem dL_market_303 : decode cL_market 303 = .ok (.iload 5, 2) := by decide +kernel
theorem dL_market_305 : decode cL_market 305 = .ok (.bipush 14, 2) := by decide +kernel
theorem dL_market_307 : decode cL_market 307 = .ok (.iushr, 1) := by decide +kernel
theorem dL_market_308 : decode cL_market 308 = .ok (.iconst 3, 1) := by decide +kernel
theorem dL_market_309 : decode cL_market 309 = .ok (.iand, 1) := by decide +kernel
theorem dL_market_310 : decode cL_market 310 = .ok (.ifCond .ne 7, 3) := by decide +kernel
theorem dL_market_313 : decode cL_market 313 = .ok (.iconst 0, 1) := by decide +kernel
theorem dL_market_314 : decode cL_market 314 = .ok (.goto 11, 3) := by decide +kernel
theorem dL_market_317 : decode cL_market 317 = .ok (.iload 5, 2) := by decide +kernel
theorem dL_market_319 : decode cL_market 319 = .ok (.bipush 16, 2) := by decide +kernel
theorem dL_market_321 : decode cL_market 321 = .ok (.iushr, 1) := by decide +kernel
theorem dL_market_322 : decode cL_market 322 = .ok (.bipush 31, 2) := by decide +kernel
theorem dL_market_324 : decode cL_market 324 = .ok (.iand, 1) := by decide +kernel
theorem dL_market_325 : decode cL_market 325 = .ok (.putfield 80, 3) := by decide +kernel
theorem dL_market_328 : decode cL_market 328 = .ok (.aload_n 1, 1) := by decide +kernel
theorem dL_market_329 : decode cL_market 329 = .ok (.getfield 83, 3) := by decide +kernel
theorem dL_market_332 : decode cL_market 332 = .ok (.aload 6, 2) := by decide +kernel
theorem dL_market_334 : decode cL_market 334 = .ok (.invokevirtual 55, 3) := by decide +kernel
theorem dL_market_337 : decode cL_market 337 = .ok (.pop, 1) := by decide +kernel
theorem dL_market_338 : decode cL_market 338 = .ok (.iinc 4 1, 3) := by decide +kernel
theorem dL_market_341 : decode cL_market 341 = .ok (.goto (-145), 3) := by decide +kernel
theorem dL_market_344 : decode cL_market 344 = .ok (.iconst 0, 1) := by decide +kernel
theorem dL_market_345 : decode cL_market 345 = .ok (.istore 4, 2) := by decide +kernel
theorem dL_market_347 : decode cL_market 347 = .ok (.iload 4, 2) := by decide +kernel
theorem dL_market_349 : decode cL_market 349 = .ok (.iconst 4, 1) := by decide +kernel
theorem dL_market_350 : decode cL_market 350 = .ok (.if_icmp .ge 140, 3) := by decide +kernel
theorem dL_market_353 : decode cL_market 353 = .ok (.aload_n 0, 1) := by decide +kernel
theorem dL_market_354 : decode cL_market 354 = .ok (.iconst 5, 1) := by decide +kernel
theorem dL_market_355 : decode cL_market 355 = .ok (.iload 4, 2) := by decide +kernel
theorem dL_market_357 : decode cL_market 357 = .ok (.iadd, 1) := by decide +kernel
theorem dL_market_358 : decode cL_market 358 = .ok (.invokestatic 28, 3) := by decide +kernel
theorem dL_market_361 : decode cL_market 361 = .ok (.istore 5, 2) := by decide +kernel
theorem dL_market_363 : decode cL_market 363 = .ok (.new 86, 3) := by decide +kernel
theorem dL_market_366 : decode cL_market 366 = .ok (.dup, 1) := by decide +kernel
theorem dL_market_367 : decode cL_market 367 = .ok (.invokespecial 88, 3) := by decide +kernel
theorem dL_market_370 : decode cL_market 370 = .ok (.astore 6, 2) := by decide +kernel
theorem dL_market_372 : decode cL_market 372 = .ok (.aload 6, 2) := by decide +kernel
theorem dL_market_374 : decode cL_market 374 = .ok (.iconst 1, 1) := by decide +kernel
theorem dL_market_375 : decode cL_market 375 = .ok (.iload 5, 2) := by decide +kernel
theorem dL_market_377 : decode cL_market 377 = .ok (.bipush 31, 2) := by decide +kernel
theorem dL_market_379 : decode cL_market 379 = .ok (.iand, 1) := by decide +kernel
theorem dL_market_380 : decode cL_market 380 = .ok (.iadd, 1) := by decide +kernel
theorem dL_market_381 : decode cL_market 381 = .ok (.putfield 89, 3) := by decide +kernel
theorem dL_market_384 : decode cL_market 384 = .ok (.aload 6, 2) := by decide +kernel
theorem dL_market_386 : decode cL_market 386 = .ok (.iload 5, 2) := by decide +kernel
theorem dL_market_388 : decode cL_market 388 = .ok (.iconst 5, 1) := by decide +kernel
theorem dL_market_389 : decode cL_market 389 = .ok (.iushr, 1) := by decide +kernel
theorem dL_market_390 : decode cL_market 390 = .ok (.iconst 3, 1) := by decide +kernel
theorem dL_market_391 : decode cL_market 391 = .ok (.iand, 1) := by decide +kernel
theorem dL_market_392 : decode cL_market 392 = .ok (.putfield 92, 3) := by decide +kernel
theorem dL_market_395 : decode cL_market 395 = .ok (.aload 6, 2) := by decide +kernel
theorem dL_market_397 : decode cL_market 397 = .ok (.iload 5, 2) := by decide +kernel
theorem dL_market_399 : decode cL_market 399 = .ok (.bipush 7, 2) := by decide +kernel
theorem dL_market_401 : decode cL_market 401 = .ok (.iushr, 1) := by decide +kernel
theorem dL_market_402 : decode cL_market 402 = .ok (.bipush 15, 2) := by decide +kernel
theorem dL_market_404 : decode cL_market 404 = .ok (.iand, 1) := by decide +kernel
theorem dL_market_405 : decode cL_market 405 = .ok (.bipush 10, 2) := by decide +kernel
theorem dL_market_407 : decode cL_market 407 = .ok (.irem, 1) := by decide +kernel
theorem dL_market_408 : decode cL_market 408 = .ok (.putfield 95, 3) := by decide +kernel
theorem dL_market_411 : decode cL_market 411 = .ok (.iload 5, 2) := by decide +kernel
theorem dL_market_413 : decode cL_market 413 = .ok (.bipush 11, 2) := by decide +kernel
theorem dL_market_415 : decode cL_market 415 = .ok (.iushr, 1) := by decide +kernel
theorem dL_market_416 : decode cL_market 416 = .ok (.iconst 3, 1) := by decide +kernel
theorem dL_market_417 : decode cL_market 417 = .ok (.iand, 1) := by decide +kernel
theorem dL_market_418 : decode cL_market 418 = .ok (.istore 7, 2) := by decide +kernel
theorem dL_market_420 : decode cL_market 420 = .ok (.iload 7, 2) := by decide +kernel
theorem dL_market_422 : decode cL_market 422 = .ok (.iconst 2, 1) := by decide +kernel
theorem dL_market_423 : decode cL_market 423 = .ok (.if_icmp .ge 42, 3) := by decide +kernel
theorem dL_market_426 : decode cL_market 426 = .ok (.aload_n 1, 1) := by decide +kernel
theorem dL_market_427 : decode cL_market 427 = .ok (.iload 7, 2) := by decide +kernel
theorem dL_market_429 : decode cL_market 429 = .ok (.iload_n 3, 1) := by decide +kernel
theorem dL_market_430 : decode cL_market 430 = .ok (.irem, 1) := by decide +kernel
theorem dL_market_431 : decode cL_market 431 = .ok (.invokevirtual 98, 3) := by decide +kernel
theorem dL_market_434 : decode cL_market 434 = .ok (.aload_n 1, 1) := by decide +kernel
theorem dL_market_435 : decode cL_market 435 = .ok (.getfield 51, 3) := by decide +kernel
theorem dL_market_438 : decode cL_market 438 = .ok (.iload 7, 2) := by decide +kernel
theorem dL_market_440 : decode cL_market 440 = .ok (.iload_n 3, 1) := by decide +kernel
theorem dL_market_441 : decode cL_market 441 = .ok (.irem, 1) := by decide +kernel
theorem dL_market_442 : decode cL_market 442 = .ok (.invokevirtual 102, 3) := by decide +kernel
theorem dL_market_445 : decode cL_market 445 = .ok (.checkcast 106, 3) := by decide +kernel
theorem dL_market_448 : decode cL_market 448 = .ok (.iconst 0, 1) := by decide +kernel
theorem dL_market_449 : decode cL_market 449 = .ok (.iaload, 1) := by decide +kernel
theorem dL_market_450 : decode cL_market 450 = .ok (.if_icmp .ge 15, 3) := by decide +kernel
theorem dL_market_453 : decode cL_market 453 = .ok (.aload 6, 2) := by decide +kernel
theorem dL_market_455 : decode cL_market 455 = .ok (.iload 7, 2) := by decide +kernel
theorem dL_market_457 : decode cL_market 457 = .ok (.iload_n 3, 1) := by decide +kernel
theorem dL_market_458 : decode cL_market 458 = .ok (.irem, 1) := by decide +kernel
theorem dL_market_459 : decode cL_market 459 = .ok (.putfield 108, 3) := by decide +kernel
theorem dL_market_462 : decode cL_market 462 = .ok (.goto 12, 3) := by decide +kernel
theorem dL_market_465 : decode cL_market 465 = .ok (.aload 6, 2) := by decide +kernel
theorem dL_market_467 : decode cL_market 467 = .ok (.iload 7, 2) := by decide +kernel
theorem dL_market_469 : decode cL_market 469 = .ok (.iconst 2, 1) := by decide +kernel
theorem dL_market_470 : decode cL_market 470 = .ok (.irem, 1) := by decide +kernel
theorem dL_market_471 : decode cL_market 471 = .ok (.putfield 111, 3) := by decide +kernel
theorem dL_market_474 : decode cL_market 474 = .ok (.aload_n 1, 1) := by decide +kernel
theorem dL_market_475 : decode cL_market 475 = .ok (.getfield 114, 3) := by decide +kernel
theorem dL_market_478 : decode cL_market 478 = .ok (.aload 6, 2) := by decide +kernel
theorem dL_market_480 : decode cL_market 480 = .ok (.invokevirtual 55, 3) := by decide +kernel
theorem dL_market_483 : decode cL_market 483 = .ok (.pop, 1) := by decide +kernel
theorem dL_market_484 : decode cL_market 484 = .ok (.iinc 4 1, 3) := by decide +kernel
theorem dL_market_487 : decode cL_market 487 = .ok (.goto (-140), 3) := by decide +kernel
theorem dL_market_490 : decode cL_market 490 = .ok (.aload_n 1, 1) := by decide +kernel
theorem dL_market_491 : decode cL_market 491 = .ok (.areturn, 1) := by decide +kernel
theorem dL_text_0 : decode cL_text 0 = .ok (.new 117, 3) := by decide +kernel
theorem dL_text_3 : decode cL_text 3 = .ok (.dup, 1) := by decide +kernel
theorem dL_text_4 : decode cL_text 4 = .ok (.ldc 119, 2) := by decide +kernel
theorem dL_text_6 : decode cL_text 6 = .ok (.invokespecial 121, 3) := by decide +kernel
theorem dL_text_9 : decode cL_text 9 = .ok (.aload_n 0, 1) := by decide +kernel
theorem dL_text_10 : decode cL_text 10 = .ok (.getfield 32, 3) := by decide +kernel
theorem dL_text_13 : decode cL_text 13 = .ok (.invokevirtual 124, 3) := by decide +kernel
theorem dL_text_16 : decode cL_text 16 = .ok (.ldc 127, 2) := by decide +kernel
theorem dL_text_18 : decode cL_text 18 = .ok (.invokevirtual 129, 3) := by decide +kernel
theorem dL_text_21 : decode cL_text 21 = .ok (.aload_n 0, 1) := by decide +kernel
theorem dL_text_22 : decode cL_text 22 = .ok (.getfield 36, 3) := by decide +kernel
theorem dL_text_25 : decode cL_text 25 = .ok (.invokevirtual 124, 3) := by decide +kernel
theorem dL_text_28 : decode cL_text 28 = .ok (.ldc 132, 2) := by decide +kernel
theorem dL_text_30 : decode cL_text 30 = .ok (.invokevirtual 129, 3) := by decide +kernel
theorem dL_text_33 : decode cL_text 33 = .ok (.aload_n 0, 1) := by decide +kernel
theorem dL_text_34 : decode cL_text 34 = .ok (.getfield 39, 3) := by decide +kernel
theorem dL_text_37 : decode cL_text 37 = .ok (.invokevirtual 124, 3) := by decide +kernel
theorem dL_text_40 : decode cL_text 40 = .ok (.astore_n 2, 1) := by decide +kernel
theorem dL_text_41 : decode cL_text 41 = .ok (.aload_n 0, 1) := by decide +kernel
theorem dL_text_42 : decode cL_text 42 = .ok (.getfield 42, 3) := by decide +kernel
theorem dL_text_45 : decode cL_text 45 = .ok (.ifCond .lt 17, 3) := by decide +kernel
theorem dL_text_48 : decode cL_text 48 = .ok (.aload_n 2, 1) := by decide +kernel
theorem dL_text_49 : decode cL_text 49 = .ok (.ldc 134, 2) := by decide +kernel
theorem dL_text_51 : decode cL_text 51 = .ok (.invokevirtual 129, 3) := by decide +kernel
theorem dL_text_54 : decode cL_text 54 = .ok (.aload_n 0, 1) := by decide +kernel
theorem dL_text_55 : decode cL_text 55 = .ok (.getfield 42, 3) := by decide +kernel
theorem dL_text_58 : decode cL_text 58 = .ok (.invokevirtual 124, 3) := by decide +kernel
theorem dL_text_61 : decode cL_text 61 = .ok (.pop, 1) := by decide +kernel
theorem dL_text_62 : decode cL_text 62 = .ok (.aload_n 0, 1) := by decide +kernel
theorem dL_text_63 : decode cL_text 63 = .ok (.getfield 45, 3) := by decide +kernel
theorem dL_text_66 : decode cL_text 66 = .ok (.ifCond .lt 29, 3) := by decide +kernel
theorem dL_text_69 : decode cL_text 69 = .ok (.aload_n 2, 1) := by decide +kernel
theorem dL_text_70 : decode cL_text 70 = .ok (.ldc 136, 2) := by decide +kernel
theorem dL_text_72 : decode cL_text 72 = .ok (.invokevirtual 129, 3) := by decide +kernel
theorem dL_text_75 : decode cL_text 75 = .ok (.aload_n 0, 1) := by decide +kernel
theorem dL_text_76 : decode cL_text 76 = .ok (.getfield 45, 3) := by decide +kernel
theorem dL_text_79 : decode cL_text 79 = .ok (.invokevirtual 124, 3) := by decide +kernel
theorem dL_text_82 : decode cL_text 82 = .ok (.bipush 32, 2) := by decide +kernel
theorem dL_text_84 : decode cL_text 84 = .ok (.invokevirtual 138, 3) := by decide +kernel
theorem dL_text_87 : decode cL_text 87 = .ok (.aload_n 0, 1) := by decide +kernel
theorem dL_text_88 : decode cL_text 88 = .ok (.getfield 48, 3) := by decide +kernel
theorem dL_text_91 : decode cL_text 91 = .ok (.invokevirtual 124, 3) := by decide +kernel
theorem dL_text_94 : decode cL_text 94 = .ok (.pop, 1) := by decide +kernel
theorem dL_text_95 : decode cL_text 95 = .ok (.iconst 0, 1) := by decide +kernel
theorem dL_text_96 : decode cL_text 96 = .ok (.istore_n 3, 1) := by decide +kernel
theorem dL_text_97 : decode cL_text 97 = .ok (.iload_n 3, 1) := by decide +kernel
theorem dL_text_98 : decode cL_text 98 = .ok (.aload_n 0, 1) := by decide +kernel
theorem dL_text_99 : decode cL_text 99 = .ok (.getfield 51, 3) := by decide +kernel
theorem dL_text_102 : decode cL_text 102 = .ok (.invokevirtual 141, 3) := by decide +kernel
theorem dL_text_105 : decode cL_text 105 = .ok (.if_icmp .ge 72, 3) := by decide +kernel
theorem dL_text_108 : decode cL_text 108 = .ok (.aload_n 0, 1) := by decide +kernel
theorem dL_text_109 : decode cL_text 109 = .ok (.getfield 51, 3) := by decide +kernel
theorem dL_text_112 : decode cL_text 112 = .ok (.iload_n 3, 1) := by decide +kernel
theorem dL_text_113 : decode cL_text 113 = .ok (.invokevirtual 102, 3) := by decide +kernel
theorem dL_text_116 : decode cL_text 116 = .ok (.checkcast 106, 3) := by decide +kernel
theorem dL_text_119 : decode cL_text 119 = .ok (.astore 4, 2) := by decide +kernel
theorem dL_text_121 : decode cL_text 121 = .ok (.aload_n 2, 1) := by decide +kernel
theorem dL_text_122 : decode cL_text 122 = .ok (.ldc 145, 2) := by decide +kernel
theorem dL_text_124 : decode cL_text 124 = .ok (.invokevirtual 129, 3) := by decide +kernel
theorem dL_text_127 : decode cL_text 127 = .ok (.aload 4, 2) := by decide +kernel
theorem dL_text_129 : decode cL_text 129 = .ok (.iconst 0, 1) := by decide +kernel
theorem dL_text_130 : decode cL_text 130 = .ok (.iaload, 1) := by decide +kernel
theorem dL_text_131 : decode cL_text 131 = .ok (.invokevirtual 124, 3) := by decide +kernel
theorem dL_text_134 : decode cL_text 134 = .ok (.bipush 32, 2) := by decide +kernel
theorem dL_text_136 : decode cL_text 136 = .ok (.invokevirtual 138, 3) := by decide +kernel
theorem dL_text_139 : decode cL_text 139 = .ok (.aload 4, 2) := by decide +kernel
theorem dL_text_141 : decode cL_text 141 = .ok (.iconst 1, 1) := by decide +kernel
theorem dL_text_142 : decode cL_text 142 = .ok (.iaload, 1) := by decide +kernel
theorem dL_text_143 : decode cL_text 143 = .ok (.invokevirtual 124, 3) := by decide +kernel
theorem dL_text_146 : decode cL_text 146 = .ok (.bipush 32, 2) := by decide +kernel
theorem dL_text_148 : decode cL_text 148 = .ok (.invokevirtual 138, 3) := by decide +kernel
theorem dL_text_151 : decode cL_text 151 = .ok (.aload 4, 2) := by decide +kernel
theorem dL_text_153 : decode cL_text 153 = .ok (.iconst 2, 1) := by decide +kernel
theorem dL_text_154 : decode cL_text 154 = .ok (.iaload, 1) := by decide +kernel
theorem dL_text_155 : decode cL_text 155 = .ok (.invokevirtual 124, 3) := by decide +kernel
theorem dL_text_158 : decode cL_text 158 = .ok (.bipush 32, 2) := by decide +kernel
theorem dL_text_160 : decode cL_text 160 = .ok (.invokevirtual 138, 3) := by decide +kernel
theorem dL_text_163 : decode cL_text 163 = .ok (.aload 4, 2) := by decide +kernel
theorem dL_text_165 : decode cL_text 165 = .ok (.iconst 3, 1) := by decide +kernel
theorem dL_text_166 : decode cL_text 166 = .ok (.iaload, 1) := by decide +kernel
theorem dL_text_167 : decode cL_text 167 = .ok (.invokevirtual 124, 3) := by decide +kernel
theorem dL_text_170 : decode cL_text 170 = .ok (.pop, 1) := by decide +kernel
theorem dL_text_171 : decode cL_text 171 = .ok (.iinc 3 1, 3) := by decide +kernel
theorem dL_text_174 : decode cL_text 174 = .ok (.goto (-77), 3) := by decide +kernel
theorem dL_text_177 : decode cL_text 177 = .ok (.iconst 0, 1) := by decide +kernel
theorem dL_text_178 : decode cL_text 178 = .ok (.istore_n 3, 1) := by decide +kernel
theorem dL_text_179 : decode cL_text 179 = .ok (.iload_n 3, 1) := by decide +kernel
theorem dL_text_180 : decode cL_text 180 = .ok (.aload_n 0, 1) := by decide +kernel
theorem dL_text_181 : decode cL_text 181 = .ok (.getfield 83, 3) := by decide +kernel
theorem dL_text_184 : decode cL_text 184 = .ok (.invokevirtual 141, 3) := by decide +kernel
theorem dL_text_187 : decode cL_text 187 = .ok (.if_icmp .ge 140, 3) := by decide +kernel
theorem dL_text_190 : decode cL_text 190 = .ok (.aload_n 0, 1) := by decide +kernel
theorem dL_text_191 : decode cL_text 191 = .ok (.getfield 83, 3) := by decide +kernel
theorem dL_text_194 : decode cL_text 194 = .ok (.iload_n 3, 1) := by decide +kernel
theorem dL_text_195 : decode cL_text 195 = .ok (.invokevirtual 102, 3) := by decide +kernel
theorem dL_text_198 : decode cL_text 198 = .ok (.checkcast 61, 3) := by decide +kernel
theorem dL_text_201 : decode cL_text 201 = .ok (.astore 4, 2) := by decide +kernel
theorem dL_text_203 : decode cL_text 203 = .ok (.aload_n 2, 1) := by decide +kernel
theorem dL_text_204 : decode cL_text 204 = .ok (.ldc 147, 2) := by decide +kernel
theorem dL_text_206 : decode cL_text 206 = .ok (.invokevirtual 129, 3) := by decide +kernel
theorem dL_text_209 : decode cL_text 209 = .ok (.iload_n 3, 1) := by decide +kernel
theorem dL_text_210 : decode cL_text 210 = .ok (.ifCond .ne 8, 3) := by decide +kernel
theorem dL_text_213 : decode cL_text 213 = .ok (.ldc 149, 2) := by decide +kernel
theorem dL_text_215 : decode cL_text 215 = .ok (.goto 5, 3) := by decide +kernel
theorem dL_text_218 : decode cL_text 218 = .ok (.ldc 151, 2) := by decide +kernel
theorem dL_text_220 : decode cL_text 220 = .ok (.invokevirtual 129, 3) := by decide +kernel
theorem dL_text_223 : decode cL_text 223 = .ok (.bipush 32, 2) := by decide +kernel
theorem dL_text_225 : decode cL_text 225 = .ok (.invokevirtual 138, 3) := by decide +kernel
theorem dL_text_228 : decode cL_text 228 = .ok (.aload 4, 2) := by decide +kernel
theorem dL_text_230 : decode cL_text 230 = .ok (.getfield 64, 3) := by decide +kernel
theorem dL_text_233 : decode cL_text 233 = .ok (.invokevirtual 124, 3) := by decide +kernel
theorem dL_text_236 : decode cL_text 236 = .ok (.bipush 32, 2) := by decide +kernel
theorem dL_text_238 : decode cL_text 238 = .ok (.invokevirtual 138, 3) := by decide +kernel
theorem dL_text_241 : decode cL_text 241 = .ok (.aload 4, 2) := by decide +kernel
theorem dL_text_243 : decode cL_text 243 = .ok (.getfield 67, 3) := by decide +kernel
theorem dL_text_246 : decode cL_text 246 = .ok (.invokevirtual 124, 3) := by decide +kernel
theorem dL_text_249 : decode cL_text 249 = .ok (.bipush 32, 2) := by decide +kernel
theorem dL_text_251 : decode cL_text 251 = .ok (.invokevirtual 138, 3) := by decide +kernel
theorem dL_text_254 : decode cL_text 254 = .ok (.aload 4, 2) := by decide +kernel
theorem dL_text_256 : decode cL_text 256 = .ok (.getfield 70, 3) := by decide +kernel
theorem dL_text_259 : decode cL_text 259 = .ok (.invokevirtual 124, 3) := by decide +kernel
theorem dL_text_262 : decode cL_text 262 = .ok (.aload 4, 2) := by decide +kernel
theorem dL_text_264 : decode cL_text 264 = .ok (.getfield 73, 3) := by decide +kernel
theorem dL_text_267 : decode cL_text 267 = .ok (.ifCond .eq 8, 3) := by decide +kernel
theorem dL_text_270 : decode cL_text 270 = .ok (.ldc 153, 2) := by decide +kernel
theorem dL_text_272 : decode cL_text 272 = .ok (.goto 5, 3) := by decide +kernel
theorem dL_text_275 : decode cL_text 275 = .ok (.ldc 155, 2) := by decide +kernel
theorem dL_text_277 : decode cL_text 277 = .ok (.invokevirtual 129, 3) := by decide +kernel
theorem dL_text_280 : decode cL_text 280 = .ok (.aload 4, 2) := by decide +kernel
theorem dL_text_282 : decode cL_text 282 = .ok (.getfield 77, 3) := by decide +kernel
theorem dL_text_285 : decode cL_text 285 = .ok (.ifCond .eq 8, 3) := by decide +kernel
theorem dL_text_288 : decode cL_text 288 = .ok (.ldc 157, 2) := by decide +kernel
theorem dL_text_290 : decode cL_text 290 = .ok (.goto 5, 3) := by decide +kernel
theorem dL_text_293 : decode cL_text 293 = .ok (.ldc 155, 2) := by decide +kernel
theorem dL_text_295 : decode cL_text 295 = .ok (.invokevirtual 129, 3) := by decide +kernel
theorem dL_text_298 : decode cL_text 298 = .ok (.ldc 159, 2) := by decide +kernel
theorem dL_text_300 : decode cL_text 300 = .ok (.invokevirtual 129, 3) := by decide +kernel
theorem dL_text_303 : decode cL_text 303 = .ok (.iload_n 3, 1) := by decide +kernel
theorem dL_text_304 : decode cL_text 304 = .ok (.invokevirtual 124, 3) := by decide +kernel
theorem dL_text_307 : decode cL_text 307 = .ok (.bipush 32, 2) := by decide +kernel
theorem dL_text_309 : decode cL_text 309 = .ok (.invokevirtual 138, 3) := by decide +kernel
theorem dL_text_312 : decode cL_text 312 = .ok (.aload 4, 2) := by decide +kernel
theorem dL_text_314 : decode cL_text 314 = .ok (.getfield 80, 3) := by decide +kernel
theorem dL_text_317 : decode cL_text 317 = .ok (.invokevirtual 124, 3) := by decide +kernel
theorem dL_text_320 : decode cL_text 320 = .ok (.pop, 1) := by decide +kernel
theorem dL_text_321 : decode cL_text 321 = .ok (.iinc 3 1, 3) := by decide +kernel
theorem dL_text_324 : decode cL_text 324 = .ok (.goto (-145), 3) := by decide +kernel
theorem dL_text_327 : decode cL_text 327 = .ok (.iconst 0, 1) := by decide +kernel
theorem dL_text_328 : decode cL_text 328 = .ok (.istore_n 3, 1) := by decide +kernel
theorem dL_text_329 : decode cL_text 329 = .ok (.iload_n 3, 1) := by decide +kernel
theorem dL_text_330 : decode cL_text 330 = .ok (.aload_n 0, 1) := by decide +kernel
theorem dL_text_331 : decode cL_text 331 = .ok (.getfield 114, 3) := by decide +kernel
theorem dL_text_334 : decode cL_text 334 = .ok (.invokevirtual 141, 3) := by decide +kernel
theorem dL_text_337 : decode cL_text 337 = .ok (.if_icmp .ge 127, 3) := by decide +kernel
theorem dL_text_340 : decode cL_text 340 = .ok (.aload_n 0, 1) := by decide +kernel
theorem dL_text_341 : decode cL_text 341 = .ok (.getfield 114, 3) := by decide +kernel
theorem dL_text_344 : decode cL_text 344 = .ok (.iload_n 3, 1) := by decide +kernel
theorem dL_text_345 : decode cL_text 345 = .ok (.invokevirtual 102, 3) := by decide +kernel
theorem dL_text_348 : decode cL_text 348 = .ok (.checkcast 86, 3) := by decide +kernel
theorem dL_text_351 : decode cL_text 351 = .ok (.astore 4, 2) := by decide +kernel
theorem dL_text_353 : decode cL_text 353 = .ok (.aload_n 2, 1) := by decide +kernel
theorem dL_text_354 : decode cL_text 354 = .ok (.ldc 161, 2) := by decide +kernel
theorem dL_text_356 : decode cL_text 356 = .ok (.invokevirtual 129, 3) := by decide +kernel
theorem dL_text_359 : decode cL_text 359 = .ok (.bipush 112, 2) := by decide +kernel
theorem dL_text_361 : decode cL_text 361 = .ok (.iload_n 3, 1) := by decide +kernel
theorem dL_text_362 : decode cL_text 362 = .ok (.iadd, 1) := by decide +kernel
theorem dL_text_363 : decode cL_text 363 = .ok (.i2c, 1) := by decide +kernel
theorem dL_text_364 : decode cL_text 364 = .ok (.invokevirtual 138, 3) := by decide +kernel
theorem dL_text_367 : decode cL_text 367 = .ok (.bipush 32, 2) := by decide +kernel
theorem dL_text_369 : decode cL_text 369 = .ok (.invokevirtual 138, 3) := by decide +kernel
theorem dL_text_372 : decode cL_text 372 = .ok (.aload 4, 2) := by decide +kernel
theorem dL_text_374 : decode cL_text 374 = .ok (.getfield 89, 3) := by decide +kernel
theorem dL_text_377 : decode cL_text 377 = .ok (.invokevirtual 124, 3) := by decide +kernel
theorem dL_text_380 : decode cL_text 380 = .ok (.bipush 32, 2) := by decide +kernel
theorem dL_text_382 : decode cL_text 382 = .ok (.invokevirtual 138, 3) := by decide +kernel
theorem dL_text_385 : decode cL_text 385 = .ok (.aload 4, 2) := by decide +kernel
theorem dL_text_387 : decode cL_text 387 = .ok (.getfield 92, 3) := by decide +kernel
theorem dL_text_390 : decode cL_text 390 = .ok (.invokevirtual 124, 3) := by decide +kernel
theorem dL_text_393 : decode cL_text 393 = .ok (.pop, 1) := by decide +kernel
theorem dL_text_394 : decode cL_text 394 = .ok (.aload 4, 2) := by decide +kernel
theorem dL_text_396 : decode cL_text 396 = .ok (.getfield 108, 3) := by decide +kernel
theorem dL_text_399 : decode cL_text 399 = .ok (.ifCond .lt 21, 3) := by decide +kernel
theorem dL_text_402 : decode cL_text 402 = .ok (.aload_n 2, 1) := by decide +kernel
theorem dL_text_403 : decode cL_text 403 = .ok (.ldc 163, 2) := by decide +kernel
theorem dL_text_405 : decode cL_text 405 = .ok (.invokevirtual 129, 3) := by decide +kernel
theorem dL_text_408 : decode cL_text 408 = .ok (.aload 4, 2) := by decide +kernel
theorem dL_text_410 : decode cL_text 410 = .ok (.getfield 108, 3) := by decide +kernel
theorem dL_text_413 : decode cL_text 413 = .ok (.invokevirtual 124, 3) := by decide +kernel
theorem dL_text_416 : decode cL_text 416 = .ok (.pop, 1) := by decide +kernel
theorem dL_text_417 : decode cL_text 417 = .ok (.goto 18, 3) := by decide +kernel
theorem dL_text_420 : decode cL_text 420 = .ok (.aload_n 2, 1) := by decide +kernel
theorem dL_text_421 : decode cL_text 421 = .ok (.ldc 165, 2) := by decide +kernel
theorem dL_text_423 : decode cL_text 423 = .ok (.invokevirtual 129, 3) := by decide +kernel
theorem dL_text_426 : decode cL_text 426 = .ok (.aload 4, 2) := by decide +kernel
theorem dL_text_428 : decode cL_text 428 = .ok (.getfield 111, 3) := by decide +kernel
theorem dL_text_431 : decode cL_text 431 = .ok (.invokevirtual 124, 3) := by decide +kernel
theorem dL_text_434 : decode cL_text 434 = .ok (.pop, 1) := by decide +kernel
theorem dL_text_435 : decode cL_text 435 = .ok (.aload 4, 2) := by decide +kernel
theorem dL_text_437 : decode cL_text 437 = .ok (.getfield 95, 3) := by decide +kernel
theorem dL_text_440 : decode cL_text 440 = .ok (.ifCond .le 18, 3) := by decide +kernel
theorem dL_text_443 : decode cL_text 443 = .ok (.aload_n 2, 1) := by decide +kernel
theorem dL_text_444 : decode cL_text 444 = .ok (.ldc 167, 2) := by decide +kernel
theorem dL_text_446 : decode cL_text 446 = .ok (.invokevirtual 129, 3) := by decide +kernel
theorem dL_text_449 : decode cL_text 449 = .ok (.aload 4, 2) := by decide +kernel
theorem dL_text_451 : decode cL_text 451 = .ok (.getfield 95, 3) := by decide +kernel
theorem dL_text_454 : decode cL_text 454 = .ok (.invokevirtual 124, 3) := by decide +kernel
theorem dL_text_457 : decode cL_text 457 = .ok (.pop, 1) := by decide +kernel
theorem dL_text_458 : decode cL_text 458 = .ok (.iinc 3 1, 3) := by decide +kernel
theorem dL_text_461 : decode cL_text 461 = .ok (.goto (-132), 3) := by decide +kernel
theorem dL_text_464 : decode cL_text 464 = .ok (.iload_n 1, 1) := by decide +kernel
theorem dL_text_465 : decode cL_text 465 = .ok (.iconst 1, 1) := by decide +kernel
theorem dL_text_466 : decode cL_text 466 = .ok (.iand, 1) := by decide +kernel
theorem dL_text_467 : decode cL_text 467 = .ok (.ifCond .ne 16, 3) := by decide +kernel
theorem dL_text_470 : decode cL_text 470 = .ok (.aload_n 2, 1) := by decide +kernel
theorem dL_text_471 : decode cL_text 471 = .ok (.ldc 169, 2) := by decide +kernel
theorem dL_text_473 : decode cL_text 473 = .ok (.invokevirtual 129, 3) := by decide +kernel
theorem dL_text_476 : decode cL_text 476 = .ok (.pop, 1) := by decide +kernel
theorem dL_text_477 : decode cL_text 477 = .ok (.aload_n 0, 1) := by decide +kernel
theorem dL_text_478 : decode cL_text 478 = .ok (.iconst 2, 1) := by decide +kernel
theorem dL_text_479 : decode cL_text 479 = .ok (.invokevirtual 171, 3) := by decide +kernel
theorem dL_text_482 : decode cL_text 482 = .ok (.istore_n 3, 1) := by decide +kernel
theorem dL_text_483 : decode cL_text 483 = .ok (.aload_n 2, 1) := by decide +kernel
theorem dL_text_484 : decode cL_text 484 = .ok (.invokevirtual 174, 3) := by decide +kernel
theorem dL_text_487 : decode cL_text 487 = .ok (.areturn, 1) := by decide +kernel
theorem dL_told_0 : decode cL_told 0 = .ok (.iconst 0, 1) := by decide +kernel
theorem dL_told_1 : decode cL_told 1 = .ok (.istore_n 3, 1) := by decide +kernel
theorem dL_told_2 : decode cL_told 2 = .ok (.iload_n 3, 1) := by decide +kernel
theorem dL_told_3 : decode cL_told 3 = .ok (.aload_n 2, 1) := by decide +kernel
theorem dL_told_4 : decode cL_told 4 = .ok (.invokeinterface 178 1, 5) := by decide +kernel
theorem dL_told_9 : decode cL_told 9 = .ok (.if_icmp .ge 21, 3) := by decide +kernel
theorem dL_told_12 : decode cL_told 12 = .ok (.aload_n 0, 1) := by decide +kernel
theorem dL_told_13 : decode cL_told 13 = .ok (.aload_n 1, 1) := by decide +kernel
theorem dL_told_14 : decode cL_told 14 = .ok (.aload_n 2, 1) := by decide +kernel
theorem dL_told_15 : decode cL_told 15 = .ok (.iload_n 3, 1) := by decide +kernel
theorem dL_told_16 : decode cL_told 16 = .ok (.invokeinterface 183 2, 5) := by decide +kernel
theorem dL_told_21 : decode cL_told 21 = .ok (.invokestatic 21, 3) := by decide +kernel
theorem dL_told_24 : decode cL_told 24 = .ok (.iinc 3 1, 3) := by decide +kernel
theorem dL_told_27 : decode cL_told 27 = .ok (.goto (-25), 3) := by decide +kernel
theorem dL_told_30 : decode cL_told 30 = .ok (.aload_n 0, 1) := by decide +kernel
theorem dL_told_31 : decode cL_told 31 = .ok (.aload_n 1, 1) := by decide +kernel
theorem dL_told_32 : decode cL_told 32 = .ok (.invokestatic 187, 3) := by decide +kernel
theorem dL_told_35 : decode cL_told 35 = .ok (.ireturn, 1) := by decide +kernel
theorem dL_all_0 : decode cL_all 0 = .ok (.iconst 0, 1) := by decide +kernel
theorem dL_all_1 : decode cL_all 1 = .ok (.istore_n 1, 1) := by decide +kernel
theorem dL_all_2 : decode cL_all 2 = .ok (.iconst 0, 1) := by decide +kernel
theorem dL_all_3 : decode cL_all 3 = .ok (.istore_n 2, 1) := by decide +kernel
theorem dL_all_4 : decode cL_all 4 = .ok (.iload_n 2, 1) := by decide +kernel
theorem dL_all_5 : decode cL_all 5 = .ok (.aload_n 0, 1) := by decide +kernel
theorem dL_all_6 : decode cL_all 6 = .ok (.invokevirtual 368, 3) := by decide +kernel
theorem dL_all_9 : decode cL_all 9 = .ok (.if_icmp .ge 17, 3) := by decide +kernel
theorem dL_all_12 : decode cL_all 12 = .ok (.iload_n 1, 1) := by decide +kernel
theorem dL_all_13 : decode cL_all 13 = .ok (.aload_n 0, 1) := by decide +kernel
theorem dL_all_14 : decode cL_all 14 = .ok (.iload_n 2, 1) := by decide +kernel
theorem dL_all_15 : decode cL_all 15 = .ok (.invokevirtual 225, 3) := by decide +kernel
theorem dL_all_18 : decode cL_all 18 = .ok (.iadd, 1) := by decide +kernel
theorem dL_all_19 : decode cL_all 19 = .ok (.istore_n 1, 1) := by decide +kernel
theorem dL_all_20 : decode cL_all 20 = .ok (.iinc 2 1, 3) := by decide +kernel
theorem dL_all_23 : decode cL_all 23 = .ok (.goto (-19), 3) := by decide +kernel
theorem dL_all_26 : decode cL_all 26 = .ok (.iconst 0, 1) := by decide +kernel
theorem dL_all_27 : decode cL_all 27 = .ok (.istore_n 2, 1) := by decide +kernel
theorem dL_all_28 : decode cL_all 28 = .ok (.iload_n 2, 1) := by decide +kernel
theorem dL_all_29 : decode cL_all 29 = .ok (.aload_n 0, 1) := by decide +kernel
theorem dL_all_30 : decode cL_all 30 = .ok (.invokevirtual 291, 3) := by decide +kernel
theorem dL_all_33 : decode cL_all 33 = .ok (.if_icmp .ge 17, 3) := by decide +kernel
theorem dL_all_36 : decode cL_all 36 = .ok (.iload_n 1, 1) := by decide +kernel
theorem dL_all_37 : decode cL_all 37 = .ok (.aload_n 0, 1) := by decide +kernel
theorem dL_all_38 : decode cL_all 38 = .ok (.iload_n 2, 1) := by decide +kernel
theorem dL_all_39 : decode cL_all 39 = .ok (.invokevirtual 244, 3) := by decide +kernel
theorem dL_all_42 : decode cL_all 42 = .ok (.iadd, 1) := by decide +kernel
theorem dL_all_43 : decode cL_all 43 = .ok (.istore_n 1, 1) := by decide +kernel
theorem dL_all_44 : decode cL_all 44 = .ok (.iinc 2 1, 3) := by decide +kernel
theorem dL_all_47 : decode cL_all 47 = .ok (.goto (-19), 3) := by decide +kernel
theorem dL_all_50 : decode cL_all 50 = .ok (.iload_n 1, 1) := by decide +kernel
theorem dL_all_51 : decode cL_all 51 = .ok (.ireturn, 1) := by decide +kernel
theorem dL_sees_0 : decode cL_sees 0 = .ok (.aload_n 1, 1) := by decide +kernel
theorem dL_sees_1 : decode cL_sees 1 = .ok (.lconst 0, 1) := by decide +kernel
theorem dL_sees_2 : decode cL_sees 2 = .ok (.invokestatic 371, 3) := by decide +kernel
theorem dL_sees_5 : decode cL_sees 5 = .ok (.aload_n 1, 1) := by decide +kernel
theorem dL_sees_6 : decode cL_sees 6 = .ok (.iconst 0, 1) := by decide +kernel
theorem dL_sees_7 : decode cL_sees 7 = .ok (.aload_n 0, 1) := by decide +kernel
theorem dL_sees_8 : decode cL_sees 8 = .ok (.invokevirtual 256, 3) := by decide +kernel
theorem dL_sees_11 : decode cL_sees 11 = .ok (.i2l, 1) := by decide +kernel
theorem dL_sees_12 : decode cL_sees 12 = .ok (.lastore, 1) := by decide +kernel
theorem dL_sees_13 : decode cL_sees 13 = .ok (.aload_n 1, 1) := by decide +kernel
theorem dL_sees_14 : decode cL_sees 14 = .ok (.iconst 1, 1) := by decide +kernel
theorem dL_sees_15 : decode cL_sees 15 = .ok (.aload_n 0, 1) := by decide +kernel
theorem dL_sees_16 : decode cL_sees 16 = .ok (.invokevirtual 265, 3) := by decide +kernel
theorem dL_sees_19 : decode cL_sees 19 = .ok (.i2l, 1) := by decide +kernel
theorem dL_sees_20 : decode cL_sees 20 = .ok (.lastore, 1) := by decide +kernel
theorem dL_sees_21 : decode cL_sees 21 = .ok (.aload_n 1, 1) := by decide +kernel
theorem dL_sees_22 : decode cL_sees 22 = .ok (.iconst 2, 1) := by decide +kernel
theorem dL_sees_23 : decode cL_sees 23 = .ok (.aload_n 0, 1) := by decide +kernel
theorem dL_sees_24 : decode cL_sees 24 = .ok (.invokevirtual 262, 3) := by decide +kernel
theorem dL_sees_27 : decode cL_sees 27 = .ok (.i2l, 1) := by decide +kernel
theorem dL_sees_28 : decode cL_sees 28 = .ok (.lastore, 1) := by decide +kernel
theorem dL_sees_29 : decode cL_sees 29 = .ok (.iconst 0, 1) := by decide +kernel
theorem dL_sees_30 : decode cL_sees 30 = .ok (.istore_n 2, 1) := by decide +kernel
theorem dL_sees_31 : decode cL_sees 31 = .ok (.iload_n 2, 1) := by decide +kernel
theorem dL_sees_32 : decode cL_sees 32 = .ok (.iconst 4, 1) := by decide +kernel
theorem dL_sees_33 : decode cL_sees 33 = .ok (.if_icmp .ge 61, 3) := by decide +kernel
theorem dL_sees_36 : decode cL_sees 36 = .ok (.aload_n 1, 1) := by decide +kernel
theorem dL_sees_37 : decode cL_sees 37 = .ok (.bipush 10, 2) := by decide +kernel
theorem dL_sees_39 : decode cL_sees 39 = .ok (.iload_n 2, 1) := by decide +kernel
theorem dL_sees_40 : decode cL_sees 40 = .ok (.iadd, 1) := by decide +kernel
theorem dL_sees_41 : decode cL_sees 41 = .ok (.aload_n 0, 1) := by decide +kernel
theorem dL_sees_42 : decode cL_sees 42 = .ok (.iload_n 2, 1) := by decide +kernel
theorem dL_sees_43 : decode cL_sees 43 = .ok (.invokevirtual 206, 3) := by decide +kernel
theorem dL_sees_46 : decode cL_sees 46 = .ok (.i2l, 1) := by decide +kernel
theorem dL_sees_47 : decode cL_sees 47 = .ok (.lastore, 1) := by decide +kernel
theorem dL_sees_48 : decode cL_sees 48 = .ok (.aload_n 1, 1) := by decide +kernel
theorem dL_sees_49 : decode cL_sees 49 = .ok (.bipush 14, 2) := by decide +kernel
theorem dL_sees_51 : decode cL_sees 51 = .ok (.iload_n 2, 1) := by decide +kernel
theorem dL_sees_52 : decode cL_sees 52 = .ok (.iadd, 1) := by decide +kernel
theorem dL_sees_53 : decode cL_sees 53 = .ok (.ldc2_w 375, 3) := by decide +kernel
theorem dL_sees_56 : decode cL_sees 56 = .ok (.aload_n 0, 1) := by decide +kernel
theorem dL_sees_57 : decode cL_sees 57 = .ok (.iload_n 2, 1) := by decide +kernel
theorem dL_sees_58 : decode cL_sees 58 = .ok (.invokevirtual 197, 3) := by decide +kernel
theorem dL_sees_61 : decode cL_sees 61 = .ok (.iconst 1, 1) := by decide +kernel
theorem dL_sees_62 : decode cL_sees 62 = .ok (.iadd, 1) := by decide +kernel
theorem dL_sees_63 : decode cL_sees 63 = .ok (.i2l, 1) := by decide +kernel
theorem dL_sees_64 : decode cL_sees 64 = .ok (.lmul, 1) := by decide +kernel
theorem dL_sees_65 : decode cL_sees 65 = .ok (.ldc2_w 377, 3) := by decide +kernel
theorem dL_sees_68 : decode cL_sees 68 = .ok (.aload_n 0, 1) := by decide +kernel
theorem dL_sees_69 : decode cL_sees 69 = .ok (.iload_n 2, 1) := by decide +kernel
theorem dL_sees_70 : decode cL_sees 70 = .ok (.invokevirtual 199, 3) := by decide +kernel
theorem dL_sees_73 : decode cL_sees 73 = .ok (.iconst 1, 1) := by decide +kernel
theorem dL_sees_74 : decode cL_sees 74 = .ok (.iadd, 1) := by decide +kernel
theorem dL_sees_75 : decode cL_sees 75 = .ok (.i2l, 1) := by decide +kernel
theorem dL_sees_76 : decode cL_sees 76 = .ok (.lmul, 1) := by decide +kernel
theorem dL_sees_77 : decode cL_sees 77 = .ok (.ladd, 1) := by decide +kernel
theorem dL_sees_78 : decode cL_sees 78 = .ok (.aload_n 0, 1) := by decide +kernel
theorem dL_sees_79 : decode cL_sees 79 = .ok (.iload_n 2, 1) := by decide +kernel
theorem dL_sees_80 : decode cL_sees 80 = .ok (.invokevirtual 208, 3) := by decide +kernel
theorem dL_sees_83 : decode cL_sees 83 = .ok (.i2l, 1) := by decide +kernel
theorem dL_sees_84 : decode cL_sees 84 = .ok (.ladd, 1) := by decide +kernel
theorem dL_sees_85 : decode cL_sees 85 = .ok (.lconst 1, 1) := by decide +kernel
theorem dL_sees_86 : decode cL_sees 86 = .ok (.ladd, 1) := by decide +kernel
theorem dL_sees_87 : decode cL_sees 87 = .ok (.lastore, 1) := by decide +kernel
theorem dL_sees_88 : decode cL_sees 88 = .ok (.iinc 2 1, 3) := by decide +kernel
theorem dL_sees_91 : decode cL_sees 91 = .ok (.goto (-60), 3) := by decide +kernel
theorem dL_sees_94 : decode cL_sees 94 = .ok (.iconst 0, 1) := by decide +kernel
theorem dL_sees_95 : decode cL_sees 95 = .ok (.istore_n 2, 1) := by decide +kernel
theorem dL_sees_96 : decode cL_sees 96 = .ok (.iload_n 2, 1) := by decide +kernel
theorem dL_sees_97 : decode cL_sees 97 = .ok (.aload_n 0, 1) := by decide +kernel
theorem dL_sees_98 : decode cL_sees 98 = .ok (.invokevirtual 368, 3) := by decide +kernel
theorem dL_sees_101 : decode cL_sees 101 = .ok (.if_icmp .ge 55, 3) := by decide +kernel
theorem dL_sees_104 : decode cL_sees 104 = .ok (.aload_n 1, 1) := by decide +kernel
theorem dL_sees_105 : decode cL_sees 105 = .ok (.bipush 20, 2) := by decide +kernel
theorem dL_sees_107 : decode cL_sees 107 = .ok (.iload_n 2, 1) := by decide +kernel
theorem dL_sees_108 : decode cL_sees 108 = .ok (.iadd, 1) := by decide +kernel
theorem dL_sees_109 : decode cL_sees 109 = .ok (.aload_n 0, 1) := by decide +kernel
theorem dL_sees_110 : decode cL_sees 110 = .ok (.iload_n 2, 1) := by decide +kernel
theorem dL_sees_111 : decode cL_sees 111 = .ok (.invokevirtual 235, 3) := by decide +kernel
theorem dL_sees_114 : decode cL_sees 114 = .ok (.i2l, 1) := by decide +kernel
theorem dL_sees_115 : decode cL_sees 115 = .ok (.lastore, 1) := by decide +kernel
theorem dL_sees_116 : decode cL_sees 116 = .ok (.aload_n 1, 1) := by decide +kernel
theorem dL_sees_117 : decode cL_sees 117 = .ok (.bipush 30, 2) := by decide +kernel
theorem dL_sees_119 : decode cL_sees 119 = .ok (.iload_n 2, 1) := by decide +kernel
theorem dL_sees_120 : decode cL_sees 120 = .ok (.iadd, 1) := by decide +kernel
theorem dL_sees_121 : decode cL_sees 121 = .ok (.ldc2_w 379, 3) := by decide +kernel
theorem dL_sees_124 : decode cL_sees 124 = .ok (.aload_n 0, 1) := by decide +kernel
theorem dL_sees_125 : decode cL_sees 125 = .ok (.iload_n 2, 1) := by decide +kernel
theorem dL_sees_126 : decode cL_sees 126 = .ok (.invokevirtual 225, 3) := by decide +kernel
theorem dL_sees_129 : decode cL_sees 129 = .ok (.i2l, 1) := by decide +kernel
theorem dL_sees_130 : decode cL_sees 130 = .ok (.lmul, 1) := by decide +kernel
theorem dL_sees_131 : decode cL_sees 131 = .ok (.ldc2_w 375, 3) := by decide +kernel
theorem dL_sees_134 : decode cL_sees 134 = .ok (.aload_n 0, 1) := by decide +kernel
theorem dL_sees_135 : decode cL_sees 135 = .ok (.iload_n 2, 1) := by decide +kernel
theorem dL_sees_136 : decode cL_sees 136 = .ok (.invokevirtual 227, 3) := by decide +kernel
theorem dL_sees_139 : decode cL_sees 139 = .ok (.i2l, 1) := by decide +kernel
theorem dL_sees_140 : decode cL_sees 140 = .ok (.lmul, 1) := by decide +kernel
theorem dL_sees_141 : decode cL_sees 141 = .ok (.ladd, 1) := by decide +kernel
theorem dL_sees_142 : decode cL_sees 142 = .ok (.aload_n 0, 1) := by decide +kernel
theorem dL_sees_143 : decode cL_sees 143 = .ok (.iload_n 2, 1) := by decide +kernel
theorem dL_sees_144 : decode cL_sees 144 = .ok (.invokevirtual 229, 3) := by decide +kernel
theorem dL_sees_147 : decode cL_sees 147 = .ok (.i2l, 1) := by decide +kernel
theorem dL_sees_148 : decode cL_sees 148 = .ok (.ladd, 1) := by decide +kernel
theorem dL_sees_149 : decode cL_sees 149 = .ok (.lastore, 1) := by decide +kernel
theorem dL_sees_150 : decode cL_sees 150 = .ok (.iinc 2 1, 3) := by decide +kernel
theorem dL_sees_153 : decode cL_sees 153 = .ok (.goto (-57), 3) := by decide +kernel
theorem dL_sees_156 : decode cL_sees 156 = .ok (.iconst 0, 1) := by decide +kernel
theorem dL_sees_157 : decode cL_sees 157 = .ok (.istore_n 2, 1) := by decide +kernel
theorem dL_sees_158 : decode cL_sees 158 = .ok (.iload_n 2, 1) := by decide +kernel
theorem dL_sees_159 : decode cL_sees 159 = .ok (.aload_n 0, 1) := by decide +kernel
theorem dL_sees_160 : decode cL_sees 160 = .ok (.invokevirtual 291, 3) := by decide +kernel
theorem dL_sees_163 : decode cL_sees 163 = .ok (.if_icmp .ge 43, 3) := by decide +kernel
theorem dL_sees_166 : decode cL_sees 166 = .ok (.aload_n 1, 1) := by decide +kernel
theorem dL_sees_167 : decode cL_sees 167 = .ok (.bipush 40, 2) := by decide +kernel
theorem dL_sees_169 : decode cL_sees 169 = .ok (.iload_n 2, 1) := by decide +kernel
theorem dL_sees_170 : decode cL_sees 170 = .ok (.iadd, 1) := by decide +kernel
theorem dL_sees_171 : decode cL_sees 171 = .ok (.ldc2_w 379, 3) := by decide +kernel
theorem dL_sees_174 : decode cL_sees 174 = .ok (.aload_n 0, 1) := by decide +kernel
theorem dL_sees_175 : decode cL_sees 175 = .ok (.iload_n 2, 1) := by decide +kernel
theorem dL_sees_176 : decode cL_sees 176 = .ok (.invokevirtual 244, 3) := by decide +kernel
theorem dL_sees_179 : decode cL_sees 179 = .ok (.i2l, 1) := by decide +kernel
theorem dL_sees_180 : decode cL_sees 180 = .ok (.lmul, 1) := by decide +kernel
theorem dL_sees_181 : decode cL_sees 181 = .ok (.ldc2_w 375, 3) := by decide +kernel
theorem dL_sees_184 : decode cL_sees 184 = .ok (.aload_n 0, 1) := by decide +kernel
theorem dL_sees_185 : decode cL_sees 185 = .ok (.iload_n 2, 1) := by decide +kernel
theorem dL_sees_186 : decode cL_sees 186 = .ok (.invokevirtual 247, 3) := by decide +kernel
theorem dL_sees_189 : decode cL_sees 189 = .ok (.i2l, 1) := by decide +kernel
theorem dL_sees_190 : decode cL_sees 190 = .ok (.lmul, 1) := by decide +kernel
theorem dL_sees_191 : decode cL_sees 191 = .ok (.ladd, 1) := by decide +kernel
theorem dL_sees_192 : decode cL_sees 192 = .ok (.aload_n 0, 1) := by decide +kernel
theorem dL_sees_193 : decode cL_sees 193 = .ok (.iload_n 2, 1) := by decide +kernel
theorem dL_sees_194 : decode cL_sees 194 = .ok (.invokevirtual 250, 3) := by decide +kernel
theorem dL_sees_197 : decode cL_sees 197 = .ok (.i2l, 1) := by decide +kernel
theorem dL_sees_198 : decode cL_sees 198 = .ok (.ladd, 1) := by decide +kernel
theorem dL_sees_199 : decode cL_sees 199 = .ok (.lastore, 1) := by decide +kernel
theorem dL_sees_200 : decode cL_sees 200 = .ok (.iinc 2 1, 3) := by decide +kernel
theorem dL_sees_203 : decode cL_sees 203 = .ok (.goto (-45), 3) := by decide +kernel
theorem dL_sees_206 : decode cL_sees 206 = .ok (.return_, 1) := by decide +kernel
