/-! the loop of the law -/
/-- the calls whose agreement the loop takes for granted here -/
def Lacks : Prop :=
  (∀ {I : Mem} {K : Kt} {w m kb gb D : Nat}, ST I K w m kb gb D → 2000 ≤ D ∧ D < 200000 → (m + 10 ≤ kb ∧ kb < 900000) → ∀ x1 x2 x3 x4 x5 : Int32, LN (mX9_append 1) cX9_append (mX10_append 1) cX10_append [.int (x1), .int (x2), .int (x3), .int (x4), .int (x5)] I K w m kb gb (D + 300)) ∧
  (∀ {I : Mem} {K : Kt} {w m kb gb D : Nat}, ST I K w m kb gb D → 2000 ≤ D ∧ D < 200000 → (m + 10 ≤ kb ∧ kb < 900000) → ∀ x1 : Int32, LC (mX9_parseSetup 12) cX9_parseSetup (mX10_parseSetup 23) cX10_parseSetup [eIX, eIA] [.int (x1)] I K w m kb gb (D + 300)) ∧
  (∀ {I : Mem} {K : Kt} {w m kb gb D : Nat}, ST I K w m kb gb D → 2000 ≤ D ∧ D < 200000 → (m + 10 ≤ kb ∧ kb < 900000) → LD64 I K w m kb gb (D + 300)) ∧
  (∀ {I : Mem} {K : Kt} {w m kb gb D : Nat}, ST I K w m kb gb D → 2000 ≤ D ∧ D < 200000 → (m + 10 ≤ kb ∧ kb < 900000) → LD32 I K w m kb gb (D + 300)) ∧
  (∀ {I : Mem} {K : Kt} {w m kb gb D : Nat}, ST I K w m kb gb D → 2000 ≤ D ∧ D < 200000 → (m + 10 ≤ kb ∧ kb < 900000) → ∀ x1 x2 : Int32, LC (mX9_personLetter 9) cX9_personLetter (mX10_personLetter 3) cX10_personLetter [eIS, eIX] [.int (x1), .int (x2)] I K w m kb gb (D + 300)) ∧
  (∀ {I : Mem} {K : Kt} {w m kb gb D : Nat}, ST I K w m kb gb D → 2000 ≤ D ∧ D < 200000 → (m + 10 ≤ kb ∧ kb < 900000) → ∀ x1 x2 : Int32, LC (mX9_wishLetter 9) cX9_wishLetter (mX10_wishLetter 3) cX10_wishLetter [eIS, eIX] [.int (x1), .int (x2)] I K w m kb gb (D + 300)) ∧
  (∀ {I : Mem} {K : Kt} {w m kb gb D : Nat}, ST I K w m kb gb D → 2000 ≤ D ∧ D < 200000 → (m + 10 ≤ kb ∧ kb < 900000) → ∀ x1 x2 : Int32, LC (mX9_coinsAfter 8) cX9_coinsAfter (mX10_coinsAfter 10) cX10_coinsAfter [eIS, eIX, eIA] [.int (x1), .int (x2)] I K w m kb gb (D + 300)) ∧
  (∀ {I : Mem} {K : Kt} {w m kb gb D : Nat}, ST I K w m kb gb D → 2000 ≤ D ∧ D < 200000 → (m + 10 ≤ kb ∧ kb < 900000) → ∀ x1 x2 : Int32, LC (mX9_valueAfter 8) cX9_valueAfter (mX10_valueAfter 10) cX10_valueAfter [eIS, eIX, eIA] [.int (x1), .int (x2)] I K w m kb gb (D + 300)) ∧
  (∀ {I : Mem} {K : Kt} {w m kb gb D : Nat}, ST I K w m kb gb D → 2000 ≤ D ∧ D < 200000 → (m + 10 ≤ kb ∧ kb < 900000) → ∀ x1 : Int32, LC (mX9_writeStall 10) cX9_writeStall (mX10_writeStall 3) cX10_writeStall [eIS, eIX] [.int (x1)] I K w m kb gb (D + 300)) ∧
  (∀ {I : Mem} {K : Kt} {w m kb gb D : Nat}, ST I K w m kb gb D → 2000 ≤ D ∧ D < 200000 → (m + 10 ≤ kb ∧ kb < 900000) → ∀ x1 : Int32, LC (mX9_writePerson 10) cX9_writePerson (mX10_writePerson 3) cX10_writePerson [eIS, eIX] [.int (x1)] I K w m kb gb (D + 300)) ∧
  (∀ {I : Mem} {K : Kt} {w m kb gb D : Nat}, ST I K w m kb gb D → 2000 ≤ D ∧ D < 200000 → (m + 10 ≤ kb ∧ kb < 900000) → ∀ x1 : Int32, LC (mX9_outputByte 6) cX9_outputByte (mX10_outputByte 1) cX10_outputByte [eIX] [.int (x1)] I K w m kb gb (D + 300)) ∧
  (∀ {I : Mem} {K : Kt} {w m kb gb D : Nat}, ST I K w m kb gb D → 2000 ≤ D ∧ D < 200000 → (m + 10 ≤ kb ∧ kb < 900000) → ∀ x1 : Int32, LC (mX9_advance 7) cX9_advance (mX10_advance 10) cX10_advance [eIS, eIA] [.int (x1)] I K w m kb gb (D + 300)) ∧
  (∀ {I : Mem} {K : Kt} {w m kb gb D : Nat}, ST I K w m kb gb D → 2000 ≤ D ∧ D < 200000 → (m + 10 ≤ kb ∧ kb < 900000) → ∀ x1 x2 : Int32, LC (mX9_buy 8) cX9_buy (mX10_buy 5) cX10_buy [eIS, eIX, eIA] [.int (x1), .int (x2)] I K w m kb gb (D + 300)) ∧
  (∀ {I : Mem} {K : Kt} {w m kb gb D : Nat}, ST I K w m kb gb D → 2000 ≤ D ∧ D < 200000 → (m + 10 ≤ kb ∧ kb < 900000) → ∀ x1 x2 : Int32, LC (mX9_sell 8) cX9_sell (mX10_sell 5) cX10_sell [eIS, eIX, eIA] [.int (x1), .int (x2)] I K w m kb gb (D + 300)) ∧
  (∀ {I : Mem} {K : Kt} {w m kb gb D : Nat}, ST I K w m kb gb D → 2000 ≤ D ∧ D < 200000 → (m + 10 ≤ kb ∧ kb < 900000) → ∀ x1 : Int32, LC (mX9_returnWish 8) cX9_returnWish (mX10_returnWish 5) cX10_returnWish [eIS, eIX, eIA] [.int (x1)] I K w m kb gb (D + 300)) ∧
  (∀ {I : Mem} {K : Kt} {w m kb gb D : Nat}, ST I K w m kb gb D → 2000 ≤ D ∧ D < 200000 → (m + 10 ≤ kb ∧ kb < 900000) → ∀ x1 : Int32, LC (mX9_grant 8) cX9_grant (mX10_grant 4) cX10_grant [eIS, eIX, eIA] [.int (x1)] I K w m kb gb (D + 300)) ∧
  (∀ {I : Mem} {K : Kt} {w m kb gb D : Nat}, ST I K w m kb gb D → 2000 ≤ D ∧ D < 200000 → (m + 10 ≤ kb ∧ kb < 900000) → ∀ x1 x2 : Int32, LC (mX9_setLimit 9) cX9_setLimit (mX10_setLimit 2) cX10_setLimit [eIS, eIX, eIA] [.int (x1), .int (x2)] I K w m kb gb (D + 300)) ∧
  (∀ {I : Mem} {K : Kt} {w m kb gb D : Nat}, ST I K w m kb gb D → 2000 ≤ D ∧ D < 200000 → (m + 10 ≤ kb ∧ kb < 900000) → ∀ x1 x2 : Int32, LC (mX9_setMargin 9) cX9_setMargin (mX10_setMargin 2) cX10_setMargin [eIS, eIX, eIA] [.int (x1), .int (x2)] I K w m kb gb (D + 300)) ∧
  (∀ {I : Mem} {K : Kt} {w m kb gb D : Nat}, ST I K w m kb gb D → 2000 ≤ D ∧ D < 200000 → (m + 10 ≤ kb ∧ kb < 900000) → LC (mX9_undo 6) cX9_undo (mX10_undo 1) cX10_undo [eIS] [] I K w m kb gb (D + 300)) ∧
  (∀ {I : Mem} {K : Kt} {w m kb gb D : Nat}, ST I K w m kb gb D → 2000 ≤ D ∧ D < 200000 → (m + 10 ≤ kb ∧ kb < 900000) → ∀ x1 : Int32, LC (mX9_saveState 7) cX9_saveState (mX10_saveState 2) cX10_saveState [eIS, eIX] [.int (x1)] I K w m kb gb (D + 300)) ∧
  (∀ {I : Mem} {K : Kt} {w m kb gb D : Nat}, ST I K w m kb gb D → 2000 ≤ D ∧ D < 200000 → (m + 10 ≤ kb ∧ kb < 900000) → ∀ x1 : Int32, LC (mX9_restoreState 7) cX9_restoreState (mX10_restoreState 2) cX10_restoreState [eIX, eIS] [.int (x1)] I K w m kb gb (D + 300))
theorem xs_of (x : Int32) : ∃ c, c < 64 ∧ x &&& 63 = nI c := by
  obtain ⟨j, hj, e⟩ := pk_andE x (m := 63) 6 (by decide)
  exact ⟨j, hj, e⟩
/-- where the head of the loop goes on: the case, or behind it -/
theorem law_head {n w m o o2 i : Nat} {xs : Nat → Int32} {I : Mem} {K : Kt} {bc bs : Nat} (hn : n ≤ 3072) (hi : i ≤ 3078) (hend : X mLaw code bc bs I K 3801 (lawL w m o o2 i) [] lawQ (GsL n xs)) (hgo : i + 6 ≤ n → ∀ c, c < 64 → X mLaw code bc bs I K 45 (lawL w m o o2 i) [.int (nI c)] lawQ (GsL n xs)) : X mLaw code bc bs I K 28 (lawL w m o o2 i) [] lawQ (GsL n xs) := by
  refine x_iload dL_law_28 rfl ?_
  refine x_aloadn dL_law_30 rfl ?_
  refine x_slen dL_law_31 ?_
  refine x_bipush (nI 6) dL_law_32 (by decide) ?_
  refine x_isub dL_law_34 ?_
  have e : (nI n - nI 6 < nI i) ↔ n < i + 6 := by
    rw [Int32.lt_iff_toInt_lt, pk_sub_toInt (by omega) (by omega), nI_toInt (by omega)]
    omega
  refine x_icmp_gt 3801 dL_law_35 rfl (fun _ => hend) (fun h => ?_)
  rw [e] at h
  refine x_aloadn dL_law_38 rfl ?_
  refine x_iload dL_law_39 rfl ?_
  refine x_sld (j := i) rfl (by omega) (by omega) dL_law_41 ?_
  refine x_bipush 63 dL_law_42 (by decide) ?_
  refine x_iand dL_law_44 ?_
  obtain ⟨c, hc, e⟩ := xs_of (xs i)
  rw [e]
  exact hgo (by omega) c hc
theorem law_end {n w m o o2 i : Nat} {xs : Nat → Int32} {I : Mem} {K : Kt} {bc bs : Nat} : X mLaw code bc bs I K 3801 (lawL w m o o2 i) [] lawQ (GsL n xs) := by
  refine x_iconst 1 dL_law_3801 rfl ?_
  exact x_zret (ty := .boolean) rfl rfl dL_law_3802 rfl
theorem law_tail {n w m o o2 t kb gb D' bb sb : Nat} {xs : Nat → Int32} (h : ∀ I K, ST I K w m kb gb D' → LA K 103 1 o → LA K 104 1 o2 → X mLaw code (bb + (kb + 3 - kN K)) (sb + (gb + 246 - gz K)) I K 28 (lawL w m o o2 (6 * t + 6)) [] lawQ (GsL n xs)) : Tail n xs w m o o2 (6 * t) kb gb D' bb sb := by
  intro I K S Ho Ho2
  refine x_iincN (d := 6) dL_law_3795 rfl rfl rfl ?_
  refine x_goto 28 dL_law_3798 rfl ?_
  exact h I K S Ho Ho2
theorem law_sw0 (Z : Lacks) {n w m o o2 i kb gb D bb sb : Nat} {xs : Nat → Int32} {I : Mem} {K : Kt} {c : Nat} (hi : i + 6 ≤ n) (hn : n ≤ 3072) (S : ST I K w m kb gb D) (hD : 2000 ≤ D ∧ D < 200000) (hB : m + 10 ≤ kb ∧ kb < 900000) (Ho : LA K 103 1 o) (Ho2 : LA K 104 1 o2) (hk : Tail n xs w m o o2 i kb gb (D + 300) bb sb) (h1 : 0 ≤ c) (h2 : c < 16) : X mLaw code (2 + bb + (kb + 3 - kN K)) (12 + sb + (gb + 246 - gz K)) I K 45 (lawL w m o o2 i) [.int (nI c)] lawQ (GsL n xs) := by
  rcases (show c = 0 ∨ c = 1 ∨ c = 2 ∨ c = 3 ∨ c = 4 ∨ c = 5 ∨ c = 6 ∨ c = 7 ∨ c = 8 ∨ c = 9 ∨ c = 10 ∨ c = 11 ∨ c = 12 ∨ c = 13 ∨ c = 14 ∨ c = 15 by omega) with rfl | rfl | rfl | rfl | rfl | rfl | rfl | rfl | rfl | rfl | rfl | rfl | rfl | rfl | rfl | rfl
  · exact x_tabIn (271) 316 dL_law_45 (by decide) (by decide) rfl rfl (law_0 hi hn S Ho Ho2 (Z.1 S hD hB _ _ _ _ _) hk)
  · exact x_tabIn (344) 389 dL_law_45 (by decide) (by decide) rfl rfl (law_1 hi hn S Ho Ho2 (Z.2.1 S hD hB _) hk)
  · exact x_tabIn (400) 445 dL_law_45 (by decide) (by decide) rfl rfl (law_2 hi hn S Ho Ho2 (lc_parseErrorCode S) hk)
  · exact x_tabIn (413) 458 dL_law_45 (by decide) (by decide) rfl rfl (law_3 hi hn S Ho Ho2 (lc_parseErrorPosition S) hk)
  · exact x_tabIn (426) 471 dL_law_45 (by decide) (by decide) rfl rfl (law_4 hi hn S Ho Ho2 (lc_bufferLength S) hk)
  · exact x_tabIn (439) 484 dL_law_45 (by decide) (by decide) rfl rfl (law_5 hi hn S Ho Ho2 (lc_day S) hk)
  · exact x_tabIn (483) 528 dL_law_45 (by decide) (by decide) rfl rfl (law_6 hi hn S Ho Ho2 (lc_yearLength S) hk)
  · exact x_tabIn (527) 572 dL_law_45 (by decide) (by decide) rfl rfl (law_7 hi hn S Ho Ho2 (lc_dayOfYear S) hk)
  · exact x_tabIn (571) 616 dL_law_45 (by decide) (by decide) rfl rfl (law_8 hi hn S Ho Ho2 (lc_grantedCount S) hk)
  · exact x_tabIn (615) 660 dL_law_45 (by decide) (by decide) rfl rfl (law_9 hi hn S Ho Ho2 (lc_fadedCount S) hk)
  · exact x_tabIn (659) 704 dL_law_45 (by decide) (by decide) rfl rfl (law_10 hi hn S Ho Ho2 (lc_imbalance S) hk)
  · exact x_tabIn (703) 748 dL_law_45 (by decide) (by decide) rfl rfl (law_11 hi hn S Ho Ho2 (Z.2.2.1 S hD hB) hk)
  · exact x_tabIn (768) 813 dL_law_45 (by decide) (by decide) rfl rfl (law_12 hi hn S Ho Ho2 (Z.2.2.2.1 S hD hB) hk)
  · exact x_tabIn (834) 879 dL_law_45 (by decide) (by decide) rfl rfl (law_13 hi hn S Ho Ho2 (lc_personCount S) hk)
  · exact x_tabIn (878) 923 dL_law_45 (by decide) (by decide) rfl rfl (law_14 hi hn S Ho Ho2 (Z.2.2.2.2.1 S hD hB _ _) hk)
  · exact x_tabIn (946) 991 dL_law_45 (by decide) (by decide) rfl rfl (law_15 hi hn S Ho Ho2 (lc_coins S) hk)
theorem law_sw16 (Z : Lacks) {n w m o o2 i kb gb D bb sb : Nat} {xs : Nat → Int32} {I : Mem} {K : Kt} {c : Nat} (hi : i + 6 ≤ n) (hn : n ≤ 3072) (S : ST I K w m kb gb D) (hD : 2000 ≤ D ∧ D < 200000) (hB : m + 10 ≤ kb ∧ kb < 900000) (Ho : LA K 103 1 o) (Ho2 : LA K 104 1 o2) (hk : Tail n xs w m o o2 i kb gb (D + 300) bb sb) (h1 : 16 ≤ c) (h2 : c < 32) : X mLaw code (2 + bb + (kb + 3 - kN K)) (12 + sb + (gb + 246 - gz K)) I K 45 (lawL w m o o2 i) [.int (nI c)] lawQ (GsL n xs) := by
  rcases (show c = 16 ∨ c = 17 ∨ c = 18 ∨ c = 19 ∨ c = 20 ∨ c = 21 ∨ c = 22 ∨ c = 23 ∨ c = 24 ∨ c = 25 ∨ c = 26 ∨ c = 27 ∨ c = 28 ∨ c = 29 ∨ c = 30 ∨ c = 31 by omega) with rfl | rfl | rfl | rfl | rfl | rfl | rfl | rfl | rfl | rfl | rfl | rfl | rfl | rfl | rfl | rfl
  · exact x_tabIn (1002) 1047 dL_law_45 (by decide) (by decide) rfl rfl (law_16 hi hn S Ho Ho2 (lc_birthday S) hk)
  · exact x_tabIn (1058) 1103 dL_law_45 (by decide) (by decide) rfl rfl (law_17 hi hn S Ho Ho2 (lc_candles S) hk)
  · exact x_tabIn (1114) 1159 dL_law_45 (by decide) (by decide) rfl rfl (law_18 hi hn S Ho Ho2 (lc_happiness S) hk)
  · exact x_tabIn (1170) 1215 dL_law_45 (by decide) (by decide) rfl rfl (law_19 hi hn S Ho Ho2 (lc_ownedCount S) hk)
  · exact x_tabIn (1226) 1271 dL_law_45 (by decide) (by decide) rfl rfl (law_20 hi hn S Ho Ho2 (lc_shoppingLimit S) hk)
  · exact x_tabIn (1282) 1327 dL_law_45 (by decide) (by decide) rfl rfl (law_21 hi hn S Ho Ho2 (lc_daysUntilBirthday S (by omega)) hk)
  · exact x_tabIn (1338) 1383 dL_law_45 (by decide) (by decide) rfl rfl (law_22 hi hn S Ho Ho2 (lc_stallCount S) hk)
  · exact x_tabIn (1382) 1427 dL_law_45 (by decide) (by decide) rfl rfl (law_23 hi hn S Ho Ho2 (lc_cash S) hk)
  · exact x_tabIn (1438) 1483 dL_law_45 (by decide) (by decide) rfl rfl (law_24 hi hn S Ho Ho2 (lc_stars S) hk)
  · exact x_tabIn (1494) 1539 dL_law_45 (by decide) (by decide) rfl rfl (law_25 hi hn S Ho Ho2 (lc_margin S) hk)
  · exact x_tabIn (1550) 1595 dL_law_45 (by decide) (by decide) rfl rfl (law_26 hi hn S Ho Ho2 (lc_stockCount S) hk)
  · exact x_tabIn (1606) 1651 dL_law_45 (by decide) (by decide) rfl rfl (law_27 hi hn S Ho Ho2 (Z.2.2.2.2.2.1 S hD hB _ _) hk)
  · exact x_tabIn (1674) 1719 dL_law_45 (by decide) (by decide) rfl rfl (law_28 hi hn S Ho Ho2 (lc_baseValue S) hk)
  · exact x_tabIn (1730) 1775 dL_law_45 (by decide) (by decide) rfl rfl (law_29 hi hn S Ho Ho2 (lc_strength S) hk)
  · exact x_tabIn (1786) 1831 dL_law_45 (by decide) (by decide) rfl rfl (law_30 hi hn S Ho Ho2 (lc_wear S) hk)
  · exact x_tabIn (1842) 1887 dL_law_45 (by decide) (by decide) rfl rfl (law_31 hi hn S Ho Ho2 (lc_value S) hk)
theorem law_sw32 (Z : Lacks) {n w m o o2 i kb gb D bb sb : Nat} {xs : Nat → Int32} {I : Mem} {K : Kt} {c : Nat} (hi : i + 6 ≤ n) (hn : n ≤ 3072) (S : ST I K w m kb gb D) (hD : 2000 ≤ D ∧ D < 200000) (hB : m + 10 ≤ kb ∧ kb < 900000) (Ho : LA K 103 1 o) (Ho2 : LA K 104 1 o2) (hk : Tail n xs w m o o2 i kb gb (D + 300) bb sb) (h1 : 32 ≤ c) (h2 : c < 48) : X mLaw code (2 + bb + (kb + 3 - kN K)) (12 + sb + (gb + 246 - gz K)) I K 45 (lawL w m o o2 i) [.int (nI c)] lawQ (GsL n xs) := by
  rcases (show c = 32 ∨ c = 33 ∨ c = 34 ∨ c = 35 ∨ c = 36 ∨ c = 37 ∨ c = 38 ∨ c = 39 ∨ c = 40 ∨ c = 41 ∨ c = 42 ∨ c = 43 ∨ c = 44 ∨ c = 45 ∨ c = 46 ∨ c = 47 by omega) with rfl | rfl | rfl | rfl | rfl | rfl | rfl | rfl | rfl | rfl | rfl | rfl | rfl | rfl | rfl | rfl
  · exact x_tabIn (1898) 1943 dL_law_45 (by decide) (by decide) rfl rfl (law_32 hi hn S Ho Ho2 (lc_owner S) hk)
  · exact x_tabIn (1954) 1999 dL_law_45 (by decide) (by decide) rfl rfl (law_33 hi hn S Ho Ho2 (lc_stallOf S) hk)
  · exact x_tabIn (2010) 2055 dL_law_45 (by decide) (by decide) rfl rfl (law_34 hi hn S Ho Ho2 (lc_isGranted S) hk)
  · exact x_tabIn (2073) 2118 dL_law_45 (by decide) (by decide) rfl rfl (law_35 hi hn S Ho Ho2 (lc_purchaseDay S) hk)
  · exact x_tabIn (2129) 2174 dL_law_45 (by decide) (by decide) rfl rfl (law_36 hi hn S Ho Ho2 (lc_purchasePrice S) hk)
  · exact x_tabIn (2185) 2230 dL_law_45 (by decide) (by decide) rfl rfl (law_37 hi hn S Ho Ho2 (lc_price S) hk)
  · exact x_tabIn (2241) 2286 dL_law_45 (by decide) (by decide) rfl rfl (law_38 hi hn S Ho Ho2 (lc_offer S) hk)
  · exact x_tabIn (2309) 2354 dL_law_45 (by decide) (by decide) rfl rfl (law_39 hi hn S Ho Ho2 (lc_refund S) hk)
  · exact x_tabIn (2365) 2410 dL_law_45 (by decide) (by decide) rfl rfl (law_40 hi hn S Ho Ho2 (lc_buyObstacle S) hk)
  · exact x_tabIn (2433) 2478 dL_law_45 (by decide) (by decide) rfl rfl (law_41 hi hn S Ho Ho2 (lc_sellObstacle S) hk)
  · exact x_tabIn (2501) 2546 dL_law_45 (by decide) (by decide) rfl rfl (law_42 hi hn S Ho Ho2 (lc_returnObstacle S) hk)
  · exact x_tabIn (2557) 2602 dL_law_45 (by decide) (by decide) rfl rfl (law_43 hi hn S Ho Ho2 (lc_grantObstacle S) hk)
  · exact x_tabIn (2613) 2658 dL_law_45 (by decide) (by decide) rfl rfl (law_44 hi hn S Ho Ho2 (lc_cheapestWish S) hk)
  · exact x_tabIn (2669) 2714 dL_law_45 (by decide) (by decide) rfl rfl (law_45 hi hn S Ho Ho2 (lc_bestGrant S) hk)
  · exact x_tabIn (2725) 2770 dL_law_45 (by decide) (by decide) rfl rfl (law_46 hi hn S Ho Ho2 (lc_bestOffer S) hk)
  · exact x_tabIn (2781) 2826 dL_law_45 (by decide) (by decide) rfl rfl (law_47 hi hn S Ho Ho2 (Z.2.2.2.2.2.2.1 S hD hB _ _) hk)
theorem law_sw48 (Z : Lacks) {n w m o o2 i kb gb D bb sb : Nat} {xs : Nat → Int32} {I : Mem} {K : Kt} {c : Nat} (hi : i + 6 ≤ n) (hn : n ≤ 3072) (S : ST I K w m kb gb D) (hD : 2000 ≤ D ∧ D < 200000) (hB : m + 10 ≤ kb ∧ kb < 900000) (Ho : LA K 103 1 o) (Ho2 : LA K 104 1 o2) (hk : Tail n xs w m o o2 i kb gb (D + 300) bb sb) (h1 : 48 ≤ c) (h2 : c < 64) : X mLaw code (2 + bb + (kb + 3 - kN K)) (12 + sb + (gb + 246 - gz K)) I K 45 (lawL w m o o2 i) [.int (nI c)] lawQ (GsL n xs) := by
  rcases (show c = 48 ∨ c = 49 ∨ c = 50 ∨ c = 51 ∨ c = 52 ∨ c = 53 ∨ c = 54 ∨ c = 55 ∨ c = 56 ∨ c = 57 ∨ c = 58 ∨ c = 59 ∨ c = 60 ∨ c = 61 ∨ c = 62 ∨ c = 63 by omega) with rfl | rfl | rfl | rfl | rfl | rfl | rfl | rfl | rfl | rfl | rfl | rfl | rfl | rfl | rfl | rfl
  · exact x_tabIn (2849) 2894 dL_law_45 (by decide) (by decide) rfl rfl (law_48 hi hn S Ho Ho2 (Z.2.2.2.2.2.2.2.1 S hD hB _ _) hk)
  · exact x_tabIn (2917) 2962 dL_law_45 (by decide) (by decide) rfl rfl (law_49 hi hn S Ho Ho2 (lc_daysUntilFaded S) hk)
  · exact x_tabIn (2973) 3018 dL_law_45 (by decide) (by decide) rfl rfl (law_50 hi hn S Ho Ho2 (Z.2.2.2.2.2.2.2.2.1 S hD hB _) hk)
  · exact x_tabIn (3029) 3074 dL_law_45 (by decide) (by decide) rfl rfl (law_51 hi hn S Ho Ho2 (Z.2.2.2.2.2.2.2.2.2.1 S hD hB _) hk)
  · exact x_tabIn (3085) 3130 dL_law_45 (by decide) (by decide) rfl rfl (law_52 hi hn S Ho Ho2 (Z.2.2.2.2.2.2.2.2.2.2.1 S hD hB _) hk)
  · exact x_tabIn (3141) 3186 dL_law_45 (by decide) (by decide) rfl rfl (law_53 hi hn S Ho Ho2 (Z.2.2.2.2.2.2.2.2.2.2.2.1 S hD hB _) hk)
  · exact x_tabIn (3197) 3242 dL_law_45 (by decide) (by decide) rfl rfl (law_54 hi hn S Ho Ho2 (Z.2.2.2.2.2.2.2.2.2.2.2.2.1 S hD hB _ _) hk)
  · exact x_tabIn (3265) 3310 dL_law_45 (by decide) (by decide) rfl rfl (law_55 hi hn S Ho Ho2 (Z.2.2.2.2.2.2.2.2.2.2.2.2.2.1 S hD hB _ _) hk)
  · exact x_tabIn (3333) 3378 dL_law_45 (by decide) (by decide) rfl rfl (law_56 hi hn S Ho Ho2 (Z.2.2.2.2.2.2.2.2.2.2.2.2.2.2.1 S hD hB _) hk)
  · exact x_tabIn (3389) 3434 dL_law_45 (by decide) (by decide) rfl rfl (law_57 hi hn S Ho Ho2 (Z.2.2.2.2.2.2.2.2.2.2.2.2.2.2.2.1 S hD hB _) hk)
  · exact x_tabIn (3445) 3490 dL_law_45 (by decide) (by decide) rfl rfl (law_58 hi hn S Ho Ho2 (Z.2.2.2.2.2.2.2.2.2.2.2.2.2.2.2.2.1 S hD hB _ _) hk)
  · exact x_tabIn (3513) 3558 dL_law_45 (by decide) (by decide) rfl rfl (law_59 hi hn S Ho Ho2 (Z.2.2.2.2.2.2.2.2.2.2.2.2.2.2.2.2.2.1 S hD hB _ _) hk)
  · exact x_tabIn (3581) 3626 dL_law_45 (by decide) (by decide) rfl rfl (law_60 hi hn S Ho Ho2 (Z.2.2.2.2.2.2.2.2.2.2.2.2.2.2.2.2.2.2.1 S hD hB) hk)
  · exact x_tabIn (3625) 3670 dL_law_45 (by decide) (by decide) rfl rfl (law_61 hi hn S Ho Ho2 (lc_undoCount S) hk)
  · exact x_tabIn (3638) 3683 dL_law_45 (by decide) (by decide) rfl rfl (law_62 hi hn S Ho Ho2 (Z.2.2.2.2.2.2.2.2.2.2.2.2.2.2.2.2.2.2.2.1 S hD hB _) hk)
  · exact x_tabIn (3694) 3739 dL_law_45 (by decide) (by decide) rfl rfl (law_63 hi hn S Ho Ho2 (Z.2.2.2.2.2.2.2.2.2.2.2.2.2.2.2.2.2.2.2.2 S hD hB _) hk)
theorem law_sw (Z : Lacks) {n w m o o2 i kb gb D bb sb : Nat} {xs : Nat → Int32} {I : Mem} {K : Kt} {c : Nat} (hi : i + 6 ≤ n) (hn : n ≤ 3072) (S : ST I K w m kb gb D) (hD : 2000 ≤ D ∧ D < 200000) (hB : m + 10 ≤ kb ∧ kb < 900000) (Ho : LA K 103 1 o) (Ho2 : LA K 104 1 o2) (hk : Tail n xs w m o o2 i kb gb (D + 300) bb sb) (h2 : c < 64) : X mLaw code (2 + bb + (kb + 3 - kN K)) (12 + sb + (gb + 246 - gz K)) I K 45 (lawL w m o o2 i) [.int (nI c)] lawQ (GsL n xs) := by
  rcases (show c < 16 ∨ 16 ≤ c ∧ c < 32 ∨ 32 ≤ c ∧ c < 48 ∨ 48 ≤ c ∧ c < 64 by omega) with h | ⟨h, h'⟩ | ⟨h, h'⟩ | ⟨h, h'⟩
  · exact law_sw0 Z hi hn S hD hB Ho Ho2 hk (Nat.zero_le _) h
  · exact law_sw16 Z hi hn S hD hB Ho Ho2 hk h h'
  · exact law_sw32 Z hi hn S hD hB Ho Ho2 hk h h'
  · exact law_sw48 Z hi hn S hD hB Ho Ho2 hk h h'
/-- THE LOOP -/
theorem law_loop (Z : Lacks) {n w m o o2 kb gb : Nat} {xs : Nat → Int32} (hn : n ≤ 3072) (hB : m + 10 ≤ kb ∧ kb < 900000) : ∀ (q t D : Nat) (I : Mem) (K : Kt), n < 6 * t + 6 + 6 * q → t ≤ 513 → 2000 ≤ D ∧ D ≤ 2000 + 300 * t → ST I K w m kb gb D → LA K 103 1 o → LA K 104 1 o2 → X mLaw code (2 * q + (kb + 3 - kN K)) (12 * q + (gb + 246 - gz K)) I K 28 (lawL w m o o2 (6 * t)) [] lawQ (GsL n xs) := by
  intro q
  induction q with
  | zero => exact fun t D I K hq ht _ S Ho Ho2 => law_head hn (by omega) law_end (fun h => absurd h (by omega))
  | succ q ih =>
    intro t D I K hq ht hD S Ho Ho2
    refine law_head hn (by omega) law_end (fun h c hc => ?_)
    refine X.less (law_sw Z (bb := 2 * q) (sb := 12 * q) h hn S (by omega) hB Ho Ho2 (law_tail fun I' K' S' Ho' Ho2' => ?_) hc) (by omega) (by omega)
    exact ih (t + 1) (D + 300) I' K' (by omega) (by omega) (by omega) S' Ho' Ho2'
