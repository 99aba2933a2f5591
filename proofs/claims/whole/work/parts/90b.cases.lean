theorem law_32 {n w m o o2 i kb gb D D' bb sb : Nat} {xs : Nat → Int32} {I : Mem} {K : Kt} (hi : i + 6 ≤ n) (hn : n ≤ 3072) (S : ST I K w m kb gb D) (Ho : LA K 103 1 o) (Ho2 : LA K 104 1 o2) (hc : LC (mX9_owner 9) cX9_owner (mX10_owner 3) cX10_owner [eIS, eIX] [.int (xs (i + 1))] I K w m kb gb D') (hk : Tail n xs w m o o2 i kb gb D' bb sb) : X mLaw code (2 + bb + (kb + 3 - kN K)) (12 + sb + (gb + 246 - gz K)) I K 1943 (lawL w m o o2 i) [] lawQ (GsL n xs) := by
  obtain ⟨r, t, b, I1, I2, K1, a6, b6, ⟨c1, c2, c3⟩, ⟨e1, e2⟩, S1, ⟨g1, g2⟩, l1, l2⟩ := hc
  have z1 := S1.size
  refine X.less (bc' := a6 + (bb + (kb + 3 - kN K1))) (bs' := b6 + (sb + (gb + 246 - gz K1))) ?_ (by have := g1.1; omega) (by have := g1.2; omega)
  have hM : MK (KJ K1 o r) m := (S1.kj).mk
  refine x_aloadn dL_law_1943 rfl ?_
  refine x_arg (i := i) (j := 1) rfl dL_law_1944 dL_law_1945 dL_law_1947 dL_law_1948 dL_law_1949 rfl rfl (by omega) (by omega) ?_
  refine x_aloadn dL_law_1950 rfl ?_
  refine y_callS1 (As := [.ref w, .int (xs (i + 1)), .ref o]) (rest := []) (cs_L_312 _) rfl rfl (Nat.le_of_ble_eq_true rfl) ⟨Nat.le_of_ble_eq_true rfl, Nat.le_of_ble_eq_true rfl⟩ dL_law_1951 (wL_owner 9 S.lw.o (Ho.ka g2) c1 c2) ?_
  refine x_istore dL_law_1954 (Nat.le_of_ble_eq_true rfl) rfl rfl ?_
  refine x_aloadn dL_law_1956 rfl ?_
  refine x_arg (i := i) (j := 1) rfl dL_law_1957 dL_law_1958 dL_law_1960 dL_law_1961 dL_law_1962 rfl rfl (by omega) (by omega) ?_
  refine z_V1 [.int (xs (i + 1))] [] (cs_L_314 _) (ci := 8) rfl hM.o ⟨Nat.le_of_ble_eq_true rfl, Nat.le_of_ble_eq_true rfl⟩ dL_law_1963 rfl rfl (Nat.le_of_ble_eq_true rfl) (c3 _ hM) ?_
  refine x_istore dL_law_1966 (Nat.le_of_ble_eq_true rfl) rfl rfl ?_
  refine x_aloadn dL_law_1968 rfl ?_
  refine z_V1 [] [] (cs_L_213 _) (ci := 8) rfl hM.o ⟨Nat.le_of_ble_eq_true rfl, Nat.le_of_ble_eq_true rfl⟩ dL_law_1969 rfl rfl (Nat.le_of_ble_eq_true rfl) (c_X10_thrown 0 hM rfl) ?_
  refine X.e2 (congrArg Value.int e1) ?_
  refine x_iload dL_law_1972 rfl ?_
  refine x_icmp_eq 1979 dL_law_1974 rfl (fun _ => ?_) (fun hn => absurd rfl hn)
  refine x_iload dL_law_1979 rfl ?_
  cases r with
  | error E =>
    obtain ⟨i9, -, h9, rfl⟩ := c2
    refine x_if_ne 1996 dL_law_1981 rfl (fun _ => ?_) (fun hn => absurd hn (by rcases (show i9 = 0 ∨ i9 = 1 ∨ i9 = 2 by omega) with rfl | rfl | rfl <;> decide))
    refine x_goto 3795 dL_law_1996 rfl ?_
    exact X.forget (L' := lawL w m o o2 i) ⟨Or.inl rfl, Or.inl rfl, Or.inl rfl, Or.inl rfl, Or.inl rfl, Or.inl rfl, Or.inr rfl, Or.inr rfl, Or.inl rfl, trivial⟩ (hk _ _ (ST.kj (o := o) (r := .error E) S1) (LA.kj (o := o) (r := .error E) (Ho.ka g2)) (LA.kj (o := o) (r := .error E) (Ho2.ka g2)))
  | ok v =>
    obtain rfl : t = 0 := c2
    refine x_if_ne 1996 dL_law_1981 rfl (fun hn => absurd rfl hn) (fun _ => ?_)
    obtain rfl := e2 v rfl
    refine x_aloadn dL_law_1984 rfl ?_
    refine x_iconst 0 dL_law_1985 rfl ?_
    refine x_lald (((Ho.ka g2).kj (r := .ok b) (o := o)).1) (((Ho.ka g2).kj (r := .ok b) (o := o)).2) (j := 0) rfl ⟨by decide, by decide⟩ dL_law_1986 ?_
    refine X.e2 (w := .long b.toInt64) (congrArg Value.long u2_s) ?_
    refine x_iload dL_law_1987 rfl ?_
    refine x_i2l dL_law_1989 ?_
    refine x_lcmp dL_law_1990 ?_
    refine X.e2 (congrArg Value.int lgc) ?_
    refine x_if_eq 1996 dL_law_1991 rfl (fun _ => ?_) (fun hn => absurd rfl hn)
    refine x_goto 3795 dL_law_1996 rfl ?_
    exact X.forget (L' := lawL w m o o2 i) ⟨Or.inl rfl, Or.inl rfl, Or.inl rfl, Or.inl rfl, Or.inl rfl, Or.inl rfl, Or.inr rfl, Or.inr rfl, Or.inl rfl, trivial⟩ (hk _ _ (ST.kj (o := o) (r := .ok b) S1) (LA.kj (o := o) (r := .ok b) (Ho.ka g2)) (LA.kj (o := o) (r := .ok b) (Ho2.ka g2)))
theorem law_33 {n w m o o2 i kb gb D D' bb sb : Nat} {xs : Nat → Int32} {I : Mem} {K : Kt} (hi : i + 6 ≤ n) (hn : n ≤ 3072) (S : ST I K w m kb gb D) (Ho : LA K 103 1 o) (Ho2 : LA K 104 1 o2) (hc : LC (mX9_stallOf 9) cX9_stallOf (mX10_stallOf 3) cX10_stallOf [eIS, eIX] [.int (xs (i + 1))] I K w m kb gb D') (hk : Tail n xs w m o o2 i kb gb D' bb sb) : X mLaw code (2 + bb + (kb + 3 - kN K)) (12 + sb + (gb + 246 - gz K)) I K 1999 (lawL w m o o2 i) [] lawQ (GsL n xs) := by
  obtain ⟨r, t, b, I1, I2, K1, a6, b6, ⟨c1, c2, c3⟩, ⟨e1, e2⟩, S1, ⟨g1, g2⟩, l1, l2⟩ := hc
  have z1 := S1.size
  refine X.less (bc' := a6 + (bb + (kb + 3 - kN K1))) (bs' := b6 + (sb + (gb + 246 - gz K1))) ?_ (by have := g1.1; omega) (by have := g1.2; omega)
  have hM : MK (KJ K1 o r) m := (S1.kj).mk
  refine x_aloadn dL_law_1999 rfl ?_
  refine x_arg (i := i) (j := 1) rfl dL_law_2000 dL_law_2001 dL_law_2003 dL_law_2004 dL_law_2005 rfl rfl (by omega) (by omega) ?_
  refine x_aloadn dL_law_2006 rfl ?_
  refine y_callS1 (As := [.ref w, .int (xs (i + 1)), .ref o]) (rest := []) (cs_L_315 _) rfl rfl (Nat.le_of_ble_eq_true rfl) ⟨Nat.le_of_ble_eq_true rfl, Nat.le_of_ble_eq_true rfl⟩ dL_law_2007 (wL_stallOf 9 S.lw.o (Ho.ka g2) c1 c2) ?_
  refine x_istore dL_law_2010 (Nat.le_of_ble_eq_true rfl) rfl rfl ?_
  refine x_aloadn dL_law_2012 rfl ?_
  refine x_arg (i := i) (j := 1) rfl dL_law_2013 dL_law_2014 dL_law_2016 dL_law_2017 dL_law_2018 rfl rfl (by omega) (by omega) ?_
  refine z_V1 [.int (xs (i + 1))] [] (cs_L_317 _) (ci := 8) rfl hM.o ⟨Nat.le_of_ble_eq_true rfl, Nat.le_of_ble_eq_true rfl⟩ dL_law_2019 rfl rfl (Nat.le_of_ble_eq_true rfl) (c3 _ hM) ?_
  refine x_istore dL_law_2022 (Nat.le_of_ble_eq_true rfl) rfl rfl ?_
  refine x_aloadn dL_law_2024 rfl ?_
  refine z_V1 [] [] (cs_L_213 _) (ci := 8) rfl hM.o ⟨Nat.le_of_ble_eq_true rfl, Nat.le_of_ble_eq_true rfl⟩ dL_law_2025 rfl rfl (Nat.le_of_ble_eq_true rfl) (c_X10_thrown 0 hM rfl) ?_
  refine X.e2 (congrArg Value.int e1) ?_
  refine x_iload dL_law_2028 rfl ?_
  refine x_icmp_eq 2035 dL_law_2030 rfl (fun _ => ?_) (fun hn => absurd rfl hn)
  refine x_iload dL_law_2035 rfl ?_
  cases r with
  | error E =>
    obtain ⟨i9, -, h9, rfl⟩ := c2
    refine x_if_ne 2052 dL_law_2037 rfl (fun _ => ?_) (fun hn => absurd hn (by rcases (show i9 = 0 ∨ i9 = 1 ∨ i9 = 2 by omega) with rfl | rfl | rfl <;> decide))
    refine x_goto 3795 dL_law_2052 rfl ?_
    exact X.forget (L' := lawL w m o o2 i) ⟨Or.inl rfl, Or.inl rfl, Or.inl rfl, Or.inl rfl, Or.inl rfl, Or.inl rfl, Or.inr rfl, Or.inr rfl, Or.inl rfl, trivial⟩ (hk _ _ (ST.kj (o := o) (r := .error E) S1) (LA.kj (o := o) (r := .error E) (Ho.ka g2)) (LA.kj (o := o) (r := .error E) (Ho2.ka g2)))
  | ok v =>
    obtain rfl : t = 0 := c2
    refine x_if_ne 2052 dL_law_2037 rfl (fun hn => absurd rfl hn) (fun _ => ?_)
    obtain rfl := e2 v rfl
    refine x_aloadn dL_law_2040 rfl ?_
    refine x_iconst 0 dL_law_2041 rfl ?_
    refine x_lald (((Ho.ka g2).kj (r := .ok b) (o := o)).1) (((Ho.ka g2).kj (r := .ok b) (o := o)).2) (j := 0) rfl ⟨by decide, by decide⟩ dL_law_2042 ?_
    refine X.e2 (w := .long b.toInt64) (congrArg Value.long u2_s) ?_
    refine x_iload dL_law_2043 rfl ?_
    refine x_i2l dL_law_2045 ?_
    refine x_lcmp dL_law_2046 ?_
    refine X.e2 (congrArg Value.int lgc) ?_
    refine x_if_eq 2052 dL_law_2047 rfl (fun _ => ?_) (fun hn => absurd rfl hn)
    refine x_goto 3795 dL_law_2052 rfl ?_
    exact X.forget (L' := lawL w m o o2 i) ⟨Or.inl rfl, Or.inl rfl, Or.inl rfl, Or.inl rfl, Or.inl rfl, Or.inl rfl, Or.inr rfl, Or.inr rfl, Or.inl rfl, trivial⟩ (hk _ _ (ST.kj (o := o) (r := .ok b) S1) (LA.kj (o := o) (r := .ok b) (Ho.ka g2)) (LA.kj (o := o) (r := .ok b) (Ho2.ka g2)))
theorem law_34 {n w m o o2 i kb gb D D' bb sb : Nat} {xs : Nat → Int32} {I : Mem} {K : Kt} (hi : i + 6 ≤ n) (hn : n ≤ 3072) (S : ST I K w m kb gb D) (Ho : LA K 103 1 o) (Ho2 : LA K 104 1 o2) (hc : LB (mX9_isGranted 9) cX9_isGranted (mX10_isGranted 3) cX10_isGranted [eIS, eIX] [.int (xs (i + 1))] I K w m kb gb D') (hk : Tail n xs w m o o2 i kb gb D' bb sb) : X mLaw code (2 + bb + (kb + 3 - kN K)) (12 + sb + (gb + 246 - gz K)) I K 2055 (lawL w m o o2 i) [] lawQ (GsL n xs) := by
  obtain ⟨r, t, b, I2, ⟨c1, c2, c3⟩, ⟨e1, e2, e3⟩, S1⟩ := hc
  have hcs : cst r ≤ 1 ∧ cs6 r ≤ 6 := by cases r <;> exact ⟨Nat.le_of_ble_eq_true rfl, Nat.le_of_ble_eq_true rfl⟩
  refine X.less (bc' := cst r + (bb + (kb + 3 - kN K))) (bs' := cs6 r + (sb + (gb + 246 - gz K))) ?_ (by omega) (by omega)
  have hM : MK (KJ K o r) m := (S1.kj).mk
  refine x_aloadn dL_law_2055 rfl ?_
  refine x_arg (i := i) (j := 1) rfl dL_law_2056 dL_law_2057 dL_law_2059 dL_law_2060 dL_law_2061 rfl rfl (by omega) (by omega) ?_
  refine x_aloadn dL_law_2062 rfl ?_
  refine y_callS1 (As := [.ref w, .int (xs (i + 1)), .ref o]) (rest := []) (cs_L_318 _) rfl rfl (Nat.le_of_ble_eq_true rfl) ⟨Nat.le_of_ble_eq_true rfl, Nat.le_of_ble_eq_true rfl⟩ dL_law_2063 (wL_isGranted 9 S.lw.o Ho c1 c2 e3) ?_
  refine x_istore dL_law_2066 (Nat.le_of_ble_eq_true rfl) rfl rfl ?_
  refine x_aloadn dL_law_2068 rfl ?_
  refine x_arg (i := i) (j := 1) rfl dL_law_2069 dL_law_2070 dL_law_2072 dL_law_2073 dL_law_2074 rfl rfl (by omega) (by omega) ?_
  refine z_V1 [.int (xs (i + 1))] [] (cs_L_320 _) (ci := 8) rfl hM.o ⟨Nat.le_of_ble_eq_true rfl, Nat.le_of_ble_eq_true rfl⟩ dL_law_2075 rfl rfl (Nat.le_of_ble_eq_true rfl) (c3 _ hM) ?_
  refine x_istore dL_law_2078 (Nat.le_of_ble_eq_true rfl) rfl rfl ?_
  refine x_aloadn dL_law_2080 rfl ?_
  refine z_V1 [] [] (cs_L_213 _) (ci := 8) rfl hM.o ⟨Nat.le_of_ble_eq_true rfl, Nat.le_of_ble_eq_true rfl⟩ dL_law_2081 rfl rfl (Nat.le_of_ble_eq_true rfl) (c_X10_thrown 0 hM rfl) ?_
  refine X.e2 (congrArg Value.int e1) ?_
  refine x_iload dL_law_2084 rfl ?_
  refine x_icmp_eq 2091 dL_law_2086 rfl (fun _ => ?_) (fun hn => absurd rfl hn)
  refine x_iload dL_law_2091 rfl ?_
  cases r with
  | error E =>
    obtain ⟨i9, -, h9, rfl⟩ := c2
    refine x_if_ne 2115 dL_law_2093 rfl (fun _ => ?_) (fun hn => absurd hn (by rcases (show i9 = 0 ∨ i9 = 1 ∨ i9 = 2 by omega) with rfl | rfl | rfl <;> decide))
    refine x_goto 3795 dL_law_2115 rfl ?_
    exact X.forget (L' := lawL w m o o2 i) ⟨Or.inl rfl, Or.inl rfl, Or.inl rfl, Or.inl rfl, Or.inl rfl, Or.inl rfl, Or.inr rfl, Or.inr rfl, Or.inl rfl, trivial⟩ (hk _ _ (ST.kj (o := o) (r := .error E) S1) (LA.kj (o := o) (r := .error E) Ho) (LA.kj (o := o) (r := .error E) Ho2))
  | ok v =>
    obtain rfl : t = 0 := c2
    refine x_if_ne 2115 dL_law_2093 rfl (fun hn => absurd rfl hn) (fun _ => ?_)
    obtain rfl := e2 v rfl
    refine x_aloadn dL_law_2096 rfl ?_
    refine x_iconst 0 dL_law_2097 rfl ?_
    refine x_lald ((Ho.kj (r := .ok b) (o := o)).1) ((Ho.kj (r := .ok b) (o := o)).2) (j := 0) rfl ⟨by decide, by decide⟩ dL_law_2098 ?_
    refine X.e2 (w := .long b.toInt64) (congrArg Value.long u2_s) ?_
    refine x_iload dL_law_2099 rfl ?_
    rcases e3 b rfl with rfl | rfl
    · refine x_if_eq 2108 dL_law_2101 rfl (fun _ => ?_) (fun hn => absurd rfl hn)
      refine x_lconst 0 dL_law_2108 rfl ?_
      refine x_lcmp dL_law_2109 ?_
      refine X.e2 (w := .int 0) (by decide) ?_
      refine x_if_eq 2115 dL_law_2110 rfl (fun _ => ?_) (fun hn => absurd rfl hn)
      refine x_goto 3795 dL_law_2115 rfl ?_
      exact X.forget (L' := lawL w m o o2 i) ⟨Or.inl rfl, Or.inl rfl, Or.inl rfl, Or.inl rfl, Or.inl rfl, Or.inl rfl, Or.inr rfl, Or.inr rfl, Or.inl rfl, trivial⟩ (hk _ _ (ST.kj (o := o) (r := .ok 0) S1) (LA.kj (o := o) (r := .ok 0) Ho) (LA.kj (o := o) (r := .ok 0) Ho2))
    · refine x_if_eq 2108 dL_law_2101 rfl (fun hn => absurd hn (by decide)) (fun _ => ?_)
      refine x_lconst 1 dL_law_2104 rfl ?_
      refine x_goto 2109 dL_law_2105 rfl ?_
      refine x_lcmp dL_law_2109 ?_
      refine X.e2 (w := .int 0) (by decide) ?_
      refine x_if_eq 2115 dL_law_2110 rfl (fun _ => ?_) (fun hn => absurd rfl hn)
      refine x_goto 3795 dL_law_2115 rfl ?_
      exact X.forget (L' := lawL w m o o2 i) ⟨Or.inl rfl, Or.inl rfl, Or.inl rfl, Or.inl rfl, Or.inl rfl, Or.inl rfl, Or.inr rfl, Or.inr rfl, Or.inl rfl, trivial⟩ (hk _ _ (ST.kj (o := o) (r := .ok 1) S1) (LA.kj (o := o) (r := .ok 1) Ho) (LA.kj (o := o) (r := .ok 1) Ho2))
theorem law_35 {n w m o o2 i kb gb D D' bb sb : Nat} {xs : Nat → Int32} {I : Mem} {K : Kt} (hi : i + 6 ≤ n) (hn : n ≤ 3072) (S : ST I K w m kb gb D) (Ho : LA K 103 1 o) (Ho2 : LA K 104 1 o2) (hc : LC (mX9_purchaseDay 9) cX9_purchaseDay (mX10_purchaseDay 3) cX10_purchaseDay [eIS, eIX] [.int (xs (i + 1))] I K w m kb gb D') (hk : Tail n xs w m o o2 i kb gb D' bb sb) : X mLaw code (2 + bb + (kb + 3 - kN K)) (12 + sb + (gb + 246 - gz K)) I K 2118 (lawL w m o o2 i) [] lawQ (GsL n xs) := by
  obtain ⟨r, t, b, I1, I2, K1, a6, b6, ⟨c1, c2, c3⟩, ⟨e1, e2⟩, S1, ⟨g1, g2⟩, l1, l2⟩ := hc
  have z1 := S1.size
  refine X.less (bc' := a6 + (bb + (kb + 3 - kN K1))) (bs' := b6 + (sb + (gb + 246 - gz K1))) ?_ (by have := g1.1; omega) (by have := g1.2; omega)
  have hM : MK (KJ K1 o r) m := (S1.kj).mk
  refine x_aloadn dL_law_2118 rfl ?_
  refine x_arg (i := i) (j := 1) rfl dL_law_2119 dL_law_2120 dL_law_2122 dL_law_2123 dL_law_2124 rfl rfl (by omega) (by omega) ?_
  refine x_aloadn dL_law_2125 rfl ?_
  refine y_callS1 (As := [.ref w, .int (xs (i + 1)), .ref o]) (rest := []) (cs_L_321 _) rfl rfl (Nat.le_of_ble_eq_true rfl) ⟨Nat.le_of_ble_eq_true rfl, Nat.le_of_ble_eq_true rfl⟩ dL_law_2126 (wL_purchaseDay 9 S.lw.o (Ho.ka g2) c1 c2) ?_
  refine x_istore dL_law_2129 (Nat.le_of_ble_eq_true rfl) rfl rfl ?_
  refine x_aloadn dL_law_2131 rfl ?_
  refine x_arg (i := i) (j := 1) rfl dL_law_2132 dL_law_2133 dL_law_2135 dL_law_2136 dL_law_2137 rfl rfl (by omega) (by omega) ?_
  refine z_V1 [.int (xs (i + 1))] [] (cs_L_323 _) (ci := 8) rfl hM.o ⟨Nat.le_of_ble_eq_true rfl, Nat.le_of_ble_eq_true rfl⟩ dL_law_2138 rfl rfl (Nat.le_of_ble_eq_true rfl) (c3 _ hM) ?_
  refine x_istore dL_law_2141 (Nat.le_of_ble_eq_true rfl) rfl rfl ?_
  refine x_aloadn dL_law_2143 rfl ?_
  refine z_V1 [] [] (cs_L_213 _) (ci := 8) rfl hM.o ⟨Nat.le_of_ble_eq_true rfl, Nat.le_of_ble_eq_true rfl⟩ dL_law_2144 rfl rfl (Nat.le_of_ble_eq_true rfl) (c_X10_thrown 0 hM rfl) ?_
  refine X.e2 (congrArg Value.int e1) ?_
  refine x_iload dL_law_2147 rfl ?_
  refine x_icmp_eq 2154 dL_law_2149 rfl (fun _ => ?_) (fun hn => absurd rfl hn)
  refine x_iload dL_law_2154 rfl ?_
  cases r with
  | error E =>
    obtain ⟨i9, -, h9, rfl⟩ := c2
    refine x_if_ne 2171 dL_law_2156 rfl (fun _ => ?_) (fun hn => absurd hn (by rcases (show i9 = 0 ∨ i9 = 1 ∨ i9 = 2 by omega) with rfl | rfl | rfl <;> decide))
    refine x_goto 3795 dL_law_2171 rfl ?_
    exact X.forget (L' := lawL w m o o2 i) ⟨Or.inl rfl, Or.inl rfl, Or.inl rfl, Or.inl rfl, Or.inl rfl, Or.inl rfl, Or.inr rfl, Or.inr rfl, Or.inl rfl, trivial⟩ (hk _ _ (ST.kj (o := o) (r := .error E) S1) (LA.kj (o := o) (r := .error E) (Ho.ka g2)) (LA.kj (o := o) (r := .error E) (Ho2.ka g2)))
  | ok v =>
    obtain rfl : t = 0 := c2
    refine x_if_ne 2171 dL_law_2156 rfl (fun hn => absurd rfl hn) (fun _ => ?_)
    obtain rfl := e2 v rfl
    refine x_aloadn dL_law_2159 rfl ?_
    refine x_iconst 0 dL_law_2160 rfl ?_
    refine x_lald (((Ho.ka g2).kj (r := .ok b) (o := o)).1) (((Ho.ka g2).kj (r := .ok b) (o := o)).2) (j := 0) rfl ⟨by decide, by decide⟩ dL_law_2161 ?_
    refine X.e2 (w := .long b.toInt64) (congrArg Value.long u2_s) ?_
    refine x_iload dL_law_2162 rfl ?_
    refine x_i2l dL_law_2164 ?_
    refine x_lcmp dL_law_2165 ?_
    refine X.e2 (congrArg Value.int lgc) ?_
    refine x_if_eq 2171 dL_law_2166 rfl (fun _ => ?_) (fun hn => absurd rfl hn)
    refine x_goto 3795 dL_law_2171 rfl ?_
    exact X.forget (L' := lawL w m o o2 i) ⟨Or.inl rfl, Or.inl rfl, Or.inl rfl, Or.inl rfl, Or.inl rfl, Or.inl rfl, Or.inr rfl, Or.inr rfl, Or.inl rfl, trivial⟩ (hk _ _ (ST.kj (o := o) (r := .ok b) S1) (LA.kj (o := o) (r := .ok b) (Ho.ka g2)) (LA.kj (o := o) (r := .ok b) (Ho2.ka g2)))
theorem law_36 {n w m o o2 i kb gb D D' bb sb : Nat} {xs : Nat → Int32} {I : Mem} {K : Kt} (hi : i + 6 ≤ n) (hn : n ≤ 3072) (S : ST I K w m kb gb D) (Ho : LA K 103 1 o) (Ho2 : LA K 104 1 o2) (hc : LC (mX9_purchasePrice 9) cX9_purchasePrice (mX10_purchasePrice 3) cX10_purchasePrice [eIS, eIX] [.int (xs (i + 1))] I K w m kb gb D') (hk : Tail n xs w m o o2 i kb gb D' bb sb) : X mLaw code (2 + bb + (kb + 3 - kN K)) (12 + sb + (gb + 246 - gz K)) I K 2174 (lawL w m o o2 i) [] lawQ (GsL n xs) := by
  obtain ⟨r, t, b, I1, I2, K1, a6, b6, ⟨c1, c2, c3⟩, ⟨e1, e2⟩, S1, ⟨g1, g2⟩, l1, l2⟩ := hc
  have z1 := S1.size
  refine X.less (bc' := a6 + (bb + (kb + 3 - kN K1))) (bs' := b6 + (sb + (gb + 246 - gz K1))) ?_ (by have := g1.1; omega) (by have := g1.2; omega)
  have hM : MK (KJ K1 o r) m := (S1.kj).mk
  refine x_aloadn dL_law_2174 rfl ?_
  refine x_arg (i := i) (j := 1) rfl dL_law_2175 dL_law_2176 dL_law_2178 dL_law_2179 dL_law_2180 rfl rfl (by omega) (by omega) ?_
  refine x_aloadn dL_law_2181 rfl ?_
  refine y_callS1 (As := [.ref w, .int (xs (i + 1)), .ref o]) (rest := []) (cs_L_324 _) rfl rfl (Nat.le_of_ble_eq_true rfl) ⟨Nat.le_of_ble_eq_true rfl, Nat.le_of_ble_eq_true rfl⟩ dL_law_2182 (wL_purchasePrice 9 S.lw.o (Ho.ka g2) c1 c2) ?_
  refine x_istore dL_law_2185 (Nat.le_of_ble_eq_true rfl) rfl rfl ?_
  refine x_aloadn dL_law_2187 rfl ?_
  refine x_arg (i := i) (j := 1) rfl dL_law_2188 dL_law_2189 dL_law_2191 dL_law_2192 dL_law_2193 rfl rfl (by omega) (by omega) ?_
  refine z_V1 [.int (xs (i + 1))] [] (cs_L_326 _) (ci := 8) rfl hM.o ⟨Nat.le_of_ble_eq_true rfl, Nat.le_of_ble_eq_true rfl⟩ dL_law_2194 rfl rfl (Nat.le_of_ble_eq_true rfl) (c3 _ hM) ?_
  refine x_istore dL_law_2197 (Nat.le_of_ble_eq_true rfl) rfl rfl ?_
  refine x_aloadn dL_law_2199 rfl ?_
  refine z_V1 [] [] (cs_L_213 _) (ci := 8) rfl hM.o ⟨Nat.le_of_ble_eq_true rfl, Nat.le_of_ble_eq_true rfl⟩ dL_law_2200 rfl rfl (Nat.le_of_ble_eq_true rfl) (c_X10_thrown 0 hM rfl) ?_
  refine X.e2 (congrArg Value.int e1) ?_
  refine x_iload dL_law_2203 rfl ?_
  refine x_icmp_eq 2210 dL_law_2205 rfl (fun _ => ?_) (fun hn => absurd rfl hn)
  refine x_iload dL_law_2210 rfl ?_
  cases r with
  | error E =>
    obtain ⟨i9, -, h9, rfl⟩ := c2
    refine x_if_ne 2227 dL_law_2212 rfl (fun _ => ?_) (fun hn => absurd hn (by rcases (show i9 = 0 ∨ i9 = 1 ∨ i9 = 2 by omega) with rfl | rfl | rfl <;> decide))
    refine x_goto 3795 dL_law_2227 rfl ?_
    exact X.forget (L' := lawL w m o o2 i) ⟨Or.inl rfl, Or.inl rfl, Or.inl rfl, Or.inl rfl, Or.inl rfl, Or.inl rfl, Or.inr rfl, Or.inr rfl, Or.inl rfl, trivial⟩ (hk _ _ (ST.kj (o := o) (r := .error E) S1) (LA.kj (o := o) (r := .error E) (Ho.ka g2)) (LA.kj (o := o) (r := .error E) (Ho2.ka g2)))
  | ok v =>
    obtain rfl : t = 0 := c2
    refine x_if_ne 2227 dL_law_2212 rfl (fun hn => absurd rfl hn) (fun _ => ?_)
    obtain rfl := e2 v rfl
    refine x_aloadn dL_law_2215 rfl ?_
    refine x_iconst 0 dL_law_2216 rfl ?_
    refine x_lald (((Ho.ka g2).kj (r := .ok b) (o := o)).1) (((Ho.ka g2).kj (r := .ok b) (o := o)).2) (j := 0) rfl ⟨by decide, by decide⟩ dL_law_2217 ?_
    refine X.e2 (w := .long b.toInt64) (congrArg Value.long u2_s) ?_
    refine x_iload dL_law_2218 rfl ?_
    refine x_i2l dL_law_2220 ?_
    refine x_lcmp dL_law_2221 ?_
    refine X.e2 (congrArg Value.int lgc) ?_
    refine x_if_eq 2227 dL_law_2222 rfl (fun _ => ?_) (fun hn => absurd rfl hn)
    refine x_goto 3795 dL_law_2227 rfl ?_
    exact X.forget (L' := lawL w m o o2 i) ⟨Or.inl rfl, Or.inl rfl, Or.inl rfl, Or.inl rfl, Or.inl rfl, Or.inl rfl, Or.inr rfl, Or.inr rfl, Or.inl rfl, trivial⟩ (hk _ _ (ST.kj (o := o) (r := .ok b) S1) (LA.kj (o := o) (r := .ok b) (Ho.ka g2)) (LA.kj (o := o) (r := .ok b) (Ho2.ka g2)))
theorem law_37 {n w m o o2 i kb gb D D' bb sb : Nat} {xs : Nat → Int32} {I : Mem} {K : Kt} (hi : i + 6 ≤ n) (hn : n ≤ 3072) (S : ST I K w m kb gb D) (Ho : LA K 103 1 o) (Ho2 : LA K 104 1 o2) (hc : LC (mX9_price 8) cX9_price (mX10_price 3) cX10_price [eIS, eIX] [.int (xs (i + 1))] I K w m kb gb D') (hk : Tail n xs w m o o2 i kb gb D' bb sb) : X mLaw code (2 + bb + (kb + 3 - kN K)) (12 + sb + (gb + 246 - gz K)) I K 2230 (lawL w m o o2 i) [] lawQ (GsL n xs) := by
  obtain ⟨r, t, b, I1, I2, K1, a6, b6, ⟨c1, c2, c3⟩, ⟨e1, e2⟩, S1, ⟨g1, g2⟩, l1, l2⟩ := hc
  have z1 := S1.size
  refine X.less (bc' := a6 + (bb + (kb + 3 - kN K1))) (bs' := b6 + (sb + (gb + 246 - gz K1))) ?_ (by have := g1.1; omega) (by have := g1.2; omega)
  have hM : MK (KJ K1 o r) m := (S1.kj).mk
  refine x_aloadn dL_law_2230 rfl ?_
  refine x_arg (i := i) (j := 1) rfl dL_law_2231 dL_law_2232 dL_law_2234 dL_law_2235 dL_law_2236 rfl rfl (by omega) (by omega) ?_
  refine x_aloadn dL_law_2237 rfl ?_
  refine y_callS1 (As := [.ref w, .int (xs (i + 1)), .ref o]) (rest := []) (cs_L_327 _) rfl rfl (Nat.le_of_ble_eq_true rfl) ⟨Nat.le_of_ble_eq_true rfl, Nat.le_of_ble_eq_true rfl⟩ dL_law_2238 (wL_price 8 S.lw.o (Ho.ka g2) c1 c2) ?_
  refine x_istore dL_law_2241 (Nat.le_of_ble_eq_true rfl) rfl rfl ?_
  refine x_aloadn dL_law_2243 rfl ?_
  refine x_arg (i := i) (j := 1) rfl dL_law_2244 dL_law_2245 dL_law_2247 dL_law_2248 dL_law_2249 rfl rfl (by omega) (by omega) ?_
  refine z_V1 [.int (xs (i + 1))] [] (cs_L_329 _) (ci := 8) rfl hM.o ⟨Nat.le_of_ble_eq_true rfl, Nat.le_of_ble_eq_true rfl⟩ dL_law_2250 rfl rfl (Nat.le_of_ble_eq_true rfl) (c3 _ hM) ?_
  refine x_istore dL_law_2253 (Nat.le_of_ble_eq_true rfl) rfl rfl ?_
  refine x_aloadn dL_law_2255 rfl ?_
  refine z_V1 [] [] (cs_L_213 _) (ci := 8) rfl hM.o ⟨Nat.le_of_ble_eq_true rfl, Nat.le_of_ble_eq_true rfl⟩ dL_law_2256 rfl rfl (Nat.le_of_ble_eq_true rfl) (c_X10_thrown 0 hM rfl) ?_
  refine X.e2 (congrArg Value.int e1) ?_
  refine x_iload dL_law_2259 rfl ?_
  refine x_icmp_eq 2266 dL_law_2261 rfl (fun _ => ?_) (fun hn => absurd rfl hn)
  refine x_iload dL_law_2266 rfl ?_
  cases r with
  | error E =>
    obtain ⟨i9, -, h9, rfl⟩ := c2
    refine x_if_ne 2283 dL_law_2268 rfl (fun _ => ?_) (fun hn => absurd hn (by rcases (show i9 = 0 ∨ i9 = 1 ∨ i9 = 2 by omega) with rfl | rfl | rfl <;> decide))
    refine x_goto 3795 dL_law_2283 rfl ?_
    exact X.forget (L' := lawL w m o o2 i) ⟨Or.inl rfl, Or.inl rfl, Or.inl rfl, Or.inl rfl, Or.inl rfl, Or.inl rfl, Or.inr rfl, Or.inr rfl, Or.inl rfl, trivial⟩ (hk _ _ (ST.kj (o := o) (r := .error E) S1) (LA.kj (o := o) (r := .error E) (Ho.ka g2)) (LA.kj (o := o) (r := .error E) (Ho2.ka g2)))
  | ok v =>
    obtain rfl : t = 0 := c2
    refine x_if_ne 2283 dL_law_2268 rfl (fun hn => absurd rfl hn) (fun _ => ?_)
    obtain rfl := e2 v rfl
    refine x_aloadn dL_law_2271 rfl ?_
    refine x_iconst 0 dL_law_2272 rfl ?_
    refine x_lald (((Ho.ka g2).kj (r := .ok b) (o := o)).1) (((Ho.ka g2).kj (r := .ok b) (o := o)).2) (j := 0) rfl ⟨by decide, by decide⟩ dL_law_2273 ?_
    refine X.e2 (w := .long b.toInt64) (congrArg Value.long u2_s) ?_
    refine x_iload dL_law_2274 rfl ?_
    refine x_i2l dL_law_2276 ?_
    refine x_lcmp dL_law_2277 ?_
    refine X.e2 (congrArg Value.int lgc) ?_
    refine x_if_eq 2283 dL_law_2278 rfl (fun _ => ?_) (fun hn => absurd rfl hn)
    refine x_goto 3795 dL_law_2283 rfl ?_
    exact X.forget (L' := lawL w m o o2 i) ⟨Or.inl rfl, Or.inl rfl, Or.inl rfl, Or.inl rfl, Or.inl rfl, Or.inl rfl, Or.inr rfl, Or.inr rfl, Or.inl rfl, trivial⟩ (hk _ _ (ST.kj (o := o) (r := .ok b) S1) (LA.kj (o := o) (r := .ok b) (Ho.ka g2)) (LA.kj (o := o) (r := .ok b) (Ho2.ka g2)))
theorem law_38 {n w m o o2 i kb gb D D' bb sb : Nat} {xs : Nat → Int32} {I : Mem} {K : Kt} (hi : i + 6 ≤ n) (hn : n ≤ 3072) (S : ST I K w m kb gb D) (Ho : LA K 103 1 o) (Ho2 : LA K 104 1 o2) (hc : LC (mX9_offer 8) cX9_offer (mX10_offer 3) cX10_offer [eIS, eIX] [.int (xs (i + 1)), .int (xs (i + 2))] I K w m kb gb D') (hk : Tail n xs w m o o2 i kb gb D' bb sb) : X mLaw code (2 + bb + (kb + 3 - kN K)) (12 + sb + (gb + 246 - gz K)) I K 2286 (lawL w m o o2 i) [] lawQ (GsL n xs) := by
  obtain ⟨r, t, b, I1, I2, K1, a6, b6, ⟨c1, c2, c3⟩, ⟨e1, e2⟩, S1, ⟨g1, g2⟩, l1, l2⟩ := hc
  have z1 := S1.size
  refine X.less (bc' := a6 + (bb + (kb + 3 - kN K1))) (bs' := b6 + (sb + (gb + 246 - gz K1))) ?_ (by have := g1.1; omega) (by have := g1.2; omega)
  have hM : MK (KJ K1 o r) m := (S1.kj).mk
  refine x_aloadn dL_law_2286 rfl ?_
  refine x_arg (i := i) (j := 1) rfl dL_law_2287 dL_law_2288 dL_law_2290 dL_law_2291 dL_law_2292 rfl rfl (by omega) (by omega) ?_
  refine x_arg (i := i) (j := 2) rfl dL_law_2293 dL_law_2294 dL_law_2296 dL_law_2297 dL_law_2298 rfl rfl (by omega) (by omega) ?_
  refine x_aloadn dL_law_2299 rfl ?_
  refine y_callS1 (As := [.ref w, .int (xs (i + 1)), .int (xs (i + 2)), .ref o]) (rest := []) (cs_L_330 _) rfl rfl (Nat.le_of_ble_eq_true rfl) ⟨Nat.le_of_ble_eq_true rfl, Nat.le_of_ble_eq_true rfl⟩ dL_law_2300 (wL_offer 8 S.lw.o (Ho.ka g2) c1 c2) ?_
  refine x_istore dL_law_2303 (Nat.le_of_ble_eq_true rfl) rfl rfl ?_
  refine x_aloadn dL_law_2305 rfl ?_
  refine x_arg (i := i) (j := 1) rfl dL_law_2306 dL_law_2307 dL_law_2309 dL_law_2310 dL_law_2311 rfl rfl (by omega) (by omega) ?_
  refine x_arg (i := i) (j := 2) rfl dL_law_2312 dL_law_2313 dL_law_2315 dL_law_2316 dL_law_2317 rfl rfl (by omega) (by omega) ?_
  refine z_V1 [.int (xs (i + 1)), .int (xs (i + 2))] [] (cs_L_332 _) (ci := 8) rfl hM.o ⟨Nat.le_of_ble_eq_true rfl, Nat.le_of_ble_eq_true rfl⟩ dL_law_2318 rfl rfl (Nat.le_of_ble_eq_true rfl) (c3 _ hM) ?_
  refine x_istore dL_law_2321 (Nat.le_of_ble_eq_true rfl) rfl rfl ?_
  refine x_aloadn dL_law_2323 rfl ?_
  refine z_V1 [] [] (cs_L_213 _) (ci := 8) rfl hM.o ⟨Nat.le_of_ble_eq_true rfl, Nat.le_of_ble_eq_true rfl⟩ dL_law_2324 rfl rfl (Nat.le_of_ble_eq_true rfl) (c_X10_thrown 0 hM rfl) ?_
  refine X.e2 (congrArg Value.int e1) ?_
  refine x_iload dL_law_2327 rfl ?_
  refine x_icmp_eq 2334 dL_law_2329 rfl (fun _ => ?_) (fun hn => absurd rfl hn)
  refine x_iload dL_law_2334 rfl ?_
  cases r with
  | error E =>
    obtain ⟨i9, -, h9, rfl⟩ := c2
    refine x_if_ne 2351 dL_law_2336 rfl (fun _ => ?_) (fun hn => absurd hn (by rcases (show i9 = 0 ∨ i9 = 1 ∨ i9 = 2 by omega) with rfl | rfl | rfl <;> decide))
    refine x_goto 3795 dL_law_2351 rfl ?_
    exact X.forget (L' := lawL w m o o2 i) ⟨Or.inl rfl, Or.inl rfl, Or.inl rfl, Or.inl rfl, Or.inl rfl, Or.inl rfl, Or.inr rfl, Or.inr rfl, Or.inl rfl, trivial⟩ (hk _ _ (ST.kj (o := o) (r := .error E) S1) (LA.kj (o := o) (r := .error E) (Ho.ka g2)) (LA.kj (o := o) (r := .error E) (Ho2.ka g2)))
  | ok v =>
    obtain rfl : t = 0 := c2
    refine x_if_ne 2351 dL_law_2336 rfl (fun hn => absurd rfl hn) (fun _ => ?_)
    obtain rfl := e2 v rfl
    refine x_aloadn dL_law_2339 rfl ?_
    refine x_iconst 0 dL_law_2340 rfl ?_
    refine x_lald (((Ho.ka g2).kj (r := .ok b) (o := o)).1) (((Ho.ka g2).kj (r := .ok b) (o := o)).2) (j := 0) rfl ⟨by decide, by decide⟩ dL_law_2341 ?_
    refine X.e2 (w := .long b.toInt64) (congrArg Value.long u2_s) ?_
    refine x_iload dL_law_2342 rfl ?_
    refine x_i2l dL_law_2344 ?_
    refine x_lcmp dL_law_2345 ?_
    refine X.e2 (congrArg Value.int lgc) ?_
    refine x_if_eq 2351 dL_law_2346 rfl (fun _ => ?_) (fun hn => absurd rfl hn)
    refine x_goto 3795 dL_law_2351 rfl ?_
    exact X.forget (L' := lawL w m o o2 i) ⟨Or.inl rfl, Or.inl rfl, Or.inl rfl, Or.inl rfl, Or.inl rfl, Or.inl rfl, Or.inr rfl, Or.inr rfl, Or.inl rfl, trivial⟩ (hk _ _ (ST.kj (o := o) (r := .ok b) S1) (LA.kj (o := o) (r := .ok b) (Ho.ka g2)) (LA.kj (o := o) (r := .ok b) (Ho2.ka g2)))
theorem law_39 {n w m o o2 i kb gb D D' bb sb : Nat} {xs : Nat → Int32} {I : Mem} {K : Kt} (hi : i + 6 ≤ n) (hn : n ≤ 3072) (S : ST I K w m kb gb D) (Ho : LA K 103 1 o) (Ho2 : LA K 104 1 o2) (hc : LC (mX9_refund 8) cX9_refund (mX10_refund 3) cX10_refund [eIS, eIX] [.int (xs (i + 1))] I K w m kb gb D') (hk : Tail n xs w m o o2 i kb gb D' bb sb) : X mLaw code (2 + bb + (kb + 3 - kN K)) (12 + sb + (gb + 246 - gz K)) I K 2354 (lawL w m o o2 i) [] lawQ (GsL n xs) := by
  obtain ⟨r, t, b, I1, I2, K1, a6, b6, ⟨c1, c2, c3⟩, ⟨e1, e2⟩, S1, ⟨g1, g2⟩, l1, l2⟩ := hc
  have z1 := S1.size
  refine X.less (bc' := a6 + (bb + (kb + 3 - kN K1))) (bs' := b6 + (sb + (gb + 246 - gz K1))) ?_ (by have := g1.1; omega) (by have := g1.2; omega)
  have hM : MK (KJ K1 o r) m := (S1.kj).mk
  refine x_aloadn dL_law_2354 rfl ?_
  refine x_arg (i := i) (j := 1) rfl dL_law_2355 dL_law_2356 dL_law_2358 dL_law_2359 dL_law_2360 rfl rfl (by omega) (by omega) ?_
  refine x_aloadn dL_law_2361 rfl ?_
  refine y_callS1 (As := [.ref w, .int (xs (i + 1)), .ref o]) (rest := []) (cs_L_333 _) rfl rfl (Nat.le_of_ble_eq_true rfl) ⟨Nat.le_of_ble_eq_true rfl, Nat.le_of_ble_eq_true rfl⟩ dL_law_2362 (wL_refund 8 S.lw.o (Ho.ka g2) c1 c2) ?_
  refine x_istore dL_law_2365 (Nat.le_of_ble_eq_true rfl) rfl rfl ?_
  refine x_aloadn dL_law_2367 rfl ?_
  refine x_arg (i := i) (j := 1) rfl dL_law_2368 dL_law_2369 dL_law_2371 dL_law_2372 dL_law_2373 rfl rfl (by omega) (by omega) ?_
  refine z_V1 [.int (xs (i + 1))] [] (cs_L_335 _) (ci := 8) rfl hM.o ⟨Nat.le_of_ble_eq_true rfl, Nat.le_of_ble_eq_true rfl⟩ dL_law_2374 rfl rfl (Nat.le_of_ble_eq_true rfl) (c3 _ hM) ?_
  refine x_istore dL_law_2377 (Nat.le_of_ble_eq_true rfl) rfl rfl ?_
  refine x_aloadn dL_law_2379 rfl ?_
  refine z_V1 [] [] (cs_L_213 _) (ci := 8) rfl hM.o ⟨Nat.le_of_ble_eq_true rfl, Nat.le_of_ble_eq_true rfl⟩ dL_law_2380 rfl rfl (Nat.le_of_ble_eq_true rfl) (c_X10_thrown 0 hM rfl) ?_
  refine X.e2 (congrArg Value.int e1) ?_
  refine x_iload dL_law_2383 rfl ?_
  refine x_icmp_eq 2390 dL_law_2385 rfl (fun _ => ?_) (fun hn => absurd rfl hn)
  refine x_iload dL_law_2390 rfl ?_
  cases r with
  | error E =>
    obtain ⟨i9, -, h9, rfl⟩ := c2
    refine x_if_ne 2407 dL_law_2392 rfl (fun _ => ?_) (fun hn => absurd hn (by rcases (show i9 = 0 ∨ i9 = 1 ∨ i9 = 2 by omega) with rfl | rfl | rfl <;> decide))
    refine x_goto 3795 dL_law_2407 rfl ?_
    exact X.forget (L' := lawL w m o o2 i) ⟨Or.inl rfl, Or.inl rfl, Or.inl rfl, Or.inl rfl, Or.inl rfl, Or.inl rfl, Or.inr rfl, Or.inr rfl, Or.inl rfl, trivial⟩ (hk _ _ (ST.kj (o := o) (r := .error E) S1) (LA.kj (o := o) (r := .error E) (Ho.ka g2)) (LA.kj (o := o) (r := .error E) (Ho2.ka g2)))
  | ok v =>
    obtain rfl : t = 0 := c2
    refine x_if_ne 2407 dL_law_2392 rfl (fun hn => absurd rfl hn) (fun _ => ?_)
    obtain rfl := e2 v rfl
    refine x_aloadn dL_law_2395 rfl ?_
    refine x_iconst 0 dL_law_2396 rfl ?_
    refine x_lald (((Ho.ka g2).kj (r := .ok b) (o := o)).1) (((Ho.ka g2).kj (r := .ok b) (o := o)).2) (j := 0) rfl ⟨by decide, by decide⟩ dL_law_2397 ?_
    refine X.e2 (w := .long b.toInt64) (congrArg Value.long u2_s) ?_
    refine x_iload dL_law_2398 rfl ?_
    refine x_i2l dL_law_2400 ?_
    refine x_lcmp dL_law_2401 ?_
    refine X.e2 (congrArg Value.int lgc) ?_
    refine x_if_eq 2407 dL_law_2402 rfl (fun _ => ?_) (fun hn => absurd rfl hn)
    refine x_goto 3795 dL_law_2407 rfl ?_
    exact X.forget (L' := lawL w m o o2 i) ⟨Or.inl rfl, Or.inl rfl, Or.inl rfl, Or.inl rfl, Or.inl rfl, Or.inl rfl, Or.inr rfl, Or.inr rfl, Or.inl rfl, trivial⟩ (hk _ _ (ST.kj (o := o) (r := .ok b) S1) (LA.kj (o := o) (r := .ok b) (Ho.ka g2)) (LA.kj (o := o) (r := .ok b) (Ho2.ka g2)))
theorem law_40 {n w m o o2 i kb gb D D' bb sb : Nat} {xs : Nat → Int32} {I : Mem} {K : Kt} (hi : i + 6 ≤ n) (hn : n ≤ 3072) (S : ST I K w m kb gb D) (Ho : LA K 103 1 o) (Ho2 : LA K 104 1 o2) (hc : LC (mX9_buyObstacle 8) cX9_buyObstacle (mX10_buyObstacle 5) cX10_buyObstacle [eIS, eIX] [.int (xs (i + 1)), .int (xs (i + 2))] I K w m kb gb D') (hk : Tail n xs w m o o2 i kb gb D' bb sb) : X mLaw code (2 + bb + (kb + 3 - kN K)) (12 + sb + (gb + 246 - gz K)) I K 2410 (lawL w m o o2 i) [] lawQ (GsL n xs) := by
  obtain ⟨r, t, b, I1, I2, K1, a6, b6, ⟨c1, c2, c3⟩, ⟨e1, e2⟩, S1, ⟨g1, g2⟩, l1, l2⟩ := hc
  have z1 := S1.size
  refine X.less (bc' := a6 + (bb + (kb + 3 - kN K1))) (bs' := b6 + (sb + (gb + 246 - gz K1))) ?_ (by have := g1.1; omega) (by have := g1.2; omega)
  have hM : MK (KJ K1 o r) m := (S1.kj).mk
  refine x_aloadn dL_law_2410 rfl ?_
  refine x_arg (i := i) (j := 1) rfl dL_law_2411 dL_law_2412 dL_law_2414 dL_law_2415 dL_law_2416 rfl rfl (by omega) (by omega) ?_
  refine x_arg (i := i) (j := 2) rfl dL_law_2417 dL_law_2418 dL_law_2420 dL_law_2421 dL_law_2422 rfl rfl (by omega) (by omega) ?_
  refine x_aloadn dL_law_2423 rfl ?_
  refine y_callS1 (As := [.ref w, .int (xs (i + 1)), .int (xs (i + 2)), .ref o]) (rest := []) (cs_L_336 _) rfl rfl (Nat.le_of_ble_eq_true rfl) ⟨Nat.le_of_ble_eq_true rfl, Nat.le_of_ble_eq_true rfl⟩ dL_law_2424 (wL_buyObstacle 8 S.lw.o (Ho.ka g2) c1 c2) ?_
  refine x_istore dL_law_2427 (Nat.le_of_ble_eq_true rfl) rfl rfl ?_
  refine x_aloadn dL_law_2429 rfl ?_
  refine x_arg (i := i) (j := 1) rfl dL_law_2430 dL_law_2431 dL_law_2433 dL_law_2434 dL_law_2435 rfl rfl (by omega) (by omega) ?_
  refine x_arg (i := i) (j := 2) rfl dL_law_2436 dL_law_2437 dL_law_2439 dL_law_2440 dL_law_2441 rfl rfl (by omega) (by omega) ?_
  refine z_V1 [.int (xs (i + 1)), .int (xs (i + 2))] [] (cs_L_338 _) (ci := 8) rfl hM.o ⟨Nat.le_of_ble_eq_true rfl, Nat.le_of_ble_eq_true rfl⟩ dL_law_2442 rfl rfl (Nat.le_of_ble_eq_true rfl) (c3 _ hM) ?_
  refine x_istore dL_law_2445 (Nat.le_of_ble_eq_true rfl) rfl rfl ?_
  refine x_aloadn dL_law_2447 rfl ?_
  refine z_V1 [] [] (cs_L_213 _) (ci := 8) rfl hM.o ⟨Nat.le_of_ble_eq_true rfl, Nat.le_of_ble_eq_true rfl⟩ dL_law_2448 rfl rfl (Nat.le_of_ble_eq_true rfl) (c_X10_thrown 0 hM rfl) ?_
  refine X.e2 (congrArg Value.int e1) ?_
  refine x_iload dL_law_2451 rfl ?_
  refine x_icmp_eq 2458 dL_law_2453 rfl (fun _ => ?_) (fun hn => absurd rfl hn)
  refine x_iload dL_law_2458 rfl ?_
  cases r with
  | error E =>
    obtain ⟨i9, -, h9, rfl⟩ := c2
    refine x_if_ne 2475 dL_law_2460 rfl (fun _ => ?_) (fun hn => absurd hn (by rcases (show i9 = 0 ∨ i9 = 1 ∨ i9 = 2 by omega) with rfl | rfl | rfl <;> decide))
    refine x_goto 3795 dL_law_2475 rfl ?_
    exact X.forget (L' := lawL w m o o2 i) ⟨Or.inl rfl, Or.inl rfl, Or.inl rfl, Or.inl rfl, Or.inl rfl, Or.inl rfl, Or.inr rfl, Or.inr rfl, Or.inl rfl, trivial⟩ (hk _ _ (ST.kj (o := o) (r := .error E) S1) (LA.kj (o := o) (r := .error E) (Ho.ka g2)) (LA.kj (o := o) (r := .error E) (Ho2.ka g2)))
  | ok v =>
    obtain rfl : t = 0 := c2
    refine x_if_ne 2475 dL_law_2460 rfl (fun hn => absurd rfl hn) (fun _ => ?_)
    obtain rfl := e2 v rfl
    refine x_aloadn dL_law_2463 rfl ?_
    refine x_iconst 0 dL_law_2464 rfl ?_
    refine x_lald (((Ho.ka g2).kj (r := .ok b) (o := o)).1) (((Ho.ka g2).kj (r := .ok b) (o := o)).2) (j := 0) rfl ⟨by decide, by decide⟩ dL_law_2465 ?_
    refine X.e2 (w := .long b.toInt64) (congrArg Value.long u2_s) ?_
    refine x_iload dL_law_2466 rfl ?_
    refine x_i2l dL_law_2468 ?_
    refine x_lcmp dL_law_2469 ?_
    refine X.e2 (congrArg Value.int lgc) ?_
    refine x_if_eq 2475 dL_law_2470 rfl (fun _ => ?_) (fun hn => absurd rfl hn)
    refine x_goto 3795 dL_law_2475 rfl ?_
    exact X.forget (L' := lawL w m o o2 i) ⟨Or.inl rfl, Or.inl rfl, Or.inl rfl, Or.inl rfl, Or.inl rfl, Or.inl rfl, Or.inr rfl, Or.inr rfl, Or.inl rfl, trivial⟩ (hk _ _ (ST.kj (o := o) (r := .ok b) S1) (LA.kj (o := o) (r := .ok b) (Ho.ka g2)) (LA.kj (o := o) (r := .ok b) (Ho2.ka g2)))
theorem law_41 {n w m o o2 i kb gb D D' bb sb : Nat} {xs : Nat → Int32} {I : Mem} {K : Kt} (hi : i + 6 ≤ n) (hn : n ≤ 3072) (S : ST I K w m kb gb D) (Ho : LA K 103 1 o) (Ho2 : LA K 104 1 o2) (hc : LC (mX9_sellObstacle 8) cX9_sellObstacle (mX10_sellObstacle 5) cX10_sellObstacle [eIS, eIX] [.int (xs (i + 1)), .int (xs (i + 2))] I K w m kb gb D') (hk : Tail n xs w m o o2 i kb gb D' bb sb) : X mLaw code (2 + bb + (kb + 3 - kN K)) (12 + sb + (gb + 246 - gz K)) I K 2478 (lawL w m o o2 i) [] lawQ (GsL n xs) := by
  obtain ⟨r, t, b, I1, I2, K1, a6, b6, ⟨c1, c2, c3⟩, ⟨e1, e2⟩, S1, ⟨g1, g2⟩, l1, l2⟩ := hc
  have z1 := S1.size
  refine X.less (bc' := a6 + (bb + (kb + 3 - kN K1))) (bs' := b6 + (sb + (gb + 246 - gz K1))) ?_ (by have := g1.1; omega) (by have := g1.2; omega)
  have hM : MK (KJ K1 o r) m := (S1.kj).mk
  refine x_aloadn dL_law_2478 rfl ?_
  refine x_arg (i := i) (j := 1) rfl dL_law_2479 dL_law_2480 dL_law_2482 dL_law_2483 dL_law_2484 rfl rfl (by omega) (by omega) ?_
  refine x_arg (i := i) (j := 2) rfl dL_law_2485 dL_law_2486 dL_law_2488 dL_law_2489 dL_law_2490 rfl rfl (by omega) (by omega) ?_
  refine x_aloadn dL_law_2491 rfl ?_
  refine y_callS1 (As := [.ref w, .int (xs (i + 1)), .int (xs (i + 2)), .ref o]) (rest := []) (cs_L_339 _) rfl rfl (Nat.le_of_ble_eq_true rfl) ⟨Nat.le_of_ble_eq_true rfl, Nat.le_of_ble_eq_true rfl⟩ dL_law_2492 (wL_sellObstacle 8 S.lw.o (Ho.ka g2) c1 c2) ?_
  refine x_istore dL_law_2495 (Nat.le_of_ble_eq_true rfl) rfl rfl ?_
  refine x_aloadn dL_law_2497 rfl ?_
  refine x_arg (i := i) (j := 1) rfl dL_law_2498 dL_law_2499 dL_law_2501 dL_law_2502 dL_law_2503 rfl rfl (by omega) (by omega) ?_
  refine x_arg (i := i) (j := 2) rfl dL_law_2504 dL_law_2505 dL_law_2507 dL_law_2508 dL_law_2509 rfl rfl (by omega) (by omega) ?_
  refine z_V1 [.int (xs (i + 1)), .int (xs (i + 2))] [] (cs_L_341 _) (ci := 8) rfl hM.o ⟨Nat.le_of_ble_eq_true rfl, Nat.le_of_ble_eq_true rfl⟩ dL_law_2510 rfl rfl (Nat.le_of_ble_eq_true rfl) (c3 _ hM) ?_
  refine x_istore dL_law_2513 (Nat.le_of_ble_eq_true rfl) rfl rfl ?_
  refine x_aloadn dL_law_2515 rfl ?_
  refine z_V1 [] [] (cs_L_213 _) (ci := 8) rfl hM.o ⟨Nat.le_of_ble_eq_true rfl, Nat.le_of_ble_eq_true rfl⟩ dL_law_2516 rfl rfl (Nat.le_of_ble_eq_true rfl) (c_X10_thrown 0 hM rfl) ?_
  refine X.e2 (congrArg Value.int e1) ?_
  refine x_iload dL_law_2519 rfl ?_
  refine x_icmp_eq 2526 dL_law_2521 rfl (fun _ => ?_) (fun hn => absurd rfl hn)
  refine x_iload dL_law_2526 rfl ?_
  cases r with
  | error E =>
    obtain ⟨i9, -, h9, rfl⟩ := c2
    refine x_if_ne 2543 dL_law_2528 rfl (fun _ => ?_) (fun hn => absurd hn (by rcases (show i9 = 0 ∨ i9 = 1 ∨ i9 = 2 by omega) with rfl | rfl | rfl <;> decide))
    refine x_goto 3795 dL_law_2543 rfl ?_
    exact X.forget (L' := lawL w m o o2 i) ⟨Or.inl rfl, Or.inl rfl, Or.inl rfl, Or.inl rfl, Or.inl rfl, Or.inl rfl, Or.inr rfl, Or.inr rfl, Or.inl rfl, trivial⟩ (hk _ _ (ST.kj (o := o) (r := .error E) S1) (LA.kj (o := o) (r := .error E) (Ho.ka g2)) (LA.kj (o := o) (r := .error E) (Ho2.ka g2)))
  | ok v =>
    obtain rfl : t = 0 := c2
    refine x_if_ne 2543 dL_law_2528 rfl (fun hn => absurd rfl hn) (fun _ => ?_)
    obtain rfl := e2 v rfl
    refine x_aloadn dL_law_2531 rfl ?_
    refine x_iconst 0 dL_law_2532 rfl ?_
    refine x_lald (((Ho.ka g2).kj (r := .ok b) (o := o)).1) (((Ho.ka g2).kj (r := .ok b) (o := o)).2) (j := 0) rfl ⟨by decide, by decide⟩ dL_law_2533 ?_
    refine X.e2 (w := .long b.toInt64) (congrArg Value.long u2_s) ?_
    refine x_iload dL_law_2534 rfl ?_
    refine x_i2l dL_law_2536 ?_
    refine x_lcmp dL_law_2537 ?_
    refine X.e2 (congrArg Value.int lgc) ?_
    refine x_if_eq 2543 dL_law_2538 rfl (fun _ => ?_) (fun hn => absurd rfl hn)
    refine x_goto 3795 dL_law_2543 rfl ?_
    exact X.forget (L' := lawL w m o o2 i) ⟨Or.inl rfl, Or.inl rfl, Or.inl rfl, Or.inl rfl, Or.inl rfl, Or.inl rfl, Or.inr rfl, Or.inr rfl, Or.inl rfl, trivial⟩ (hk _ _ (ST.kj (o := o) (r := .ok b) S1) (LA.kj (o := o) (r := .ok b) (Ho.ka g2)) (LA.kj (o := o) (r := .ok b) (Ho2.ka g2)))
theorem law_42 {n w m o o2 i kb gb D D' bb sb : Nat} {xs : Nat → Int32} {I : Mem} {K : Kt} (hi : i + 6 ≤ n) (hn : n ≤ 3072) (S : ST I K w m kb gb D) (Ho : LA K 103 1 o) (Ho2 : LA K 104 1 o2) (hc : LC (mX9_returnObstacle 8) cX9_returnObstacle (mX10_returnObstacle 5) cX10_returnObstacle [eIS, eIX] [.int (xs (i + 1))] I K w m kb gb D') (hk : Tail n xs w m o o2 i kb gb D' bb sb) : X mLaw code (2 + bb + (kb + 3 - kN K)) (12 + sb + (gb + 246 - gz K)) I K 2546 (lawL w m o o2 i) [] lawQ (GsL n xs) := by
  obtain ⟨r, t, b, I1, I2, K1, a6, b6, ⟨c1, c2, c3⟩, ⟨e1, e2⟩, S1, ⟨g1, g2⟩, l1, l2⟩ := hc
  have z1 := S1.size
  refine X.less (bc' := a6 + (bb + (kb + 3 - kN K1))) (bs' := b6 + (sb + (gb + 246 - gz K1))) ?_ (by have := g1.1; omega) (by have := g1.2; omega)
  have hM : MK (KJ K1 o r) m := (S1.kj).mk
  refine x_aloadn dL_law_2546 rfl ?_
  refine x_arg (i := i) (j := 1) rfl dL_law_2547 dL_law_2548 dL_law_2550 dL_law_2551 dL_law_2552 rfl rfl (by omega) (by omega) ?_
  refine x_aloadn dL_law_2553 rfl ?_
  refine y_callS1 (As := [.ref w, .int (xs (i + 1)), .ref o]) (rest := []) (cs_L_342 _) rfl rfl (Nat.le_of_ble_eq_true rfl) ⟨Nat.le_of_ble_eq_true rfl, Nat.le_of_ble_eq_true rfl⟩ dL_law_2554 (wL_returnObstacle 8 S.lw.o (Ho.ka g2) c1 c2) ?_
  refine x_istore dL_law_2557 (Nat.le_of_ble_eq_true rfl) rfl rfl ?_
  refine x_aloadn dL_law_2559 rfl ?_
  refine x_arg (i := i) (j := 1) rfl dL_law_2560 dL_law_2561 dL_law_2563 dL_law_2564 dL_law_2565 rfl rfl (by omega) (by omega) ?_
  refine z_V1 [.int (xs (i + 1))] [] (cs_L_344 _) (ci := 8) rfl hM.o ⟨Nat.le_of_ble_eq_true rfl, Nat.le_of_ble_eq_true rfl⟩ dL_law_2566 rfl rfl (Nat.le_of_ble_eq_true rfl) (c3 _ hM) ?_
  refine x_istore dL_law_2569 (Nat.le_of_ble_eq_true rfl) rfl rfl ?_
  refine x_aloadn dL_law_2571 rfl ?_
  refine z_V1 [] [] (cs_L_213 _) (ci := 8) rfl hM.o ⟨Nat.le_of_ble_eq_true rfl, Nat.le_of_ble_eq_true rfl⟩ dL_law_2572 rfl rfl (Nat.le_of_ble_eq_true rfl) (c_X10_thrown 0 hM rfl) ?_
  refine X.e2 (congrArg Value.int e1) ?_
  refine x_iload dL_law_2575 rfl ?_
  refine x_icmp_eq 2582 dL_law_2577 rfl (fun _ => ?_) (fun hn => absurd rfl hn)
  refine x_iload dL_law_2582 rfl ?_
  cases r with
  | error E =>
    obtain ⟨i9, -, h9, rfl⟩ := c2
    refine x_if_ne 2599 dL_law_2584 rfl (fun _ => ?_) (fun hn => absurd hn (by rcases (show i9 = 0 ∨ i9 = 1 ∨ i9 = 2 by omega) with rfl | rfl | rfl <;> decide))
    refine x_goto 3795 dL_law_2599 rfl ?_
    exact X.forget (L' := lawL w m o o2 i) ⟨Or.inl rfl, Or.inl rfl, Or.inl rfl, Or.inl rfl, Or.inl rfl, Or.inl rfl, Or.inr rfl, Or.inr rfl, Or.inl rfl, trivial⟩ (hk _ _ (ST.kj (o := o) (r := .error E) S1) (LA.kj (o := o) (r := .error E) (Ho.ka g2)) (LA.kj (o := o) (r := .error E) (Ho2.ka g2)))
  | ok v =>
    obtain rfl : t = 0 := c2
    refine x_if_ne 2599 dL_law_2584 rfl (fun hn => absurd rfl hn) (fun _ => ?_)
    obtain rfl := e2 v rfl
    refine x_aloadn dL_law_2587 rfl ?_
    refine x_iconst 0 dL_law_2588 rfl ?_
    refine x_lald (((Ho.ka g2).kj (r := .ok b) (o := o)).1) (((Ho.ka g2).kj (r := .ok b) (o := o)).2) (j := 0) rfl ⟨by decide, by decide⟩ dL_law_2589 ?_
    refine X.e2 (w := .long b.toInt64) (congrArg Value.long u2_s) ?_
    refine x_iload dL_law_2590 rfl ?_
    refine x_i2l dL_law_2592 ?_
    refine x_lcmp dL_law_2593 ?_
    refine X.e2 (congrArg Value.int lgc) ?_
    refine x_if_eq 2599 dL_law_2594 rfl (fun _ => ?_) (fun hn => absurd rfl hn)
    refine x_goto 3795 dL_law_2599 rfl ?_
    exact X.forget (L' := lawL w m o o2 i) ⟨Or.inl rfl, Or.inl rfl, Or.inl rfl, Or.inl rfl, Or.inl rfl, Or.inl rfl, Or.inr rfl, Or.inr rfl, Or.inl rfl, trivial⟩ (hk _ _ (ST.kj (o := o) (r := .ok b) S1) (LA.kj (o := o) (r := .ok b) (Ho.ka g2)) (LA.kj (o := o) (r := .ok b) (Ho2.ka g2)))
theorem law_43 {n w m o o2 i kb gb D D' bb sb : Nat} {xs : Nat → Int32} {I : Mem} {K : Kt} (hi : i + 6 ≤ n) (hn : n ≤ 3072) (S : ST I K w m kb gb D) (Ho : LA K 103 1 o) (Ho2 : LA K 104 1 o2) (hc : LC (mX9_grantObstacle 8) cX9_grantObstacle (mX10_grantObstacle 3) cX10_grantObstacle [eIS, eIX] [.int (xs (i + 1))] I K w m kb gb D') (hk : Tail n xs w m o o2 i kb gb D' bb sb) : X mLaw code (2 + bb + (kb + 3 - kN K)) (12 + sb + (gb + 246 - gz K)) I K 2602 (lawL w m o o2 i) [] lawQ (GsL n xs) := by
  obtain ⟨r, t, b, I1, I2, K1, a6, b6, ⟨c1, c2, c3⟩, ⟨e1, e2⟩, S1, ⟨g1, g2⟩, l1, l2⟩ := hc
  have z1 := S1.size
  refine X.less (bc' := a6 + (bb + (kb + 3 - kN K1))) (bs' := b6 + (sb + (gb + 246 - gz K1))) ?_ (by have := g1.1; omega) (by have := g1.2; omega)
  have hM : MK (KJ K1 o r) m := (S1.kj).mk
  refine x_aloadn dL_law_2602 rfl ?_
  refine x_arg (i := i) (j := 1) rfl dL_law_2603 dL_law_2604 dL_law_2606 dL_law_2607 dL_law_2608 rfl rfl (by omega) (by omega) ?_
  refine x_aloadn dL_law_2609 rfl ?_
  refine y_callS1 (As := [.ref w, .int (xs (i + 1)), .ref o]) (rest := []) (cs_L_345 _) rfl rfl (Nat.le_of_ble_eq_true rfl) ⟨Nat.le_of_ble_eq_true rfl, Nat.le_of_ble_eq_true rfl⟩ dL_law_2610 (wL_grantObstacle 8 S.lw.o (Ho.ka g2) c1 c2) ?_
  refine x_istore dL_law_2613 (Nat.le_of_ble_eq_true rfl) rfl rfl ?_
  refine x_aloadn dL_law_2615 rfl ?_
  refine x_arg (i := i) (j := 1) rfl dL_law_2616 dL_law_2617 dL_law_2619 dL_law_2620 dL_law_2621 rfl rfl (by omega) (by omega) ?_
  refine z_V1 [.int (xs (i + 1))] [] (cs_L_347 _) (ci := 8) rfl hM.o ⟨Nat.le_of_ble_eq_true rfl, Nat.le_of_ble_eq_true rfl⟩ dL_law_2622 rfl rfl (Nat.le_of_ble_eq_true rfl) (c3 _ hM) ?_
  refine x_istore dL_law_2625 (Nat.le_of_ble_eq_true rfl) rfl rfl ?_
  refine x_aloadn dL_law_2627 rfl ?_
  refine z_V1 [] [] (cs_L_213 _) (ci := 8) rfl hM.o ⟨Nat.le_of_ble_eq_true rfl, Nat.le_of_ble_eq_true rfl⟩ dL_law_2628 rfl rfl (Nat.le_of_ble_eq_true rfl) (c_X10_thrown 0 hM rfl) ?_
  refine X.e2 (congrArg Value.int e1) ?_
  refine x_iload dL_law_2631 rfl ?_
  refine x_icmp_eq 2638 dL_law_2633 rfl (fun _ => ?_) (fun hn => absurd rfl hn)
  refine x_iload dL_law_2638 rfl ?_
  cases r with
  | error E =>
    obtain ⟨i9, -, h9, rfl⟩ := c2
    refine x_if_ne 2655 dL_law_2640 rfl (fun _ => ?_) (fun hn => absurd hn (by rcases (show i9 = 0 ∨ i9 = 1 ∨ i9 = 2 by omega) with rfl | rfl | rfl <;> decide))
    refine x_goto 3795 dL_law_2655 rfl ?_
    exact X.forget (L' := lawL w m o o2 i) ⟨Or.inl rfl, Or.inl rfl, Or.inl rfl, Or.inl rfl, Or.inl rfl, Or.inl rfl, Or.inr rfl, Or.inr rfl, Or.inl rfl, trivial⟩ (hk _ _ (ST.kj (o := o) (r := .error E) S1) (LA.kj (o := o) (r := .error E) (Ho.ka g2)) (LA.kj (o := o) (r := .error E) (Ho2.ka g2)))
  | ok v =>
    obtain rfl : t = 0 := c2
    refine x_if_ne 2655 dL_law_2640 rfl (fun hn => absurd rfl hn) (fun _ => ?_)
    obtain rfl := e2 v rfl
    refine x_aloadn dL_law_2643 rfl ?_
    refine x_iconst 0 dL_law_2644 rfl ?_
    refine x_lald (((Ho.ka g2).kj (r := .ok b) (o := o)).1) (((Ho.ka g2).kj (r := .ok b) (o := o)).2) (j := 0) rfl ⟨by decide, by decide⟩ dL_law_2645 ?_
    refine X.e2 (w := .long b.toInt64) (congrArg Value.long u2_s) ?_
    refine x_iload dL_law_2646 rfl ?_
    refine x_i2l dL_law_2648 ?_
    refine x_lcmp dL_law_2649 ?_
    refine X.e2 (congrArg Value.int lgc) ?_
    refine x_if_eq 2655 dL_law_2650 rfl (fun _ => ?_) (fun hn => absurd rfl hn)
    refine x_goto 3795 dL_law_2655 rfl ?_
    exact X.forget (L' := lawL w m o o2 i) ⟨Or.inl rfl, Or.inl rfl, Or.inl rfl, Or.inl rfl, Or.inl rfl, Or.inl rfl, Or.inr rfl, Or.inr rfl, Or.inl rfl, trivial⟩ (hk _ _ (ST.kj (o := o) (r := .ok b) S1) (LA.kj (o := o) (r := .ok b) (Ho.ka g2)) (LA.kj (o := o) (r := .ok b) (Ho2.ka g2)))
theorem law_44 {n w m o o2 i kb gb D D' bb sb : Nat} {xs : Nat → Int32} {I : Mem} {K : Kt} (hi : i + 6 ≤ n) (hn : n ≤ 3072) (S : ST I K w m kb gb D) (Ho : LA K 103 1 o) (Ho2 : LA K 104 1 o2) (hc : LC (mX9_cheapestWish 9) cX9_cheapestWish (mX10_cheapestWish 6) cX10_cheapestWish [eIS, eIX] [.int (xs (i + 1))] I K w m kb gb D') (hk : Tail n xs w m o o2 i kb gb D' bb sb) : X mLaw code (2 + bb + (kb + 3 - kN K)) (12 + sb + (gb + 246 - gz K)) I K 2658 (lawL w m o o2 i) [] lawQ (GsL n xs) := by
  obtain ⟨r, t, b, I1, I2, K1, a6, b6, ⟨c1, c2, c3⟩, ⟨e1, e2⟩, S1, ⟨g1, g2⟩, l1, l2⟩ := hc
  have z1 := S1.size
  refine X.less (bc' := a6 + (bb + (kb + 3 - kN K1))) (bs' := b6 + (sb + (gb + 246 - gz K1))) ?_ (by have := g1.1; omega) (by have := g1.2; omega)
  have hM : MK (KJ K1 o r) m := (S1.kj).mk
  refine x_aloadn dL_law_2658 rfl ?_
  refine x_arg (i := i) (j := 1) rfl dL_law_2659 dL_law_2660 dL_law_2662 dL_law_2663 dL_law_2664 rfl rfl (by omega) (by omega) ?_
  refine x_aloadn dL_law_2665 rfl ?_
  refine y_callS1 (As := [.ref w, .int (xs (i + 1)), .ref o]) (rest := []) (cs_L_348 _) rfl rfl (Nat.le_of_ble_eq_true rfl) ⟨Nat.le_of_ble_eq_true rfl, Nat.le_of_ble_eq_true rfl⟩ dL_law_2666 (wL_cheapestWish 9 S.lw.o (Ho.ka g2) c1 c2) ?_
  refine x_istore dL_law_2669 (Nat.le_of_ble_eq_true rfl) rfl rfl ?_
  refine x_aloadn dL_law_2671 rfl ?_
  refine x_arg (i := i) (j := 1) rfl dL_law_2672 dL_law_2673 dL_law_2675 dL_law_2676 dL_law_2677 rfl rfl (by omega) (by omega) ?_
  refine z_V1 [.int (xs (i + 1))] [] (cs_L_350 _) (ci := 8) rfl hM.o ⟨Nat.le_of_ble_eq_true rfl, Nat.le_of_ble_eq_true rfl⟩ dL_law_2678 rfl rfl (Nat.le_of_ble_eq_true rfl) (c3 _ hM) ?_
  refine x_istore dL_law_2681 (Nat.le_of_ble_eq_true rfl) rfl rfl ?_
  refine x_aloadn dL_law_2683 rfl ?_
  refine z_V1 [] [] (cs_L_213 _) (ci := 8) rfl hM.o ⟨Nat.le_of_ble_eq_true rfl, Nat.le_of_ble_eq_true rfl⟩ dL_law_2684 rfl rfl (Nat.le_of_ble_eq_true rfl) (c_X10_thrown 0 hM rfl) ?_
  refine X.e2 (congrArg Value.int e1) ?_
  refine x_iload dL_law_2687 rfl ?_
  refine x_icmp_eq 2694 dL_law_2689 rfl (fun _ => ?_) (fun hn => absurd rfl hn)
  refine x_iload dL_law_2694 rfl ?_
  cases r with
  | error E =>
    obtain ⟨i9, -, h9, rfl⟩ := c2
    refine x_if_ne 2711 dL_law_2696 rfl (fun _ => ?_) (fun hn => absurd hn (by rcases (show i9 = 0 ∨ i9 = 1 ∨ i9 = 2 by omega) with rfl | rfl | rfl <;> decide))
    refine x_goto 3795 dL_law_2711 rfl ?_
    exact X.forget (L' := lawL w m o o2 i) ⟨Or.inl rfl, Or.inl rfl, Or.inl rfl, Or.inl rfl, Or.inl rfl, Or.inl rfl, Or.inr rfl, Or.inr rfl, Or.inl rfl, trivial⟩ (hk _ _ (ST.kj (o := o) (r := .error E) S1) (LA.kj (o := o) (r := .error E) (Ho.ka g2)) (LA.kj (o := o) (r := .error E) (Ho2.ka g2)))
  | ok v =>
    obtain rfl : t = 0 := c2
    refine x_if_ne 2711 dL_law_2696 rfl (fun hn => absurd rfl hn) (fun _ => ?_)
    obtain rfl := e2 v rfl
    refine x_aloadn dL_law_2699 rfl ?_
    refine x_iconst 0 dL_law_2700 rfl ?_
    refine x_lald (((Ho.ka g2).kj (r := .ok b) (o := o)).1) (((Ho.ka g2).kj (r := .ok b) (o := o)).2) (j := 0) rfl ⟨by decide, by decide⟩ dL_law_2701 ?_
    refine X.e2 (w := .long b.toInt64) (congrArg Value.long u2_s) ?_
    refine x_iload dL_law_2702 rfl ?_
    refine x_i2l dL_law_2704 ?_
    refine x_lcmp dL_law_2705 ?_
    refine X.e2 (congrArg Value.int lgc) ?_
    refine x_if_eq 2711 dL_law_2706 rfl (fun _ => ?_) (fun hn => absurd rfl hn)
    refine x_goto 3795 dL_law_2711 rfl ?_
    exact X.forget (L' := lawL w m o o2 i) ⟨Or.inl rfl, Or.inl rfl, Or.inl rfl, Or.inl rfl, Or.inl rfl, Or.inl rfl, Or.inr rfl, Or.inr rfl, Or.inl rfl, trivial⟩ (hk _ _ (ST.kj (o := o) (r := .ok b) S1) (LA.kj (o := o) (r := .ok b) (Ho.ka g2)) (LA.kj (o := o) (r := .ok b) (Ho2.ka g2)))
theorem law_45 {n w m o o2 i kb gb D D' bb sb : Nat} {xs : Nat → Int32} {I : Mem} {K : Kt} (hi : i + 6 ≤ n) (hn : n ≤ 3072) (S : ST I K w m kb gb D) (Ho : LA K 103 1 o) (Ho2 : LA K 104 1 o2) (hc : LC (mX9_bestGrant 8) cX9_bestGrant (mX10_bestGrant 4) cX10_bestGrant [eIS, eIX] [.int (xs (i + 1))] I K w m kb gb D') (hk : Tail n xs w m o o2 i kb gb D' bb sb) : X mLaw code (2 + bb + (kb + 3 - kN K)) (12 + sb + (gb + 246 - gz K)) I K 2714 (lawL w m o o2 i) [] lawQ (GsL n xs) := by
  obtain ⟨r, t, b, I1, I2, K1, a6, b6, ⟨c1, c2, c3⟩, ⟨e1, e2⟩, S1, ⟨g1, g2⟩, l1, l2⟩ := hc
  have z1 := S1.size
  refine X.less (bc' := a6 + (bb + (kb + 3 - kN K1))) (bs' := b6 + (sb + (gb + 246 - gz K1))) ?_ (by have := g1.1; omega) (by have := g1.2; omega)
  have hM : MK (KJ K1 o r) m := (S1.kj).mk
  refine x_aloadn dL_law_2714 rfl ?_
  refine x_arg (i := i) (j := 1) rfl dL_law_2715 dL_law_2716 dL_law_2718 dL_law_2719 dL_law_2720 rfl rfl (by omega) (by omega) ?_
  refine x_aloadn dL_law_2721 rfl ?_
  refine y_callS1 (As := [.ref w, .int (xs (i + 1)), .ref o]) (rest := []) (cs_L_351 _) rfl rfl (Nat.le_of_ble_eq_true rfl) ⟨Nat.le_of_ble_eq_true rfl, Nat.le_of_ble_eq_true rfl⟩ dL_law_2722 (wL_bestGrant 8 S.lw.o (Ho.ka g2) c1 c2) ?_
  refine x_istore dL_law_2725 (Nat.le_of_ble_eq_true rfl) rfl rfl ?_
  refine x_aloadn dL_law_2727 rfl ?_
  refine x_arg (i := i) (j := 1) rfl dL_law_2728 dL_law_2729 dL_law_2731 dL_law_2732 dL_law_2733 rfl rfl (by omega) (by omega) ?_
  refine z_V1 [.int (xs (i + 1))] [] (cs_L_353 _) (ci := 8) rfl hM.o ⟨Nat.le_of_ble_eq_true rfl, Nat.le_of_ble_eq_true rfl⟩ dL_law_2734 rfl rfl (Nat.le_of_ble_eq_true rfl) (c3 _ hM) ?_
  refine x_istore dL_law_2737 (Nat.le_of_ble_eq_true rfl) rfl rfl ?_
  refine x_aloadn dL_law_2739 rfl ?_
  refine z_V1 [] [] (cs_L_213 _) (ci := 8) rfl hM.o ⟨Nat.le_of_ble_eq_true rfl, Nat.le_of_ble_eq_true rfl⟩ dL_law_2740 rfl rfl (Nat.le_of_ble_eq_true rfl) (c_X10_thrown 0 hM rfl) ?_
  refine X.e2 (congrArg Value.int e1) ?_
  refine x_iload dL_law_2743 rfl ?_
  refine x_icmp_eq 2750 dL_law_2745 rfl (fun _ => ?_) (fun hn => absurd rfl hn)
  refine x_iload dL_law_2750 rfl ?_
  cases r with
  | error E =>
    obtain ⟨i9, -, h9, rfl⟩ := c2
    refine x_if_ne 2767 dL_law_2752 rfl (fun _ => ?_) (fun hn => absurd hn (by rcases (show i9 = 0 ∨ i9 = 1 ∨ i9 = 2 by omega) with rfl | rfl | rfl <;> decide))
    refine x_goto 3795 dL_law_2767 rfl ?_
    exact X.forget (L' := lawL w m o o2 i) ⟨Or.inl rfl, Or.inl rfl, Or.inl rfl, Or.inl rfl, Or.inl rfl, Or.inl rfl, Or.inr rfl, Or.inr rfl, Or.inl rfl, trivial⟩ (hk _ _ (ST.kj (o := o) (r := .error E) S1) (LA.kj (o := o) (r := .error E) (Ho.ka g2)) (LA.kj (o := o) (r := .error E) (Ho2.ka g2)))
  | ok v =>
    obtain rfl : t = 0 := c2
    refine x_if_ne 2767 dL_law_2752 rfl (fun hn => absurd rfl hn) (fun _ => ?_)
    obtain rfl := e2 v rfl
    refine x_aloadn dL_law_2755 rfl ?_
    refine x_iconst 0 dL_law_2756 rfl ?_
    refine x_lald (((Ho.ka g2).kj (r := .ok b) (o := o)).1) (((Ho.ka g2).kj (r := .ok b) (o := o)).2) (j := 0) rfl ⟨by decide, by decide⟩ dL_law_2757 ?_
    refine X.e2 (w := .long b.toInt64) (congrArg Value.long u2_s) ?_
    refine x_iload dL_law_2758 rfl ?_
    refine x_i2l dL_law_2760 ?_
    refine x_lcmp dL_law_2761 ?_
    refine X.e2 (congrArg Value.int lgc) ?_
    refine x_if_eq 2767 dL_law_2762 rfl (fun _ => ?_) (fun hn => absurd rfl hn)
    refine x_goto 3795 dL_law_2767 rfl ?_
    exact X.forget (L' := lawL w m o o2 i) ⟨Or.inl rfl, Or.inl rfl, Or.inl rfl, Or.inl rfl, Or.inl rfl, Or.inl rfl, Or.inr rfl, Or.inr rfl, Or.inl rfl, trivial⟩ (hk _ _ (ST.kj (o := o) (r := .ok b) S1) (LA.kj (o := o) (r := .ok b) (Ho.ka g2)) (LA.kj (o := o) (r := .ok b) (Ho2.ka g2)))
theorem law_46 {n w m o o2 i kb gb D D' bb sb : Nat} {xs : Nat → Int32} {I : Mem} {K : Kt} (hi : i + 6 ≤ n) (hn : n ≤ 3072) (S : ST I K w m kb gb D) (Ho : LA K 103 1 o) (Ho2 : LA K 104 1 o2) (hc : LC (mX9_bestOffer 8) cX9_bestOffer (mX10_bestOffer 6) cX10_bestOffer [eIS, eIX] [.int (xs (i + 1))] I K w m kb gb D') (hk : Tail n xs w m o o2 i kb gb D' bb sb) : X mLaw code (2 + bb + (kb + 3 - kN K)) (12 + sb + (gb + 246 - gz K)) I K 2770 (lawL w m o o2 i) [] lawQ (GsL n xs) := by
  obtain ⟨r, t, b, I1, I2, K1, a6, b6, ⟨c1, c2, c3⟩, ⟨e1, e2⟩, S1, ⟨g1, g2⟩, l1, l2⟩ := hc
  have z1 := S1.size
  refine X.less (bc' := a6 + (bb + (kb + 3 - kN K1))) (bs' := b6 + (sb + (gb + 246 - gz K1))) ?_ (by have := g1.1; omega) (by have := g1.2; omega)
  have hM : MK (KJ K1 o r) m := (S1.kj).mk
  refine x_aloadn dL_law_2770 rfl ?_
  refine x_arg (i := i) (j := 1) rfl dL_law_2771 dL_law_2772 dL_law_2774 dL_law_2775 dL_law_2776 rfl rfl (by omega) (by omega) ?_
  refine x_aloadn dL_law_2777 rfl ?_
  refine y_callS1 (As := [.ref w, .int (xs (i + 1)), .ref o]) (rest := []) (cs_L_354 _) rfl rfl (Nat.le_of_ble_eq_true rfl) ⟨Nat.le_of_ble_eq_true rfl, Nat.le_of_ble_eq_true rfl⟩ dL_law_2778 (wL_bestOffer 8 S.lw.o (Ho.ka g2) c1 c2) ?_
  refine x_istore dL_law_2781 (Nat.le_of_ble_eq_true rfl) rfl rfl ?_
  refine x_aloadn dL_law_2783 rfl ?_
  refine x_arg (i := i) (j := 1) rfl dL_law_2784 dL_law_2785 dL_law_2787 dL_law_2788 dL_law_2789 rfl rfl (by omega) (by omega) ?_
  refine z_V1 [.int (xs (i + 1))] [] (cs_L_356 _) (ci := 8) rfl hM.o ⟨Nat.le_of_ble_eq_true rfl, Nat.le_of_ble_eq_true rfl⟩ dL_law_2790 rfl rfl (Nat.le_of_ble_eq_true rfl) (c3 _ hM) ?_
  refine x_istore dL_law_2793 (Nat.le_of_ble_eq_true rfl) rfl rfl ?_
  refine x_aloadn dL_law_2795 rfl ?_
  refine z_V1 [] [] (cs_L_213 _) (ci := 8) rfl hM.o ⟨Nat.le_of_ble_eq_true rfl, Nat.le_of_ble_eq_true rfl⟩ dL_law_2796 rfl rfl (Nat.le_of_ble_eq_true rfl) (c_X10_thrown 0 hM rfl) ?_
  refine X.e2 (congrArg Value.int e1) ?_
  refine x_iload dL_law_2799 rfl ?_
  refine x_icmp_eq 2806 dL_law_2801 rfl (fun _ => ?_) (fun hn => absurd rfl hn)
  refine x_iload dL_law_2806 rfl ?_
  cases r with
  | error E =>
    obtain ⟨i9, -, h9, rfl⟩ := c2
    refine x_if_ne 2823 dL_law_2808 rfl (fun _ => ?_) (fun hn => absurd hn (by rcases (show i9 = 0 ∨ i9 = 1 ∨ i9 = 2 by omega) with rfl | rfl | rfl <;> decide))
    refine x_goto 3795 dL_law_2823 rfl ?_
    exact X.forget (L' := lawL w m o o2 i) ⟨Or.inl rfl, Or.inl rfl, Or.inl rfl, Or.inl rfl, Or.inl rfl, Or.inl rfl, Or.inr rfl, Or.inr rfl, Or.inl rfl, trivial⟩ (hk _ _ (ST.kj (o := o) (r := .error E) S1) (LA.kj (o := o) (r := .error E) (Ho.ka g2)) (LA.kj (o := o) (r := .error E) (Ho2.ka g2)))
  | ok v =>
    obtain rfl : t = 0 := c2
    refine x_if_ne 2823 dL_law_2808 rfl (fun hn => absurd rfl hn) (fun _ => ?_)
    obtain rfl := e2 v rfl
    refine x_aloadn dL_law_2811 rfl ?_
    refine x_iconst 0 dL_law_2812 rfl ?_
    refine x_lald (((Ho.ka g2).kj (r := .ok b) (o := o)).1) (((Ho.ka g2).kj (r := .ok b) (o := o)).2) (j := 0) rfl ⟨by decide, by decide⟩ dL_law_2813 ?_
    refine X.e2 (w := .long b.toInt64) (congrArg Value.long u2_s) ?_
    refine x_iload dL_law_2814 rfl ?_
    refine x_i2l dL_law_2816 ?_
    refine x_lcmp dL_law_2817 ?_
    refine X.e2 (congrArg Value.int lgc) ?_
    refine x_if_eq 2823 dL_law_2818 rfl (fun _ => ?_) (fun hn => absurd rfl hn)
    refine x_goto 3795 dL_law_2823 rfl ?_
    exact X.forget (L' := lawL w m o o2 i) ⟨Or.inl rfl, Or.inl rfl, Or.inl rfl, Or.inl rfl, Or.inl rfl, Or.inl rfl, Or.inr rfl, Or.inr rfl, Or.inl rfl, trivial⟩ (hk _ _ (ST.kj (o := o) (r := .ok b) S1) (LA.kj (o := o) (r := .ok b) (Ho.ka g2)) (LA.kj (o := o) (r := .ok b) (Ho2.ka g2)))
theorem law_47 {n w m o o2 i kb gb D D' bb sb : Nat} {xs : Nat → Int32} {I : Mem} {K : Kt} (hi : i + 6 ≤ n) (hn : n ≤ 3072) (S : ST I K w m kb gb D) (Ho : LA K 103 1 o) (Ho2 : LA K 104 1 o2) (hc : LC (mX9_coinsAfter 8) cX9_coinsAfter (mX10_coinsAfter 10) cX10_coinsAfter [eIS, eIX, eIA] [.int (xs (i + 1)), .int (xs (i + 2))] I K w m kb gb D') (hk : Tail n xs w m o o2 i kb gb D' bb sb) : X mLaw code (2 + bb + (kb + 3 - kN K)) (12 + sb + (gb + 246 - gz K)) I K 2826 (lawL w m o o2 i) [] lawQ (GsL n xs) := by
  obtain ⟨r, t, b, I1, I2, K1, a6, b6, ⟨c1, c2, c3⟩, ⟨e1, e2⟩, S1, ⟨g1, g2⟩, l1, l2⟩ := hc
  have z1 := S1.size
  refine X.less (bc' := a6 + (bb + (kb + 3 - kN K1))) (bs' := b6 + (sb + (gb + 246 - gz K1))) ?_ (by have := g1.1; omega) (by have := g1.2; omega)
  have hM : MK (KJ K1 o r) m := (S1.kj).mk
  refine x_aloadn dL_law_2826 rfl ?_
  refine x_arg (i := i) (j := 1) rfl dL_law_2827 dL_law_2828 dL_law_2830 dL_law_2831 dL_law_2832 rfl rfl (by omega) (by omega) ?_
  refine x_arg (i := i) (j := 2) rfl dL_law_2833 dL_law_2834 dL_law_2836 dL_law_2837 dL_law_2838 rfl rfl (by omega) (by omega) ?_
  refine x_aloadn dL_law_2839 rfl ?_
  refine y_callS1 (As := [.ref w, .int (xs (i + 1)), .int (xs (i + 2)), .ref o]) (rest := []) (cs_L_357 _) rfl rfl (Nat.le_of_ble_eq_true rfl) ⟨Nat.le_of_ble_eq_true rfl, Nat.le_of_ble_eq_true rfl⟩ dL_law_2840 (wL_coinsAfter 8 S.lw.o (Ho.ka g2) c1 c2) ?_
  refine x_istore dL_law_2843 (Nat.le_of_ble_eq_true rfl) rfl rfl ?_
  refine x_aloadn dL_law_2845 rfl ?_
  refine x_arg (i := i) (j := 1) rfl dL_law_2846 dL_law_2847 dL_law_2849 dL_law_2850 dL_law_2851 rfl rfl (by omega) (by omega) ?_
  refine x_arg (i := i) (j := 2) rfl dL_law_2852 dL_law_2853 dL_law_2855 dL_law_2856 dL_law_2857 rfl rfl (by omega) (by omega) ?_
  refine z_V1 [.int (xs (i + 1)), .int (xs (i + 2))] [] (cs_L_359 _) (ci := 8) rfl hM.o ⟨Nat.le_of_ble_eq_true rfl, Nat.le_of_ble_eq_true rfl⟩ dL_law_2858 rfl rfl (Nat.le_of_ble_eq_true rfl) (c3 _ hM) ?_
  refine x_istore dL_law_2861 (Nat.le_of_ble_eq_true rfl) rfl rfl ?_
  refine x_aloadn dL_law_2863 rfl ?_
  refine z_V1 [] [] (cs_L_213 _) (ci := 8) rfl hM.o ⟨Nat.le_of_ble_eq_true rfl, Nat.le_of_ble_eq_true rfl⟩ dL_law_2864 rfl rfl (Nat.le_of_ble_eq_true rfl) (c_X10_thrown 0 hM rfl) ?_
  refine X.e2 (congrArg Value.int e1) ?_
  refine x_iload dL_law_2867 rfl ?_
  refine x_icmp_eq 2874 dL_law_2869 rfl (fun _ => ?_) (fun hn => absurd rfl hn)
  refine x_iload dL_law_2874 rfl ?_
  cases r with
  | error E =>
    obtain ⟨i9, -, h9, rfl⟩ := c2
    refine x_if_ne 2891 dL_law_2876 rfl (fun _ => ?_) (fun hn => absurd hn (by rcases (show i9 = 0 ∨ i9 = 1 ∨ i9 = 2 by omega) with rfl | rfl | rfl <;> decide))
    refine x_goto 3795 dL_law_2891 rfl ?_
    exact X.forget (L' := lawL w m o o2 i) ⟨Or.inl rfl, Or.inl rfl, Or.inl rfl, Or.inl rfl, Or.inl rfl, Or.inl rfl, Or.inr rfl, Or.inr rfl, Or.inl rfl, trivial⟩ (hk _ _ (ST.kj (o := o) (r := .error E) S1) (LA.kj (o := o) (r := .error E) (Ho.ka g2)) (LA.kj (o := o) (r := .error E) (Ho2.ka g2)))
  | ok v =>
    obtain rfl : t = 0 := c2
    refine x_if_ne 2891 dL_law_2876 rfl (fun hn => absurd rfl hn) (fun _ => ?_)
    obtain rfl := e2 v rfl
    refine x_aloadn dL_law_2879 rfl ?_
    refine x_iconst 0 dL_law_2880 rfl ?_
    refine x_lald (((Ho.ka g2).kj (r := .ok b) (o := o)).1) (((Ho.ka g2).kj (r := .ok b) (o := o)).2) (j := 0) rfl ⟨by decide, by decide⟩ dL_law_2881 ?_
    refine X.e2 (w := .long b.toInt64) (congrArg Value.long u2_s) ?_
    refine x_iload dL_law_2882 rfl ?_
    refine x_i2l dL_law_2884 ?_
    refine x_lcmp dL_law_2885 ?_
    refine X.e2 (congrArg Value.int lgc) ?_
    refine x_if_eq 2891 dL_law_2886 rfl (fun _ => ?_) (fun hn => absurd rfl hn)
    refine x_goto 3795 dL_law_2891 rfl ?_
    exact X.forget (L' := lawL w m o o2 i) ⟨Or.inl rfl, Or.inl rfl, Or.inl rfl, Or.inl rfl, Or.inl rfl, Or.inl rfl, Or.inr rfl, Or.inr rfl, Or.inl rfl, trivial⟩ (hk _ _ (ST.kj (o := o) (r := .ok b) S1) (LA.kj (o := o) (r := .ok b) (Ho.ka g2)) (LA.kj (o := o) (r := .ok b) (Ho2.ka g2)))
theorem law_48 {n w m o o2 i kb gb D D' bb sb : Nat} {xs : Nat → Int32} {I : Mem} {K : Kt} (hi : i + 6 ≤ n) (hn : n ≤ 3072) (S : ST I K w m kb gb D) (Ho : LA K 103 1 o) (Ho2 : LA K 104 1 o2) (hc : LC (mX9_valueAfter 8) cX9_valueAfter (mX10_valueAfter 10) cX10_valueAfter [eIS, eIX, eIA] [.int (xs (i + 1)), .int (xs (i + 2))] I K w m kb gb D') (hk : Tail n xs w m o o2 i kb gb D' bb sb) : X mLaw code (2 + bb + (kb + 3 - kN K)) (12 + sb + (gb + 246 - gz K)) I K 2894 (lawL w m o o2 i) [] lawQ (GsL n xs) := by
  obtain ⟨r, t, b, I1, I2, K1, a6, b6, ⟨c1, c2, c3⟩, ⟨e1, e2⟩, S1, ⟨g1, g2⟩, l1, l2⟩ := hc
  have z1 := S1.size
  refine X.less (bc' := a6 + (bb + (kb + 3 - kN K1))) (bs' := b6 + (sb + (gb + 246 - gz K1))) ?_ (by have := g1.1; omega) (by have := g1.2; omega)
  have hM : MK (KJ K1 o r) m := (S1.kj).mk
  refine x_aloadn dL_law_2894 rfl ?_
  refine x_arg (i := i) (j := 1) rfl dL_law_2895 dL_law_2896 dL_law_2898 dL_law_2899 dL_law_2900 rfl rfl (by omega) (by omega) ?_
  refine x_arg (i := i) (j := 2) rfl dL_law_2901 dL_law_2902 dL_law_2904 dL_law_2905 dL_law_2906 rfl rfl (by omega) (by omega) ?_
  refine x_aloadn dL_law_2907 rfl ?_
  refine y_callS1 (As := [.ref w, .int (xs (i + 1)), .int (xs (i + 2)), .ref o]) (rest := []) (cs_L_360 _) rfl rfl (Nat.le_of_ble_eq_true rfl) ⟨Nat.le_of_ble_eq_true rfl, Nat.le_of_ble_eq_true rfl⟩ dL_law_2908 (wL_valueAfter 8 S.lw.o (Ho.ka g2) c1 c2) ?_
  refine x_istore dL_law_2911 (Nat.le_of_ble_eq_true rfl) rfl rfl ?_
  refine x_aloadn dL_law_2913 rfl ?_
  refine x_arg (i := i) (j := 1) rfl dL_law_2914 dL_law_2915 dL_law_2917 dL_law_2918 dL_law_2919 rfl rfl (by omega) (by omega) ?_
  refine x_arg (i := i) (j := 2) rfl dL_law_2920 dL_law_2921 dL_law_2923 dL_law_2924 dL_law_2925 rfl rfl (by omega) (by omega) ?_
  refine z_V1 [.int (xs (i + 1)), .int (xs (i + 2))] [] (cs_L_362 _) (ci := 8) rfl hM.o ⟨Nat.le_of_ble_eq_true rfl, Nat.le_of_ble_eq_true rfl⟩ dL_law_2926 rfl rfl (Nat.le_of_ble_eq_true rfl) (c3 _ hM) ?_
  refine x_istore dL_law_2929 (Nat.le_of_ble_eq_true rfl) rfl rfl ?_
  refine x_aloadn dL_law_2931 rfl ?_
  refine z_V1 [] [] (cs_L_213 _) (ci := 8) rfl hM.o ⟨Nat.le_of_ble_eq_true rfl, Nat.le_of_ble_eq_true rfl⟩ dL_law_2932 rfl rfl (Nat.le_of_ble_eq_true rfl) (c_X10_thrown 0 hM rfl) ?_
  refine X.e2 (congrArg Value.int e1) ?_
  refine x_iload dL_law_2935 rfl ?_
  refine x_icmp_eq 2942 dL_law_2937 rfl (fun _ => ?_) (fun hn => absurd rfl hn)
  refine x_iload dL_law_2942 rfl ?_
  cases r with
  | error E =>
    obtain ⟨i9, -, h9, rfl⟩ := c2
    refine x_if_ne 2959 dL_law_2944 rfl (fun _ => ?_) (fun hn => absurd hn (by rcases (show i9 = 0 ∨ i9 = 1 ∨ i9 = 2 by omega) with rfl | rfl | rfl <;> decide))
    refine x_goto 3795 dL_law_2959 rfl ?_
    exact X.forget (L' := lawL w m o o2 i) ⟨Or.inl rfl, Or.inl rfl, Or.inl rfl, Or.inl rfl, Or.inl rfl, Or.inl rfl, Or.inr rfl, Or.inr rfl, Or.inl rfl, trivial⟩ (hk _ _ (ST.kj (o := o) (r := .error E) S1) (LA.kj (o := o) (r := .error E) (Ho.ka g2)) (LA.kj (o := o) (r := .error E) (Ho2.ka g2)))
  | ok v =>
    obtain rfl : t = 0 := c2
    refine x_if_ne 2959 dL_law_2944 rfl (fun hn => absurd rfl hn) (fun _ => ?_)
    obtain rfl := e2 v rfl
    refine x_aloadn dL_law_2947 rfl ?_
    refine x_iconst 0 dL_law_2948 rfl ?_
    refine x_lald (((Ho.ka g2).kj (r := .ok b) (o := o)).1) (((Ho.ka g2).kj (r := .ok b) (o := o)).2) (j := 0) rfl ⟨by decide, by decide⟩ dL_law_2949 ?_
    refine X.e2 (w := .long b.toInt64) (congrArg Value.long u2_s) ?_
    refine x_iload dL_law_2950 rfl ?_
    refine x_i2l dL_law_2952 ?_
    refine x_lcmp dL_law_2953 ?_
    refine X.e2 (congrArg Value.int lgc) ?_
    refine x_if_eq 2959 dL_law_2954 rfl (fun _ => ?_) (fun hn => absurd rfl hn)
    refine x_goto 3795 dL_law_2959 rfl ?_
    exact X.forget (L' := lawL w m o o2 i) ⟨Or.inl rfl, Or.inl rfl, Or.inl rfl, Or.inl rfl, Or.inl rfl, Or.inl rfl, Or.inr rfl, Or.inr rfl, Or.inl rfl, trivial⟩ (hk _ _ (ST.kj (o := o) (r := .ok b) S1) (LA.kj (o := o) (r := .ok b) (Ho.ka g2)) (LA.kj (o := o) (r := .ok b) (Ho2.ka g2)))
theorem law_49 {n w m o o2 i kb gb D D' bb sb : Nat} {xs : Nat → Int32} {I : Mem} {K : Kt} (hi : i + 6 ≤ n) (hn : n ≤ 3072) (S : ST I K w m kb gb D) (Ho : LA K 103 1 o) (Ho2 : LA K 104 1 o2) (hc : LC (mX9_daysUntilFaded 9) cX9_daysUntilFaded (mX10_daysUntilFaded 3) cX10_daysUntilFaded [eIS, eIX] [.int (xs (i + 1))] I K w m kb gb D') (hk : Tail n xs w m o o2 i kb gb D' bb sb) : X mLaw code (2 + bb + (kb + 3 - kN K)) (12 + sb + (gb + 246 - gz K)) I K 2962 (lawL w m o o2 i) [] lawQ (GsL n xs) := by
  obtain ⟨r, t, b, I1, I2, K1, a6, b6, ⟨c1, c2, c3⟩, ⟨e1, e2⟩, S1, ⟨g1, g2⟩, l1, l2⟩ := hc
  have z1 := S1.size
  refine X.less (bc' := a6 + (bb + (kb + 3 - kN K1))) (bs' := b6 + (sb + (gb + 246 - gz K1))) ?_ (by have := g1.1; omega) (by have := g1.2; omega)
  have hM : MK (KJ K1 o r) m := (S1.kj).mk
  refine x_aloadn dL_law_2962 rfl ?_
  refine x_arg (i := i) (j := 1) rfl dL_law_2963 dL_law_2964 dL_law_2966 dL_law_2967 dL_law_2968 rfl rfl (by omega) (by omega) ?_
  refine x_aloadn dL_law_2969 rfl ?_
  refine y_callS1 (As := [.ref w, .int (xs (i + 1)), .ref o]) (rest := []) (cs_L_363 _) rfl rfl (Nat.le_of_ble_eq_true rfl) ⟨Nat.le_of_ble_eq_true rfl, Nat.le_of_ble_eq_true rfl⟩ dL_law_2970 (wL_daysUntilFaded 9 S.lw.o (Ho.ka g2) c1 c2) ?_
  refine x_istore dL_law_2973 (Nat.le_of_ble_eq_true rfl) rfl rfl ?_
  refine x_aloadn dL_law_2975 rfl ?_
  refine x_arg (i := i) (j := 1) rfl dL_law_2976 dL_law_2977 dL_law_2979 dL_law_2980 dL_law_2981 rfl rfl (by omega) (by omega) ?_
  refine z_V1 [.int (xs (i + 1))] [] (cs_L_365 _) (ci := 8) rfl hM.o ⟨Nat.le_of_ble_eq_true rfl, Nat.le_of_ble_eq_true rfl⟩ dL_law_2982 rfl rfl (Nat.le_of_ble_eq_true rfl) (c3 _ hM) ?_
  refine x_istore dL_law_2985 (Nat.le_of_ble_eq_true rfl) rfl rfl ?_
  refine x_aloadn dL_law_2987 rfl ?_
  refine z_V1 [] [] (cs_L_213 _) (ci := 8) rfl hM.o ⟨Nat.le_of_ble_eq_true rfl, Nat.le_of_ble_eq_true rfl⟩ dL_law_2988 rfl rfl (Nat.le_of_ble_eq_true rfl) (c_X10_thrown 0 hM rfl) ?_
  refine X.e2 (congrArg Value.int e1) ?_
  refine x_iload dL_law_2991 rfl ?_
  refine x_icmp_eq 2998 dL_law_2993 rfl (fun _ => ?_) (fun hn => absurd rfl hn)
  refine x_iload dL_law_2998 rfl ?_
  cases r with
  | error E =>
    obtain ⟨i9, -, h9, rfl⟩ := c2
    refine x_if_ne 3015 dL_law_3000 rfl (fun _ => ?_) (fun hn => absurd hn (by rcases (show i9 = 0 ∨ i9 = 1 ∨ i9 = 2 by omega) with rfl | rfl | rfl <;> decide))
    refine x_goto 3795 dL_law_3015 rfl ?_
    exact X.forget (L' := lawL w m o o2 i) ⟨Or.inl rfl, Or.inl rfl, Or.inl rfl, Or.inl rfl, Or.inl rfl, Or.inl rfl, Or.inr rfl, Or.inr rfl, Or.inl rfl, trivial⟩ (hk _ _ (ST.kj (o := o) (r := .error E) S1) (LA.kj (o := o) (r := .error E) (Ho.ka g2)) (LA.kj (o := o) (r := .error E) (Ho2.ka g2)))
  | ok v =>
    obtain rfl : t = 0 := c2
    refine x_if_ne 3015 dL_law_3000 rfl (fun hn => absurd rfl hn) (fun _ => ?_)
    obtain rfl := e2 v rfl
    refine x_aloadn dL_law_3003 rfl ?_
    refine x_iconst 0 dL_law_3004 rfl ?_
    refine x_lald (((Ho.ka g2).kj (r := .ok b) (o := o)).1) (((Ho.ka g2).kj (r := .ok b) (o := o)).2) (j := 0) rfl ⟨by decide, by decide⟩ dL_law_3005 ?_
    refine X.e2 (w := .long b.toInt64) (congrArg Value.long u2_s) ?_
    refine x_iload dL_law_3006 rfl ?_
    refine x_i2l dL_law_3008 ?_
    refine x_lcmp dL_law_3009 ?_
    refine X.e2 (congrArg Value.int lgc) ?_
    refine x_if_eq 3015 dL_law_3010 rfl (fun _ => ?_) (fun hn => absurd rfl hn)
    refine x_goto 3795 dL_law_3015 rfl ?_
    exact X.forget (L' := lawL w m o o2 i) ⟨Or.inl rfl, Or.inl rfl, Or.inl rfl, Or.inl rfl, Or.inl rfl, Or.inl rfl, Or.inr rfl, Or.inr rfl, Or.inl rfl, trivial⟩ (hk _ _ (ST.kj (o := o) (r := .ok b) S1) (LA.kj (o := o) (r := .ok b) (Ho.ka g2)) (LA.kj (o := o) (r := .ok b) (Ho2.ka g2)))
theorem law_50 {n w m o o2 i kb gb D D' bb sb : Nat} {xs : Nat → Int32} {I : Mem} {K : Kt} (hi : i + 6 ≤ n) (hn : n ≤ 3072) (S : ST I K w m kb gb D) (Ho : LA K 103 1 o) (Ho2 : LA K 104 1 o2) (hc : LC (mX9_writeStall 10) cX9_writeStall (mX10_writeStall 3) cX10_writeStall [eIS, eIX] [.int (xs (i + 1))] I K w m kb gb D') (hk : Tail n xs w m o o2 i kb gb D' bb sb) : X mLaw code (2 + bb + (kb + 3 - kN K)) (12 + sb + (gb + 246 - gz K)) I K 3018 (lawL w m o o2 i) [] lawQ (GsL n xs) := by
  obtain ⟨r, t, b, I1, I2, K1, a6, b6, ⟨c1, c2, c3⟩, ⟨e1, e2⟩, S1, ⟨g1, g2⟩, l1, l2⟩ := hc
  have z1 := S1.size
  refine X.less (bc' := a6 + (bb + (kb + 3 - kN K1))) (bs' := b6 + (sb + (gb + 246 - gz K1))) ?_ (by have := g1.1; omega) (by have := g1.2; omega)
  have hM : MK (KJ K1 o r) m := (S1.kj).mk
  refine x_aloadn dL_law_3018 rfl ?_
  refine x_arg (i := i) (j := 1) rfl dL_law_3019 dL_law_3020 dL_law_3022 dL_law_3023 dL_law_3024 rfl rfl (by omega) (by omega) ?_
  refine x_aloadn dL_law_3025 rfl ?_
  refine y_callS1 (As := [.ref w, .int (xs (i + 1)), .ref o]) (rest := []) (cs_L_366 _) rfl rfl (Nat.le_of_ble_eq_true rfl) ⟨Nat.le_of_ble_eq_true rfl, Nat.le_of_ble_eq_true rfl⟩ dL_law_3026 (wL_writeStall 10 S.lw.o (Ho.ka g2) c1 c2) ?_
  refine x_istore dL_law_3029 (Nat.le_of_ble_eq_true rfl) rfl rfl ?_
  refine x_aloadn dL_law_3031 rfl ?_
  refine x_arg (i := i) (j := 1) rfl dL_law_3032 dL_law_3033 dL_law_3035 dL_law_3036 dL_law_3037 rfl rfl (by omega) (by omega) ?_
  refine z_V1 [.int (xs (i + 1))] [] (cs_L_368 _) (ci := 8) rfl hM.o ⟨Nat.le_of_ble_eq_true rfl, Nat.le_of_ble_eq_true rfl⟩ dL_law_3038 rfl rfl (Nat.le_of_ble_eq_true rfl) (c3 _ hM) ?_
  refine x_istore dL_law_3041 (Nat.le_of_ble_eq_true rfl) rfl rfl ?_
  refine x_aloadn dL_law_3043 rfl ?_
  refine z_V1 [] [] (cs_L_213 _) (ci := 8) rfl hM.o ⟨Nat.le_of_ble_eq_true rfl, Nat.le_of_ble_eq_true rfl⟩ dL_law_3044 rfl rfl (Nat.le_of_ble_eq_true rfl) (c_X10_thrown 0 hM rfl) ?_
  refine X.e2 (congrArg Value.int e1) ?_
  refine x_iload dL_law_3047 rfl ?_
  refine x_icmp_eq 3054 dL_law_3049 rfl (fun _ => ?_) (fun hn => absurd rfl hn)
  refine x_iload dL_law_3054 rfl ?_
  cases r with
  | error E =>
    obtain ⟨i9, -, h9, rfl⟩ := c2
    refine x_if_ne 3071 dL_law_3056 rfl (fun _ => ?_) (fun hn => absurd hn (by rcases (show i9 = 0 ∨ i9 = 1 ∨ i9 = 2 by omega) with rfl | rfl | rfl <;> decide))
    refine x_goto 3795 dL_law_3071 rfl ?_
    exact X.forget (L' := lawL w m o o2 i) ⟨Or.inl rfl, Or.inl rfl, Or.inl rfl, Or.inl rfl, Or.inl rfl, Or.inl rfl, Or.inr rfl, Or.inr rfl, Or.inl rfl, trivial⟩ (hk _ _ (ST.kj (o := o) (r := .error E) S1) (LA.kj (o := o) (r := .error E) (Ho.ka g2)) (LA.kj (o := o) (r := .error E) (Ho2.ka g2)))
  | ok v =>
    obtain rfl : t = 0 := c2
    refine x_if_ne 3071 dL_law_3056 rfl (fun hn => absurd rfl hn) (fun _ => ?_)
    obtain rfl := e2 v rfl
    refine x_aloadn dL_law_3059 rfl ?_
    refine x_iconst 0 dL_law_3060 rfl ?_
    refine x_lald (((Ho.ka g2).kj (r := .ok b) (o := o)).1) (((Ho.ka g2).kj (r := .ok b) (o := o)).2) (j := 0) rfl ⟨by decide, by decide⟩ dL_law_3061 ?_
    refine X.e2 (w := .long b.toInt64) (congrArg Value.long u2_s) ?_
    refine x_iload dL_law_3062 rfl ?_
    refine x_i2l dL_law_3064 ?_
    refine x_lcmp dL_law_3065 ?_
    refine X.e2 (congrArg Value.int lgc) ?_
    refine x_if_eq 3071 dL_law_3066 rfl (fun _ => ?_) (fun hn => absurd rfl hn)
    refine x_goto 3795 dL_law_3071 rfl ?_
    exact X.forget (L' := lawL w m o o2 i) ⟨Or.inl rfl, Or.inl rfl, Or.inl rfl, Or.inl rfl, Or.inl rfl, Or.inl rfl, Or.inr rfl, Or.inr rfl, Or.inl rfl, trivial⟩ (hk _ _ (ST.kj (o := o) (r := .ok b) S1) (LA.kj (o := o) (r := .ok b) (Ho.ka g2)) (LA.kj (o := o) (r := .ok b) (Ho2.ka g2)))
theorem law_51 {n w m o o2 i kb gb D D' bb sb : Nat} {xs : Nat → Int32} {I : Mem} {K : Kt} (hi : i + 6 ≤ n) (hn : n ≤ 3072) (S : ST I K w m kb gb D) (Ho : LA K 103 1 o) (Ho2 : LA K 104 1 o2) (hc : LC (mX9_writePerson 10) cX9_writePerson (mX10_writePerson 3) cX10_writePerson [eIS, eIX] [.int (xs (i + 1))] I K w m kb gb D') (hk : Tail n xs w m o o2 i kb gb D' bb sb) : X mLaw code (2 + bb + (kb + 3 - kN K)) (12 + sb + (gb + 246 - gz K)) I K 3074 (lawL w m o o2 i) [] lawQ (GsL n xs) := by
  obtain ⟨r, t, b, I1, I2, K1, a6, b6, ⟨c1, c2, c3⟩, ⟨e1, e2⟩, S1, ⟨g1, g2⟩, l1, l2⟩ := hc
  have z1 := S1.size
  refine X.less (bc' := a6 + (bb + (kb + 3 - kN K1))) (bs' := b6 + (sb + (gb + 246 - gz K1))) ?_ (by have := g1.1; omega) (by have := g1.2; omega)
  have hM : MK (KJ K1 o r) m := (S1.kj).mk
  refine x_aloadn dL_law_3074 rfl ?_
  refine x_arg (i := i) (j := 1) rfl dL_law_3075 dL_law_3076 dL_law_3078 dL_law_3079 dL_law_3080 rfl rfl (by omega) (by omega) ?_
  refine x_aloadn dL_law_3081 rfl ?_
  refine y_callS1 (As := [.ref w, .int (xs (i + 1)), .ref o]) (rest := []) (cs_L_369 _) rfl rfl (Nat.le_of_ble_eq_true rfl) ⟨Nat.le_of_ble_eq_true rfl, Nat.le_of_ble_eq_true rfl⟩ dL_law_3082 (wL_writePerson 10 S.lw.o (Ho.ka g2) c1 c2) ?_
  refine x_istore dL_law_3085 (Nat.le_of_ble_eq_true rfl) rfl rfl ?_
  refine x_aloadn dL_law_3087 rfl ?_
  refine x_arg (i := i) (j := 1) rfl dL_law_3088 dL_law_3089 dL_law_3091 dL_law_3092 dL_law_3093 rfl rfl (by omega) (by omega) ?_
  refine z_V1 [.int (xs (i + 1))] [] (cs_L_371 _) (ci := 8) rfl hM.o ⟨Nat.le_of_ble_eq_true rfl, Nat.le_of_ble_eq_true rfl⟩ dL_law_3094 rfl rfl (Nat.le_of_ble_eq_true rfl) (c3 _ hM) ?_
  refine x_istore dL_law_3097 (Nat.le_of_ble_eq_true rfl) rfl rfl ?_
  refine x_aloadn dL_law_3099 rfl ?_
  refine z_V1 [] [] (cs_L_213 _) (ci := 8) rfl hM.o ⟨Nat.le_of_ble_eq_true rfl, Nat.le_of_ble_eq_true rfl⟩ dL_law_3100 rfl rfl (Nat.le_of_ble_eq_true rfl) (c_X10_thrown 0 hM rfl) ?_
  refine X.e2 (congrArg Value.int e1) ?_
  refine x_iload dL_law_3103 rfl ?_
  refine x_icmp_eq 3110 dL_law_3105 rfl (fun _ => ?_) (fun hn => absurd rfl hn)
  refine x_iload dL_law_3110 rfl ?_
  cases r with
  | error E =>
    obtain ⟨i9, -, h9, rfl⟩ := c2
    refine x_if_ne 3127 dL_law_3112 rfl (fun _ => ?_) (fun hn => absurd hn (by rcases (show i9 = 0 ∨ i9 = 1 ∨ i9 = 2 by omega) with rfl | rfl | rfl <;> decide))
    refine x_goto 3795 dL_law_3127 rfl ?_
    exact X.forget (L' := lawL w m o o2 i) ⟨Or.inl rfl, Or.inl rfl, Or.inl rfl, Or.inl rfl, Or.inl rfl, Or.inl rfl, Or.inr rfl, Or.inr rfl, Or.inl rfl, trivial⟩ (hk _ _ (ST.kj (o := o) (r := .error E) S1) (LA.kj (o := o) (r := .error E) (Ho.ka g2)) (LA.kj (o := o) (r := .error E) (Ho2.ka g2)))
  | ok v =>
    obtain rfl : t = 0 := c2
    refine x_if_ne 3127 dL_law_3112 rfl (fun hn => absurd rfl hn) (fun _ => ?_)
    obtain rfl := e2 v rfl
    refine x_aloadn dL_law_3115 rfl ?_
    refine x_iconst 0 dL_law_3116 rfl ?_
    refine x_lald (((Ho.ka g2).kj (r := .ok b) (o := o)).1) (((Ho.ka g2).kj (r := .ok b) (o := o)).2) (j := 0) rfl ⟨by decide, by decide⟩ dL_law_3117 ?_
    refine X.e2 (w := .long b.toInt64) (congrArg Value.long u2_s) ?_
    refine x_iload dL_law_3118 rfl ?_
    refine x_i2l dL_law_3120 ?_
    refine x_lcmp dL_law_3121 ?_
    refine X.e2 (congrArg Value.int lgc) ?_
    refine x_if_eq 3127 dL_law_3122 rfl (fun _ => ?_) (fun hn => absurd rfl hn)
    refine x_goto 3795 dL_law_3127 rfl ?_
    exact X.forget (L' := lawL w m o o2 i) ⟨Or.inl rfl, Or.inl rfl, Or.inl rfl, Or.inl rfl, Or.inl rfl, Or.inl rfl, Or.inr rfl, Or.inr rfl, Or.inl rfl, trivial⟩ (hk _ _ (ST.kj (o := o) (r := .ok b) S1) (LA.kj (o := o) (r := .ok b) (Ho.ka g2)) (LA.kj (o := o) (r := .ok b) (Ho2.ka g2)))
theorem law_52 {n w m o o2 i kb gb D D' bb sb : Nat} {xs : Nat → Int32} {I : Mem} {K : Kt} (hi : i + 6 ≤ n) (hn : n ≤ 3072) (S : ST I K w m kb gb D) (Ho : LA K 103 1 o) (Ho2 : LA K 104 1 o2) (hc : LC (mX9_outputByte 6) cX9_outputByte (mX10_outputByte 1) cX10_outputByte [eIX] [.int (xs (i + 1))] I K w m kb gb D') (hk : Tail n xs w m o o2 i kb gb D' bb sb) : X mLaw code (2 + bb + (kb + 3 - kN K)) (12 + sb + (gb + 246 - gz K)) I K 3130 (lawL w m o o2 i) [] lawQ (GsL n xs) := by
  obtain ⟨r, t, b, I1, I2, K1, a6, b6, ⟨c1, c2, c3⟩, ⟨e1, e2⟩, S1, ⟨g1, g2⟩, l1, l2⟩ := hc
  have z1 := S1.size
  refine X.less (bc' := a6 + (bb + (kb + 3 - kN K1))) (bs' := b6 + (sb + (gb + 246 - gz K1))) ?_ (by have := g1.1; omega) (by have := g1.2; omega)
  have hM : MK (KJ K1 o r) m := (S1.kj).mk
  refine x_aloadn dL_law_3130 rfl ?_
  refine x_arg (i := i) (j := 1) rfl dL_law_3131 dL_law_3132 dL_law_3134 dL_law_3135 dL_law_3136 rfl rfl (by omega) (by omega) ?_
  refine x_aloadn dL_law_3137 rfl ?_
  refine y_callS1 (As := [.ref w, .int (xs (i + 1)), .ref o]) (rest := []) (cs_L_372 _) rfl rfl (Nat.le_of_ble_eq_true rfl) ⟨Nat.le_of_ble_eq_true rfl, Nat.le_of_ble_eq_true rfl⟩ dL_law_3138 (wL_outputByte 6 S.lw.o (Ho.ka g2) c1 c2) ?_
  refine x_istore dL_law_3141 (Nat.le_of_ble_eq_true rfl) rfl rfl ?_
  refine x_aloadn dL_law_3143 rfl ?_
  refine x_arg (i := i) (j := 1) rfl dL_law_3144 dL_law_3145 dL_law_3147 dL_law_3148 dL_law_3149 rfl rfl (by omega) (by omega) ?_
  refine z_V1 [.int (xs (i + 1))] [] (cs_L_374 _) (ci := 8) rfl hM.o ⟨Nat.le_of_ble_eq_true rfl, Nat.le_of_ble_eq_true rfl⟩ dL_law_3150 rfl rfl (Nat.le_of_ble_eq_true rfl) (c3 _ hM) ?_
  refine x_istore dL_law_3153 (Nat.le_of_ble_eq_true rfl) rfl rfl ?_
  refine x_aloadn dL_law_3155 rfl ?_
  refine z_V1 [] [] (cs_L_213 _) (ci := 8) rfl hM.o ⟨Nat.le_of_ble_eq_true rfl, Nat.le_of_ble_eq_true rfl⟩ dL_law_3156 rfl rfl (Nat.le_of_ble_eq_true rfl) (c_X10_thrown 0 hM rfl) ?_
  refine X.e2 (congrArg Value.int e1) ?_
  refine x_iload dL_law_3159 rfl ?_
  refine x_icmp_eq 3166 dL_law_3161 rfl (fun _ => ?_) (fun hn => absurd rfl hn)
  refine x_iload dL_law_3166 rfl ?_
  cases r with
  | error E =>
    obtain ⟨i9, -, h9, rfl⟩ := c2
    refine x_if_ne 3183 dL_law_3168 rfl (fun _ => ?_) (fun hn => absurd hn (by rcases (show i9 = 0 ∨ i9 = 1 ∨ i9 = 2 by omega) with rfl | rfl | rfl <;> decide))
    refine x_goto 3795 dL_law_3183 rfl ?_
    exact X.forget (L' := lawL w m o o2 i) ⟨Or.inl rfl, Or.inl rfl, Or.inl rfl, Or.inl rfl, Or.inl rfl, Or.inl rfl, Or.inr rfl, Or.inr rfl, Or.inl rfl, trivial⟩ (hk _ _ (ST.kj (o := o) (r := .error E) S1) (LA.kj (o := o) (r := .error E) (Ho.ka g2)) (LA.kj (o := o) (r := .error E) (Ho2.ka g2)))
  | ok v =>
    obtain rfl : t = 0 := c2
    refine x_if_ne 3183 dL_law_3168 rfl (fun hn => absurd rfl hn) (fun _ => ?_)
    obtain rfl := e2 v rfl
    refine x_aloadn dL_law_3171 rfl ?_
    refine x_iconst 0 dL_law_3172 rfl ?_
    refine x_lald (((Ho.ka g2).kj (r := .ok b) (o := o)).1) (((Ho.ka g2).kj (r := .ok b) (o := o)).2) (j := 0) rfl ⟨by decide, by decide⟩ dL_law_3173 ?_
    refine X.e2 (w := .long b.toInt64) (congrArg Value.long u2_s) ?_
    refine x_iload dL_law_3174 rfl ?_
    refine x_i2l dL_law_3176 ?_
    refine x_lcmp dL_law_3177 ?_
    refine X.e2 (congrArg Value.int lgc) ?_
    refine x_if_eq 3183 dL_law_3178 rfl (fun _ => ?_) (fun hn => absurd rfl hn)
    refine x_goto 3795 dL_law_3183 rfl ?_
    exact X.forget (L' := lawL w m o o2 i) ⟨Or.inl rfl, Or.inl rfl, Or.inl rfl, Or.inl rfl, Or.inl rfl, Or.inl rfl, Or.inr rfl, Or.inr rfl, Or.inl rfl, trivial⟩ (hk _ _ (ST.kj (o := o) (r := .ok b) S1) (LA.kj (o := o) (r := .ok b) (Ho.ka g2)) (LA.kj (o := o) (r := .ok b) (Ho2.ka g2)))
theorem law_53 {n w m o o2 i kb gb D D' bb sb : Nat} {xs : Nat → Int32} {I : Mem} {K : Kt} (hi : i + 6 ≤ n) (hn : n ≤ 3072) (S : ST I K w m kb gb D) (Ho : LA K 103 1 o) (Ho2 : LA K 104 1 o2) (hc : LC (mX9_advance 7) cX9_advance (mX10_advance 10) cX10_advance [eIS, eIA] [.int (xs (i + 1))] I K w m kb gb D') (hk : Tail n xs w m o o2 i kb gb D' bb sb) : X mLaw code (2 + bb + (kb + 3 - kN K)) (12 + sb + (gb + 246 - gz K)) I K 3186 (lawL w m o o2 i) [] lawQ (GsL n xs) := by
  obtain ⟨r, t, b, I1, I2, K1, a6, b6, ⟨c1, c2, c3⟩, ⟨e1, e2⟩, S1, ⟨g1, g2⟩, l1, l2⟩ := hc
  have z1 := S1.size
  refine X.less (bc' := a6 + (bb + (kb + 3 - kN K1))) (bs' := b6 + (sb + (gb + 246 - gz K1))) ?_ (by have := g1.1; omega) (by have := g1.2; omega)
  have hM : MK (KJ K1 o r) m := (S1.kj).mk
  refine x_aloadn dL_law_3186 rfl ?_
  refine x_arg (i := i) (j := 1) rfl dL_law_3187 dL_law_3188 dL_law_3190 dL_law_3191 dL_law_3192 rfl rfl (by omega) (by omega) ?_
  refine x_aloadn dL_law_3193 rfl ?_
  refine y_callS1 (As := [.ref w, .int (xs (i + 1)), .ref o]) (rest := []) (cs_L_375 _) rfl rfl (Nat.le_of_ble_eq_true rfl) ⟨Nat.le_of_ble_eq_true rfl, Nat.le_of_ble_eq_true rfl⟩ dL_law_3194 (wL_advance 7 S.lw.o (Ho.ka g2) c1 c2) ?_
  refine x_istore dL_law_3197 (Nat.le_of_ble_eq_true rfl) rfl rfl ?_
  refine x_aloadn dL_law_3199 rfl ?_
  refine x_arg (i := i) (j := 1) rfl dL_law_3200 dL_law_3201 dL_law_3203 dL_law_3204 dL_law_3205 rfl rfl (by omega) (by omega) ?_
  refine z_V1 [.int (xs (i + 1))] [] (cs_L_377 _) (ci := 8) rfl hM.o ⟨Nat.le_of_ble_eq_true rfl, Nat.le_of_ble_eq_true rfl⟩ dL_law_3206 rfl rfl (Nat.le_of_ble_eq_true rfl) (c3 _ hM) ?_
  refine x_istore dL_law_3209 (Nat.le_of_ble_eq_true rfl) rfl rfl ?_
  refine x_aloadn dL_law_3211 rfl ?_
  refine z_V1 [] [] (cs_L_213 _) (ci := 8) rfl hM.o ⟨Nat.le_of_ble_eq_true rfl, Nat.le_of_ble_eq_true rfl⟩ dL_law_3212 rfl rfl (Nat.le_of_ble_eq_true rfl) (c_X10_thrown 0 hM rfl) ?_
  refine X.e2 (congrArg Value.int e1) ?_
  refine x_iload dL_law_3215 rfl ?_
  refine x_icmp_eq 3222 dL_law_3217 rfl (fun _ => ?_) (fun hn => absurd rfl hn)
  refine x_iload dL_law_3222 rfl ?_
  cases r with
  | error E =>
    obtain ⟨i9, -, h9, rfl⟩ := c2
    refine x_if_ne 3239 dL_law_3224 rfl (fun _ => ?_) (fun hn => absurd hn (by rcases (show i9 = 0 ∨ i9 = 1 ∨ i9 = 2 by omega) with rfl | rfl | rfl <;> decide))
    refine x_goto 3795 dL_law_3239 rfl ?_
    exact X.forget (L' := lawL w m o o2 i) ⟨Or.inl rfl, Or.inl rfl, Or.inl rfl, Or.inl rfl, Or.inl rfl, Or.inl rfl, Or.inr rfl, Or.inr rfl, Or.inl rfl, trivial⟩ (hk _ _ (ST.kj (o := o) (r := .error E) S1) (LA.kj (o := o) (r := .error E) (Ho.ka g2)) (LA.kj (o := o) (r := .error E) (Ho2.ka g2)))
  | ok v =>
    obtain rfl : t = 0 := c2
    refine x_if_ne 3239 dL_law_3224 rfl (fun hn => absurd rfl hn) (fun _ => ?_)
    obtain rfl := e2 v rfl
    refine x_aloadn dL_law_3227 rfl ?_
    refine x_iconst 0 dL_law_3228 rfl ?_
    refine x_lald (((Ho.ka g2).kj (r := .ok b) (o := o)).1) (((Ho.ka g2).kj (r := .ok b) (o := o)).2) (j := 0) rfl ⟨by decide, by decide⟩ dL_law_3229 ?_
    refine X.e2 (w := .long b.toInt64) (congrArg Value.long u2_s) ?_
    refine x_iload dL_law_3230 rfl ?_
    refine x_i2l dL_law_3232 ?_
    refine x_lcmp dL_law_3233 ?_
    refine X.e2 (congrArg Value.int lgc) ?_
    refine x_if_eq 3239 dL_law_3234 rfl (fun _ => ?_) (fun hn => absurd rfl hn)
    refine x_goto 3795 dL_law_3239 rfl ?_
    exact X.forget (L' := lawL w m o o2 i) ⟨Or.inl rfl, Or.inl rfl, Or.inl rfl, Or.inl rfl, Or.inl rfl, Or.inl rfl, Or.inr rfl, Or.inr rfl, Or.inl rfl, trivial⟩ (hk _ _ (ST.kj (o := o) (r := .ok b) S1) (LA.kj (o := o) (r := .ok b) (Ho.ka g2)) (LA.kj (o := o) (r := .ok b) (Ho2.ka g2)))
theorem law_54 {n w m o o2 i kb gb D D' bb sb : Nat} {xs : Nat → Int32} {I : Mem} {K : Kt} (hi : i + 6 ≤ n) (hn : n ≤ 3072) (S : ST I K w m kb gb D) (Ho : LA K 103 1 o) (Ho2 : LA K 104 1 o2) (hc : LC (mX9_buy 8) cX9_buy (mX10_buy 5) cX10_buy [eIS, eIX, eIA] [.int (xs (i + 1)), .int (xs (i + 2))] I K w m kb gb D') (hk : Tail n xs w m o o2 i kb gb D' bb sb) : X mLaw code (2 + bb + (kb + 3 - kN K)) (12 + sb + (gb + 246 - gz K)) I K 3242 (lawL w m o o2 i) [] lawQ (GsL n xs) := by
  obtain ⟨r, t, b, I1, I2, K1, a6, b6, ⟨c1, c2, c3⟩, ⟨e1, e2⟩, S1, ⟨g1, g2⟩, l1, l2⟩ := hc
  have z1 := S1.size
  refine X.less (bc' := a6 + (bb + (kb + 3 - kN K1))) (bs' := b6 + (sb + (gb + 246 - gz K1))) ?_ (by have := g1.1; omega) (by have := g1.2; omega)
  have hM : MK (KJ K1 o r) m := (S1.kj).mk
  refine x_aloadn dL_law_3242 rfl ?_
  refine x_arg (i := i) (j := 1) rfl dL_law_3243 dL_law_3244 dL_law_3246 dL_law_3247 dL_law_3248 rfl rfl (by omega) (by omega) ?_
  refine x_arg (i := i) (j := 2) rfl dL_law_3249 dL_law_3250 dL_law_3252 dL_law_3253 dL_law_3254 rfl rfl (by omega) (by omega) ?_
  refine x_aloadn dL_law_3255 rfl ?_
  refine y_callS1 (As := [.ref w, .int (xs (i + 1)), .int (xs (i + 2)), .ref o]) (rest := []) (cs_L_378 _) rfl rfl (Nat.le_of_ble_eq_true rfl) ⟨Nat.le_of_ble_eq_true rfl, Nat.le_of_ble_eq_true rfl⟩ dL_law_3256 (wL_buy 8 S.lw.o (Ho.ka g2) c1 c2) ?_
  refine x_istore dL_law_3259 (Nat.le_of_ble_eq_true rfl) rfl rfl ?_
  refine x_aloadn dL_law_3261 rfl ?_
  refine x_arg (i := i) (j := 1) rfl dL_law_3262 dL_law_3263 dL_law_3265 dL_law_3266 dL_law_3267 rfl rfl (by omega) (by omega) ?_
  refine x_arg (i := i) (j := 2) rfl dL_law_3268 dL_law_3269 dL_law_3271 dL_law_3272 dL_law_3273 rfl rfl (by omega) (by omega) ?_
  refine z_V1 [.int (xs (i + 1)), .int (xs (i + 2))] [] (cs_L_380 _) (ci := 8) rfl hM.o ⟨Nat.le_of_ble_eq_true rfl, Nat.le_of_ble_eq_true rfl⟩ dL_law_3274 rfl rfl (Nat.le_of_ble_eq_true rfl) (c3 _ hM) ?_
  refine x_istore dL_law_3277 (Nat.le_of_ble_eq_true rfl) rfl rfl ?_
  refine x_aloadn dL_law_3279 rfl ?_
  refine z_V1 [] [] (cs_L_213 _) (ci := 8) rfl hM.o ⟨Nat.le_of_ble_eq_true rfl, Nat.le_of_ble_eq_true rfl⟩ dL_law_3280 rfl rfl (Nat.le_of_ble_eq_true rfl) (c_X10_thrown 0 hM rfl) ?_
  refine X.e2 (congrArg Value.int e1) ?_
  refine x_iload dL_law_3283 rfl ?_
  refine x_icmp_eq 3290 dL_law_3285 rfl (fun _ => ?_) (fun hn => absurd rfl hn)
  refine x_iload dL_law_3290 rfl ?_
  cases r with
  | error E =>
    obtain ⟨i9, -, h9, rfl⟩ := c2
    refine x_if_ne 3307 dL_law_3292 rfl (fun _ => ?_) (fun hn => absurd hn (by rcases (show i9 = 0 ∨ i9 = 1 ∨ i9 = 2 by omega) with rfl | rfl | rfl <;> decide))
    refine x_goto 3795 dL_law_3307 rfl ?_
    exact X.forget (L' := lawL w m o o2 i) ⟨Or.inl rfl, Or.inl rfl, Or.inl rfl, Or.inl rfl, Or.inl rfl, Or.inl rfl, Or.inr rfl, Or.inr rfl, Or.inl rfl, trivial⟩ (hk _ _ (ST.kj (o := o) (r := .error E) S1) (LA.kj (o := o) (r := .error E) (Ho.ka g2)) (LA.kj (o := o) (r := .error E) (Ho2.ka g2)))
  | ok v =>
    obtain rfl : t = 0 := c2
    refine x_if_ne 3307 dL_law_3292 rfl (fun hn => absurd rfl hn) (fun _ => ?_)
    obtain rfl := e2 v rfl
    refine x_aloadn dL_law_3295 rfl ?_
    refine x_iconst 0 dL_law_3296 rfl ?_
    refine x_lald (((Ho.ka g2).kj (r := .ok b) (o := o)).1) (((Ho.ka g2).kj (r := .ok b) (o := o)).2) (j := 0) rfl ⟨by decide, by decide⟩ dL_law_3297 ?_
    refine X.e2 (w := .long b.toInt64) (congrArg Value.long u2_s) ?_
    refine x_iload dL_law_3298 rfl ?_
    refine x_i2l dL_law_3300 ?_
    refine x_lcmp dL_law_3301 ?_
    refine X.e2 (congrArg Value.int lgc) ?_
    refine x_if_eq 3307 dL_law_3302 rfl (fun _ => ?_) (fun hn => absurd rfl hn)
    refine x_goto 3795 dL_law_3307 rfl ?_
    exact X.forget (L' := lawL w m o o2 i) ⟨Or.inl rfl, Or.inl rfl, Or.inl rfl, Or.inl rfl, Or.inl rfl, Or.inl rfl, Or.inr rfl, Or.inr rfl, Or.inl rfl, trivial⟩ (hk _ _ (ST.kj (o := o) (r := .ok b) S1) (LA.kj (o := o) (r := .ok b) (Ho.ka g2)) (LA.kj (o := o) (r := .ok b) (Ho2.ka g2)))
theorem law_55 {n w m o o2 i kb gb D D' bb sb : Nat} {xs : Nat → Int32} {I : Mem} {K : Kt} (hi : i + 6 ≤ n) (hn : n ≤ 3072) (S : ST I K w m kb gb D) (Ho : LA K 103 1 o) (Ho2 : LA K 104 1 o2) (hc : LC (mX9_sell 8) cX9_sell (mX10_sell 5) cX10_sell [eIS, eIX, eIA] [.int (xs (i + 1)), .int (xs (i + 2))] I K w m kb gb D') (hk : Tail n xs w m o o2 i kb gb D' bb sb) : X mLaw code (2 + bb + (kb + 3 - kN K)) (12 + sb + (gb + 246 - gz K)) I K 3310 (lawL w m o o2 i) [] lawQ (GsL n xs) := by
  obtain ⟨r, t, b, I1, I2, K1, a6, b6, ⟨c1, c2, c3⟩, ⟨e1, e2⟩, S1, ⟨g1, g2⟩, l1, l2⟩ := hc
  have z1 := S1.size
  refine X.less (bc' := a6 + (bb + (kb + 3 - kN K1))) (bs' := b6 + (sb + (gb + 246 - gz K1))) ?_ (by have := g1.1; omega) (by have := g1.2; omega)
  have hM : MK (KJ K1 o r) m := (S1.kj).mk
  refine x_aloadn dL_law_3310 rfl ?_
  refine x_arg (i := i) (j := 1) rfl dL_law_3311 dL_law_3312 dL_law_3314 dL_law_3315 dL_law_3316 rfl rfl (by omega) (by omega) ?_
  refine x_arg (i := i) (j := 2) rfl dL_law_3317 dL_law_3318 dL_law_3320 dL_law_3321 dL_law_3322 rfl rfl (by omega) (by omega) ?_
  refine x_aloadn dL_law_3323 rfl ?_
  refine y_callS1 (As := [.ref w, .int (xs (i + 1)), .int (xs (i + 2)), .ref o]) (rest := []) (cs_L_381 _) rfl rfl (Nat.le_of_ble_eq_true rfl) ⟨Nat.le_of_ble_eq_true rfl, Nat.le_of_ble_eq_true rfl⟩ dL_law_3324 (wL_sell 8 S.lw.o (Ho.ka g2) c1 c2) ?_
  refine x_istore dL_law_3327 (Nat.le_of_ble_eq_true rfl) rfl rfl ?_
  refine x_aloadn dL_law_3329 rfl ?_
  refine x_arg (i := i) (j := 1) rfl dL_law_3330 dL_law_3331 dL_law_3333 dL_law_3334 dL_law_3335 rfl rfl (by omega) (by omega) ?_
  refine x_arg (i := i) (j := 2) rfl dL_law_3336 dL_law_3337 dL_law_3339 dL_law_3340 dL_law_3341 rfl rfl (by omega) (by omega) ?_
  refine z_V1 [.int (xs (i + 1)), .int (xs (i + 2))] [] (cs_L_383 _) (ci := 8) rfl hM.o ⟨Nat.le_of_ble_eq_true rfl, Nat.le_of_ble_eq_true rfl⟩ dL_law_3342 rfl rfl (Nat.le_of_ble_eq_true rfl) (c3 _ hM) ?_
  refine x_istore dL_law_3345 (Nat.le_of_ble_eq_true rfl) rfl rfl ?_
  refine x_aloadn dL_law_3347 rfl ?_
  refine z_V1 [] [] (cs_L_213 _) (ci := 8) rfl hM.o ⟨Nat.le_of_ble_eq_true rfl, Nat.le_of_ble_eq_true rfl⟩ dL_law_3348 rfl rfl (Nat.le_of_ble_eq_true rfl) (c_X10_thrown 0 hM rfl) ?_
  refine X.e2 (congrArg Value.int e1) ?_
  refine x_iload dL_law_3351 rfl ?_
  refine x_icmp_eq 3358 dL_law_3353 rfl (fun _ => ?_) (fun hn => absurd rfl hn)
  refine x_iload dL_law_3358 rfl ?_
  cases r with
  | error E =>
    obtain ⟨i9, -, h9, rfl⟩ := c2
    refine x_if_ne 3375 dL_law_3360 rfl (fun _ => ?_) (fun hn => absurd hn (by rcases (show i9 = 0 ∨ i9 = 1 ∨ i9 = 2 by omega) with rfl | rfl | rfl <;> decide))
    refine x_goto 3795 dL_law_3375 rfl ?_
    exact X.forget (L' := lawL w m o o2 i) ⟨Or.inl rfl, Or.inl rfl, Or.inl rfl, Or.inl rfl, Or.inl rfl, Or.inl rfl, Or.inr rfl, Or.inr rfl, Or.inl rfl, trivial⟩ (hk _ _ (ST.kj (o := o) (r := .error E) S1) (LA.kj (o := o) (r := .error E) (Ho.ka g2)) (LA.kj (o := o) (r := .error E) (Ho2.ka g2)))
  | ok v =>
    obtain rfl : t = 0 := c2
    refine x_if_ne 3375 dL_law_3360 rfl (fun hn => absurd rfl hn) (fun _ => ?_)
    obtain rfl := e2 v rfl
    refine x_aloadn dL_law_3363 rfl ?_
    refine x_iconst 0 dL_law_3364 rfl ?_
    refine x_lald (((Ho.ka g2).kj (r := .ok b) (o := o)).1) (((Ho.ka g2).kj (r := .ok b) (o := o)).2) (j := 0) rfl ⟨by decide, by decide⟩ dL_law_3365 ?_
    refine X.e2 (w := .long b.toInt64) (congrArg Value.long u2_s) ?_
    refine x_iload dL_law_3366 rfl ?_
    refine x_i2l dL_law_3368 ?_
    refine x_lcmp dL_law_3369 ?_
    refine X.e2 (congrArg Value.int lgc) ?_
    refine x_if_eq 3375 dL_law_3370 rfl (fun _ => ?_) (fun hn => absurd rfl hn)
    refine x_goto 3795 dL_law_3375 rfl ?_
    exact X.forget (L' := lawL w m o o2 i) ⟨Or.inl rfl, Or.inl rfl, Or.inl rfl, Or.inl rfl, Or.inl rfl, Or.inl rfl, Or.inr rfl, Or.inr rfl, Or.inl rfl, trivial⟩ (hk _ _ (ST.kj (o := o) (r := .ok b) S1) (LA.kj (o := o) (r := .ok b) (Ho.ka g2)) (LA.kj (o := o) (r := .ok b) (Ho2.ka g2)))
theorem law_56 {n w m o o2 i kb gb D D' bb sb : Nat} {xs : Nat → Int32} {I : Mem} {K : Kt} (hi : i + 6 ≤ n) (hn : n ≤ 3072) (S : ST I K w m kb gb D) (Ho : LA K 103 1 o) (Ho2 : LA K 104 1 o2) (hc : LC (mX9_returnWish 8) cX9_returnWish (mX10_returnWish 5) cX10_returnWish [eIS, eIX, eIA] [.int (xs (i + 1))] I K w m kb gb D') (hk : Tail n xs w m o o2 i kb gb D' bb sb) : X mLaw code (2 + bb + (kb + 3 - kN K)) (12 + sb + (gb + 246 - gz K)) I K 3378 (lawL w m o o2 i) [] lawQ (GsL n xs) := by
  obtain ⟨r, t, b, I1, I2, K1, a6, b6, ⟨c1, c2, c3⟩, ⟨e1, e2⟩, S1, ⟨g1, g2⟩, l1, l2⟩ := hc
  have z1 := S1.size
  refine X.less (bc' := a6 + (bb + (kb + 3 - kN K1))) (bs' := b6 + (sb + (gb + 246 - gz K1))) ?_ (by have := g1.1; omega) (by have := g1.2; omega)
  have hM : MK (KJ K1 o r) m := (S1.kj).mk
  refine x_aloadn dL_law_3378 rfl ?_
  refine x_arg (i := i) (j := 1) rfl dL_law_3379 dL_law_3380 dL_law_3382 dL_law_3383 dL_law_3384 rfl rfl (by omega) (by omega) ?_
  refine x_aloadn dL_law_3385 rfl ?_
  refine y_callS1 (As := [.ref w, .int (xs (i + 1)), .ref o]) (rest := []) (cs_L_384 _) rfl rfl (Nat.le_of_ble_eq_true rfl) ⟨Nat.le_of_ble_eq_true rfl, Nat.le_of_ble_eq_true rfl⟩ dL_law_3386 (wL_returnWish 8 S.lw.o (Ho.ka g2) c1 c2) ?_
  refine x_istore dL_law_3389 (Nat.le_of_ble_eq_true rfl) rfl rfl ?_
  refine x_aloadn dL_law_3391 rfl ?_
  refine x_arg (i := i) (j := 1) rfl dL_law_3392 dL_law_3393 dL_law_3395 dL_law_3396 dL_law_3397 rfl rfl (by omega) (by omega) ?_
  refine z_V1 [.int (xs (i + 1))] [] (cs_L_386 _) (ci := 8) rfl hM.o ⟨Nat.le_of_ble_eq_true rfl, Nat.le_of_ble_eq_true rfl⟩ dL_law_3398 rfl rfl (Nat.le_of_ble_eq_true rfl) (c3 _ hM) ?_
  refine x_istore dL_law_3401 (Nat.le_of_ble_eq_true rfl) rfl rfl ?_
  refine x_aloadn dL_law_3403 rfl ?_
  refine z_V1 [] [] (cs_L_213 _) (ci := 8) rfl hM.o ⟨Nat.le_of_ble_eq_true rfl, Nat.le_of_ble_eq_true rfl⟩ dL_law_3404 rfl rfl (Nat.le_of_ble_eq_true rfl) (c_X10_thrown 0 hM rfl) ?_
  refine X.e2 (congrArg Value.int e1) ?_
  refine x_iload dL_law_3407 rfl ?_
  refine x_icmp_eq 3414 dL_law_3409 rfl (fun _ => ?_) (fun hn => absurd rfl hn)
  refine x_iload dL_law_3414 rfl ?_
  cases r with
  | error E =>
    obtain ⟨i9, -, h9, rfl⟩ := c2
    refine x_if_ne 3431 dL_law_3416 rfl (fun _ => ?_) (fun hn => absurd hn (by rcases (show i9 = 0 ∨ i9 = 1 ∨ i9 = 2 by omega) with rfl | rfl | rfl <;> decide))
    refine x_goto 3795 dL_law_3431 rfl ?_
    exact X.forget (L' := lawL w m o o2 i) ⟨Or.inl rfl, Or.inl rfl, Or.inl rfl, Or.inl rfl, Or.inl rfl, Or.inl rfl, Or.inr rfl, Or.inr rfl, Or.inl rfl, trivial⟩ (hk _ _ (ST.kj (o := o) (r := .error E) S1) (LA.kj (o := o) (r := .error E) (Ho.ka g2)) (LA.kj (o := o) (r := .error E) (Ho2.ka g2)))
  | ok v =>
    obtain rfl : t = 0 := c2
    refine x_if_ne 3431 dL_law_3416 rfl (fun hn => absurd rfl hn) (fun _ => ?_)
    obtain rfl := e2 v rfl
    refine x_aloadn dL_law_3419 rfl ?_
    refine x_iconst 0 dL_law_3420 rfl ?_
    refine x_lald (((Ho.ka g2).kj (r := .ok b) (o := o)).1) (((Ho.ka g2).kj (r := .ok b) (o := o)).2) (j := 0) rfl ⟨by decide, by decide⟩ dL_law_3421 ?_
    refine X.e2 (w := .long b.toInt64) (congrArg Value.long u2_s) ?_
    refine x_iload dL_law_3422 rfl ?_
    refine x_i2l dL_law_3424 ?_
    refine x_lcmp dL_law_3425 ?_
    refine X.e2 (congrArg Value.int lgc) ?_
    refine x_if_eq 3431 dL_law_3426 rfl (fun _ => ?_) (fun hn => absurd rfl hn)
    refine x_goto 3795 dL_law_3431 rfl ?_
    exact X.forget (L' := lawL w m o o2 i) ⟨Or.inl rfl, Or.inl rfl, Or.inl rfl, Or.inl rfl, Or.inl rfl, Or.inl rfl, Or.inr rfl, Or.inr rfl, Or.inl rfl, trivial⟩ (hk _ _ (ST.kj (o := o) (r := .ok b) S1) (LA.kj (o := o) (r := .ok b) (Ho.ka g2)) (LA.kj (o := o) (r := .ok b) (Ho2.ka g2)))
theorem law_57 {n w m o o2 i kb gb D D' bb sb : Nat} {xs : Nat → Int32} {I : Mem} {K : Kt} (hi : i + 6 ≤ n) (hn : n ≤ 3072) (S : ST I K w m kb gb D) (Ho : LA K 103 1 o) (Ho2 : LA K 104 1 o2) (hc : LC (mX9_grant 8) cX9_grant (mX10_grant 4) cX10_grant [eIS, eIX, eIA] [.int (xs (i + 1))] I K w m kb gb D') (hk : Tail n xs w m o o2 i kb gb D' bb sb) : X mLaw code (2 + bb + (kb + 3 - kN K)) (12 + sb + (gb + 246 - gz K)) I K 3434 (lawL w m o o2 i) [] lawQ (GsL n xs) := by
  obtain ⟨r, t, b, I1, I2, K1, a6, b6, ⟨c1, c2, c3⟩, ⟨e1, e2⟩, S1, ⟨g1, g2⟩, l1, l2⟩ := hc
  have z1 := S1.size
  refine X.less (bc' := a6 + (bb + (kb + 3 - kN K1))) (bs' := b6 + (sb + (gb + 246 - gz K1))) ?_ (by have := g1.1; omega) (by have := g1.2; omega)
  have hM : MK (KJ K1 o r) m := (S1.kj).mk
  refine x_aloadn dL_law_3434 rfl ?_
  refine x_arg (i := i) (j := 1) rfl dL_law_3435 dL_law_3436 dL_law_3438 dL_law_3439 dL_law_3440 rfl rfl (by omega) (by omega) ?_
  refine x_aloadn dL_law_3441 rfl ?_
  refine y_callS1 (As := [.ref w, .int (xs (i + 1)), .ref o]) (rest := []) (cs_L_387 _) rfl rfl (Nat.le_of_ble_eq_true rfl) ⟨Nat.le_of_ble_eq_true rfl, Nat.le_of_ble_eq_true rfl⟩ dL_law_3442 (wL_grant 8 S.lw.o (Ho.ka g2) c1 c2) ?_
  refine x_istore dL_law_3445 (Nat.le_of_ble_eq_true rfl) rfl rfl ?_
  refine x_aloadn dL_law_3447 rfl ?_
  refine x_arg (i := i) (j := 1) rfl dL_law_3448 dL_law_3449 dL_law_3451 dL_law_3452 dL_law_3453 rfl rfl (by omega) (by omega) ?_
  refine z_V1 [.int (xs (i + 1))] [] (cs_L_389 _) (ci := 8) rfl hM.o ⟨Nat.le_of_ble_eq_true rfl, Nat.le_of_ble_eq_true rfl⟩ dL_law_3454 rfl rfl (Nat.le_of_ble_eq_true rfl) (c3 _ hM) ?_
  refine x_istore dL_law_3457 (Nat.le_of_ble_eq_true rfl) rfl rfl ?_
  refine x_aloadn dL_law_3459 rfl ?_
  refine z_V1 [] [] (cs_L_213 _) (ci := 8) rfl hM.o ⟨Nat.le_of_ble_eq_true rfl, Nat.le_of_ble_eq_true rfl⟩ dL_law_3460 rfl rfl (Nat.le_of_ble_eq_true rfl) (c_X10_thrown 0 hM rfl) ?_
  refine X.e2 (congrArg Value.int e1) ?_
  refine x_iload dL_law_3463 rfl ?_
  refine x_icmp_eq 3470 dL_law_3465 rfl (fun _ => ?_) (fun hn => absurd rfl hn)
  refine x_iload dL_law_3470 rfl ?_
  cases r with
  | error E =>
    obtain ⟨i9, -, h9, rfl⟩ := c2
    refine x_if_ne 3487 dL_law_3472 rfl (fun _ => ?_) (fun hn => absurd hn (by rcases (show i9 = 0 ∨ i9 = 1 ∨ i9 = 2 by omega) with rfl | rfl | rfl <;> decide))
    refine x_goto 3795 dL_law_3487 rfl ?_
    exact X.forget (L' := lawL w m o o2 i) ⟨Or.inl rfl, Or.inl rfl, Or.inl rfl, Or.inl rfl, Or.inl rfl, Or.inl rfl, Or.inr rfl, Or.inr rfl, Or.inl rfl, trivial⟩ (hk _ _ (ST.kj (o := o) (r := .error E) S1) (LA.kj (o := o) (r := .error E) (Ho.ka g2)) (LA.kj (o := o) (r := .error E) (Ho2.ka g2)))
  | ok v =>
    obtain rfl : t = 0 := c2
    refine x_if_ne 3487 dL_law_3472 rfl (fun hn => absurd rfl hn) (fun _ => ?_)
    obtain rfl := e2 v rfl
    refine x_aloadn dL_law_3475 rfl ?_
    refine x_iconst 0 dL_law_3476 rfl ?_
    refine x_lald (((Ho.ka g2).kj (r := .ok b) (o := o)).1) (((Ho.ka g2).kj (r := .ok b) (o := o)).2) (j := 0) rfl ⟨by decide, by decide⟩ dL_law_3477 ?_
    refine X.e2 (w := .long b.toInt64) (congrArg Value.long u2_s) ?_
    refine x_iload dL_law_3478 rfl ?_
    refine x_i2l dL_law_3480 ?_
    refine x_lcmp dL_law_3481 ?_
    refine X.e2 (congrArg Value.int lgc) ?_
    refine x_if_eq 3487 dL_law_3482 rfl (fun _ => ?_) (fun hn => absurd rfl hn)
    refine x_goto 3795 dL_law_3487 rfl ?_
    exact X.forget (L' := lawL w m o o2 i) ⟨Or.inl rfl, Or.inl rfl, Or.inl rfl, Or.inl rfl, Or.inl rfl, Or.inl rfl, Or.inr rfl, Or.inr rfl, Or.inl rfl, trivial⟩ (hk _ _ (ST.kj (o := o) (r := .ok b) S1) (LA.kj (o := o) (r := .ok b) (Ho.ka g2)) (LA.kj (o := o) (r := .ok b) (Ho2.ka g2)))
theorem law_58 {n w m o o2 i kb gb D D' bb sb : Nat} {xs : Nat → Int32} {I : Mem} {K : Kt} (hi : i + 6 ≤ n) (hn : n ≤ 3072) (S : ST I K w m kb gb D) (Ho : LA K 103 1 o) (Ho2 : LA K 104 1 o2) (hc : LC (mX9_setLimit 9) cX9_setLimit (mX10_setLimit 2) cX10_setLimit [eIS, eIX, eIA] [.int (xs (i + 1)), .int (xs (i + 2))] I K w m kb gb D') (hk : Tail n xs w m o o2 i kb gb D' bb sb) : X mLaw code (2 + bb + (kb + 3 - kN K)) (12 + sb + (gb + 246 - gz K)) I K 3490 (lawL w m o o2 i) [] lawQ (GsL n xs) := by
  obtain ⟨r, t, b, I1, I2, K1, a6, b6, ⟨c1, c2, c3⟩, ⟨e1, e2⟩, S1, ⟨g1, g2⟩, l1, l2⟩ := hc
  have z1 := S1.size
  refine X.less (bc' := a6 + (bb + (kb + 3 - kN K1))) (bs' := b6 + (sb + (gb + 246 - gz K1))) ?_ (by have := g1.1; omega) (by have := g1.2; omega)
  have hM : MK (KJ K1 o r) m := (S1.kj).mk
  refine x_aloadn dL_law_3490 rfl ?_
  refine x_arg (i := i) (j := 1) rfl dL_law_3491 dL_law_3492 dL_law_3494 dL_law_3495 dL_law_3496 rfl rfl (by omega) (by omega) ?_
  refine x_arg (i := i) (j := 2) rfl dL_law_3497 dL_law_3498 dL_law_3500 dL_law_3501 dL_law_3502 rfl rfl (by omega) (by omega) ?_
  refine x_aloadn dL_law_3503 rfl ?_
  refine y_callS1 (As := [.ref w, .int (xs (i + 1)), .int (xs (i + 2)), .ref o]) (rest := []) (cs_L_390 _) rfl rfl (Nat.le_of_ble_eq_true rfl) ⟨Nat.le_of_ble_eq_true rfl, Nat.le_of_ble_eq_true rfl⟩ dL_law_3504 (wL_setLimit 9 S.lw.o (Ho.ka g2) c1 c2) ?_
  refine x_istore dL_law_3507 (Nat.le_of_ble_eq_true rfl) rfl rfl ?_
  refine x_aloadn dL_law_3509 rfl ?_
  refine x_arg (i := i) (j := 1) rfl dL_law_3510 dL_law_3511 dL_law_3513 dL_law_3514 dL_law_3515 rfl rfl (by omega) (by omega) ?_
  refine x_arg (i := i) (j := 2) rfl dL_law_3516 dL_law_3517 dL_law_3519 dL_law_3520 dL_law_3521 rfl rfl (by omega) (by omega) ?_
  refine z_V1 [.int (xs (i + 1)), .int (xs (i + 2))] [] (cs_L_392 _) (ci := 8) rfl hM.o ⟨Nat.le_of_ble_eq_true rfl, Nat.le_of_ble_eq_true rfl⟩ dL_law_3522 rfl rfl (Nat.le_of_ble_eq_true rfl) (c3 _ hM) ?_
  refine x_istore dL_law_3525 (Nat.le_of_ble_eq_true rfl) rfl rfl ?_
  refine x_aloadn dL_law_3527 rfl ?_
  refine z_V1 [] [] (cs_L_213 _) (ci := 8) rfl hM.o ⟨Nat.le_of_ble_eq_true rfl, Nat.le_of_ble_eq_true rfl⟩ dL_law_3528 rfl rfl (Nat.le_of_ble_eq_true rfl) (c_X10_thrown 0 hM rfl) ?_
  refine X.e2 (congrArg Value.int e1) ?_
  refine x_iload dL_law_3531 rfl ?_
  refine x_icmp_eq 3538 dL_law_3533 rfl (fun _ => ?_) (fun hn => absurd rfl hn)
  refine x_iload dL_law_3538 rfl ?_
  cases r with
  | error E =>
    obtain ⟨i9, -, h9, rfl⟩ := c2
    refine x_if_ne 3555 dL_law_3540 rfl (fun _ => ?_) (fun hn => absurd hn (by rcases (show i9 = 0 ∨ i9 = 1 ∨ i9 = 2 by omega) with rfl | rfl | rfl <;> decide))
    refine x_goto 3795 dL_law_3555 rfl ?_
    exact X.forget (L' := lawL w m o o2 i) ⟨Or.inl rfl, Or.inl rfl, Or.inl rfl, Or.inl rfl, Or.inl rfl, Or.inl rfl, Or.inr rfl, Or.inr rfl, Or.inl rfl, trivial⟩ (hk _ _ (ST.kj (o := o) (r := .error E) S1) (LA.kj (o := o) (r := .error E) (Ho.ka g2)) (LA.kj (o := o) (r := .error E) (Ho2.ka g2)))
  | ok v =>
    obtain rfl : t = 0 := c2
    refine x_if_ne 3555 dL_law_3540 rfl (fun hn => absurd rfl hn) (fun _ => ?_)
    obtain rfl := e2 v rfl
    refine x_aloadn dL_law_3543 rfl ?_
    refine x_iconst 0 dL_law_3544 rfl ?_
    refine x_lald (((Ho.ka g2).kj (r := .ok b) (o := o)).1) (((Ho.ka g2).kj (r := .ok b) (o := o)).2) (j := 0) rfl ⟨by decide, by decide⟩ dL_law_3545 ?_
    refine X.e2 (w := .long b.toInt64) (congrArg Value.long u2_s) ?_
    refine x_iload dL_law_3546 rfl ?_
    refine x_i2l dL_law_3548 ?_
    refine x_lcmp dL_law_3549 ?_
    refine X.e2 (congrArg Value.int lgc) ?_
    refine x_if_eq 3555 dL_law_3550 rfl (fun _ => ?_) (fun hn => absurd rfl hn)
    refine x_goto 3795 dL_law_3555 rfl ?_
    exact X.forget (L' := lawL w m o o2 i) ⟨Or.inl rfl, Or.inl rfl, Or.inl rfl, Or.inl rfl, Or.inl rfl, Or.inl rfl, Or.inr rfl, Or.inr rfl, Or.inl rfl, trivial⟩ (hk _ _ (ST.kj (o := o) (r := .ok b) S1) (LA.kj (o := o) (r := .ok b) (Ho.ka g2)) (LA.kj (o := o) (r := .ok b) (Ho2.ka g2)))
theorem law_59 {n w m o o2 i kb gb D D' bb sb : Nat} {xs : Nat → Int32} {I : Mem} {K : Kt} (hi : i + 6 ≤ n) (hn : n ≤ 3072) (S : ST I K w m kb gb D) (Ho : LA K 103 1 o) (Ho2 : LA K 104 1 o2) (hc : LC (mX9_setMargin 9) cX9_setMargin (mX10_setMargin 2) cX10_setMargin [eIS, eIX, eIA] [.int (xs (i + 1)), .int (xs (i + 2))] I K w m kb gb D') (hk : Tail n xs w m o o2 i kb gb D' bb sb) : X mLaw code (2 + bb + (kb + 3 - kN K)) (12 + sb + (gb + 246 - gz K)) I K 3558 (lawL w m o o2 i) [] lawQ (GsL n xs) := by
  obtain ⟨r, t, b, I1, I2, K1, a6, b6, ⟨c1, c2, c3⟩, ⟨e1, e2⟩, S1, ⟨g1, g2⟩, l1, l2⟩ := hc
  have z1 := S1.size
  refine X.less (bc' := a6 + (bb + (kb + 3 - kN K1))) (bs' := b6 + (sb + (gb + 246 - gz K1))) ?_ (by have := g1.1; omega) (by have := g1.2; omega)
  have hM : MK (KJ K1 o r) m := (S1.kj).mk
  refine x_aloadn dL_law_3558 rfl ?_
  refine x_arg (i := i) (j := 1) rfl dL_law_3559 dL_law_3560 dL_law_3562 dL_law_3563 dL_law_3564 rfl rfl (by omega) (by omega) ?_
  refine x_arg (i := i) (j := 2) rfl dL_law_3565 dL_law_3566 dL_law_3568 dL_law_3569 dL_law_3570 rfl rfl (by omega) (by omega) ?_
  refine x_aloadn dL_law_3571 rfl ?_
  refine y_callS1 (As := [.ref w, .int (xs (i + 1)), .int (xs (i + 2)), .ref o]) (rest := []) (cs_L_393 _) rfl rfl (Nat.le_of_ble_eq_true rfl) ⟨Nat.le_of_ble_eq_true rfl, Nat.le_of_ble_eq_true rfl⟩ dL_law_3572 (wL_setMargin 9 S.lw.o (Ho.ka g2) c1 c2) ?_
  refine x_istore dL_law_3575 (Nat.le_of_ble_eq_true rfl) rfl rfl ?_
  refine x_aloadn dL_law_3577 rfl ?_
  refine x_arg (i := i) (j := 1) rfl dL_law_3578 dL_law_3579 dL_law_3581 dL_law_3582 dL_law_3583 rfl rfl (by omega) (by omega) ?_
  refine x_arg (i := i) (j := 2) rfl dL_law_3584 dL_law_3585 dL_law_3587 dL_law_3588 dL_law_3589 rfl rfl (by omega) (by omega) ?_
  refine z_V1 [.int (xs (i + 1)), .int (xs (i + 2))] [] (cs_L_395 _) (ci := 8) rfl hM.o ⟨Nat.le_of_ble_eq_true rfl, Nat.le_of_ble_eq_true rfl⟩ dL_law_3590 rfl rfl (Nat.le_of_ble_eq_true rfl) (c3 _ hM) ?_
  refine x_istore dL_law_3593 (Nat.le_of_ble_eq_true rfl) rfl rfl ?_
  refine x_aloadn dL_law_3595 rfl ?_
  refine z_V1 [] [] (cs_L_213 _) (ci := 8) rfl hM.o ⟨Nat.le_of_ble_eq_true rfl, Nat.le_of_ble_eq_true rfl⟩ dL_law_3596 rfl rfl (Nat.le_of_ble_eq_true rfl) (c_X10_thrown 0 hM rfl) ?_
  refine X.e2 (congrArg Value.int e1) ?_
  refine x_iload dL_law_3599 rfl ?_
  refine x_icmp_eq 3606 dL_law_3601 rfl (fun _ => ?_) (fun hn => absurd rfl hn)
  refine x_iload dL_law_3606 rfl ?_
  cases r with
  | error E =>
    obtain ⟨i9, -, h9, rfl⟩ := c2
    refine x_if_ne 3623 dL_law_3608 rfl (fun _ => ?_) (fun hn => absurd hn (by rcases (show i9 = 0 ∨ i9 = 1 ∨ i9 = 2 by omega) with rfl | rfl | rfl <;> decide))
    refine x_goto 3795 dL_law_3623 rfl ?_
    exact X.forget (L' := lawL w m o o2 i) ⟨Or.inl rfl, Or.inl rfl, Or.inl rfl, Or.inl rfl, Or.inl rfl, Or.inl rfl, Or.inr rfl, Or.inr rfl, Or.inl rfl, trivial⟩ (hk _ _ (ST.kj (o := o) (r := .error E) S1) (LA.kj (o := o) (r := .error E) (Ho.ka g2)) (LA.kj (o := o) (r := .error E) (Ho2.ka g2)))
  | ok v =>
    obtain rfl : t = 0 := c2
    refine x_if_ne 3623 dL_law_3608 rfl (fun hn => absurd rfl hn) (fun _ => ?_)
    obtain rfl := e2 v rfl
    refine x_aloadn dL_law_3611 rfl ?_
    refine x_iconst 0 dL_law_3612 rfl ?_
    refine x_lald (((Ho.ka g2).kj (r := .ok b) (o := o)).1) (((Ho.ka g2).kj (r := .ok b) (o := o)).2) (j := 0) rfl ⟨by decide, by decide⟩ dL_law_3613 ?_
    refine X.e2 (w := .long b.toInt64) (congrArg Value.long u2_s) ?_
    refine x_iload dL_law_3614 rfl ?_
    refine x_i2l dL_law_3616 ?_
    refine x_lcmp dL_law_3617 ?_
    refine X.e2 (congrArg Value.int lgc) ?_
    refine x_if_eq 3623 dL_law_3618 rfl (fun _ => ?_) (fun hn => absurd rfl hn)
    refine x_goto 3795 dL_law_3623 rfl ?_
    exact X.forget (L' := lawL w m o o2 i) ⟨Or.inl rfl, Or.inl rfl, Or.inl rfl, Or.inl rfl, Or.inl rfl, Or.inl rfl, Or.inr rfl, Or.inr rfl, Or.inl rfl, trivial⟩ (hk _ _ (ST.kj (o := o) (r := .ok b) S1) (LA.kj (o := o) (r := .ok b) (Ho.ka g2)) (LA.kj (o := o) (r := .ok b) (Ho2.ka g2)))
theorem law_60 {n w m o o2 i kb gb D D' bb sb : Nat} {xs : Nat → Int32} {I : Mem} {K : Kt} (hi : i + 6 ≤ n) (hn : n ≤ 3072) (S : ST I K w m kb gb D) (Ho : LA K 103 1 o) (Ho2 : LA K 104 1 o2) (hc : LC (mX9_undo 6) cX9_undo (mX10_undo 1) cX10_undo [eIS] [] I K w m kb gb D') (hk : Tail n xs w m o o2 i kb gb D' bb sb) : X mLaw code (2 + bb + (kb + 3 - kN K)) (12 + sb + (gb + 246 - gz K)) I K 3626 (lawL w m o o2 i) [] lawQ (GsL n xs) := by
  obtain ⟨r, t, b, I1, I2, K1, a6, b6, ⟨c1, c2, c3⟩, ⟨e1, e2⟩, S1, ⟨g1, g2⟩, l1, l2⟩ := hc
  have z1 := S1.size
  refine X.less (bc' := a6 + (bb + (kb + 3 - kN K1))) (bs' := b6 + (sb + (gb + 246 - gz K1))) ?_ (by have := g1.1; omega) (by have := g1.2; omega)
  have hM : MK (KJ K1 o r) m := (S1.kj).mk
  refine x_aloadn dL_law_3626 rfl ?_
  refine x_aloadn dL_law_3627 rfl ?_
  refine y_callS1 (As := [.ref w, .ref o]) (rest := []) (cs_L_396 _) rfl rfl (Nat.le_of_ble_eq_true rfl) ⟨Nat.le_of_ble_eq_true rfl, Nat.le_of_ble_eq_true rfl⟩ dL_law_3628 (wL_undo 6 S.lw.o (Ho.ka g2) c1 c2) ?_
  refine x_istore dL_law_3631 (Nat.le_of_ble_eq_true rfl) rfl rfl ?_
  refine x_aloadn dL_law_3633 rfl ?_
  refine z_V1 [] [] (cs_L_398 _) (ci := 8) rfl hM.o ⟨Nat.le_of_ble_eq_true rfl, Nat.le_of_ble_eq_true rfl⟩ dL_law_3634 rfl rfl (Nat.le_of_ble_eq_true rfl) (c3 _ hM) ?_
  refine x_istore dL_law_3637 (Nat.le_of_ble_eq_true rfl) rfl rfl ?_
  refine x_aloadn dL_law_3639 rfl ?_
  refine z_V1 [] [] (cs_L_213 _) (ci := 8) rfl hM.o ⟨Nat.le_of_ble_eq_true rfl, Nat.le_of_ble_eq_true rfl⟩ dL_law_3640 rfl rfl (Nat.le_of_ble_eq_true rfl) (c_X10_thrown 0 hM rfl) ?_
  refine X.e2 (congrArg Value.int e1) ?_
  refine x_iload dL_law_3643 rfl ?_
  refine x_icmp_eq 3650 dL_law_3645 rfl (fun _ => ?_) (fun hn => absurd rfl hn)
  refine x_iload dL_law_3650 rfl ?_
  cases r with
  | error E =>
    obtain ⟨i9, -, h9, rfl⟩ := c2
    refine x_if_ne 3667 dL_law_3652 rfl (fun _ => ?_) (fun hn => absurd hn (by rcases (show i9 = 0 ∨ i9 = 1 ∨ i9 = 2 by omega) with rfl | rfl | rfl <;> decide))
    refine x_goto 3795 dL_law_3667 rfl ?_
    exact X.forget (L' := lawL w m o o2 i) ⟨Or.inl rfl, Or.inl rfl, Or.inl rfl, Or.inl rfl, Or.inl rfl, Or.inl rfl, Or.inr rfl, Or.inr rfl, Or.inl rfl, trivial⟩ (hk _ _ (ST.kj (o := o) (r := .error E) S1) (LA.kj (o := o) (r := .error E) (Ho.ka g2)) (LA.kj (o := o) (r := .error E) (Ho2.ka g2)))
  | ok v =>
    obtain rfl : t = 0 := c2
    refine x_if_ne 3667 dL_law_3652 rfl (fun hn => absurd rfl hn) (fun _ => ?_)
    obtain rfl := e2 v rfl
    refine x_aloadn dL_law_3655 rfl ?_
    refine x_iconst 0 dL_law_3656 rfl ?_
    refine x_lald (((Ho.ka g2).kj (r := .ok b) (o := o)).1) (((Ho.ka g2).kj (r := .ok b) (o := o)).2) (j := 0) rfl ⟨by decide, by decide⟩ dL_law_3657 ?_
    refine X.e2 (w := .long b.toInt64) (congrArg Value.long u2_s) ?_
    refine x_iload dL_law_3658 rfl ?_
    refine x_i2l dL_law_3660 ?_
    refine x_lcmp dL_law_3661 ?_
    refine X.e2 (congrArg Value.int lgc) ?_
    refine x_if_eq 3667 dL_law_3662 rfl (fun _ => ?_) (fun hn => absurd rfl hn)
    refine x_goto 3795 dL_law_3667 rfl ?_
    exact X.forget (L' := lawL w m o o2 i) ⟨Or.inl rfl, Or.inl rfl, Or.inl rfl, Or.inl rfl, Or.inl rfl, Or.inl rfl, Or.inr rfl, Or.inr rfl, Or.inl rfl, trivial⟩ (hk _ _ (ST.kj (o := o) (r := .ok b) S1) (LA.kj (o := o) (r := .ok b) (Ho.ka g2)) (LA.kj (o := o) (r := .ok b) (Ho2.ka g2)))
theorem law_61 {n w m o o2 i kb gb D D' bb sb : Nat} {xs : Nat → Int32} {I : Mem} {K : Kt} (hi : i + 6 ≤ n) (hn : n ≤ 3072) (S : ST I K w m kb gb D) (Ho : LA K 103 1 o) (Ho2 : LA K 104 1 o2) (hc : LN (mX9_undoCount 0) cX9_undoCount (mX10_undoCount 1) cX10_undoCount [] I K w m kb gb D') (hk : Tail n xs w m o o2 i kb gb D' bb sb) : X mLaw code (2 + bb + (kb + 3 - kN K)) (12 + sb + (gb + 246 - gz K)) I K 3670 (lawL w m o o2 i) [] lawQ (GsL n xs) := by
  obtain ⟨v, I1, I2, c1, c2, S1⟩ := hc
  refine X.less (bc' := bb + (kb + 3 - kN K)) (bs' := sb + (gb + 246 - gz K)) ?_ (by omega) (by omega)
  refine x_aloadn dL_law_3670 rfl ?_
  refine z_V1 [] [] (cs_L_399 _) (ci := 7) rfl S.lw.o ⟨Nat.le_of_ble_eq_true rfl, Nat.le_of_ble_eq_true rfl⟩ dL_law_3671 rfl rfl (Nat.le_of_ble_eq_true rfl) c1 ?_
  refine x_aloadn dL_law_3674 rfl ?_
  refine z_V1 [] [.int v] (cs_L_402 _) (ci := 8) rfl S.mk.o ⟨Nat.le_of_ble_eq_true rfl, Nat.le_of_ble_eq_true rfl⟩ dL_law_3675 rfl rfl (Nat.le_of_ble_eq_true rfl) c2 ?_
  refine x_icmp_eq 3795 dL_law_3678 rfl (fun _ => ?_) (fun hn => absurd rfl hn)
  exact hk _ _ S1 Ho Ho2
theorem law_62 {n w m o o2 i kb gb D D' bb sb : Nat} {xs : Nat → Int32} {I : Mem} {K : Kt} (hi : i + 6 ≤ n) (hn : n ≤ 3072) (S : ST I K w m kb gb D) (Ho : LA K 103 1 o) (Ho2 : LA K 104 1 o2) (hc : LC (mX9_saveState 7) cX9_saveState (mX10_saveState 2) cX10_saveState [eIS, eIX] [.int (xs (i + 1))] I K w m kb gb D') (hk : Tail n xs w m o o2 i kb gb D' bb sb) : X mLaw code (2 + bb + (kb + 3 - kN K)) (12 + sb + (gb + 246 - gz K)) I K 3683 (lawL w m o o2 i) [] lawQ (GsL n xs) := by
  obtain ⟨r, t, b, I1, I2, K1, a6, b6, ⟨c1, c2, c3⟩, ⟨e1, e2⟩, S1, ⟨g1, g2⟩, l1, l2⟩ := hc
  have z1 := S1.size
  refine X.less (bc' := a6 + (bb + (kb + 3 - kN K1))) (bs' := b6 + (sb + (gb + 246 - gz K1))) ?_ (by have := g1.1; omega) (by have := g1.2; omega)
  have hM : MK (KJ K1 o r) m := (S1.kj).mk
  refine x_aloadn dL_law_3683 rfl ?_
  refine x_arg (i := i) (j := 1) rfl dL_law_3684 dL_law_3685 dL_law_3687 dL_law_3688 dL_law_3689 rfl rfl (by omega) (by omega) ?_
  refine x_aloadn dL_law_3690 rfl ?_
  refine y_callS1 (As := [.ref w, .int (xs (i + 1)), .ref o]) (rest := []) (cs_L_403 _) rfl rfl (Nat.le_of_ble_eq_true rfl) ⟨Nat.le_of_ble_eq_true rfl, Nat.le_of_ble_eq_true rfl⟩ dL_law_3691 (wL_saveState 7 S.lw.o (Ho.ka g2) c1 c2) ?_
  refine x_istore dL_law_3694 (Nat.le_of_ble_eq_true rfl) rfl rfl ?_
  refine x_aloadn dL_law_3696 rfl ?_
  refine x_arg (i := i) (j := 1) rfl dL_law_3697 dL_law_3698 dL_law_3700 dL_law_3701 dL_law_3702 rfl rfl (by omega) (by omega) ?_
  refine z_V1 [.int (xs (i + 1))] [] (cs_L_405 _) (ci := 8) rfl hM.o ⟨Nat.le_of_ble_eq_true rfl, Nat.le_of_ble_eq_true rfl⟩ dL_law_3703 rfl rfl (Nat.le_of_ble_eq_true rfl) (c3 _ hM) ?_
  refine x_istore dL_law_3706 (Nat.le_of_ble_eq_true rfl) rfl rfl ?_
  refine x_aloadn dL_law_3708 rfl ?_
  refine z_V1 [] [] (cs_L_213 _) (ci := 8) rfl hM.o ⟨Nat.le_of_ble_eq_true rfl, Nat.le_of_ble_eq_true rfl⟩ dL_law_3709 rfl rfl (Nat.le_of_ble_eq_true rfl) (c_X10_thrown 0 hM rfl) ?_
  refine X.e2 (congrArg Value.int e1) ?_
  refine x_iload dL_law_3712 rfl ?_
  refine x_icmp_eq 3719 dL_law_3714 rfl (fun _ => ?_) (fun hn => absurd rfl hn)
  refine x_iload dL_law_3719 rfl ?_
  cases r with
  | error E =>
    obtain ⟨i9, -, h9, rfl⟩ := c2
    refine x_if_ne 3736 dL_law_3721 rfl (fun _ => ?_) (fun hn => absurd hn (by rcases (show i9 = 0 ∨ i9 = 1 ∨ i9 = 2 by omega) with rfl | rfl | rfl <;> decide))
    refine x_goto 3795 dL_law_3736 rfl ?_
    exact X.forget (L' := lawL w m o o2 i) ⟨Or.inl rfl, Or.inl rfl, Or.inl rfl, Or.inl rfl, Or.inl rfl, Or.inl rfl, Or.inr rfl, Or.inr rfl, Or.inl rfl, trivial⟩ (hk _ _ (ST.kj (o := o) (r := .error E) S1) (LA.kj (o := o) (r := .error E) (Ho.ka g2)) (LA.kj (o := o) (r := .error E) (Ho2.ka g2)))
  | ok v =>
    obtain rfl : t = 0 := c2
    refine x_if_ne 3736 dL_law_3721 rfl (fun hn => absurd rfl hn) (fun _ => ?_)
    obtain rfl := e2 v rfl
    refine x_aloadn dL_law_3724 rfl ?_
    refine x_iconst 0 dL_law_3725 rfl ?_
    refine x_lald (((Ho.ka g2).kj (r := .ok b) (o := o)).1) (((Ho.ka g2).kj (r := .ok b) (o := o)).2) (j := 0) rfl ⟨by decide, by decide⟩ dL_law_3726 ?_
    refine X.e2 (w := .long b.toInt64) (congrArg Value.long u2_s) ?_
    refine x_iload dL_law_3727 rfl ?_
    refine x_i2l dL_law_3729 ?_
    refine x_lcmp dL_law_3730 ?_
    refine X.e2 (congrArg Value.int lgc) ?_
    refine x_if_eq 3736 dL_law_3731 rfl (fun _ => ?_) (fun hn => absurd rfl hn)
    refine x_goto 3795 dL_law_3736 rfl ?_
    exact X.forget (L' := lawL w m o o2 i) ⟨Or.inl rfl, Or.inl rfl, Or.inl rfl, Or.inl rfl, Or.inl rfl, Or.inl rfl, Or.inr rfl, Or.inr rfl, Or.inl rfl, trivial⟩ (hk _ _ (ST.kj (o := o) (r := .ok b) S1) (LA.kj (o := o) (r := .ok b) (Ho.ka g2)) (LA.kj (o := o) (r := .ok b) (Ho2.ka g2)))
theorem law_63 {n w m o o2 i kb gb D D' bb sb : Nat} {xs : Nat → Int32} {I : Mem} {K : Kt} (hi : i + 6 ≤ n) (hn : n ≤ 3072) (S : ST I K w m kb gb D) (Ho : LA K 103 1 o) (Ho2 : LA K 104 1 o2) (hc : LC (mX9_restoreState 7) cX9_restoreState (mX10_restoreState 2) cX10_restoreState [eIX, eIS] [.int (xs (i + 1))] I K w m kb gb D') (hk : Tail n xs w m o o2 i kb gb D' bb sb) : X mLaw code (2 + bb + (kb + 3 - kN K)) (12 + sb + (gb + 246 - gz K)) I K 3739 (lawL w m o o2 i) [] lawQ (GsL n xs) := by
  obtain ⟨r, t, b, I1, I2, K1, a6, b6, ⟨c1, c2, c3⟩, ⟨e1, e2⟩, S1, ⟨g1, g2⟩, l1, l2⟩ := hc
  have z1 := S1.size
  refine X.less (bc' := a6 + (bb + (kb + 3 - kN K1))) (bs' := b6 + (sb + (gb + 246 - gz K1))) ?_ (by have := g1.1; omega) (by have := g1.2; omega)
  have hM : MK (KJ K1 o r) m := (S1.kj).mk
  refine x_aloadn dL_law_3739 rfl ?_
  refine x_arg (i := i) (j := 1) rfl dL_law_3740 dL_law_3741 dL_law_3743 dL_law_3744 dL_law_3745 rfl rfl (by omega) (by omega) ?_
  refine x_aloadn dL_law_3746 rfl ?_
  refine y_callS1 (As := [.ref w, .int (xs (i + 1)), .ref o]) (rest := []) (cs_L_406 _) rfl rfl (Nat.le_of_ble_eq_true rfl) ⟨Nat.le_of_ble_eq_true rfl, Nat.le_of_ble_eq_true rfl⟩ dL_law_3747 (wL_restoreState 7 S.lw.o (Ho.ka g2) c1 c2) ?_
  refine x_istore dL_law_3750 (Nat.le_of_ble_eq_true rfl) rfl rfl ?_
  refine x_aloadn dL_law_3752 rfl ?_
  refine x_arg (i := i) (j := 1) rfl dL_law_3753 dL_law_3754 dL_law_3756 dL_law_3757 dL_law_3758 rfl rfl (by omega) (by omega) ?_
  refine z_V1 [.int (xs (i + 1))] [] (cs_L_408 _) (ci := 8) rfl hM.o ⟨Nat.le_of_ble_eq_true rfl, Nat.le_of_ble_eq_true rfl⟩ dL_law_3759 rfl rfl (Nat.le_of_ble_eq_true rfl) (c3 _ hM) ?_
  refine x_istore dL_law_3762 (Nat.le_of_ble_eq_true rfl) rfl rfl ?_
  refine x_aloadn dL_law_3764 rfl ?_
  refine z_V1 [] [] (cs_L_213 _) (ci := 8) rfl hM.o ⟨Nat.le_of_ble_eq_true rfl, Nat.le_of_ble_eq_true rfl⟩ dL_law_3765 rfl rfl (Nat.le_of_ble_eq_true rfl) (c_X10_thrown 0 hM rfl) ?_
  refine X.e2 (congrArg Value.int e1) ?_
  refine x_iload dL_law_3768 rfl ?_
  refine x_icmp_eq 3775 dL_law_3770 rfl (fun _ => ?_) (fun hn => absurd rfl hn)
  refine x_iload dL_law_3775 rfl ?_
  cases r with
  | error E =>
    obtain ⟨i9, -, h9, rfl⟩ := c2
    refine x_if_ne 3792 dL_law_3777 rfl (fun _ => ?_) (fun hn => absurd hn (by rcases (show i9 = 0 ∨ i9 = 1 ∨ i9 = 2 by omega) with rfl | rfl | rfl <;> decide))
    refine x_goto 3795 dL_law_3792 rfl ?_
    exact X.forget (L' := lawL w m o o2 i) ⟨Or.inl rfl, Or.inl rfl, Or.inl rfl, Or.inl rfl, Or.inl rfl, Or.inl rfl, Or.inr rfl, Or.inr rfl, Or.inl rfl, trivial⟩ (hk _ _ (ST.kj (o := o) (r := .error E) S1) (LA.kj (o := o) (r := .error E) (Ho.ka g2)) (LA.kj (o := o) (r := .error E) (Ho2.ka g2)))
  | ok v =>
    obtain rfl : t = 0 := c2
    refine x_if_ne 3792 dL_law_3777 rfl (fun hn => absurd rfl hn) (fun _ => ?_)
    obtain rfl := e2 v rfl
    refine x_aloadn dL_law_3780 rfl ?_
    refine x_iconst 0 dL_law_3781 rfl ?_
    refine x_lald (((Ho.ka g2).kj (r := .ok b) (o := o)).1) (((Ho.ka g2).kj (r := .ok b) (o := o)).2) (j := 0) rfl ⟨by decide, by decide⟩ dL_law_3782 ?_
    refine X.e2 (w := .long b.toInt64) (congrArg Value.long u2_s) ?_
    refine x_iload dL_law_3783 rfl ?_
    refine x_i2l dL_law_3785 ?_
    refine x_lcmp dL_law_3786 ?_
    refine X.e2 (congrArg Value.int lgc) ?_
    refine x_if_eq 3792 dL_law_3787 rfl (fun _ => ?_) (fun hn => absurd rfl hn)
    refine x_goto 3795 dL_law_3792 rfl ?_
    exact X.forget (L' := lawL w m o o2 i) ⟨Or.inl rfl, Or.inl rfl, Or.inl rfl, Or.inl rfl, Or.inl rfl, Or.inl rfl, Or.inr rfl, Or.inr rfl, Or.inl rfl, trivial⟩ (hk _ _ (ST.kj (o := o) (r := .ok b) S1) (LA.kj (o := o) (r := .ok b) (Ho.ka g2)) (LA.kj (o := o) (r := .ok b) (Ho2.ka g2)))
