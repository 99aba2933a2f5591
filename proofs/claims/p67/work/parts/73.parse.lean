noncomputable def l_X7_item_2 (n : Nat) (I : Mem) (k : Nat) (x0 : Nat) (x1 : Int32) : Option (Nat × Mem × Nat) := match n with
  | 0 => none
  | n + 1 => if 19 ≤ x1 then (some (18, I, k)) else (b1 (ix x1 19) fun j1 => b3 (f_X7_isWord I k x0 j1) fun v2 I3 k4 => if v2 = 0 then (l_X7_item_2 n I3 k4 x0 (x1 + 1)) else (b1 (ix x1 19) fun j6 => some (j6, I3, k4)))
theorem tl_X7_item_2 (d : Nat) {K : Kt} (n : Nat) : ∀ {I : Mem} {k : Nat} {x0 : Nat} (H0 : LT K x0) {x1 : Int32} {v : Nat} {I9 : Mem} {k9 : Nat}, l_X7_item_2 n I k x0 x1 = some (v, I9, k9) → X (mX7_item (d + 5)) cX7_item 0 0 I (kk K x0 k) 2 [.ref x0, .int x1] [] (Ro (.inl (some (.ref (xE (10 + v))))) I9 (kk K x0 k9)) := by
  induction n with
  | zero =>
    intro I k x0 H0 x1 v I9 k9 h
    cases h
  | succ n ih =>
    intro I k x0 H0 x1 v I9 k9 h
    unfold l_X7_item_2 at h
    refine x_iloadn dX7_item_2 rfl ?_
    refine x_gsItems (show Cond.fieldLinkNest RX7 88 RX9 "ITEMS" "[LWishMarket$Item;" "WishMarket" ∈ wsN from List.mem_filter.mpr ⟨inTb3 134 rfl, rfl⟩) dX7_item_3 ?_
    refine x_itLen dX7_item_6 ?_
    refine x_icmp_ge 37 dX7_item_7 rfl (fun hc => ?_) (fun hc => ?_)
    · have h := ifT hc h
      refine x_itNo 18 (by decide) (show Cond.fieldLink RX7 98 RX1 "NO_ITEM" "LWishMarket$Item;" ∈ wsG from inT3 137 rfl rfl) dX7_item_37 ?_
      cases h
      exact x_aret rfl (Or.inl ⟨_, rfl⟩) dX7_item_40 ⟨rfl, rfl, rfl⟩
    have h := ifF hc h
    refine x_aloadn dX7_item_10 rfl ?_
    refine x_gsItems (show Cond.fieldLinkNest RX7 88 RX9 "ITEMS" "[LWishMarket$Item;" "WishMarket" ∈ wsN from List.mem_filter.mpr ⟨inTb3 134 rfl, rfl⟩) dX7_item_11 ?_
    refine x_iloadn dX7_item_14 rfl ?_
    obtain ⟨j1, hj1, h⟩ := b1_s h
    refine x_itAt hj1 dX7_item_15 ?_
    refine x_itWord (ix_s hj1).2.1 (show Cond.fieldLink RX7 92 RX1 "word" "Ljava/lang/String;" ∈ wsG from inT9 39 rfl rfl) dX7_item_16 ?_
    obtain ⟨v2, I3, k4, h5, h⟩ := b3_s h
    refine z_V1 [.ref (xE (100 + j1))] [] (cs_X7_84 _) (ci := 5) rfl (LT.o (LT.kk H0)) (dep (show d + 0 + 4 + 1 ≤ (d + 5) from by omega) (Nat.le_of_ble_eq_true rfl)) dX7_item_19 rfl rfl (Nat.le_of_ble_eq_true rfl) (c_X7_isWord d (K := K) (I := I) H0 h5) ?_
    refine x_if_eq 31 dX7_item_22 rfl (fun hc => ?_) (fun hc => ?_)
    · have h := ifT hc h
      refine z_iinc 1 (by decide) dX7_item_31 rfl rfl rfl ?_
      refine x_goto 2 dX7_item_34 rfl ?_
      exact ih H0 h
    have h := ifF hc h
    refine x_gsItems (show Cond.fieldLinkNest RX7 88 RX9 "ITEMS" "[LWishMarket$Item;" "WishMarket" ∈ wsN from List.mem_filter.mpr ⟨inTb3 134 rfl, rfl⟩) dX7_item_25 ?_
    refine x_iloadn dX7_item_28 rfl ?_
    obtain ⟨j6, hj6, h⟩ := b1_s h
    refine x_itAt hj6 dX7_item_29 ?_
    cases h
    exact x_aret rfl (Or.inl ⟨_, rfl⟩) dX7_item_30 ⟨rfl, rfl, rfl⟩
noncomputable def f_X7_item (I : Mem) (k : Nat) (x0 : Nat) : Option (Nat × Mem × Nat) := l_X7_item_2 FU I k x0 0
theorem c_X7_item (d : Nat) {K : Kt} {I : Mem} {k : Nat} {x0 : Nat} (H0 : LT K x0) {v : Nat} {I9 : Mem} {k9 : Nat} (h : f_X7_item I k x0 = some (v, I9, k9)) : Ct (mX7_item (d + 5)) cX7_item 0 0 [.ref x0] I (kk K x0 k) (Ro (.inl (some (.ref (xE (10 + v))))) I9 (kk K x0 k9)) := by
  refine Ct.of rfl pn_X7 (catR cat0) (Nat.le_of_ble_eq_true rfl) (show X _ _ _ _ _ _ 0 [.ref x0, .retAddr 0] [] _ from ?_)
  unfold f_X7_item at h
  refine x_iconst 0 dX7_item_0 rfl ?_
  refine x_istoren dX7_item_1 (Nat.le_of_ble_eq_true rfl) rfl rfl ?_
  exact tl_X7_item_2 d FU H0 h
noncomputable def f_X5_readItem (I : Mem) (k : Nat) (x0 : Nat) : Option (Except String Int32 × Mem × Nat) := b2 (f_X7_scan I k (x0 + 1)) fun I1 k2 => b3 (f_X7_item I1 k2 (x0 + 1)) fun v4 I5 k6 => b1 (ckI v4) fun _ => b1 (ix (nI v4) 19) fun j9 => if j9 = 0 then (e3 (f_X5_readStall I5 k6 x0) (fun E I11 k12 => some (.error E, I11, k12)) fun u10 I11 k12 => some (.ok 0, I11, k12)) else if j9 = 1 then (e3 (f_X5_readPerson I5 k6 x0) (fun E I15 k16 => some (.error E, I15, k16)) fun v14 I15 k16 => b1 (ckA v14 (x0 + 3 + 4) 6) fun j18 => e3 (f_X5_readHabits I15 k16 x0 ((x0 + 3 + 4) + j18)) (fun E I20 k21 => some (.error E, I20, k21)) fun u19 I20 k21 => some (.ok 0, I20, k21)) else if j9 = 2 then (e3 (f_X5_readWish I5 k6 x0) (fun E I24 k25 => some (.error E, I24, k25)) fun u23 I24 k25 => some (.ok 0, I24, k25)) else if j9 = 3 then (e3 (f_X5_readNumber I5 k6 x0 0 30) (fun E I28 k29 => some (.error E, I28, k29)) fun v27 I28 k29 => b1 (pu I28 (x0 + 3) 8 v27) fun I31 => some (.ok 0, I31, k29)) else if j9 = 4 then (e3 (f_X5_readNumber I5 k6 x0 0 50) (fun E I33 k34 => some (.error E, I33, k34)) fun v32 I33 k34 => b1 (pu I33 (x0 + 3) 9 v32) fun I36 => some (.ok 0, I36, k34)) else if j9 = 5 then (e3 (f_X5_readLimit I5 k6 x0) (fun E I38 k39 => some (.error E, I38, k39)) fun u37 I38 k39 => some (.ok 0, I38, k39)) else if j9 = 6 then (e3 (f_X5_readBuy I5 k6 x0) (fun E I42 k43 => some (.error E, I42, k43)) fun u41 I42 k43 => some (.ok 0, I42, k43)) else if j9 = 7 then (e3 (f_X5_readSell I5 k6 x0) (fun E I46 k47 => some (.error E, I46, k47)) fun u45 I46 k47 => some (.ok 0, I46, k47)) else if j9 = 8 then (e3 (f_X5_readReturn I5 k6 x0) (fun E I50 k51 => some (.error E, I50, k51)) fun u49 I50 k51 => some (.ok 0, I50, k51)) else if j9 = 9 then (e3 (f_X5_readGrant I5 k6 x0) (fun E I54 k55 => some (.error E, I54, k55)) fun u53 I54 k55 => some (.ok 0, I54, k55)) else if j9 = 10 then (e3 (f_X5_readRename I5 k6 x0) (fun E I58 k59 => some (.error E, I58, k59)) fun u57 I58 k59 => some (.ok 0, I58, k59)) else if j9 = 11 then (e3 (f_X5_readSwap I5 k6 x0) (fun E I62 k63 => some (.error E, I62, k63)) fun u61 I62 k63 => some (.ok 0, I62, k63)) else if j9 = 12 then (e3 (f_X5_readGift I5 k6 x0) (fun E I66 k67 => some (.error E, I66, k67)) fun u65 I66 k67 => some (.ok 0, I66, k67)) else if j9 = 13 then (e3 (f_X5_readSale I5 k6 x0) (fun E I70 k71 => some (.error E, I70, k71)) fun u69 I70 k71 => some (.ok 0, I70, k71)) else if j9 = 14 then (e3 (f_X5_readDayOfYear I5 k6 x0) (fun E I74 k75 => some (.error E, I74, k75)) fun v73 I74 k75 => b1 (pu I74 (x0 + 3) 10 v73) fun I77 => some (.ok 0, I77, k75)) else if j9 = 15 then (e3 (f_X5_readTax I5 k6 x0) (fun E I79 k80 => some (.error E, I79, k80)) fun u78 I79 k80 => some (.ok 0, I79, k80)) else if j9 = 16 then (e3 (f_X5_readDaysToSimulate I5 k6 x0) (fun E I83 k84 => some (.error E, I83, k84)) fun v82 I83 k84 => b2 (f_X3_simulate I83 (x0 + 3) v82) fun v86 I87 => some (.ok 0, I87, k84)) else if j9 = 17 then (e3 (f_X5_openRepeat I5 k6 x0) (fun E I90 k91 => some (.error E, I90, k91)) fun u89 I90 k91 => some (.ok 1, I90, k91)) else (e2 (f_X5_require I5 x0 0 1) (fun E I94 => some (.error E, I94, k6)) fun u93 I94 => some (.ok 0, I94, k6))
theorem c_X5_readItem (d : Nat) {K : Kt} {I : Mem} {k : Nat} {x0 : Nat} (H0 : LR K x0) {x : Except String Int32} {I9 : Mem} {k9 : Nat} (h : f_X5_readItem I k x0 = some (x, I9, k9)) : Ct (mX5_readItem (d + 10)) cX5_readItem (cst x) (cs6 x) [.ref x0] I (kk K (x0 + 1) k) (Ro (rI x) I9 (kk K (x0 + 1) k9)) := by
  refine Ct.of rfl pn_X5 (catR cat0) (Nat.le_of_ble_eq_true rfl) (show X _ _ _ _ _ _ 0 [.ref x0, .retAddr 0] [] _ from ?_)
  unfold f_X5_readItem at h
  refine x_aloadn dX5_readItem_0 rfl ?_
  refine z_getR fs_X5_12 (LR.o (LR.kk H0)) (LR.g0 (LR.kk H0)) dX5_readItem_1 ?_
  obtain ⟨I1, k2, h3, h⟩ := b2_s h
  refine z_V0 [] [] (cs_X5_70 _) (ci := 5) rfl (LT.o (LT.kk (LR.t H0))) (dep (show d + 8 + 1 + 1 ≤ (d + 10) from by omega) (Nat.le_of_ble_eq_true rfl)) dX5_readItem_4 rfl rfl (Nat.le_of_ble_eq_true rfl) (c_X7_scan (d + 8) (K := K) (I := I) (LR.t H0) h3) ?_
  refine x_aloadn dX5_readItem_7 rfl ?_
  refine z_getR fs_X5_12 (LR.o (LR.kk H0)) (LR.g0 (LR.kk H0)) dX5_readItem_8 ?_
  obtain ⟨v4, I5, k6, h7, h⟩ := b3_s h
  refine z_V1 [] [] (cs_X5_112 _) (ci := 5) rfl (LT.o (LT.kk (LR.t H0))) (dep (show d + 4 + 5 + 1 ≤ (d + 10) from by omega) (Nat.le_of_ble_eq_true rfl)) dX5_readItem_11 rfl rfl (Nat.le_of_ble_eq_true rfl) (c_X7_item (d + 4) (K := K) (I := I1) (LR.t H0) h7) ?_
  obtain ⟨u8, hu8, h⟩ := b1_s h
  refine x_astoren dX5_readItem_14 (Nat.le_of_ble_eq_true rfl) rfl rfl ?_
  refine x_gsSw (show Cond.fieldLink RX5 116 RX0 "$SwitchMap$WishMarket$Item" "[I" ∈ wsG from inT3 139 rfl rfl) dX5_readItem_15 ?_
  refine x_aloadn dX5_readItem_18 rfl ?_
  refine z_ord rfl (ckI_s hu8) (show 1 ≤ (d + 10) from by omega) (Nat.le_of_ble_eq_true rfl) dX5_readItem_19 ?_
  obtain ⟨j9, hj9, h⟩ := b1_s h
  refine x_swAt hj9 dX5_readItem_22 ?_
  have hlt := (ix_s hj9).2.1
  clear hj9
  by_cases ej9 : j9 = 0
  · replace h := ifT ej9 h
    subst ej9
    refine x_tabIn 85 108 dX5_readItem_23 (by decide) (by decide) rfl rfl ?_
    refine x_aloadn dX5_readItem_108 rfl ?_
    rcases e3_s h with ⟨u10, I11, k12, h13, h⟩ | ⟨E, I11, k12, h13, h⟩
    rotate_left
    · have hq := c_X5_readStall (d + 1) (K := K) (I := I5) H0 h13
      cases h
      exact z_Ve [] [] (cs_X5_127 _) (ci := 3) rfl (LR.o (LR.kk H0)) (dep (show d + 1 + 8 + 1 ≤ (d + 10) from by omega) (Nat.le_of_ble_eq_true rfl)) dX5_readItem_109 rfl rfl (Nat.le_of_ble_eq_true rfl) hq rfl
    have hq := c_X5_readStall (d + 1) (K := K) (I := I5) H0 h13
    refine z_V0 [] [] (cs_X5_127 _) (ci := 3) rfl (LR.o (LR.kk H0)) (dep (show d + 1 + 8 + 1 ≤ (d + 10) from by omega) (Nat.le_of_ble_eq_true rfl)) dX5_readItem_109 rfl rfl (Nat.le_of_ble_eq_true rfl) hq ?_
    refine x_goto 278 dX5_readItem_112 rfl ?_
    refine x_iconst 0 dX5_readItem_278 rfl ?_
    cases h
    exact x_zret rfl rfl dX5_readItem_279 ⟨rfl, rfl, rfl⟩
  replace h := ifF ej9 h
  by_cases ej9 : j9 = 1
  · replace h := ifT ej9 h
    subst ej9
    refine x_tabIn 92 115 dX5_readItem_23 (by decide) (by decide) rfl rfl ?_
    refine x_aloadn dX5_readItem_115 rfl ?_
    refine x_aloadn dX5_readItem_116 rfl ?_
    rcases e3_s h with ⟨v14, I15, k16, h17, h⟩ | ⟨E, I15, k16, h17, h⟩
    rotate_left
    · have hq := c_X5_readPerson d (K := K) (I := I5) H0 h17
      cases h
      exact z_Ve [] [.ref x0] (cs_X5_130 _) (ci := 3) rfl (LR.o (LR.kk H0)) (dep (show d + 0 + 9 + 1 ≤ (d + 10) from by omega) (Nat.le_of_ble_eq_true rfl)) dX5_readItem_117 rfl rfl (Nat.le_of_ble_eq_true rfl) hq rfl
    have hq := c_X5_readPerson d (K := K) (I := I5) H0 h17
    refine z_V1 [] [.ref x0] (cs_X5_130 _) (ci := 3) rfl (LR.o (LR.kk H0)) (dep (show d + 0 + 9 + 1 ≤ (d + 10) from by omega) (Nat.le_of_ble_eq_true rfl)) dX5_readItem_117 rfl rfl (Nat.le_of_ble_eq_true rfl) hq ?_
    obtain ⟨j18, hj18, h⟩ := b1_s h
    refine X.e2 (congrArg Value.ref (ckA_s hj18).2) ?_
    have hj18 := (ckA_s hj18).1
    rcases e3_s h with ⟨u19, I20, k21, h22, h⟩ | ⟨E, I20, k21, h22, h⟩
    rotate_left
    · have hq := c_X5_readHabits (d + 2) (K := K) (I := I15) H0 (LM.po (LR.q H0) hj18) h22
      cases h
      exact z_Ve [.ref ((x0 + 3 + 4) + j18)] [] (cs_X5_134 _) (ci := 3) rfl (LR.o (LR.kk H0)) (dep (show d + 2 + 7 + 1 ≤ (d + 10) from by omega) (Nat.le_of_ble_eq_true rfl)) dX5_readItem_120 rfl rfl (Nat.le_of_ble_eq_true rfl) hq rfl
    have hq := c_X5_readHabits (d + 2) (K := K) (I := I15) H0 (LM.po (LR.q H0) hj18) h22
    refine z_V0 [.ref ((x0 + 3 + 4) + j18)] [] (cs_X5_134 _) (ci := 3) rfl (LR.o (LR.kk H0)) (dep (show d + 2 + 7 + 1 ≤ (d + 10) from by omega) (Nat.le_of_ble_eq_true rfl)) dX5_readItem_120 rfl rfl (Nat.le_of_ble_eq_true rfl) hq ?_
    refine x_goto 278 dX5_readItem_123 rfl ?_
    refine x_iconst 0 dX5_readItem_278 rfl ?_
    cases h
    exact x_zret rfl rfl dX5_readItem_279 ⟨rfl, rfl, rfl⟩
  replace h := ifF ej9 h
  by_cases ej9 : j9 = 2
  · replace h := ifT ej9 h
    subst ej9
    refine x_tabIn 103 126 dX5_readItem_23 (by decide) (by decide) rfl rfl ?_
    refine x_aloadn dX5_readItem_126 rfl ?_
    rcases e3_s h with ⟨u23, I24, k25, h26, h⟩ | ⟨E, I24, k25, h26, h⟩
    rotate_left
    · have hq := c_X5_readWish d (K := K) (I := I5) H0 h26
      cases h
      exact z_Ve [] [] (cs_X5_138 _) (ci := 3) rfl (LR.o (LR.kk H0)) (dep (show d + 0 + 9 + 1 ≤ (d + 10) from by omega) (Nat.le_of_ble_eq_true rfl)) dX5_readItem_127 rfl rfl (Nat.le_of_ble_eq_true rfl) hq rfl
    have hq := c_X5_readWish d (K := K) (I := I5) H0 h26
    refine z_V0 [] [] (cs_X5_138 _) (ci := 3) rfl (LR.o (LR.kk H0)) (dep (show d + 0 + 9 + 1 ≤ (d + 10) from by omega) (Nat.le_of_ble_eq_true rfl)) dX5_readItem_127 rfl rfl (Nat.le_of_ble_eq_true rfl) hq ?_
    refine x_goto 278 dX5_readItem_130 rfl ?_
    refine x_iconst 0 dX5_readItem_278 rfl ?_
    cases h
    exact x_zret rfl rfl dX5_readItem_279 ⟨rfl, rfl, rfl⟩
  replace h := ifF ej9 h
  by_cases ej9 : j9 = 3
  · replace h := ifT ej9 h
    subst ej9
    refine x_tabIn 110 133 dX5_readItem_23 (by decide) (by decide) rfl rfl ?_
    refine x_aloadn dX5_readItem_133 rfl ?_
    refine z_getR fs_X5_21 (LR.o (LR.kk H0)) (LR.g1 (LR.kk H0)) dX5_readItem_134 ?_
    refine x_aloadn dX5_readItem_137 rfl ?_
    refine x_iconst 0 dX5_readItem_138 rfl ?_
    refine x_bipush 30 dX5_readItem_139 rfl ?_
    rcases e3_s h with ⟨v27, I28, k29, h30, h⟩ | ⟨E, I28, k29, h30, h⟩
    rotate_left
    · have hq := c_X5_readNumber (d + 2) (K := K) (I := I5) H0 h30
      cases h
      exact z_Ve [.int 0, .int 30] [.ref (x0 + 3)] (cs_X5_83 _) (ci := 3) rfl (LR.o (LR.kk H0)) (dep (show d + 2 + 7 + 1 ≤ (d + 10) from by omega) (Nat.le_of_ble_eq_true rfl)) dX5_readItem_141 rfl rfl (Nat.le_of_ble_eq_true rfl) hq rfl
    have hq := c_X5_readNumber (d + 2) (K := K) (I := I5) H0 h30
    refine z_V1 [.int 0, .int 30] [.ref (x0 + 3)] (cs_X5_83 _) (ci := 3) rfl (LR.o (LR.kk H0)) (dep (show d + 2 + 7 + 1 ≤ (d + 10) from by omega) (Nat.le_of_ble_eq_true rfl)) dX5_readItem_141 rfl rfl (Nat.le_of_ble_eq_true rfl) hq ?_
    obtain ⟨I31, hI31, h⟩ := b1_s h
    refine z_putI fs_X5_141 (LM.o (LM.kk (LR.q H0) (by omega))) hI31 dX5_readItem_144 ?_
    refine x_goto 278 dX5_readItem_147 rfl ?_
    refine x_iconst 0 dX5_readItem_278 rfl ?_
    cases h
    exact x_zret rfl rfl dX5_readItem_279 ⟨rfl, rfl, rfl⟩
  replace h := ifF ej9 h
  by_cases ej9 : j9 = 4
  · replace h := ifT ej9 h
    subst ej9
    refine x_tabIn 127 150 dX5_readItem_23 (by decide) (by decide) rfl rfl ?_
    refine x_aloadn dX5_readItem_150 rfl ?_
    refine z_getR fs_X5_21 (LR.o (LR.kk H0)) (LR.g1 (LR.kk H0)) dX5_readItem_151 ?_
    refine x_aloadn dX5_readItem_154 rfl ?_
    refine x_iconst 0 dX5_readItem_155 rfl ?_
    refine x_bipush 50 dX5_readItem_156 rfl ?_
    rcases e3_s h with ⟨v32, I33, k34, h35, h⟩ | ⟨E, I33, k34, h35, h⟩
    rotate_left
    · have hq := c_X5_readNumber (d + 2) (K := K) (I := I5) H0 h35
      cases h
      exact z_Ve [.int 0, .int 50] [.ref (x0 + 3)] (cs_X5_83 _) (ci := 3) rfl (LR.o (LR.kk H0)) (dep (show d + 2 + 7 + 1 ≤ (d + 10) from by omega) (Nat.le_of_ble_eq_true rfl)) dX5_readItem_158 rfl rfl (Nat.le_of_ble_eq_true rfl) hq rfl
    have hq := c_X5_readNumber (d + 2) (K := K) (I := I5) H0 h35
    refine z_V1 [.int 0, .int 50] [.ref (x0 + 3)] (cs_X5_83 _) (ci := 3) rfl (LR.o (LR.kk H0)) (dep (show d + 2 + 7 + 1 ≤ (d + 10) from by omega) (Nat.le_of_ble_eq_true rfl)) dX5_readItem_158 rfl rfl (Nat.le_of_ble_eq_true rfl) hq ?_
    obtain ⟨I36, hI36, h⟩ := b1_s h
    refine z_putI fs_X5_144 (LM.o (LM.kk (LR.q H0) (by omega))) hI36 dX5_readItem_161 ?_
    refine x_goto 278 dX5_readItem_164 rfl ?_
    refine x_iconst 0 dX5_readItem_278 rfl ?_
    cases h
    exact x_zret rfl rfl dX5_readItem_279 ⟨rfl, rfl, rfl⟩
  replace h := ifF ej9 h
  by_cases ej9 : j9 = 5
  · replace h := ifT ej9 h
    subst ej9
    refine x_tabIn 144 167 dX5_readItem_23 (by decide) (by decide) rfl rfl ?_
    refine x_aloadn dX5_readItem_167 rfl ?_
    rcases e3_s h with ⟨u37, I38, k39, h40, h⟩ | ⟨E, I38, k39, h40, h⟩
    rotate_left
    · have hq := c_X5_readLimit d (K := K) (I := I5) H0 h40
      cases h
      exact z_Ve [] [] (cs_X5_147 _) (ci := 3) rfl (LR.o (LR.kk H0)) (dep (show d + 0 + 9 + 1 ≤ (d + 10) from by omega) (Nat.le_of_ble_eq_true rfl)) dX5_readItem_168 rfl rfl (Nat.le_of_ble_eq_true rfl) hq rfl
    have hq := c_X5_readLimit d (K := K) (I := I5) H0 h40
    refine z_V0 [] [] (cs_X5_147 _) (ci := 3) rfl (LR.o (LR.kk H0)) (dep (show d + 0 + 9 + 1 ≤ (d + 10) from by omega) (Nat.le_of_ble_eq_true rfl)) dX5_readItem_168 rfl rfl (Nat.le_of_ble_eq_true rfl) hq ?_
    refine x_goto 278 dX5_readItem_171 rfl ?_
    refine x_iconst 0 dX5_readItem_278 rfl ?_
    cases h
    exact x_zret rfl rfl dX5_readItem_279 ⟨rfl, rfl, rfl⟩
  replace h := ifF ej9 h
  by_cases ej9 : j9 = 6
  · replace h := ifT ej9 h
    subst ej9
    refine x_tabIn 151 174 dX5_readItem_23 (by decide) (by decide) rfl rfl ?_
    refine x_aloadn dX5_readItem_174 rfl ?_
    rcases e3_s h with ⟨u41, I42, k43, h44, h⟩ | ⟨E, I42, k43, h44, h⟩
    rotate_left
    · have hq := c_X5_readBuy d (K := K) (I := I5) H0 h44
      cases h
      exact z_Ve [] [] (cs_X5_150 _) (ci := 3) rfl (LR.o (LR.kk H0)) (dep (show d + 0 + 9 + 1 ≤ (d + 10) from by omega) (Nat.le_of_ble_eq_true rfl)) dX5_readItem_175 rfl rfl (Nat.le_of_ble_eq_true rfl) hq rfl
    have hq := c_X5_readBuy d (K := K) (I := I5) H0 h44
    refine z_V0 [] [] (cs_X5_150 _) (ci := 3) rfl (LR.o (LR.kk H0)) (dep (show d + 0 + 9 + 1 ≤ (d + 10) from by omega) (Nat.le_of_ble_eq_true rfl)) dX5_readItem_175 rfl rfl (Nat.le_of_ble_eq_true rfl) hq ?_
    refine x_goto 278 dX5_readItem_178 rfl ?_
    refine x_iconst 0 dX5_readItem_278 rfl ?_
    cases h
    exact x_zret rfl rfl dX5_readItem_279 ⟨rfl, rfl, rfl⟩
  replace h := ifF ej9 h
  by_cases ej9 : j9 = 7
  · replace h := ifT ej9 h
    subst ej9
    refine x_tabIn 158 181 dX5_readItem_23 (by decide) (by decide) rfl rfl ?_
    refine x_aloadn dX5_readItem_181 rfl ?_
    rcases e3_s h with ⟨u45, I46, k47, h48, h⟩ | ⟨E, I46, k47, h48, h⟩
    rotate_left
    · have hq := c_X5_readSell d (K := K) (I := I5) H0 h48
      cases h
      exact z_Ve [] [] (cs_X5_153 _) (ci := 3) rfl (LR.o (LR.kk H0)) (dep (show d + 0 + 9 + 1 ≤ (d + 10) from by omega) (Nat.le_of_ble_eq_true rfl)) dX5_readItem_182 rfl rfl (Nat.le_of_ble_eq_true rfl) hq rfl
    have hq := c_X5_readSell d (K := K) (I := I5) H0 h48
    refine z_V0 [] [] (cs_X5_153 _) (ci := 3) rfl (LR.o (LR.kk H0)) (dep (show d + 0 + 9 + 1 ≤ (d + 10) from by omega) (Nat.le_of_ble_eq_true rfl)) dX5_readItem_182 rfl rfl (Nat.le_of_ble_eq_true rfl) hq ?_
    refine x_goto 278 dX5_readItem_185 rfl ?_
    refine x_iconst 0 dX5_readItem_278 rfl ?_
    cases h
    exact x_zret rfl rfl dX5_readItem_279 ⟨rfl, rfl, rfl⟩
  replace h := ifF ej9 h
  by_cases ej9 : j9 = 8
  · replace h := ifT ej9 h
    subst ej9
    refine x_tabIn 165 188 dX5_readItem_23 (by decide) (by decide) rfl rfl ?_
    refine x_aloadn dX5_readItem_188 rfl ?_
    rcases e3_s h with ⟨u49, I50, k51, h52, h⟩ | ⟨E, I50, k51, h52, h⟩
    rotate_left
    · have hq := c_X5_readReturn d (K := K) (I := I5) H0 h52
      cases h
      exact z_Ve [] [] (cs_X5_156 _) (ci := 3) rfl (LR.o (LR.kk H0)) (dep (show d + 0 + 9 + 1 ≤ (d + 10) from by omega) (Nat.le_of_ble_eq_true rfl)) dX5_readItem_189 rfl rfl (Nat.le_of_ble_eq_true rfl) hq rfl
    have hq := c_X5_readReturn d (K := K) (I := I5) H0 h52
    refine z_V0 [] [] (cs_X5_156 _) (ci := 3) rfl (LR.o (LR.kk H0)) (dep (show d + 0 + 9 + 1 ≤ (d + 10) from by omega) (Nat.le_of_ble_eq_true rfl)) dX5_readItem_189 rfl rfl (Nat.le_of_ble_eq_true rfl) hq ?_
    refine x_goto 278 dX5_readItem_192 rfl ?_
    refine x_iconst 0 dX5_readItem_278 rfl ?_
    cases h
    exact x_zret rfl rfl dX5_readItem_279 ⟨rfl, rfl, rfl⟩
  replace h := ifF ej9 h
  by_cases ej9 : j9 = 9
  · replace h := ifT ej9 h
    subst ej9
    refine x_tabIn 172 195 dX5_readItem_23 (by decide) (by decide) rfl rfl ?_
    refine x_aloadn dX5_readItem_195 rfl ?_
    rcases e3_s h with ⟨u53, I54, k55, h56, h⟩ | ⟨E, I54, k55, h56, h⟩
    rotate_left
    · have hq := c_X5_readGrant d (K := K) (I := I5) H0 h56
      cases h
      exact z_Ve [] [] (cs_X5_159 _) (ci := 3) rfl (LR.o (LR.kk H0)) (dep (show d + 0 + 9 + 1 ≤ (d + 10) from by omega) (Nat.le_of_ble_eq_true rfl)) dX5_readItem_196 rfl rfl (Nat.le_of_ble_eq_true rfl) hq rfl
    have hq := c_X5_readGrant d (K := K) (I := I5) H0 h56
    refine z_V0 [] [] (cs_X5_159 _) (ci := 3) rfl (LR.o (LR.kk H0)) (dep (show d + 0 + 9 + 1 ≤ (d + 10) from by omega) (Nat.le_of_ble_eq_true rfl)) dX5_readItem_196 rfl rfl (Nat.le_of_ble_eq_true rfl) hq ?_
    refine x_goto 278 dX5_readItem_199 rfl ?_
    refine x_iconst 0 dX5_readItem_278 rfl ?_
    cases h
    exact x_zret rfl rfl dX5_readItem_279 ⟨rfl, rfl, rfl⟩
  replace h := ifF ej9 h
  by_cases ej9 : j9 = 10
  · replace h := ifT ej9 h
    subst ej9
    refine x_tabIn 179 202 dX5_readItem_23 (by decide) (by decide) rfl rfl ?_
    refine x_aloadn dX5_readItem_202 rfl ?_
    rcases e3_s h with ⟨u57, I58, k59, h60, h⟩ | ⟨E, I58, k59, h60, h⟩
    rotate_left
    · have hq := c_X5_readRename d (K := K) (I := I5) H0 h60
      cases h
      exact z_Ve [] [] (cs_X5_162 _) (ci := 3) rfl (LR.o (LR.kk H0)) (dep (show d + 0 + 9 + 1 ≤ (d + 10) from by omega) (Nat.le_of_ble_eq_true rfl)) dX5_readItem_203 rfl rfl (Nat.le_of_ble_eq_true rfl) hq rfl
    have hq := c_X5_readRename d (K := K) (I := I5) H0 h60
    refine z_V0 [] [] (cs_X5_162 _) (ci := 3) rfl (LR.o (LR.kk H0)) (dep (show d + 0 + 9 + 1 ≤ (d + 10) from by omega) (Nat.le_of_ble_eq_true rfl)) dX5_readItem_203 rfl rfl (Nat.le_of_ble_eq_true rfl) hq ?_
    refine x_goto 278 dX5_readItem_206 rfl ?_
    refine x_iconst 0 dX5_readItem_278 rfl ?_
    cases h
    exact x_zret rfl rfl dX5_readItem_279 ⟨rfl, rfl, rfl⟩
  replace h := ifF ej9 h
  by_cases ej9 : j9 = 11
  · replace h := ifT ej9 h
    subst ej9
    refine x_tabIn 186 209 dX5_readItem_23 (by decide) (by decide) rfl rfl ?_
    refine x_aloadn dX5_readItem_209 rfl ?_
    rcases e3_s h with ⟨u61, I62, k63, h64, h⟩ | ⟨E, I62, k63, h64, h⟩
    rotate_left
    · have hq := c_X5_readSwap d (K := K) (I := I5) H0 h64
      cases h
      exact z_Ve [] [] (cs_X5_165 _) (ci := 3) rfl (LR.o (LR.kk H0)) (dep (show d + 0 + 9 + 1 ≤ (d + 10) from by omega) (Nat.le_of_ble_eq_true rfl)) dX5_readItem_210 rfl rfl (Nat.le_of_ble_eq_true rfl) hq rfl
    have hq := c_X5_readSwap d (K := K) (I := I5) H0 h64
    refine z_V0 [] [] (cs_X5_165 _) (ci := 3) rfl (LR.o (LR.kk H0)) (dep (show d + 0 + 9 + 1 ≤ (d + 10) from by omega) (Nat.le_of_ble_eq_true rfl)) dX5_readItem_210 rfl rfl (Nat.le_of_ble_eq_true rfl) hq ?_
    refine x_goto 278 dX5_readItem_213 rfl ?_
    refine x_iconst 0 dX5_readItem_278 rfl ?_
    cases h
    exact x_zret rfl rfl dX5_readItem_279 ⟨rfl, rfl, rfl⟩
  replace h := ifF ej9 h
  by_cases ej9 : j9 = 12
  · replace h := ifT ej9 h
    subst ej9
    refine x_tabIn 193 216 dX5_readItem_23 (by decide) (by decide) rfl rfl ?_
    refine x_aloadn dX5_readItem_216 rfl ?_
    rcases e3_s h with ⟨u65, I66, k67, h68, h⟩ | ⟨E, I66, k67, h68, h⟩
    rotate_left
    · have hq := c_X5_readGift d (K := K) (I := I5) H0 h68
      cases h
      exact z_Ve [] [] (cs_X5_168 _) (ci := 3) rfl (LR.o (LR.kk H0)) (dep (show d + 0 + 9 + 1 ≤ (d + 10) from by omega) (Nat.le_of_ble_eq_true rfl)) dX5_readItem_217 rfl rfl (Nat.le_of_ble_eq_true rfl) hq rfl
    have hq := c_X5_readGift d (K := K) (I := I5) H0 h68
    refine z_V0 [] [] (cs_X5_168 _) (ci := 3) rfl (LR.o (LR.kk H0)) (dep (show d + 0 + 9 + 1 ≤ (d + 10) from by omega) (Nat.le_of_ble_eq_true rfl)) dX5_readItem_217 rfl rfl (Nat.le_of_ble_eq_true rfl) hq ?_
    refine x_goto 278 dX5_readItem_220 rfl ?_
    refine x_iconst 0 dX5_readItem_278 rfl ?_
    cases h
    exact x_zret rfl rfl dX5_readItem_279 ⟨rfl, rfl, rfl⟩
  replace h := ifF ej9 h
  by_cases ej9 : j9 = 13
  · replace h := ifT ej9 h
    subst ej9
    refine x_tabIn 200 223 dX5_readItem_23 (by decide) (by decide) rfl rfl ?_
    refine x_aloadn dX5_readItem_223 rfl ?_
    rcases e3_s h with ⟨u69, I70, k71, h72, h⟩ | ⟨E, I70, k71, h72, h⟩
    rotate_left
    · have hq := c_X5_readSale d (K := K) (I := I5) H0 h72
      cases h
      exact z_Ve [] [] (cs_X5_171 _) (ci := 3) rfl (LR.o (LR.kk H0)) (dep (show d + 0 + 9 + 1 ≤ (d + 10) from by omega) (Nat.le_of_ble_eq_true rfl)) dX5_readItem_224 rfl rfl (Nat.le_of_ble_eq_true rfl) hq rfl
    have hq := c_X5_readSale d (K := K) (I := I5) H0 h72
    refine z_V0 [] [] (cs_X5_171 _) (ci := 3) rfl (LR.o (LR.kk H0)) (dep (show d + 0 + 9 + 1 ≤ (d + 10) from by omega) (Nat.le_of_ble_eq_true rfl)) dX5_readItem_224 rfl rfl (Nat.le_of_ble_eq_true rfl) hq ?_
    refine x_goto 278 dX5_readItem_227 rfl ?_
    refine x_iconst 0 dX5_readItem_278 rfl ?_
    cases h
    exact x_zret rfl rfl dX5_readItem_279 ⟨rfl, rfl, rfl⟩
  replace h := ifF ej9 h
  by_cases ej9 : j9 = 14
  · replace h := ifT ej9 h
    subst ej9
    refine x_tabIn 207 230 dX5_readItem_23 (by decide) (by decide) rfl rfl ?_
    refine x_aloadn dX5_readItem_230 rfl ?_
    refine z_getR fs_X5_21 (LR.o (LR.kk H0)) (LR.g1 (LR.kk H0)) dX5_readItem_231 ?_
    refine x_aloadn dX5_readItem_234 rfl ?_
    rcases e3_s h with ⟨v73, I74, k75, h76, h⟩ | ⟨E, I74, k75, h76, h⟩
    rotate_left
    · have hq := c_X5_readDayOfYear (d + 1) (K := K) (I := I5) H0 h76
      cases h
      exact z_Ve [] [.ref (x0 + 3)] (cs_X5_174 _) (ci := 3) rfl (LR.o (LR.kk H0)) (dep (show d + 1 + 8 + 1 ≤ (d + 10) from by omega) (Nat.le_of_ble_eq_true rfl)) dX5_readItem_235 rfl rfl (Nat.le_of_ble_eq_true rfl) hq rfl
    have hq := c_X5_readDayOfYear (d + 1) (K := K) (I := I5) H0 h76
    refine z_V1 [] [.ref (x0 + 3)] (cs_X5_174 _) (ci := 3) rfl (LR.o (LR.kk H0)) (dep (show d + 1 + 8 + 1 ≤ (d + 10) from by omega) (Nat.le_of_ble_eq_true rfl)) dX5_readItem_235 rfl rfl (Nat.le_of_ble_eq_true rfl) hq ?_
    obtain ⟨I77, hI77, h⟩ := b1_s h
    refine z_putI fs_X5_177 (LM.o (LM.kk (LR.q H0) (by omega))) hI77 dX5_readItem_238 ?_
    refine x_goto 278 dX5_readItem_241 rfl ?_
    refine x_iconst 0 dX5_readItem_278 rfl ?_
    cases h
    exact x_zret rfl rfl dX5_readItem_279 ⟨rfl, rfl, rfl⟩
  replace h := ifF ej9 h
  by_cases ej9 : j9 = 15
  · replace h := ifT ej9 h
    subst ej9
    refine x_tabIn 221 244 dX5_readItem_23 (by decide) (by decide) rfl rfl ?_
    refine x_aloadn dX5_readItem_244 rfl ?_
    rcases e3_s h with ⟨u78, I79, k80, h81, h⟩ | ⟨E, I79, k80, h81, h⟩
    rotate_left
    · have hq := c_X5_readTax d (K := K) (I := I5) H0 h81
      cases h
      exact z_Ve [] [] (cs_X5_180 _) (ci := 3) rfl (LR.o (LR.kk H0)) (dep (show d + 0 + 9 + 1 ≤ (d + 10) from by omega) (Nat.le_of_ble_eq_true rfl)) dX5_readItem_245 rfl rfl (Nat.le_of_ble_eq_true rfl) hq rfl
    have hq := c_X5_readTax d (K := K) (I := I5) H0 h81
    refine z_V0 [] [] (cs_X5_180 _) (ci := 3) rfl (LR.o (LR.kk H0)) (dep (show d + 0 + 9 + 1 ≤ (d + 10) from by omega) (Nat.le_of_ble_eq_true rfl)) dX5_readItem_245 rfl rfl (Nat.le_of_ble_eq_true rfl) hq ?_
    refine x_goto 278 dX5_readItem_248 rfl ?_
    refine x_iconst 0 dX5_readItem_278 rfl ?_
    cases h
    exact x_zret rfl rfl dX5_readItem_279 ⟨rfl, rfl, rfl⟩
  replace h := ifF ej9 h
  by_cases ej9 : j9 = 16
  · replace h := ifT ej9 h
    subst ej9
    refine x_tabIn 228 251 dX5_readItem_23 (by decide) (by decide) rfl rfl ?_
    refine x_aloadn dX5_readItem_251 rfl ?_
    refine z_getR fs_X5_21 (LR.o (LR.kk H0)) (LR.g1 (LR.kk H0)) dX5_readItem_252 ?_
    refine x_aloadn dX5_readItem_255 rfl ?_
    rcases e3_s h with ⟨v82, I83, k84, h85, h⟩ | ⟨E, I83, k84, h85, h⟩
    rotate_left
    · have hq := c_X5_readDaysToSimulate (d + 1) (K := K) (I := I5) H0 h85
      cases h
      exact z_Ve [] [.ref (x0 + 3)] (cs_X5_183 _) (ci := 3) rfl (LR.o (LR.kk H0)) (dep (show d + 1 + 8 + 1 ≤ (d + 10) from by omega) (Nat.le_of_ble_eq_true rfl)) dX5_readItem_256 rfl rfl (Nat.le_of_ble_eq_true rfl) hq rfl
    have hq := c_X5_readDaysToSimulate (d + 1) (K := K) (I := I5) H0 h85
    refine z_V1 [] [.ref (x0 + 3)] (cs_X5_183 _) (ci := 3) rfl (LR.o (LR.kk H0)) (dep (show d + 1 + 8 + 1 ≤ (d + 10) from by omega) (Nat.le_of_ble_eq_true rfl)) dX5_readItem_256 rfl rfl (Nat.le_of_ble_eq_true rfl) hq ?_
    obtain ⟨v86, I87, h88, h⟩ := b2_s h
    refine z_V1 [.int v82] [] (cs_X5_186 _) (ci := 1) rfl (LM.o (LM.kk (LR.q H0) (by omega))) (dep (show d + 5 + 4 + 1 ≤ (d + 10) from by omega) (Nat.le_of_ble_eq_true rfl)) dX5_readItem_259 rfl rfl (Nat.le_of_ble_eq_true rfl) (c_X3_simulate (d + 5) (K := (kk K (x0 + 1) k84)) (I := I83) (LM.kk (LR.q H0) (by omega)) h88) ?_
    refine x_pop dX5_readItem_262 rfl ?_
    refine x_goto 278 dX5_readItem_263 rfl ?_
    refine x_iconst 0 dX5_readItem_278 rfl ?_
    cases h
    exact x_zret rfl rfl dX5_readItem_279 ⟨rfl, rfl, rfl⟩
  replace h := ifF ej9 h
  by_cases ej9 : j9 = 17
  · replace h := ifT ej9 h
    subst ej9
    refine x_tabIn 243 266 dX5_readItem_23 (by decide) (by decide) rfl rfl ?_
    refine x_aloadn dX5_readItem_266 rfl ?_
    rcases e3_s h with ⟨u89, I90, k91, h92, h⟩ | ⟨E, I90, k91, h92, h⟩
    rotate_left
    · have hq := c_X5_openRepeat (d + 1) (K := K) (I := I5) H0 h92
      cases h
      exact z_Ve [] [] (cs_X5_190 _) (ci := 3) rfl (LR.o (LR.kk H0)) (dep (show d + 1 + 8 + 1 ≤ (d + 10) from by omega) (Nat.le_of_ble_eq_true rfl)) dX5_readItem_267 rfl rfl (Nat.le_of_ble_eq_true rfl) hq rfl
    have hq := c_X5_openRepeat (d + 1) (K := K) (I := I5) H0 h92
    refine z_V0 [] [] (cs_X5_190 _) (ci := 3) rfl (LR.o (LR.kk H0)) (dep (show d + 1 + 8 + 1 ≤ (d + 10) from by omega) (Nat.le_of_ble_eq_true rfl)) dX5_readItem_267 rfl rfl (Nat.le_of_ble_eq_true rfl) hq ?_
    refine x_iconst 1 dX5_readItem_270 rfl ?_
    cases h
    exact x_zret rfl rfl dX5_readItem_271 ⟨rfl, rfl, rfl⟩
  replace h := ifF ej9 h
  have e18 : j9 = 18 := by omega
  subst e18
  refine x_tabOut 272 dX5_readItem_23 (Or.inl (by decide)) rfl ?_
  refine x_aloadn dX5_readItem_272 rfl ?_
  refine x_iconst 0 dX5_readItem_273 rfl ?_
  refine x_iconst 1 dX5_readItem_274 rfl ?_
  rcases e2_s h with ⟨u93, I94, h95, h⟩ | ⟨E, I94, h95, h⟩
  rotate_left
  · have hq := c_X5_require (d + 3) (K := (kk K (x0 + 1) k6)) (I := I5) (LR.kk H0) h95
    cases h
    exact z_Ve [.int 0, .int 1] [] (cs_X5_79 _) (ci := 3) rfl (LR.o (LR.kk H0)) (dep (show d + 3 + 6 + 1 ≤ (d + 10) from by omega) (Nat.le_of_ble_eq_true rfl)) dX5_readItem_275 rfl rfl (Nat.le_of_ble_eq_true rfl) hq rfl
  have hq := c_X5_require (d + 3) (K := (kk K (x0 + 1) k6)) (I := I5) (LR.kk H0) h95
  refine z_V0 [.int 0, .int 1] [] (cs_X5_79 _) (ci := 3) rfl (LR.o (LR.kk H0)) (dep (show d + 3 + 6 + 1 ≤ (d + 10) from by omega) (Nat.le_of_ble_eq_true rfl)) dX5_readItem_275 rfl rfl (Nat.le_of_ble_eq_true rfl) hq ?_
  refine x_iconst 0 dX5_readItem_278 rfl ?_
  cases h
  exact x_zret rfl rfl dX5_readItem_279 ⟨rfl, rfl, rfl⟩
noncomputable def l_X5_read_39 (n : Nat) (I : Mem) (k : Nat) (x0 : Nat) (x2 : Int32) (x3 : Int32) : Option (Int32 × Mem × Nat) := match n with
  | 0 => none
  | n + 1 => if x2 = 0 then (some (1, I, k)) else (if 1000000 ≤ x3 then (some (1, I, k)) else (e3 (f_X5_readItem I k x0) (fun E I16 k17 => cEx E (some (0, I16, k17))) fun v15 I16 k17 => if v15 = 0 then (e3 (f_X5_isItemNext I16 k17 x0) (fun E I20 k21 => cEx E (some (0, I20, k21))) fun v19 I20 k21 => if v19 = 0 then (l_X5_read_39 n I20 k21 x0 0 (x3 + 1)) else (l_X5_read_39 n I20 k21 x0 1 (x3 + 1))) else (l_X5_read_39 n I16 k17 x0 1 (x3 + 1))))
theorem tl_X5_read_39 (d : Nat) {K : Kt} (n : Nat) : ∀ {I : Mem} {k : Nat} {x0 : Nat} (H0 : LR K x0) {x2 : Int32} {x3 : Int32} {v : Int32} {I9 : Mem} {k9 : Nat}, l_X5_read_39 n I k x0 x2 x3 = some (v, I9, k9) → X (mX5_read (d + 11)) cX5_read 1 6 I (kk K (x0 + 1) k) 39 [.ref x0, .retAddr 0, .int x2, .int x3, .retAddr 0] [] (Ro (.inl (some (.int v))) I9 (kk K (x0 + 1) k9)) := by
  induction n with
  | zero =>
    intro I k x0 H0 x2 x3 v I9 k9 h
    cases h
  | succ n ih =>
    intro I k x0 H0 x2 x3 v I9 k9 h
    unfold l_X5_read_39 at h
    refine x_iloadn dX5_read_39 rfl ?_
    refine x_if_eq 79 dX5_read_40 rfl (fun hc => ?_) (fun hc => ?_)
    · have h := ifT hc h
      refine x_goto 85 dX5_read_79 rfl ?_
      refine x_iconst 1 dX5_read_85 rfl ?_
      cases h
      exact x_zret rfl rfl dX5_read_86 ⟨rfl, rfl, rfl⟩
    have h := ifF hc h
    refine x_iloadn dX5_read_43 rfl ?_
    refine x_ldc 1000000 (show Cond.constant RX5 56 1000000 ∈ wsG from inT3 125 rfl rfl) dX5_read_44 ?_
    refine x_icmp_ge 79 dX5_read_46 rfl (fun hc => ?_) (fun hc => ?_)
    · have h := ifT hc h
      refine x_goto 85 dX5_read_79 rfl ?_
      refine x_iconst 1 dX5_read_85 rfl ?_
      cases h
      exact x_zret rfl rfl dX5_read_86 ⟨rfl, rfl, rfl⟩
    have h := ifF hc h
    refine x_aloadn dX5_read_49 rfl ?_
    rcases e3_s h with ⟨v15, I16, k17, h18, h⟩ | ⟨E, I16, k17, h18, h⟩
    rotate_left
    · have hq := c_X5_readItem d (K := K) (I := I) H0 h18
      have hE := cEx_s h
      obtain ⟨rfl, h⟩ := hE
      refine z_Vx [] [] (cs_X5_57 _) (ci := 3) rfl (LR.o (LR.kk H0)) (dep (show d + 0 + 10 + 1 ≤ (d + 11) from by omega) (Nat.le_of_ble_eq_true rfl)) dX5_read_50 rfl rfl (Nat.le_of_ble_eq_true rfl) hq ?_
      refine XT.catch [] _ [] rfl (fun z hz => by cases hz) rfl (by decide) (show Cond.classLink RX5 60 "java/lang/IllegalArgumentException" ∈ wsG from inT2 235 rfl rfl) (List.mem_filter.mpr ⟨castIAE, rfl⟩) rfl (Or.inr ⟨2, dX5_read_82, rfl, rfl⟩) (Nat.le_of_ble_eq_true rfl) rfl ?_
      show X _ _ _ _ _ _ 83 [.ref x0, .retAddr 0, .retAddr 0, .int x3, .retAddr 0] [] _
      refine x_iconst 0 dX5_read_83 rfl ?_
      cases h
      exact x_zret rfl rfl dX5_read_84 ⟨rfl, rfl, rfl⟩
    have hq := c_X5_readItem d (K := K) (I := I) H0 h18
    refine z_V1 [] [] (cs_X5_57 _) (ci := 3) rfl (LR.o (LR.kk H0)) (dep (show d + 0 + 10 + 1 ≤ (d + 11) from by omega) (Nat.le_of_ble_eq_true rfl)) dX5_read_50 rfl rfl (Nat.le_of_ble_eq_true rfl) hq ?_
    refine x_istore dX5_read_53 (Nat.le_of_ble_eq_true rfl) rfl rfl ?_
    refine x_iload dX5_read_55 rfl ?_
    refine x_if_ne 67 dX5_read_57 rfl (fun hc => ?_) (fun hc => ?_)
    · have h := ifF hc h
      refine x_iconst 1 dX5_read_67 rfl ?_
      refine x_goto 72 dX5_read_68 rfl ?_
      refine x_istoren dX5_read_72 (Nat.le_of_ble_eq_true rfl) rfl rfl ?_
      refine z_iinc 1 (by decide) dX5_read_73 rfl rfl rfl ?_
      refine x_goto 39 dX5_read_76 rfl ?_
      exact X.forget (L' := [.ref x0, .retAddr 0, .int 1, .int (x3 + 1), .retAddr 0]) ⟨Or.inl rfl, ⟨Or.inl rfl, ⟨Or.inl rfl, ⟨Or.inl rfl, ⟨Or.inr rfl, trivial⟩⟩⟩⟩⟩ (ih H0 h)
    have h := ifT hc h
    refine x_aloadn dX5_read_60 rfl ?_
    rcases e3_s h with ⟨v19, I20, k21, h22, h⟩ | ⟨E, I20, k21, h22, h⟩
    rotate_left
    · have hq := c_X5_isItemNext (d + 3) (K := K) (I := I16) H0 h22
      have hE := cEx_s h
      obtain ⟨rfl, h⟩ := hE
      refine z_Vx [] [] (cs_X5_52 _) (ci := 3) rfl (LR.o (LR.kk H0)) (dep (show d + 3 + 7 + 1 ≤ (d + 11) from by omega) (Nat.le_of_ble_eq_true rfl)) dX5_read_61 rfl rfl (Nat.le_of_ble_eq_true rfl) hq ?_
      refine XT.catch [] _ [] rfl (fun z hz => by cases hz) rfl (by decide) (show Cond.classLink RX5 60 "java/lang/IllegalArgumentException" ∈ wsG from inT2 235 rfl rfl) (List.mem_filter.mpr ⟨castIAE, rfl⟩) rfl (Or.inr ⟨2, dX5_read_82, rfl, rfl⟩) (Nat.le_of_ble_eq_true rfl) rfl ?_
      show X _ _ _ _ _ _ 83 [.ref x0, .retAddr 0, .retAddr 0, .int x3, .int v15] [] _
      refine x_iconst 0 dX5_read_83 rfl ?_
      cases h
      exact x_zret rfl rfl dX5_read_84 ⟨rfl, rfl, rfl⟩
    have hq := c_X5_isItemNext (d + 3) (K := K) (I := I16) H0 h22
    refine z_V1 [] [] (cs_X5_52 _) (ci := 3) rfl (LR.o (LR.kk H0)) (dep (show d + 3 + 7 + 1 ≤ (d + 11) from by omega) (Nat.le_of_ble_eq_true rfl)) dX5_read_61 rfl rfl (Nat.le_of_ble_eq_true rfl) hq ?_
    refine x_if_eq 71 dX5_read_64 rfl (fun hc => ?_) (fun hc => ?_)
    · have h := ifT hc h
      refine x_iconst 0 dX5_read_71 rfl ?_
      refine x_istoren dX5_read_72 (Nat.le_of_ble_eq_true rfl) rfl rfl ?_
      refine z_iinc 1 (by decide) dX5_read_73 rfl rfl rfl ?_
      refine x_goto 39 dX5_read_76 rfl ?_
      exact X.forget (L' := [.ref x0, .retAddr 0, .int 0, .int (x3 + 1), .retAddr 0]) ⟨Or.inl rfl, ⟨Or.inl rfl, ⟨Or.inl rfl, ⟨Or.inl rfl, ⟨Or.inr rfl, trivial⟩⟩⟩⟩⟩ (ih H0 h)
    have h := ifF hc h
    refine x_iconst 1 dX5_read_67 rfl ?_
    refine x_goto 72 dX5_read_68 rfl ?_
    refine x_istoren dX5_read_72 (Nat.le_of_ble_eq_true rfl) rfl rfl ?_
    refine z_iinc 1 (by decide) dX5_read_73 rfl rfl rfl ?_
    refine x_goto 39 dX5_read_76 rfl ?_
    exact X.forget (L' := [.ref x0, .retAddr 0, .int 1, .int (x3 + 1), .retAddr 0]) ⟨Or.inl rfl, ⟨Or.inl rfl, ⟨Or.inl rfl, ⟨Or.inl rfl, ⟨Or.inr rfl, trivial⟩⟩⟩⟩⟩ (ih H0 h)
noncomputable def f_X5_read (I : Mem) (k : Nat) (x0 : Nat) (x1 : Int32) : Option (Int32 × Mem × Nat) := b1 (pu I x0 2 0) fun I1 => b1 (pu I1 x0 3 (-1)) fun I2 => b1 (pu I2 x0 6 0) fun I3 => b1 (pu I3 x0 7 0) fun I4 => b1 (f_X7_startAnew I4 (x0 + 1) x1) fun I5 => e3 (f_X5_readMarket I5 k x0) (fun E I8 k9 => cEx E (some (0, I8, k9))) fun v7 I8 k9 => e3 (f_X5_isItemNext I8 k9 x0) (fun E I12 k13 => cEx E (some (0, I12, k13))) fun v11 I12 k13 => l_X5_read_39 FU I12 k13 x0 v11 0
theorem c_X5_read (d : Nat) {K : Kt} {I : Mem} {k : Nat} {x0 : Nat} (H0 : LR K x0) {x1 : Int32} {v : Int32} {I9 : Mem} {k9 : Nat} (h : f_X5_read I k x0 x1 = some (v, I9, k9)) : Ct (mX5_read (d + 11)) cX5_read 1 6 [.ref x0, .int x1] I (kk K (x0 + 1) k) (Ro (.inl (some (.int v))) I9 (kk K (x0 + 1) k9)) := by
  refine Ct.ofH rfl pn_X5 (catR (catI cat0)) (Nat.le_of_ble_eq_true rfl) (show X _ _ _ _ _ _ 0 [.ref x0, .int x1, .retAddr 0, .retAddr 0, .retAddr 0] [] _ from ?_)
  unfold f_X5_read at h
  refine x_aloadn dX5_read_0 rfl ?_
  refine x_iconst 0 dX5_read_1 rfl ?_
  obtain ⟨I1, hI1, h⟩ := b1_s h
  refine z_putI fs_X5_36 (LR.o (LR.kk H0)) hI1 dX5_read_2 ?_
  refine x_aloadn dX5_read_5 rfl ?_
  refine x_iconst (-1) dX5_read_6 rfl ?_
  obtain ⟨I2, hI2, h⟩ := b1_s h
  refine z_putI fs_X5_25 (LR.o (LR.kk H0)) hI2 dX5_read_7 ?_
  refine x_aloadn dX5_read_10 rfl ?_
  refine x_iconst 0 dX5_read_11 rfl ?_
  obtain ⟨I3, hI3, h⟩ := b1_s h
  refine z_putI fs_X5_39 (LR.o (LR.kk H0)) hI3 dX5_read_12 ?_
  refine x_aloadn dX5_read_15 rfl ?_
  refine x_iconst 0 dX5_read_16 rfl ?_
  obtain ⟨I4, hI4, h⟩ := b1_s h
  refine z_putI fs_X5_42 (LR.o (LR.kk H0)) hI4 dX5_read_17 ?_
  refine x_aloadn dX5_read_20 rfl ?_
  refine z_getR fs_X5_12 (LR.o (LR.kk H0)) (LR.g0 (LR.kk H0)) dX5_read_21 ?_
  refine x_iloadn dX5_read_24 rfl ?_
  obtain ⟨I5, h6, h⟩ := b1_s h
  refine z_V0 [.int x1] [] (cs_X5_45 _) (ci := 5) rfl (LT.o (LT.kk (LR.t H0))) (dep (show d + 9 + 1 + 1 ≤ (d + 11) from by omega) (Nat.le_of_ble_eq_true rfl)) dX5_read_25 rfl rfl (Nat.le_of_ble_eq_true rfl) (c_X7_startAnew (d + 9) (K := (kk K (x0 + 1) k)) (I := I4) (LT.kk (LR.t H0)) h6) ?_
  refine x_aloadn dX5_read_28 rfl ?_
  rcases e3_s h with ⟨v7, I8, k9, h10, h⟩ | ⟨E, I8, k9, h10, h⟩
  rotate_left
  · have hq := c_X5_readMarket (d + 2) (K := K) (I := I5) H0 h10
    have hE := cEx_s h
    obtain ⟨rfl, h⟩ := hE
    refine z_Vx [] [] (cs_X5_49 _) (ci := 3) rfl (LR.o (LR.kk H0)) (dep (show d + 2 + 8 + 1 ≤ (d + 11) from by omega) (Nat.le_of_ble_eq_true rfl)) dX5_read_29 rfl rfl (Nat.le_of_ble_eq_true rfl) hq ?_
    refine XT.catch [] _ [] rfl (fun z hz => by cases hz) rfl (by decide) (show Cond.classLink RX5 60 "java/lang/IllegalArgumentException" ∈ wsG from inT2 235 rfl rfl) (List.mem_filter.mpr ⟨castIAE, rfl⟩) rfl (Or.inr ⟨2, dX5_read_82, rfl, rfl⟩) (Nat.le_of_ble_eq_true rfl) rfl ?_
    show X _ _ _ _ _ _ 83 [.ref x0, .int x1, .retAddr 0, .retAddr 0, .retAddr 0] [] _
    refine x_iconst 0 dX5_read_83 rfl ?_
    cases h
    exact x_zret rfl rfl dX5_read_84 ⟨rfl, rfl, rfl⟩
  have hq := c_X5_readMarket (d + 2) (K := K) (I := I5) H0 h10
  refine z_V0 [] [] (cs_X5_49 _) (ci := 3) rfl (LR.o (LR.kk H0)) (dep (show d + 2 + 8 + 1 ≤ (d + 11) from by omega) (Nat.le_of_ble_eq_true rfl)) dX5_read_29 rfl rfl (Nat.le_of_ble_eq_true rfl) hq ?_
  refine x_aloadn dX5_read_32 rfl ?_
  rcases e3_s h with ⟨v11, I12, k13, h14, h⟩ | ⟨E, I12, k13, h14, h⟩
  rotate_left
  · have hq := c_X5_isItemNext (d + 3) (K := K) (I := I8) H0 h14
    have hE := cEx_s h
    obtain ⟨rfl, h⟩ := hE
    refine z_Vx [] [] (cs_X5_52 _) (ci := 3) rfl (LR.o (LR.kk H0)) (dep (show d + 3 + 7 + 1 ≤ (d + 11) from by omega) (Nat.le_of_ble_eq_true rfl)) dX5_read_33 rfl rfl (Nat.le_of_ble_eq_true rfl) hq ?_
    refine XT.catch [] _ [] rfl (fun z hz => by cases hz) rfl (by decide) (show Cond.classLink RX5 60 "java/lang/IllegalArgumentException" ∈ wsG from inT2 235 rfl rfl) (List.mem_filter.mpr ⟨castIAE, rfl⟩) rfl (Or.inr ⟨2, dX5_read_82, rfl, rfl⟩) (Nat.le_of_ble_eq_true rfl) rfl ?_
    show X _ _ _ _ _ _ 83 [.ref x0, .int x1, .retAddr 0, .retAddr 0, .retAddr 0] [] _
    refine x_iconst 0 dX5_read_83 rfl ?_
    cases h
    exact x_zret rfl rfl dX5_read_84 ⟨rfl, rfl, rfl⟩
  have hq := c_X5_isItemNext (d + 3) (K := K) (I := I8) H0 h14
  refine z_V1 [] [] (cs_X5_52 _) (ci := 3) rfl (LR.o (LR.kk H0)) (dep (show d + 3 + 7 + 1 ≤ (d + 11) from by omega) (Nat.le_of_ble_eq_true rfl)) dX5_read_33 rfl rfl (Nat.le_of_ble_eq_true rfl) hq ?_
  refine x_istoren dX5_read_36 (Nat.le_of_ble_eq_true rfl) rfl rfl ?_
  refine x_iconst 0 dX5_read_37 rfl ?_
  refine x_istoren dX5_read_38 (Nat.le_of_ble_eq_true rfl) rfl rfl ?_
  exact X.forget (L' := [.ref x0, .retAddr 0, .int v11, .int 0, .retAddr 0]) ⟨Or.inl rfl, ⟨Or.inr rfl, ⟨Or.inl rfl, ⟨Or.inl rfl, ⟨Or.inl rfl, trivial⟩⟩⟩⟩⟩ (tl_X5_read_39 d FU H0 h)
noncomputable def l_X9_parseSetup_18 (I : Mem) (k : Nat) (x0 : Nat) : Option (Except String Int32 × Mem × Nat) := some (.error "java/lang/IndexOutOfBoundsException", I, k)
theorem tl_X9_parseSetup_18 (d : Nat) {K : Kt} : ∀ {I : Mem} {k : Nat} {x0 : Nat} (H0 : LW K x0) {x : Except String Int32} {I9 : Mem} {k9 : Nat}, l_X9_parseSetup_18 I k x0 = some (x, I9, k9) → X (mX9_parseSetup (d + 12)) cX9_parseSetup 2 12 I (kk K (x0 + 1 + 1) k) 18 [.ref x0, .retAddr 0, .retAddr 0, .retAddr 0] [] (Ro (rI x) I9 (kk K (x0 + 1 + 1) k9)) := by
  intro I k x0 H0 x I9 k9 h
  unfold l_X9_parseSetup_18 at h
  cases h
  exact (z_throw ts_X9_58_60_62 ⟨(by show 6 ≤ (d + 12); omega), (by show _ ≤ 40 * (d + 12); have e : ∀ n, n = 0 → n + 82 ≤ 40 * (d + 12) := (fun n hn => by omega); exact e _ rfl)⟩ rfl dX9_parseSetup_18 dX9_parseSetup_21 dX9_parseSetup_22 dX9_parseSetup_24 dX9_parseSetup_27).less (by decide) (by decide)
noncomputable def l_X9_parseSetup_88 (n : Nat) (I : Mem) (k : Nat) (x0 : Nat) (x3 : Int32) : Option (Except String Int32 × Mem × Nat) := match n with
  | 0 => none
  | n + 1 => if 2 ≤ x3 then (some (.ok (I (x0 + 37) 5), I, k)) else (b1 (ix x3 2) fun j10 => b1 (pu I (x0 + 101) j10 (vp_nar .boolean 0)) fun I11 => l_X9_parseSetup_88 n I11 k x0 (x3 + 1))
theorem tl_X9_parseSetup_88 (d : Nat) {K : Kt} (n : Nat) : ∀ {I : Mem} {k : Nat} {x0 : Nat} (H0 : LW K x0) {x3 : Int32} {x : Except String Int32} {I9 : Mem} {k9 : Nat}, l_X9_parseSetup_88 n I k x0 x3 = some (x, I9, k9) → X (mX9_parseSetup (d + 12)) cX9_parseSetup 1 6 I (kk K (x0 + 1 + 1) k) 88 [.ref x0, .retAddr 0, .retAddr 0, .int x3] [] (Ro (rI x) I9 (kk K (x0 + 1 + 1) k9)) := by
  induction n with
  | zero =>
    intro I k x0 H0 x3 x I9 k9 h
    cases h
  | succ n ih =>
    intro I k x0 H0 x3 x I9 k9 h
    unfold l_X9_parseSetup_88 at h
    refine x_iloadn dX9_parseSetup_88 rfl ?_
    refine x_iconst 2 dX9_parseSetup_89 rfl ?_
    refine x_icmp_ge 106 dX9_parseSetup_90 rfl (fun hc => ?_) (fun hc => ?_)
    · have h := ifT hc h
      refine x_aloadn dX9_parseSetup_106 rfl ?_
      refine z_getR fs_X9_19 (LW.o (LW.kk H0)) (LW.g1 (LW.kk H0)) dX9_parseSetup_107 ?_
      refine z_getI fs_X9_88 (LM.o (LM.kk (LW.q H0) (by omega))) dX9_parseSetup_110 ?_
      cases h
      exact x_iret rfl dX9_parseSetup_113 ⟨rfl, rfl, rfl⟩
    have h := ifF hc h
    refine x_aloadn dX9_parseSetup_93 rfl ?_
    refine z_getR fs_X9_33 (LW.o (LW.kk H0)) (LW.g5 (LW.kk H0)) dX9_parseSetup_94 ?_
    refine x_iloadn dX9_parseSetup_97 rfl ?_
    refine x_iconst 0 dX9_parseSetup_98 rfl ?_
    obtain ⟨j10, hj10, h⟩ := b1_s h
    obtain ⟨I11, hI11, h⟩ := b1_s h
    refine z_zast (LA.kk (LW.l5 H0)) hj10 hI11 dX9_parseSetup_99 ?_
    refine z_iinc 1 (by decide) dX9_parseSetup_100 rfl rfl rfl ?_
    refine x_goto 88 dX9_parseSetup_103 rfl ?_
    exact ih H0 h
noncomputable def f_X9_parseSetup (I : Mem) (k : Nat) (x0 : Nat) (x1 : Int32) : Option (Except String Int32 × Mem × Nat) := if x1 < 0 then (l_X9_parseSetup_18 I k x0) else (if x1 ≤ (I ((x0 + 1) + 1) 1) then (b3 (f_X5_read I k (x0 + 1) x1) fun v1 I2 k3 => b1 (pu I2 ((x0 + 1) + 1) 1 0) fun I5 => if v1 = 0 then (some (.error "java/lang/IllegalArgumentException", I5, k3)) else (b1 (f_X3_copyFrom I5 (x0 + 37) ((x0 + 1) + 3)) fun I6 => b1 (pu I6 x0 7 1) fun I8 => b1 (pu I8 x0 8 0) fun I9 => l_X9_parseSetup_88 FU I9 k3 x0 0)) else (l_X9_parseSetup_18 I k x0))
theorem c_X9_parseSetup (d : Nat) {K : Kt} {I : Mem} {k : Nat} {x0 : Nat} (H0 : LW K x0) {x1 : Int32} {x : Except String Int32} {I9 : Mem} {k9 : Nat} (h : f_X9_parseSetup I k x0 x1 = some (x, I9, k9)) : Ct (mX9_parseSetup (d + 12)) cX9_parseSetup 2 12 [.ref x0, .int x1] I (kk K (x0 + 1 + 1) k) (Ro (rI x) I9 (kk K (x0 + 1 + 1) k9)) := by
  refine Ct.of rfl pn_X9 (catR (catI cat0)) (Nat.le_of_ble_eq_true rfl) (show X _ _ _ _ _ _ 0 [.ref x0, .int x1, .retAddr 0, .retAddr 0] [] _ from ?_)
  unfold f_X9_parseSetup at h
  refine x_iloadn dX9_parseSetup_0 rfl ?_
  refine x_if_lt 18 dX9_parseSetup_1 rfl (fun hc => ?_) (fun hc => ?_)
  · have h := ifT hc h
    exact X.forget (L' := [.ref x0, .retAddr 0, .retAddr 0, .retAddr 0]) ⟨Or.inl rfl, ⟨Or.inr rfl, ⟨Or.inl rfl, ⟨Or.inl rfl, trivial⟩⟩⟩⟩ (tl_X9_parseSetup_18 d H0 h)
  have h := ifF hc h
  refine x_iloadn dX9_parseSetup_4 rfl ?_
  refine x_aloadn dX9_parseSetup_5 rfl ?_
  refine z_getR fs_X9_10 (LW.o (LW.kk H0)) (LW.g0 (LW.kk H0)) dX9_parseSetup_6 ?_
  refine z_getRG gs_X9_44 (LR.o (LR.kk (LW.r H0))) (LR.g0 (LR.kk (LW.r H0))) dX9_parseSetup_9 ?_
  refine z_getI fs_X9_48 (LT.o (LT.kk (LR.t (LW.r H0)))) dX9_parseSetup_12 ?_
  refine x_icmp_le 28 dX9_parseSetup_15 rfl (fun hc => ?_) (fun hc => ?_)
  · have h := ifT hc h
    refine x_aloadn dX9_parseSetup_28 rfl ?_
    refine z_getR fs_X9_10 (LW.o (LW.kk H0)) (LW.g0 (LW.kk H0)) dX9_parseSetup_29 ?_
    refine x_iloadn dX9_parseSetup_32 rfl ?_
    obtain ⟨v1, I2, k3, h4, h⟩ := b3_s h
    refine z_V1c (bc := 1) (bs := 6) [.int x1] [] (cs_X9_65 _) (ci := 3) rfl (LR.o (LR.kk (LW.r H0))) (dep (show d + 0 + 11 + 1 ≤ (d + 12) from by omega) (Nat.le_of_ble_eq_true rfl)) dX9_parseSetup_33 rfl rfl (Nat.le_of_ble_eq_true rfl) (c_X5_read d (K := K) (I := I) (LW.r H0) h4) ?_
    refine x_istoren dX9_parseSetup_36 (Nat.le_of_ble_eq_true rfl) rfl rfl ?_
    refine x_aloadn dX9_parseSetup_37 rfl ?_
    refine z_getR fs_X9_10 (LW.o (LW.kk H0)) (LW.g0 (LW.kk H0)) dX9_parseSetup_38 ?_
    refine z_getRG gs_X9_44 (LR.o (LR.kk (LW.r H0))) (LR.g0 (LR.kk (LW.r H0))) dX9_parseSetup_41 ?_
    refine x_iconst 0 dX9_parseSetup_44 rfl ?_
    obtain ⟨I5, hI5, h⟩ := b1_s h
    refine z_putI fs_X9_48 (LT.o (LT.kk (LR.t (LW.r H0)))) hI5 dX9_parseSetup_45 ?_
    refine x_iloadn dX9_parseSetup_48 rfl ?_
    refine x_if_ne 62 dX9_parseSetup_49 rfl (fun hc => ?_) (fun hc => ?_)
    · have h := ifF hc h
      refine x_aloadn dX9_parseSetup_62 rfl ?_
      refine z_getR fs_X9_19 (LW.o (LW.kk H0)) (LW.g1 (LW.kk H0)) dX9_parseSetup_63 ?_
      refine x_aloadn dX9_parseSetup_66 rfl ?_
      refine z_getR fs_X9_10 (LW.o (LW.kk H0)) (LW.g0 (LW.kk H0)) dX9_parseSetup_67 ?_
      refine z_getRG gs_X9_74 (LR.o (LR.kk (LW.r H0))) (LR.g1 (LR.kk (LW.r H0))) dX9_parseSetup_70 ?_
      obtain ⟨I6, h7, h⟩ := b1_s h
      refine z_V0 [.ref ((x0 + 1) + 3)] [] (cs_X9_77 _) (ci := 1) rfl (LM.o (LM.kk (LW.q H0) (by omega))) (dep (show d + 10 + 1 + 1 ≤ (d + 12) from by omega) (Nat.le_of_ble_eq_true rfl)) dX9_parseSetup_73 rfl rfl (Nat.le_of_ble_eq_true rfl) (c_X3_copyFrom (d + 10) (K := (kk K (x0 + 1 + 1) k3)) (I := I5) (LM.kk (LW.q H0) (by omega)) (LM.kk (LR.q (LW.r H0)) (by omega)) h7) ?_
      refine x_aloadn dX9_parseSetup_76 rfl ?_
      refine x_iconst 1 dX9_parseSetup_77 rfl ?_
      obtain ⟨I8, hI8, h⟩ := b1_s h
      refine z_putZ (u := ()) fs_X9_81 (LW.o (LW.kk H0)) rfl hI8 dX9_parseSetup_78 ?_
      refine x_aloadn dX9_parseSetup_81 rfl ?_
      refine x_iconst 0 dX9_parseSetup_82 rfl ?_
      obtain ⟨I9, hI9, h⟩ := b1_s h
      refine z_putI fs_X9_85 (LW.o (LW.kk H0)) hI9 dX9_parseSetup_83 ?_
      refine x_iconst 0 dX9_parseSetup_86 rfl ?_
      refine x_istoren dX9_parseSetup_87 (Nat.le_of_ble_eq_true rfl) rfl rfl ?_
      exact X.forget (L' := [.ref x0, .retAddr 0, .retAddr 0, .int 0]) ⟨Or.inl rfl, ⟨Or.inr rfl, ⟨Or.inr rfl, ⟨Or.inl rfl, trivial⟩⟩⟩⟩ (tl_X9_parseSetup_88 d FU H0 h)
    have h := ifT hc h
    cases h
    exact z_throw ts_X9_69_71_73 ⟨(by show 6 ≤ (d + 12); omega), (by show _ ≤ 40 * (d + 12); have e : ∀ n, n = 0 → n + 82 ≤ 40 * (d + 12) := (fun n hn => by omega); exact e _ rfl)⟩ rfl dX9_parseSetup_52 dX9_parseSetup_55 dX9_parseSetup_56 dX9_parseSetup_58 dX9_parseSetup_61
  have h := ifF hc h
  exact X.forget (L' := [.ref x0, .retAddr 0, .retAddr 0, .retAddr 0]) ⟨Or.inl rfl, ⟨Or.inr rfl, ⟨Or.inl rfl, ⟨Or.inl rfl, trivial⟩⟩⟩⟩ (tl_X9_parseSetup_18 d H0 h)
