noncomputable def l_X7_isWord_25 (n : Nat) (I : Mem) (k : Nat) (x0 : Nat) (x1 : Nat) (x2 : Int32) : Option (Int32 × Mem × Nat) := match n with
  | 0 => none
  | n + 1 => b1 (ckS x1) fun _ => b1 (f_J0_length_8abf5 I x1) fun v6 => if v6 ≤ x2 then (some (1, I, k)) else (b1 (ix ((I x0 4) + x2) 500) fun j8 => b1 (ckS x1) fun _ => b1 (f_J0_charAt_5068e I x1 x2) fun v9 => if (I (x0 + 1) j8) = v9 then (l_X7_isWord_25 n I k x0 x1 (x2 + 1)) else (some (0, I, k)))
theorem tl_X7_isWord_25 (d : Nat) {K : Kt} (n : Nat) : ∀ {I : Mem} {k : Nat} {x0 : Nat} (H0 : LT K x0) {x1 : Nat} {x2 : Int32} {v : Int32} {I9 : Mem} {k9 : Nat}, l_X7_isWord_25 n I k x0 x1 x2 = some (v, I9, k9) → X (mX7_isWord (d + 4)) cX7_isWord 0 0 I (kk K x0 k) 25 [.ref x0, .ref (xE (100 + x1)), .int x2] [] (Ro (.inl (some (.int v))) I9 (kk K x0 k9)) := by
  induction n with
  | zero =>
    intro I k x0 H0 x1 x2 v I9 k9 h
    cases h
  | succ n ih =>
    intro I k x0 H0 x1 x2 v I9 k9 h
    unfold l_X7_isWord_25 at h
    refine x_iloadn dX7_isWord_25 rfl ?_
    refine x_aloadn dX7_isWord_26 rfl ?_
    obtain ⟨u12, hu12, h⟩ := b1_s h
    obtain ⟨v6, h7, h⟩ := b1_s h
    refine z_F1 [] [.int x2] (cs_X7_73 _) rfl (ckS_s hu12) (dep (show d + 2 + 1 + 1 ≤ (d + 4) from by omega) (Nat.le_of_ble_eq_true rfl)) dX7_isWord_27 rfl rfl (Nat.le_of_ble_eq_true rfl) (c_J0_length_8abf5 (d + 2) (K := (kk K x0 k)) (I := I) h7) ?_
    refine x_icmp_ge 60 dX7_isWord_30 rfl (fun hc => ?_) (fun hc => ?_)
    · have h := ifT hc h
      refine x_iconst 1 dX7_isWord_60 rfl ?_
      cases h
      exact x_zret rfl rfl dX7_isWord_61 ⟨rfl, rfl, rfl⟩
    have h := ifF hc h
    refine x_aloadn dX7_isWord_33 rfl ?_
    refine z_getR fs_X7_9 (LT.o (LT.kk H0)) (LT.g0 (LT.kk H0)) dX7_isWord_34 ?_
    refine x_aloadn dX7_isWord_37 rfl ?_
    refine z_getI fs_X7_44 (LT.o (LT.kk H0)) dX7_isWord_38 ?_
    refine x_iloadn dX7_isWord_41 rfl ?_
    refine x_iadd dX7_isWord_42 ?_
    obtain ⟨j8, hj8, h⟩ := b1_s h
    refine z_bald (LA.kk (LT.l0 H0)) hj8 dX7_isWord_43 ?_
    refine x_aloadn dX7_isWord_44 rfl ?_
    refine x_iloadn dX7_isWord_45 rfl ?_
    obtain ⟨u11, hu11, h⟩ := b1_s h
    obtain ⟨v9, h10, h⟩ := b1_s h
    refine z_F1 [.int x2] [.int (I (x0 + 1) j8)] (cs_X7_77 _) rfl (ckS_s hu11) (dep (show d + 0 + 3 + 1 ≤ (d + 4) from by omega) (Nat.le_of_ble_eq_true rfl)) dX7_isWord_46 rfl rfl (Nat.le_of_ble_eq_true rfl) (c_J0_charAt_5068e d (K := (kk K x0 k)) (I := I) h10) ?_
    refine x_icmp_eq 54 dX7_isWord_49 rfl (fun hc => ?_) (fun hc => ?_)
    · have h := ifT hc h
      refine z_iinc 1 (by decide) dX7_isWord_54 rfl rfl rfl ?_
      refine x_goto 25 dX7_isWord_57 rfl ?_
      exact ih H0 h
    have h := ifF hc h
    refine x_iconst 0 dX7_isWord_52 rfl ?_
    cases h
    exact x_zret rfl rfl dX7_isWord_53 ⟨rfl, rfl, rfl⟩
noncomputable def f_X7_isWord (I : Mem) (k : Nat) (x0 : Nat) (x1 : Nat) : Option (Int32 × Mem × Nat) := b1 (ckK k) fun _ => if k = 1 then (b1 (ckS x1) fun _ => b1 (f_J0_length_8abf5 I x1) fun v2 => b1 (f_X7_tokenLength I x0) fun v4 => if v2 = v4 then (l_X7_isWord_25 FU I k x0 x1 0) else (some (0, I, k))) else (some (0, I, k))
theorem c_X7_isWord (d : Nat) {K : Kt} {I : Mem} {k : Nat} {x0 : Nat} (H0 : LT K x0) {x1 : Nat} {v : Int32} {I9 : Mem} {k9 : Nat} (h : f_X7_isWord I k x0 x1 = some (v, I9, k9)) : Ct (mX7_isWord (d + 4)) cX7_isWord 0 0 [.ref x0, .ref (xE (100 + x1))] I (kk K x0 k) (Ro (.inl (some (.int v))) I9 (kk K x0 k9)) := by
  refine Ct.of rfl pn_X7 (catR (catR cat0)) (Nat.le_of_ble_eq_true rfl) (show X _ _ _ _ _ _ 0 [.ref x0, .ref (xE (100 + x1)), .retAddr 0] [] _ from ?_)
  unfold f_X7_isWord at h
  refine x_aloadn dX7_isWord_0 rfl ?_
  obtain ⟨u1, hu1, h⟩ := b1_s h
  refine z_getR fs_X7_21 (LT.o (LT.kk H0)) kk_k dX7_isWord_1 ?_
  refine x_getsK 1 (by decide) (show Cond.fieldLink RX7 51 RX2 "WORD" "LWishMarket$Kind;" ∈ wsG from inT3 19 rfl rfl) dX7_isWord_4 ?_
  refine x_acmpK_ne 21 (ckK_s hu1) (by decide) dX7_isWord_7 rfl (fun hc => ?_) (fun hc => ?_)
  · have h := ifF hc h
    refine x_iconst 0 dX7_isWord_21 rfl ?_
    cases h
    exact x_zret rfl rfl dX7_isWord_22 ⟨rfl, rfl, rfl⟩
  have h := ifT hc h
  refine x_aloadn dX7_isWord_10 rfl ?_
  obtain ⟨u13, hu13, h⟩ := b1_s h
  obtain ⟨v2, h3, h⟩ := b1_s h
  refine z_F1 [] [] (cs_X7_73 _) rfl (ckS_s hu13) (dep (show d + 2 + 1 + 1 ≤ (d + 4) from by omega) (Nat.le_of_ble_eq_true rfl)) dX7_isWord_11 rfl rfl (Nat.le_of_ble_eq_true rfl) (c_J0_length_8abf5 (d + 2) (K := (kk K x0 k)) (I := I) h3) ?_
  refine x_aloadn dX7_isWord_14 rfl ?_
  obtain ⟨v4, h5, h⟩ := b1_s h
  refine z_V1 [] [.int v2] (cs_X7_47 _) (ci := 5) rfl (LT.o (LT.kk H0)) (dep (show d + 3 + 0 + 1 ≤ (d + 4) from by omega) (Nat.le_of_ble_eq_true rfl)) dX7_isWord_15 rfl rfl (Nat.le_of_ble_eq_true rfl) (c_X7_tokenLength (d + 3) (K := (kk K x0 k)) (I := I) (LT.kk H0) h5) ?_
  refine x_icmp_eq 23 dX7_isWord_18 rfl (fun hc => ?_) (fun hc => ?_)
  · have h := ifT hc h
    refine x_iconst 0 dX7_isWord_23 rfl ?_
    refine x_istoren dX7_isWord_24 (Nat.le_of_ble_eq_true rfl) rfl rfl ?_
    exact tl_X7_isWord_25 d FU H0 h
  have h := ifF hc h
  refine x_iconst 0 dX7_isWord_21 rfl ?_
  cases h
  exact x_zret rfl rfl dX7_isWord_22 ⟨rfl, rfl, rfl⟩
noncomputable def f_X5_readMarket (I : Mem) (k : Nat) (x0 : Nat) : Option (Except String Unit × Mem × Nat) := b2 (f_X7_scan I k (x0 + 1)) fun I1 k2 => b3 (f_X7_isWord I1 k2 (x0 + 1) 19) fun v4 I5 k6 => e2 (f_X5_require I5 x0 v4 1) (fun E I9 => some (.error E, I9, k6)) fun u8 I9 => e3 (f_X5_readNumber I9 k6 x0 4 60) (fun E I12 k13 => some (.error E, I12, k13)) fun v11 I12 k13 => b1 (f_X3_startAnew I12 (x0 + 3) v11) fun I15 => some (.ok (), I15, k13)
theorem c_X5_readMarket (d : Nat) {K : Kt} {I : Mem} {k : Nat} {x0 : Nat} (H0 : LR K x0) {x : Except String Unit} {I9 : Mem} {k9 : Nat} (h : f_X5_readMarket I k x0 = some (x, I9, k9)) : Ct (mX5_readMarket (d + 8)) cX5_readMarket (cst x) (cs6 x) [.ref x0] I (kk K (x0 + 1) k) (Ro (rV x) I9 (kk K (x0 + 1) k9)) := by
  refine Ct.of rfl pn_X5 (catR cat0) (Nat.le_of_ble_eq_true rfl) (show X _ _ _ _ _ _ 0 [.ref x0] [] _ from ?_)
  unfold f_X5_readMarket at h
  refine x_aloadn dX5_readMarket_0 rfl ?_
  refine z_getR fs_X5_12 (LR.o (LR.kk H0)) (LR.g0 (LR.kk H0)) dX5_readMarket_1 ?_
  obtain ⟨I1, k2, h3, h⟩ := b2_s h
  refine z_V0 [] [] (cs_X5_70 _) (ci := 5) rfl (LT.o (LT.kk (LR.t H0))) (dep (show d + 6 + 1 + 1 ≤ (d + 8) from by omega) (Nat.le_of_ble_eq_true rfl)) dX5_readMarket_4 rfl rfl (Nat.le_of_ble_eq_true rfl) (c_X7_scan (d + 6) (K := K) (I := I) (LR.t H0) h3) ?_
  refine x_aloadn dX5_readMarket_7 rfl ?_
  refine x_aloadn dX5_readMarket_8 rfl ?_
  refine z_getR fs_X5_12 (LR.o (LR.kk H0)) (LR.g0 (LR.kk H0)) dX5_readMarket_9 ?_
  refine x_ldcS 19 (show (RX5, 73, "market", 19) ∈ strT from by decide +kernel) dX5_readMarket_12 ?_
  obtain ⟨v4, I5, k6, h7, h⟩ := b3_s h
  refine z_V1 [.ref (xE (100 + 19))] [.ref x0] (cs_X5_75 _) (ci := 5) rfl (LT.o (LT.kk (LR.t H0))) (dep (show d + 3 + 4 + 1 ≤ (d + 8) from by omega) (Nat.le_of_ble_eq_true rfl)) dX5_readMarket_14 rfl rfl (Nat.le_of_ble_eq_true rfl) (c_X7_isWord (d + 3) (K := K) (I := I1) (LR.t H0) h7) ?_
  refine x_iconst 1 dX5_readMarket_17 rfl ?_
  rcases e2_s h with ⟨u8, I9, h10, h⟩ | ⟨E, I9, h10, h⟩
  rotate_left
  · have hq := c_X5_require (d + 1) (K := (kk K (x0 + 1) k6)) (I := I5) (LR.kk H0) h10
    cases h
    exact z_Ve [.int v4, .int 1] [] (cs_X5_79 _) (ci := 3) rfl (LR.o (LR.kk H0)) (dep (show d + 1 + 6 + 1 ≤ (d + 8) from by omega) (Nat.le_of_ble_eq_true rfl)) dX5_readMarket_18 rfl rfl (Nat.le_of_ble_eq_true rfl) hq rfl
  have hq := c_X5_require (d + 1) (K := (kk K (x0 + 1) k6)) (I := I5) (LR.kk H0) h10
  refine z_V0 [.int v4, .int 1] [] (cs_X5_79 _) (ci := 3) rfl (LR.o (LR.kk H0)) (dep (show d + 1 + 6 + 1 ≤ (d + 8) from by omega) (Nat.le_of_ble_eq_true rfl)) dX5_readMarket_18 rfl rfl (Nat.le_of_ble_eq_true rfl) hq ?_
  refine x_aloadn dX5_readMarket_21 rfl ?_
  refine z_getR fs_X5_21 (LR.o (LR.kk H0)) (LR.g1 (LR.kk H0)) dX5_readMarket_22 ?_
  refine x_aloadn dX5_readMarket_25 rfl ?_
  refine x_iconst 4 dX5_readMarket_26 rfl ?_
  refine x_bipush 60 dX5_readMarket_27 rfl ?_
  rcases e3_s h with ⟨v11, I12, k13, h14, h⟩ | ⟨E, I12, k13, h14, h⟩
  rotate_left
  · have hq := c_X5_readNumber d (K := K) (I := I9) H0 h14
    cases h
    exact z_Ve [.int 4, .int 60] [.ref (x0 + 3)] (cs_X5_83 _) (ci := 3) rfl (LR.o (LR.kk H0)) (dep (show d + 0 + 7 + 1 ≤ (d + 8) from by omega) (Nat.le_of_ble_eq_true rfl)) dX5_readMarket_29 rfl rfl (Nat.le_of_ble_eq_true rfl) hq rfl
  have hq := c_X5_readNumber d (K := K) (I := I9) H0 h14
  refine z_V1 [.int 4, .int 60] [.ref (x0 + 3)] (cs_X5_83 _) (ci := 3) rfl (LR.o (LR.kk H0)) (dep (show d + 0 + 7 + 1 ≤ (d + 8) from by omega) (Nat.le_of_ble_eq_true rfl)) dX5_readMarket_29 rfl rfl (Nat.le_of_ble_eq_true rfl) hq ?_
  obtain ⟨I15, h16, h⟩ := b1_s h
  refine z_V0 [.int v11] [] (cs_X5_87 _) (ci := 1) rfl (LM.o (LM.kk (LR.q H0) (by omega))) (dep (show d + 7 + 0 + 1 ≤ (d + 8) from by omega) (Nat.le_of_ble_eq_true rfl)) dX5_readMarket_32 rfl rfl (Nat.le_of_ble_eq_true rfl) (c_X3_startAnew (d + 7) (K := (kk K (x0 + 1) k13)) (I := I12) (LM.kk (LR.q H0) (by omega)) h16) ?_
  cases h
  exact x_vret rfl dX5_readMarket_35 ⟨rfl, rfl, rfl⟩
noncomputable def f_X7_scanIfWord (I : Mem) (k : Nat) (x0 : Nat) (x1 : Nat) : Option (Int32 × Mem × Nat) := b2 (f_X7_scan I k x0) fun I1 k2 => b3 (f_X7_isWord I1 k2 x0 x1) fun v4 I5 k6 => if v4 = 0 then (b1 (pu I5 x0 3 (I x0 3)) fun I8 => some (0, I8, k6)) else (some (1, I5, k6))
theorem c_X7_scanIfWord (d : Nat) {K : Kt} {I : Mem} {k : Nat} {x0 : Nat} (H0 : LT K x0) {x1 : Nat} {v : Int32} {I9 : Mem} {k9 : Nat} (h : f_X7_scanIfWord I k x0 x1 = some (v, I9, k9)) : Ct (mX7_scanIfWord (d + 5)) cX7_scanIfWord 0 0 [.ref x0, .ref (xE (100 + x1))] I (kk K x0 k) (Ro (.inl (some (.int v))) I9 (kk K x0 k9)) := by
  refine Ct.of rfl pn_X7 (catR (catR cat0)) (Nat.le_of_ble_eq_true rfl) (show X _ _ _ _ _ _ 0 [.ref x0, .ref (xE (100 + x1)), .retAddr 0] [] _ from ?_)
  unfold f_X7_scanIfWord at h
  refine x_aloadn dX7_scanIfWord_0 rfl ?_
  refine z_getI fs_X7_37 (LT.o (LT.kk H0)) dX7_scanIfWord_1 ?_
  refine x_istoren dX7_scanIfWord_4 (Nat.le_of_ble_eq_true rfl) rfl rfl ?_
  refine x_aloadn dX7_scanIfWord_5 rfl ?_
  obtain ⟨I1, k2, h3, h⟩ := b2_s h
  refine z_V0 [] [] (cs_X7_81 _) (ci := 5) rfl (LT.o (LT.kk H0)) (dep (show d + 3 + 1 + 1 ≤ (d + 5) from by omega) (Nat.le_of_ble_eq_true rfl)) dX7_scanIfWord_6 rfl rfl (Nat.le_of_ble_eq_true rfl) (c_X7_scan (d + 3) (K := K) (I := I) H0 h3) ?_
  refine x_aloadn dX7_scanIfWord_9 rfl ?_
  refine x_aloadn dX7_scanIfWord_10 rfl ?_
  obtain ⟨v4, I5, k6, h7, h⟩ := b3_s h
  refine z_V1 [.ref (xE (100 + x1))] [] (cs_X7_84 _) (ci := 5) rfl (LT.o (LT.kk H0)) (dep (show d + 0 + 4 + 1 ≤ (d + 5) from by omega) (Nat.le_of_ble_eq_true rfl)) dX7_scanIfWord_11 rfl rfl (Nat.le_of_ble_eq_true rfl) (c_X7_isWord d (K := K) (I := I1) H0 h7) ?_
  refine x_if_eq 19 dX7_scanIfWord_14 rfl (fun hc => ?_) (fun hc => ?_)
  · have h := ifT hc h
    refine x_aloadn dX7_scanIfWord_19 rfl ?_
    refine x_iloadn dX7_scanIfWord_20 rfl ?_
    obtain ⟨I8, hI8, h⟩ := b1_s h
    refine z_putI fs_X7_37 (LT.o (LT.kk H0)) hI8 dX7_scanIfWord_21 ?_
    refine x_iconst 0 dX7_scanIfWord_24 rfl ?_
    cases h
    exact x_zret rfl rfl dX7_scanIfWord_25 ⟨rfl, rfl, rfl⟩
  have h := ifF hc h
  refine x_iconst 1 dX7_scanIfWord_17 rfl ?_
  cases h
  exact x_zret rfl rfl dX7_scanIfWord_18 ⟨rfl, rfl, rfl⟩
noncomputable def l_X5_readHabits_77 (c4 : Mem → Nat → Nat → Nat → Int32 → Int32 → Option (Except String Unit × Mem × Nat)) (I : Mem) (k : Nat) (x0 : Nat) (x1 : Nat) (x2 : Int32) (x3 : Int32) (y0 : Int32) : Option (Except String Unit × Mem × Nat) := e2 (f_X5_require I x0 y0 3) (fun E I10 => some (.error E, I10, k)) fun u9 I10 => b1 (pu I10 x1 7 1) fun I12 => c4 I12 k x0 x1 x2 (x3 + 1)
theorem tl_X5_readHabits_77 (d : Nat) {K : Kt} {c4 : Mem → Nat → Nat → Nat → Int32 → Int32 → Option (Except String Unit × Mem × Nat)} (hc4 : ∀ {I : Mem} {k : Nat} {x0 : Nat} (H0 : LR K x0) {x1 : Nat} (H1 : LO K 2 x1) {x2 : Int32} {x3 : Int32} {x : Except String Unit} {I9 : Mem} {k9 : Nat}, c4 I k x0 x1 x2 x3 = some (x, I9, k9) → X (mX5_readHabits (d + 7)) cX5_readHabits (cst x) (cs6 x) I (kk K (x0 + 1) k) 4 [.ref x0, .ref x1, .int x2, .int x3] [] (Ro (rV x) I9 (kk K (x0 + 1) k9))) : ∀ {I : Mem} {k : Nat} {x0 : Nat} (H0 : LR K x0) {x1 : Nat} (H1 : LO K 2 x1) {x2 : Int32} {x3 : Int32} {y0 : Int32} {x : Except String Unit} {I9 : Mem} {k9 : Nat}, l_X5_readHabits_77 c4 I k x0 x1 x2 x3 y0 = some (x, I9, k9) → X (mX5_readHabits (d + 7)) cX5_readHabits (cst x) (cs6 x) I (kk K (x0 + 1) k) 77 [.ref x0, .ref x1, .int x2, .int x3] [.int y0, .ref x0] (Ro (rV x) I9 (kk K (x0 + 1) k9)) := by
  intro I k x0 H0 x1 H1 x2 x3 y0 x I9 k9 h
  unfold l_X5_readHabits_77 at h
  refine x_iconst 3 dX5_readHabits_77 rfl ?_
  rcases e2_s h with ⟨u9, I10, h11, h⟩ | ⟨E, I10, h11, h⟩
  rotate_left
  · have hq := c_X5_require d (K := (kk K (x0 + 1) k)) (I := I) (LR.kk H0) h11
    cases h
    exact z_Ve [.int y0, .int 3] [] (cs_X5_79 _) (ci := 3) rfl (LR.o (LR.kk H0)) (dep (show d + 0 + 6 + 1 ≤ (d + 7) from by omega) (Nat.le_of_ble_eq_true rfl)) dX5_readHabits_78 rfl rfl (Nat.le_of_ble_eq_true rfl) hq rfl
  have hq := c_X5_require d (K := (kk K (x0 + 1) k)) (I := I) (LR.kk H0) h11
  refine z_V0 [.int y0, .int 3] [] (cs_X5_79 _) (ci := 3) rfl (LR.o (LR.kk H0)) (dep (show d + 0 + 6 + 1 ≤ (d + 7) from by omega) (Nat.le_of_ble_eq_true rfl)) dX5_readHabits_78 rfl rfl (Nat.le_of_ble_eq_true rfl) hq ?_
  refine x_aloadn dX5_readHabits_81 rfl ?_
  refine x_iconst 1 dX5_readHabits_82 rfl ?_
  obtain ⟨I12, hI12, h⟩ := b1_s h
  refine z_putZ (u := ()) fs_X5_270 (LO.kk H1) rfl hI12 dX5_readHabits_83 ?_
  refine x_goto 91 dX5_readHabits_86 rfl ?_
  refine z_iinc 1 (by decide) dX5_readHabits_91 rfl rfl rfl ?_
  refine x_goto 4 dX5_readHabits_94 rfl ?_
  exact hc4 H0 H1 h
noncomputable def l_X5_readHabits_39 (c4 : Mem → Nat → Nat → Nat → Int32 → Int32 → Option (Except String Unit × Mem × Nat)) (I : Mem) (k : Nat) (x0 : Nat) (x1 : Nat) (x2 : Int32) (x3 : Int32) (y0 : Int32) : Option (Except String Unit × Mem × Nat) := e2 (f_X5_require I x0 y0 3) (fun E I14 => some (.error E, I14, k)) fun u13 I14 => b1 (pu I14 x1 6 1) fun I16 => c4 I16 k x0 x1 x2 (x3 + 1)
theorem tl_X5_readHabits_39 (d : Nat) {K : Kt} {c4 : Mem → Nat → Nat → Nat → Int32 → Int32 → Option (Except String Unit × Mem × Nat)} (hc4 : ∀ {I : Mem} {k : Nat} {x0 : Nat} (H0 : LR K x0) {x1 : Nat} (H1 : LO K 2 x1) {x2 : Int32} {x3 : Int32} {x : Except String Unit} {I9 : Mem} {k9 : Nat}, c4 I k x0 x1 x2 x3 = some (x, I9, k9) → X (mX5_readHabits (d + 7)) cX5_readHabits (cst x) (cs6 x) I (kk K (x0 + 1) k) 4 [.ref x0, .ref x1, .int x2, .int x3] [] (Ro (rV x) I9 (kk K (x0 + 1) k9))) : ∀ {I : Mem} {k : Nat} {x0 : Nat} (H0 : LR K x0) {x1 : Nat} (H1 : LO K 2 x1) {x2 : Int32} {x3 : Int32} {y0 : Int32} {x : Except String Unit} {I9 : Mem} {k9 : Nat}, l_X5_readHabits_39 c4 I k x0 x1 x2 x3 y0 = some (x, I9, k9) → X (mX5_readHabits (d + 7)) cX5_readHabits (cst x) (cs6 x) I (kk K (x0 + 1) k) 39 [.ref x0, .ref x1, .int x2, .int x3] [.int y0, .ref x0] (Ro (rV x) I9 (kk K (x0 + 1) k9)) := by
  intro I k x0 H0 x1 H1 x2 x3 y0 x I9 k9 h
  unfold l_X5_readHabits_39 at h
  refine x_iconst 3 dX5_readHabits_39 rfl ?_
  rcases e2_s h with ⟨u13, I14, h15, h⟩ | ⟨E, I14, h15, h⟩
  rotate_left
  · have hq := c_X5_require d (K := (kk K (x0 + 1) k)) (I := I) (LR.kk H0) h15
    cases h
    exact z_Ve [.int y0, .int 3] [] (cs_X5_79 _) (ci := 3) rfl (LR.o (LR.kk H0)) (dep (show d + 0 + 6 + 1 ≤ (d + 7) from by omega) (Nat.le_of_ble_eq_true rfl)) dX5_readHabits_40 rfl rfl (Nat.le_of_ble_eq_true rfl) hq rfl
  have hq := c_X5_require d (K := (kk K (x0 + 1) k)) (I := I) (LR.kk H0) h15
  refine z_V0 [.int y0, .int 3] [] (cs_X5_79 _) (ci := 3) rfl (LR.o (LR.kk H0)) (dep (show d + 0 + 6 + 1 ≤ (d + 7) from by omega) (Nat.le_of_ble_eq_true rfl)) dX5_readHabits_40 rfl rfl (Nat.le_of_ble_eq_true rfl) hq ?_
  refine x_aloadn dX5_readHabits_43 rfl ?_
  refine x_iconst 1 dX5_readHabits_44 rfl ?_
  obtain ⟨I16, hI16, h⟩ := b1_s h
  refine z_putZ (u := ()) fs_X5_266 (LO.kk H1) rfl hI16 dX5_readHabits_45 ?_
  refine x_goto 91 dX5_readHabits_48 rfl ?_
  refine z_iinc 1 (by decide) dX5_readHabits_91 rfl rfl rfl ?_
  refine x_goto 4 dX5_readHabits_94 rfl ?_
  exact hc4 H0 H1 h
noncomputable def l_X5_readHabits_4 (n : Nat) (I : Mem) (k : Nat) (x0 : Nat) (x1 : Nat) (x2 : Int32) (x3 : Int32) : Option (Except String Unit × Mem × Nat) := match n with
  | 0 => none
  | n + 1 => if x2 = 0 then (some (.ok (), I, k)) else (if 2 < x3 then (some (.ok (), I, k)) else (b3 (f_X7_scanIfWord I k (x0 + 1) 20) fun v1 I2 k3 => if v1 = 0 then (b3 (f_X7_scanIfWord I2 k3 (x0 + 1) 21) fun v5 I6 k7 => if v5 = 0 then (l_X5_readHabits_4 n I6 k7 x0 x1 0 (x3 + 1)) else (if (I6 x1 7) = 0 then (l_X5_readHabits_77 (l_X5_readHabits_4 n) I6 k7 x0 x1 x2 x3 1) else (l_X5_readHabits_77 (l_X5_readHabits_4 n) I6 k7 x0 x1 x2 x3 0))) else (if (I2 x1 6) = 0 then (l_X5_readHabits_39 (l_X5_readHabits_4 n) I2 k3 x0 x1 x2 x3 1) else (l_X5_readHabits_39 (l_X5_readHabits_4 n) I2 k3 x0 x1 x2 x3 0))))
theorem tl_X5_readHabits_4 (d : Nat) {K : Kt} (n : Nat) : ∀ {I : Mem} {k : Nat} {x0 : Nat} (H0 : LR K x0) {x1 : Nat} (H1 : LO K 2 x1) {x2 : Int32} {x3 : Int32} {x : Except String Unit} {I9 : Mem} {k9 : Nat}, l_X5_readHabits_4 n I k x0 x1 x2 x3 = some (x, I9, k9) → X (mX5_readHabits (d + 7)) cX5_readHabits (cst x) (cs6 x) I (kk K (x0 + 1) k) 4 [.ref x0, .ref x1, .int x2, .int x3] [] (Ro (rV x) I9 (kk K (x0 + 1) k9)) := by
  induction n with
  | zero =>
    intro I k x0 H0 x1 H1 x2 x3 x I9 k9 h
    cases h
  | succ n ih =>
    intro I k x0 H0 x1 H1 x2 x3 x I9 k9 h
    unfold l_X5_readHabits_4 at h
    refine x_iloadn dX5_readHabits_4 rfl ?_
    refine x_if_eq 97 dX5_readHabits_5 rfl (fun hc => ?_) (fun hc => ?_)
    · have h := ifT hc h
      cases h
      exact x_vret rfl dX5_readHabits_97 ⟨rfl, rfl, rfl⟩
    have h := ifF hc h
    refine x_iloadn dX5_readHabits_8 rfl ?_
    refine x_iconst 2 dX5_readHabits_9 rfl ?_
    refine x_icmp_gt 97 dX5_readHabits_10 rfl (fun hc => ?_) (fun hc => ?_)
    · have h := ifT hc h
      cases h
      exact x_vret rfl dX5_readHabits_97 ⟨rfl, rfl, rfl⟩
    have h := ifF hc h
    refine x_aloadn dX5_readHabits_13 rfl ?_
    refine z_getR fs_X5_12 (LR.o (LR.kk H0)) (LR.g0 (LR.kk H0)) dX5_readHabits_14 ?_
    refine x_ldcWS 20 (show (RX5, 273, "party", 20) ∈ strT from by decide +kernel) dX5_readHabits_17 ?_
    obtain ⟨v1, I2, k3, h4, h⟩ := b3_s h
    refine z_V1 [.ref (xE (100 + 20))] [] (cs_X5_275 _) (ci := 5) rfl (LT.o (LT.kk (LR.t H0))) (dep (show d + 1 + 5 + 1 ≤ (d + 7) from by omega) (Nat.le_of_ble_eq_true rfl)) dX5_readHabits_20 rfl rfl (Nat.le_of_ble_eq_true rfl) (c_X7_scanIfWord (d + 1) (K := K) (I := I) (LR.t H0) h4) ?_
    refine x_if_eq 51 dX5_readHabits_23 rfl (fun hc => ?_) (fun hc => ?_)
    · have h := ifT hc h
      refine x_aloadn dX5_readHabits_51 rfl ?_
      refine z_getR fs_X5_12 (LR.o (LR.kk H0)) (LR.g0 (LR.kk H0)) dX5_readHabits_52 ?_
      refine x_ldcWS 21 (show (RX5, 278, "bargain", 21) ∈ strT from by decide +kernel) dX5_readHabits_55 ?_
      obtain ⟨v5, I6, k7, h8, h⟩ := b3_s h
      refine z_V1 [.ref (xE (100 + 21))] [] (cs_X5_275 _) (ci := 5) rfl (LT.o (LT.kk (LR.t H0))) (dep (show d + 1 + 5 + 1 ≤ (d + 7) from by omega) (Nat.le_of_ble_eq_true rfl)) dX5_readHabits_58 rfl rfl (Nat.le_of_ble_eq_true rfl) (c_X7_scanIfWord (d + 1) (K := K) (I := I2) (LR.t H0) h8) ?_
      refine x_if_eq 89 dX5_readHabits_61 rfl (fun hc => ?_) (fun hc => ?_)
      · have h := ifT hc h
        refine x_iconst 0 dX5_readHabits_89 rfl ?_
        refine x_istoren dX5_readHabits_90 (Nat.le_of_ble_eq_true rfl) rfl rfl ?_
        refine z_iinc 1 (by decide) dX5_readHabits_91 rfl rfl rfl ?_
        refine x_goto 4 dX5_readHabits_94 rfl ?_
        exact ih H0 H1 h
      have h := ifF hc h
      refine x_aloadn dX5_readHabits_64 rfl ?_
      refine x_aloadn dX5_readHabits_65 rfl ?_
      refine z_getI fs_X5_270 (LO.kk H1) dX5_readHabits_66 ?_
      refine x_if_ne 76 dX5_readHabits_69 rfl (fun hc => ?_) (fun hc => ?_)
      · have h := ifF hc h
        refine x_iconst 0 dX5_readHabits_76 rfl ?_
        exact tl_X5_readHabits_77 d ih H0 H1 h
      have h := ifT hc h
      refine x_iconst 1 dX5_readHabits_72 rfl ?_
      refine x_goto 77 dX5_readHabits_73 rfl ?_
      exact tl_X5_readHabits_77 d ih H0 H1 h
    have h := ifF hc h
    refine x_aloadn dX5_readHabits_26 rfl ?_
    refine x_aloadn dX5_readHabits_27 rfl ?_
    refine z_getI fs_X5_266 (LO.kk H1) dX5_readHabits_28 ?_
    refine x_if_ne 38 dX5_readHabits_31 rfl (fun hc => ?_) (fun hc => ?_)
    · have h := ifF hc h
      refine x_iconst 0 dX5_readHabits_38 rfl ?_
      exact tl_X5_readHabits_39 d ih H0 H1 h
    have h := ifT hc h
    refine x_iconst 1 dX5_readHabits_34 rfl ?_
    refine x_goto 39 dX5_readHabits_35 rfl ?_
    exact tl_X5_readHabits_39 d ih H0 H1 h
noncomputable def f_X5_readHabits (I : Mem) (k : Nat) (x0 : Nat) (x1 : Nat) : Option (Except String Unit × Mem × Nat) := l_X5_readHabits_4 FU I k x0 x1 1 0
theorem c_X5_readHabits (d : Nat) {K : Kt} {I : Mem} {k : Nat} {x0 : Nat} (H0 : LR K x0) {x1 : Nat} (H1 : LO K 2 x1) {x : Except String Unit} {I9 : Mem} {k9 : Nat} (h : f_X5_readHabits I k x0 x1 = some (x, I9, k9)) : Ct (mX5_readHabits (d + 7)) cX5_readHabits (cst x) (cs6 x) [.ref x0, .ref x1] I (kk K (x0 + 1) k) (Ro (rV x) I9 (kk K (x0 + 1) k9)) := by
  refine Ct.of rfl pn_X5 (catR (catR cat0)) (Nat.le_of_ble_eq_true rfl) (show X _ _ _ _ _ _ 0 [.ref x0, .ref x1, .retAddr 0, .retAddr 0] [] _ from ?_)
  unfold f_X5_readHabits at h
  refine x_iconst 1 dX5_readHabits_0 rfl ?_
  refine x_istoren dX5_readHabits_1 (Nat.le_of_ble_eq_true rfl) rfl rfl ?_
  refine x_iconst 0 dX5_readHabits_2 rfl ?_
  refine x_istoren dX5_readHabits_3 (Nat.le_of_ble_eq_true rfl) rfl rfl ?_
  exact tl_X5_readHabits_4 d FU H0 H1 h
noncomputable def l_X5_readPlace_139 (I : Mem) (k : Nat) (x0 : Nat) (x1 : Nat) (x3 : Int32) (y0 : Int32) : Option (Except String Unit × Mem × Nat) := e2 (f_X5_require I x0 y0 3) (fun E I18 => some (.error E, I18, k)) fun u17 I18 => b1 (f_X8_moveTo I18 x1 (-1) x3) fun I20 => some (.ok (), I20, k)
theorem tl_X5_readPlace_139 (d : Nat) {K : Kt} : ∀ {I : Mem} {k : Nat} {x0 : Nat} (H0 : LR K x0) {x1 : Nat} (H1 : LO K 6 x1) {x3 : Int32} {y0 : Int32} {x : Except String Unit} {I9 : Mem} {k9 : Nat}, l_X5_readPlace_139 I k x0 x1 x3 y0 = some (x, I9, k9) → X (mX5_readPlace (d + 8)) cX5_readPlace (cst x) (cs6 x) I (kk K (x0 + 1) k) 139 [.ref x0, .ref x1, .retAddr 0, .int x3] [.int y0, .ref x0] (Ro (rV x) I9 (kk K (x0 + 1) k9)) := by
  intro I k x0 H0 x1 H1 x3 y0 x I9 k9 h
  unfold l_X5_readPlace_139 at h
  refine x_iconst 3 dX5_readPlace_139 rfl ?_
  rcases e2_s h with ⟨u17, I18, h19, h⟩ | ⟨E, I18, h19, h⟩
  rotate_left
  · have hq := c_X5_require (d + 1) (K := (kk K (x0 + 1) k)) (I := I) (LR.kk H0) h19
    cases h
    exact z_Ve [.int y0, .int 3] [] (cs_X5_79 _) (ci := 3) rfl (LR.o (LR.kk H0)) (dep (show d + 1 + 6 + 1 ≤ (d + 8) from by omega) (Nat.le_of_ble_eq_true rfl)) dX5_readPlace_140 rfl rfl (Nat.le_of_ble_eq_true rfl) hq rfl
  have hq := c_X5_require (d + 1) (K := (kk K (x0 + 1) k)) (I := I) (LR.kk H0) h19
  refine z_V0 [.int y0, .int 3] [] (cs_X5_79 _) (ci := 3) rfl (LR.o (LR.kk H0)) (dep (show d + 1 + 6 + 1 ≤ (d + 8) from by omega) (Nat.le_of_ble_eq_true rfl)) dX5_readPlace_140 rfl rfl (Nat.le_of_ble_eq_true rfl) hq ?_
  refine x_aloadn dX5_readPlace_143 rfl ?_
  refine x_iconst (-1) dX5_readPlace_144 rfl ?_
  refine x_iloadn dX5_readPlace_145 rfl ?_
  obtain ⟨I20, h21, h⟩ := b1_s h
  refine z_V0 [.int (-1), .int x3] [] (cs_X5_319 _) (ci := 6) rfl (LO.kk H1) (dep (show d + 7 + 0 + 1 ≤ (d + 8) from by omega) (Nat.le_of_ble_eq_true rfl)) dX5_readPlace_146 rfl rfl (Nat.le_of_ble_eq_true rfl) (c_X8_moveTo (d + 7) (K := (kk K (x0 + 1) k)) (I := I18) (LO.kk H1) h21) ?_
  cases h
  exact x_vret rfl dX5_readPlace_149 ⟨rfl, rfl, rfl⟩
noncomputable def l_X5_readPlace_93 (I : Mem) (k : Nat) (x0 : Nat) (x1 : Nat) (x3 : Int32) (y0 : Int32) : Option (Except String Unit × Mem × Nat) := e2 (f_X5_require I x0 y0 3) (fun E I30 => some (.error E, I30, k)) fun u29 I30 => b1 (f_X8_moveTo I30 x1 x3 (-1)) fun I32 => some (.ok (), I32, k)
theorem tl_X5_readPlace_93 (d : Nat) {K : Kt} : ∀ {I : Mem} {k : Nat} {x0 : Nat} (H0 : LR K x0) {x1 : Nat} (H1 : LO K 6 x1) {x3 : Int32} {y0 : Int32} {x : Except String Unit} {I9 : Mem} {k9 : Nat}, l_X5_readPlace_93 I k x0 x1 x3 y0 = some (x, I9, k9) → X (mX5_readPlace (d + 8)) cX5_readPlace (cst x) (cs6 x) I (kk K (x0 + 1) k) 93 [.ref x0, .ref x1, .retAddr 0, .int x3] [.int y0, .ref x0] (Ro (rV x) I9 (kk K (x0 + 1) k9)) := by
  intro I k x0 H0 x1 H1 x3 y0 x I9 k9 h
  unfold l_X5_readPlace_93 at h
  refine x_iconst 3 dX5_readPlace_93 rfl ?_
  rcases e2_s h with ⟨u29, I30, h31, h⟩ | ⟨E, I30, h31, h⟩
  rotate_left
  · have hq := c_X5_require (d + 1) (K := (kk K (x0 + 1) k)) (I := I) (LR.kk H0) h31
    cases h
    exact z_Ve [.int y0, .int 3] [] (cs_X5_79 _) (ci := 3) rfl (LR.o (LR.kk H0)) (dep (show d + 1 + 6 + 1 ≤ (d + 8) from by omega) (Nat.le_of_ble_eq_true rfl)) dX5_readPlace_94 rfl rfl (Nat.le_of_ble_eq_true rfl) hq rfl
  have hq := c_X5_require (d + 1) (K := (kk K (x0 + 1) k)) (I := I) (LR.kk H0) h31
  refine z_V0 [.int y0, .int 3] [] (cs_X5_79 _) (ci := 3) rfl (LR.o (LR.kk H0)) (dep (show d + 1 + 6 + 1 ≤ (d + 8) from by omega) (Nat.le_of_ble_eq_true rfl)) dX5_readPlace_94 rfl rfl (Nat.le_of_ble_eq_true rfl) hq ?_
  refine x_aloadn dX5_readPlace_97 rfl ?_
  refine x_iloadn dX5_readPlace_98 rfl ?_
  refine x_iconst (-1) dX5_readPlace_99 rfl ?_
  obtain ⟨I32, h33, h⟩ := b1_s h
  refine z_V0 [.int x3, .int (-1)] [] (cs_X5_319 _) (ci := 6) rfl (LO.kk H1) (dep (show d + 7 + 0 + 1 ≤ (d + 8) from by omega) (Nat.le_of_ble_eq_true rfl)) dX5_readPlace_100 rfl rfl (Nat.le_of_ble_eq_true rfl) (c_X8_moveTo (d + 7) (K := (kk K (x0 + 1) k)) (I := I30) (LO.kk H1) h33) ?_
  refine x_goto 149 dX5_readPlace_103 rfl ?_
  cases h
  exact x_vret rfl dX5_readPlace_149 ⟨rfl, rfl, rfl⟩
noncomputable def l_X5_readPlace_41 (I : Mem) (k : Nat) (x0 : Nat) (x1 : Nat) (x2 : Int32) (y0 : Int32) : Option (Except String Unit × Mem × Nat) := e2 (f_X5_require I x0 y0 1) (fun E I9 => some (.error E, I9, k)) fun u8 I9 => if x2 = 0 then (e3 (f_X5_readNumber I9 k x0 0 ((I9 (x0 + 3) 3) - 1)) (fun E I12 k13 => some (.error E, I12, k13)) fun v11 I12 k13 => b1 (f_X3_ownedBy I12 (x0 + 3) v11) fun v15 => if 4 ≤ v15 then (l_X5_readPlace_139 I12 k13 x0 x1 v11 0) else (l_X5_readPlace_139 I12 k13 x0 x1 v11 1)) else (e3 (f_X5_readNumber I9 k x0 0 ((I9 (x0 + 3) 4) - 1)) (fun E I23 k24 => some (.error E, I23, k24)) fun v22 I23 k24 => b1 (f_X3_stockOf I23 (x0 + 3) v22) fun v26 => b1 (ix v22 5) fun j28 => if (I23 ((x0 + 3) + 10 + j28) 0) ≤ v26 then (l_X5_readPlace_93 I23 k24 x0 x1 v22 0) else (l_X5_readPlace_93 I23 k24 x0 x1 v22 1))
theorem tl_X5_readPlace_41 (d : Nat) {K : Kt} : ∀ {I : Mem} {k : Nat} {x0 : Nat} (H0 : LR K x0) {x1 : Nat} (H1 : LO K 6 x1) {x2 : Int32} {y0 : Int32} {x : Except String Unit} {I9 : Mem} {k9 : Nat}, l_X5_readPlace_41 I k x0 x1 x2 y0 = some (x, I9, k9) → X (mX5_readPlace (d + 8)) cX5_readPlace (cst x) (cs6 x) I (kk K (x0 + 1) k) 41 [.ref x0, .ref x1, .int x2, .retAddr 0] [.int y0, .ref x0] (Ro (rV x) I9 (kk K (x0 + 1) k9)) := by
  intro I k x0 H0 x1 H1 x2 y0 x I9 k9 h
  unfold l_X5_readPlace_41 at h
  refine x_iconst 1 dX5_readPlace_41 rfl ?_
  rcases e2_s h with ⟨u8, I9, h10, h⟩ | ⟨E, I9, h10, h⟩
  rotate_left
  · have hq := c_X5_require (d + 1) (K := (kk K (x0 + 1) k)) (I := I) (LR.kk H0) h10
    cases h
    exact z_Ve [.int y0, .int 1] [] (cs_X5_79 _) (ci := 3) rfl (LR.o (LR.kk H0)) (dep (show d + 1 + 6 + 1 ≤ (d + 8) from by omega) (Nat.le_of_ble_eq_true rfl)) dX5_readPlace_42 rfl rfl (Nat.le_of_ble_eq_true rfl) hq rfl
  have hq := c_X5_require (d + 1) (K := (kk K (x0 + 1) k)) (I := I) (LR.kk H0) h10
  refine z_V0 [.int y0, .int 1] [] (cs_X5_79 _) (ci := 3) rfl (LR.o (LR.kk H0)) (dep (show d + 1 + 6 + 1 ≤ (d + 8) from by omega) (Nat.le_of_ble_eq_true rfl)) dX5_readPlace_42 rfl rfl (Nat.le_of_ble_eq_true rfl) hq ?_
  refine x_iloadn dX5_readPlace_45 rfl ?_
  refine x_if_eq 106 dX5_readPlace_46 rfl (fun hc => ?_) (fun hc => ?_)
  · have h := ifT hc h
    refine x_aloadn dX5_readPlace_106 rfl ?_
    refine x_iconst 0 dX5_readPlace_107 rfl ?_
    refine x_aloadn dX5_readPlace_108 rfl ?_
    refine z_getR fs_X5_21 (LR.o (LR.kk H0)) (LR.g1 (LR.kk H0)) dX5_readPlace_109 ?_
    refine z_getI fs_X5_106 (LM.o (LM.kk (LR.q H0) (by omega))) dX5_readPlace_112 ?_
    refine x_iconst 1 dX5_readPlace_115 rfl ?_
    refine x_isub dX5_readPlace_116 ?_
    rcases e3_s h with ⟨v11, I12, k13, h14, h⟩ | ⟨E, I12, k13, h14, h⟩
    rotate_left
    · have hq := c_X5_readNumber d (K := K) (I := I9) H0 h14
      cases h
      exact z_Ve [.int 0, .int ((I9 (x0 + 3) 3) - 1)] [] (cs_X5_83 _) (ci := 3) rfl (LR.o (LR.kk H0)) (dep (show d + 0 + 7 + 1 ≤ (d + 8) from by omega) (Nat.le_of_ble_eq_true rfl)) dX5_readPlace_117 rfl rfl (Nat.le_of_ble_eq_true rfl) hq rfl
    have hq := c_X5_readNumber d (K := K) (I := I9) H0 h14
    refine z_V1 [.int 0, .int ((I9 (x0 + 3) 3) - 1)] [] (cs_X5_83 _) (ci := 3) rfl (LR.o (LR.kk H0)) (dep (show d + 0 + 7 + 1 ≤ (d + 8) from by omega) (Nat.le_of_ble_eq_true rfl)) dX5_readPlace_117 rfl rfl (Nat.le_of_ble_eq_true rfl) hq ?_
    refine x_istoren dX5_readPlace_120 (Nat.le_of_ble_eq_true rfl) rfl rfl ?_
    refine x_aloadn dX5_readPlace_121 rfl ?_
    refine x_aloadn dX5_readPlace_122 rfl ?_
    refine z_getR fs_X5_21 (LR.o (LR.kk H0)) (LR.g1 (LR.kk H0)) dX5_readPlace_123 ?_
    refine x_iloadn dX5_readPlace_126 rfl ?_
    obtain ⟨v15, h16, h⟩ := b1_s h
    refine z_V1 [.int v11] [.ref x0] (cs_X5_323 _) (ci := 1) rfl (LM.o (LM.kk (LR.q H0) (by omega))) (dep (show d + 7 + 0 + 1 ≤ (d + 8) from by omega) (Nat.le_of_ble_eq_true rfl)) dX5_readPlace_127 rfl rfl (Nat.le_of_ble_eq_true rfl) (c_X3_ownedBy (d + 7) (K := (kk K (x0 + 1) k13)) (I := I12) (LM.kk (LR.q H0) (by omega)) h16) ?_
    refine x_iconst 4 dX5_readPlace_130 rfl ?_
    refine x_icmp_ge 138 dX5_readPlace_131 rfl (fun hc => ?_) (fun hc => ?_)
    · have h := ifT hc h
      refine x_iconst 0 dX5_readPlace_138 rfl ?_
      exact X.forget (L' := [.ref x0, .ref x1, .retAddr 0, .int v11]) ⟨Or.inl rfl, ⟨Or.inl rfl, ⟨Or.inr rfl, ⟨Or.inl rfl, trivial⟩⟩⟩⟩ (tl_X5_readPlace_139 d H0 H1 h)
    have h := ifF hc h
    refine x_iconst 1 dX5_readPlace_134 rfl ?_
    refine x_goto 139 dX5_readPlace_135 rfl ?_
    exact X.forget (L' := [.ref x0, .ref x1, .retAddr 0, .int v11]) ⟨Or.inl rfl, ⟨Or.inl rfl, ⟨Or.inr rfl, ⟨Or.inl rfl, trivial⟩⟩⟩⟩ (tl_X5_readPlace_139 d H0 H1 h)
  have h := ifF hc h
  refine x_aloadn dX5_readPlace_49 rfl ?_
  refine x_iconst 0 dX5_readPlace_50 rfl ?_
  refine x_aloadn dX5_readPlace_51 rfl ?_
  refine z_getR fs_X5_21 (LR.o (LR.kk H0)) (LR.g1 (LR.kk H0)) dX5_readPlace_52 ?_
  refine z_getI fs_X5_103 (LM.o (LM.kk (LR.q H0) (by omega))) dX5_readPlace_55 ?_
  refine x_iconst 1 dX5_readPlace_58 rfl ?_
  refine x_isub dX5_readPlace_59 ?_
  rcases e3_s h with ⟨v22, I23, k24, h25, h⟩ | ⟨E, I23, k24, h25, h⟩
  rotate_left
  · have hq := c_X5_readNumber d (K := K) (I := I9) H0 h25
    cases h
    exact z_Ve [.int 0, .int ((I9 (x0 + 3) 4) - 1)] [] (cs_X5_83 _) (ci := 3) rfl (LR.o (LR.kk H0)) (dep (show d + 0 + 7 + 1 ≤ (d + 8) from by omega) (Nat.le_of_ble_eq_true rfl)) dX5_readPlace_60 rfl rfl (Nat.le_of_ble_eq_true rfl) hq rfl
  have hq := c_X5_readNumber d (K := K) (I := I9) H0 h25
  refine z_V1 [.int 0, .int ((I9 (x0 + 3) 4) - 1)] [] (cs_X5_83 _) (ci := 3) rfl (LR.o (LR.kk H0)) (dep (show d + 0 + 7 + 1 ≤ (d + 8) from by omega) (Nat.le_of_ble_eq_true rfl)) dX5_readPlace_60 rfl rfl (Nat.le_of_ble_eq_true rfl) hq ?_
  refine x_istoren dX5_readPlace_63 (Nat.le_of_ble_eq_true rfl) rfl rfl ?_
  refine x_aloadn dX5_readPlace_64 rfl ?_
  refine x_aloadn dX5_readPlace_65 rfl ?_
  refine z_getR fs_X5_21 (LR.o (LR.kk H0)) (LR.g1 (LR.kk H0)) dX5_readPlace_66 ?_
  refine x_iloadn dX5_readPlace_69 rfl ?_
  obtain ⟨v26, h27, h⟩ := b1_s h
  refine z_V1 [.int v22] [.ref x0] (cs_X5_316 _) (ci := 1) rfl (LM.o (LM.kk (LR.q H0) (by omega))) (dep (show d + 7 + 0 + 1 ≤ (d + 8) from by omega) (Nat.le_of_ble_eq_true rfl)) dX5_readPlace_70 rfl rfl (Nat.le_of_ble_eq_true rfl) (c_X3_stockOf (d + 7) (K := (kk K (x0 + 1) k24)) (I := I23) (LM.kk (LR.q H0) (by omega)) h27) ?_
  refine x_aloadn dX5_readPlace_73 rfl ?_
  refine z_getR fs_X5_21 (LR.o (LR.kk H0)) (LR.g1 (LR.kk H0)) dX5_readPlace_74 ?_
  refine z_getRG gs_X5_214 (LM.o (LM.kk (LR.q H0) (by omega))) (LM.g1 (LM.kk (LR.q H0) (by omega))) dX5_readPlace_77 ?_
  refine x_iloadn dX5_readPlace_80 rfl ?_
  obtain ⟨j28, hj28, h⟩ := b1_s h
  refine z_aald (LA.kk (LM.l1 (LR.q H0))) ⟨by decide, by decide⟩ hj28 (LM.s (LM.kk (LR.q H0) (by omega)) (ix_s hj28).2.1) dX5_readPlace_81 ?_
  refine z_getI fs_X5_218 (LO.kk (LM.so (LR.q H0) (ix_s hj28).2.1)) dX5_readPlace_82 ?_
  refine x_icmp_ge 92 dX5_readPlace_85 rfl (fun hc => ?_) (fun hc => ?_)
  · have h := ifT hc h
    refine x_iconst 0 dX5_readPlace_92 rfl ?_
    exact X.forget (L' := [.ref x0, .ref x1, .retAddr 0, .int v22]) ⟨Or.inl rfl, ⟨Or.inl rfl, ⟨Or.inr rfl, ⟨Or.inl rfl, trivial⟩⟩⟩⟩ (tl_X5_readPlace_93 d H0 H1 h)
  have h := ifF hc h
  refine x_iconst 1 dX5_readPlace_88 rfl ?_
  refine x_goto 93 dX5_readPlace_89 rfl ?_
  exact X.forget (L' := [.ref x0, .ref x1, .retAddr 0, .int v22]) ⟨Or.inl rfl, ⟨Or.inl rfl, ⟨Or.inr rfl, ⟨Or.inl rfl, trivial⟩⟩⟩⟩ (tl_X5_readPlace_93 d H0 H1 h)
noncomputable def l_X5_readPlace_36 (I : Mem) (k : Nat) (x0 : Nat) (x1 : Nat) (x2 : Int32) : Option (Except String Unit × Mem × Nat) := l_X5_readPlace_41 I k x0 x1 x2 1
theorem tl_X5_readPlace_36 (d : Nat) {K : Kt} : ∀ {I : Mem} {k : Nat} {x0 : Nat} (H0 : LR K x0) {x1 : Nat} (H1 : LO K 6 x1) {x2 : Int32} {x : Except String Unit} {I9 : Mem} {k9 : Nat}, l_X5_readPlace_36 I k x0 x1 x2 = some (x, I9, k9) → X (mX5_readPlace (d + 8)) cX5_readPlace (cst x) (cs6 x) I (kk K (x0 + 1) k) 36 [.ref x0, .ref x1, .int x2, .retAddr 0] [.ref x0] (Ro (rV x) I9 (kk K (x0 + 1) k9)) := by
  intro I k x0 H0 x1 H1 x2 x I9 k9 h
  unfold l_X5_readPlace_36 at h
  refine x_iconst 1 dX5_readPlace_36 rfl ?_
  refine x_goto 41 dX5_readPlace_37 rfl ?_
  exact tl_X5_readPlace_41 d H0 H1 h
noncomputable def f_X5_readPlace (I : Mem) (k : Nat) (x0 : Nat) (x1 : Nat) : Option (Except String Unit × Mem × Nat) := b2 (f_X7_scan I k (x0 + 1)) fun I1 k2 => b3 (f_X7_isWord I1 k2 (x0 + 1) 22) fun v4 I5 k6 => if v4 = 0 then (b3 (f_X7_isWord I5 k6 (x0 + 1) 23) fun v34 I35 k36 => if v34 = 0 then (l_X5_readPlace_41 I35 k36 x0 x1 v4 0) else (l_X5_readPlace_36 I35 k36 x0 x1 v4)) else (l_X5_readPlace_36 I5 k6 x0 x1 v4)
theorem c_X5_readPlace (d : Nat) {K : Kt} {I : Mem} {k : Nat} {x0 : Nat} (H0 : LR K x0) {x1 : Nat} (H1 : LO K 6 x1) {x : Except String Unit} {I9 : Mem} {k9 : Nat} (h : f_X5_readPlace I k x0 x1 = some (x, I9, k9)) : Ct (mX5_readPlace (d + 8)) cX5_readPlace (cst x) (cs6 x) [.ref x0, .ref x1] I (kk K (x0 + 1) k) (Ro (rV x) I9 (kk K (x0 + 1) k9)) := by
  refine Ct.of rfl pn_X5 (catR (catR cat0)) (Nat.le_of_ble_eq_true rfl) (show X _ _ _ _ _ _ 0 [.ref x0, .ref x1, .retAddr 0, .retAddr 0] [] _ from ?_)
  unfold f_X5_readPlace at h
  refine x_aloadn dX5_readPlace_0 rfl ?_
  refine z_getR fs_X5_12 (LR.o (LR.kk H0)) (LR.g0 (LR.kk H0)) dX5_readPlace_1 ?_
  obtain ⟨I1, k2, h3, h⟩ := b2_s h
  refine z_V0 [] [] (cs_X5_70 _) (ci := 5) rfl (LT.o (LT.kk (LR.t H0))) (dep (show d + 6 + 1 + 1 ≤ (d + 8) from by omega) (Nat.le_of_ble_eq_true rfl)) dX5_readPlace_4 rfl rfl (Nat.le_of_ble_eq_true rfl) (c_X7_scan (d + 6) (K := K) (I := I) (LR.t H0) h3) ?_
  refine x_aloadn dX5_readPlace_7 rfl ?_
  refine z_getR fs_X5_12 (LR.o (LR.kk H0)) (LR.g0 (LR.kk H0)) dX5_readPlace_8 ?_
  refine x_ldcWS 22 (show (RX5, 312, "at", 22) ∈ strT from by decide +kernel) dX5_readPlace_11 ?_
  obtain ⟨v4, I5, k6, h7, h⟩ := b3_s h
  refine z_V1 [.ref (xE (100 + 22))] [] (cs_X5_75 _) (ci := 5) rfl (LT.o (LT.kk (LR.t H0))) (dep (show d + 3 + 4 + 1 ≤ (d + 8) from by omega) (Nat.le_of_ble_eq_true rfl)) dX5_readPlace_14 rfl rfl (Nat.le_of_ble_eq_true rfl) (c_X7_isWord (d + 3) (K := K) (I := I1) (LR.t H0) h7) ?_
  refine x_istoren dX5_readPlace_17 (Nat.le_of_ble_eq_true rfl) rfl rfl ?_
  refine x_aloadn dX5_readPlace_18 rfl ?_
  refine x_iloadn dX5_readPlace_19 rfl ?_
  refine x_if_ne 36 dX5_readPlace_20 rfl (fun hc => ?_) (fun hc => ?_)
  · have h := ifF hc h
    exact tl_X5_readPlace_36 d H0 H1 h
  have h := ifT hc h
  refine x_aloadn dX5_readPlace_23 rfl ?_
  refine z_getR fs_X5_12 (LR.o (LR.kk H0)) (LR.g0 (LR.kk H0)) dX5_readPlace_24 ?_
  refine x_ldcWS 23 (show (RX5, 314, "with", 23) ∈ strT from by decide +kernel) dX5_readPlace_27 ?_
  obtain ⟨v34, I35, k36, h37, h⟩ := b3_s h
  refine z_V1 [.ref (xE (100 + 23))] [.ref x0] (cs_X5_75 _) (ci := 5) rfl (LT.o (LT.kk (LR.t H0))) (dep (show d + 3 + 4 + 1 ≤ (d + 8) from by omega) (Nat.le_of_ble_eq_true rfl)) dX5_readPlace_30 rfl rfl (Nat.le_of_ble_eq_true rfl) (c_X7_isWord (d + 3) (K := K) (I := I5) (LR.t H0) h37) ?_
  refine x_if_eq 40 dX5_readPlace_33 rfl (fun hc => ?_) (fun hc => ?_)
  · have h := ifT hc h
    refine x_iconst 0 dX5_readPlace_40 rfl ?_
    exact tl_X5_readPlace_41 d H0 H1 h
  have h := ifF hc h
  exact tl_X5_readPlace_36 d H0 H1 h
noncomputable def l_X5_readWish_133 (I : Mem) (k : Nat) (x0 : Nat) (y0 : Int32) (y1 : Nat) : Option (Except String Unit × Mem × Nat) := b1 (pu I y1 3 y0) fun I35 => b1 (pu I35 (x0 + 3) 5 ((I35 (x0 + 3) 5) + 1)) fun I36 => some (.ok (), I36, k)
theorem tl_X5_readWish_133 (d : Nat) {K : Kt} : ∀ {I : Mem} {k : Nat} {x0 : Nat} (H0 : LR K x0) {y0 : Int32} {y1 : Nat} (G1 : LO K 6 y1) {x : Except String Unit} {I9 : Mem} {k9 : Nat}, l_X5_readWish_133 I k x0 y0 y1 = some (x, I9, k9) → X (mX5_readWish (d + 9)) cX5_readWish (cst x) (cs6 x) I (kk K (x0 + 1) k) 133 [.ref x0, .retAddr 0] [.int y0, .ref y1] (Ro (rV x) I9 (kk K (x0 + 1) k9)) := by
  intro I k x0 H0 y0 y1 G1 x I9 k9 h
  unfold l_X5_readWish_133 at h
  obtain ⟨I35, hI35, h⟩ := b1_s h
  refine z_putI fs_X5_309 (LO.kk G1) hI35 dX5_readWish_133 ?_
  refine x_aloadn dX5_readWish_136 rfl ?_
  refine z_getR fs_X5_21 (LR.o (LR.kk H0)) (LR.g1 (LR.kk H0)) dX5_readWish_137 ?_
  refine x_dup dX5_readWish_140 rfl ?_
  refine z_getI fs_X5_199 (LM.o (LM.kk (LR.q H0) (by omega))) dX5_readWish_141 ?_
  refine x_iconst 1 dX5_readWish_144 rfl ?_
  refine x_iadd dX5_readWish_145 ?_
  obtain ⟨I36, hI36, h⟩ := b1_s h
  refine z_putI fs_X5_199 (LM.o (LM.kk (LR.q H0) (by omega))) hI36 dX5_readWish_146 ?_
  cases h
  exact x_vret rfl dX5_readWish_149 ⟨rfl, rfl, rfl⟩
noncomputable def l_X5_readWish_67 (I : Mem) (k : Nat) (x0 : Nat) (x1 : Nat) (y0 : Int32) : Option (Except String Unit × Mem × Nat) := e2 (f_X5_require I x0 y0 3) (fun E I13 => some (.error E, I13, k)) fun u12 I13 => e3 (f_X5_readNumber I13 k x0 1 99) (fun E I16 k17 => some (.error E, I16, k17)) fun v15 I16 k17 => b1 (pu I16 x1 1 v15) fun I19 => e3 (f_X5_readNumber I19 k17 x0 0 99) (fun E I21 k22 => some (.error E, I21, k22)) fun v20 I21 k22 => b1 (pu I21 x1 2 v20) fun I24 => b1 (pu I24 x1 6 0) fun I25 => b1 (pu I25 x1 7 0) fun I26 => e3 (f_X5_readPlace I26 k22 x0 x1) (fun E I28 k29 => some (.error E, I28, k29)) fun u27 I28 k29 => b3 (f_X7_scanIfWord I28 k29 (x0 + 1) 24) fun v31 I32 k33 => if v31 = 0 then (l_X5_readWish_133 I32 k33 x0 0 x1) else (e3 (f_X5_readNumber I32 k33 x0 0 9) (fun E I38 k39 => some (.error E, I38, k39)) fun v37 I38 k39 => l_X5_readWish_133 I38 k39 x0 v37 x1)
theorem tl_X5_readWish_67 (d : Nat) {K : Kt} : ∀ {I : Mem} {k : Nat} {x0 : Nat} (H0 : LR K x0) {x1 : Nat} (H1 : LO K 6 x1) {y0 : Int32} {x : Except String Unit} {I9 : Mem} {k9 : Nat}, l_X5_readWish_67 I k x0 x1 y0 = some (x, I9, k9) → X (mX5_readWish (d + 9)) cX5_readWish (cst x) (cs6 x) I (kk K (x0 + 1) k) 67 [.ref x0, .ref x1] [.int y0, .ref x0] (Ro (rV x) I9 (kk K (x0 + 1) k9)) := by
  intro I k x0 H0 x1 H1 y0 x I9 k9 h
  unfold l_X5_readWish_67 at h
  refine x_iconst 3 dX5_readWish_67 rfl ?_
  rcases e2_s h with ⟨u12, I13, h14, h⟩ | ⟨E, I13, h14, h⟩
  rotate_left
  · have hq := c_X5_require (d + 2) (K := (kk K (x0 + 1) k)) (I := I) (LR.kk H0) h14
    cases h
    exact z_Ve [.int y0, .int 3] [] (cs_X5_79 _) (ci := 3) rfl (LR.o (LR.kk H0)) (dep (show d + 2 + 6 + 1 ≤ (d + 9) from by omega) (Nat.le_of_ble_eq_true rfl)) dX5_readWish_68 rfl rfl (Nat.le_of_ble_eq_true rfl) hq rfl
  have hq := c_X5_require (d + 2) (K := (kk K (x0 + 1) k)) (I := I) (LR.kk H0) h14
  refine z_V0 [.int y0, .int 3] [] (cs_X5_79 _) (ci := 3) rfl (LR.o (LR.kk H0)) (dep (show d + 2 + 6 + 1 ≤ (d + 9) from by omega) (Nat.le_of_ble_eq_true rfl)) dX5_readWish_68 rfl rfl (Nat.le_of_ble_eq_true rfl) hq ?_
  refine x_aloadn dX5_readWish_71 rfl ?_
  refine x_aloadn dX5_readWish_72 rfl ?_
  refine x_iconst 1 dX5_readWish_73 rfl ?_
  refine x_bipush 99 dX5_readWish_74 rfl ?_
  rcases e3_s h with ⟨v15, I16, k17, h18, h⟩ | ⟨E, I16, k17, h18, h⟩
  rotate_left
  · have hq := c_X5_readNumber (d + 1) (K := K) (I := I13) H0 h18
    cases h
    exact z_Ve [.int 1, .int 99] [.ref x1] (cs_X5_83 _) (ci := 3) rfl (LR.o (LR.kk H0)) (dep (show d + 1 + 7 + 1 ≤ (d + 9) from by omega) (Nat.le_of_ble_eq_true rfl)) dX5_readWish_76 rfl rfl (Nat.le_of_ble_eq_true rfl) hq rfl
  have hq := c_X5_readNumber (d + 1) (K := K) (I := I13) H0 h18
  refine z_V1 [.int 1, .int 99] [.ref x1] (cs_X5_83 _) (ci := 3) rfl (LR.o (LR.kk H0)) (dep (show d + 1 + 7 + 1 ≤ (d + 9) from by omega) (Nat.le_of_ble_eq_true rfl)) dX5_readWish_76 rfl rfl (Nat.le_of_ble_eq_true rfl) hq ?_
  obtain ⟨I19, hI19, h⟩ := b1_s h
  refine z_putI fs_X5_291 (LO.kk H1) hI19 dX5_readWish_79 ?_
  refine x_aloadn dX5_readWish_82 rfl ?_
  refine x_aloadn dX5_readWish_83 rfl ?_
  refine x_iconst 0 dX5_readWish_84 rfl ?_
  refine x_bipush 99 dX5_readWish_85 rfl ?_
  rcases e3_s h with ⟨v20, I21, k22, h23, h⟩ | ⟨E, I21, k22, h23, h⟩
  rotate_left
  · have hq := c_X5_readNumber (d + 1) (K := K) (I := I19) H0 h23
    cases h
    exact z_Ve [.int 0, .int 99] [.ref x1] (cs_X5_83 _) (ci := 3) rfl (LR.o (LR.kk H0)) (dep (show d + 1 + 7 + 1 ≤ (d + 9) from by omega) (Nat.le_of_ble_eq_true rfl)) dX5_readWish_87 rfl rfl (Nat.le_of_ble_eq_true rfl) hq rfl
  have hq := c_X5_readNumber (d + 1) (K := K) (I := I19) H0 h23
  refine z_V1 [.int 0, .int 99] [.ref x1] (cs_X5_83 _) (ci := 3) rfl (LR.o (LR.kk H0)) (dep (show d + 1 + 7 + 1 ≤ (d + 9) from by omega) (Nat.le_of_ble_eq_true rfl)) dX5_readWish_87 rfl rfl (Nat.le_of_ble_eq_true rfl) hq ?_
  obtain ⟨I24, hI24, h⟩ := b1_s h
  refine z_putI fs_X5_294 (LO.kk H1) hI24 dX5_readWish_90 ?_
  refine x_aloadn dX5_readWish_93 rfl ?_
  refine x_iconst 0 dX5_readWish_94 rfl ?_
  obtain ⟨I25, hI25, h⟩ := b1_s h
  refine z_putZ (u := ()) fs_X5_297 (LO.kk H1) rfl hI25 dX5_readWish_95 ?_
  refine x_aloadn dX5_readWish_98 rfl ?_
  refine x_iconst 0 dX5_readWish_99 rfl ?_
  obtain ⟨I26, hI26, h⟩ := b1_s h
  refine z_putZ (u := ()) fs_X5_300 (LO.kk H1) rfl hI26 dX5_readWish_100 ?_
  refine x_aloadn dX5_readWish_103 rfl ?_
  refine x_aloadn dX5_readWish_104 rfl ?_
  rcases e3_s h with ⟨u27, I28, k29, h30, h⟩ | ⟨E, I28, k29, h30, h⟩
  rotate_left
  · have hq := c_X5_readPlace d (K := K) (I := I26) H0 H1 h30
    cases h
    exact z_Ve [.ref x1] [] (cs_X5_303 _) (ci := 3) rfl (LR.o (LR.kk H0)) (dep (show d + 0 + 8 + 1 ≤ (d + 9) from by omega) (Nat.le_of_ble_eq_true rfl)) dX5_readWish_105 rfl rfl (Nat.le_of_ble_eq_true rfl) hq rfl
  have hq := c_X5_readPlace d (K := K) (I := I26) H0 H1 h30
  refine z_V0 [.ref x1] [] (cs_X5_303 _) (ci := 3) rfl (LR.o (LR.kk H0)) (dep (show d + 0 + 8 + 1 ≤ (d + 9) from by omega) (Nat.le_of_ble_eq_true rfl)) dX5_readWish_105 rfl rfl (Nat.le_of_ble_eq_true rfl) hq ?_
  refine x_aloadn dX5_readWish_108 rfl ?_
  refine x_aloadn dX5_readWish_109 rfl ?_
  refine z_getR fs_X5_12 (LR.o (LR.kk H0)) (LR.g0 (LR.kk H0)) dX5_readWish_110 ?_
  refine x_ldcWS 24 (show (RX5, 307, "worn", 24) ∈ strT from by decide +kernel) dX5_readWish_113 ?_
  obtain ⟨v31, I32, k33, h34, h⟩ := b3_s h
  refine z_V1 [.ref (xE (100 + 24))] [.ref x1] (cs_X5_275 _) (ci := 5) rfl (LT.o (LT.kk (LR.t H0))) (dep (show d + 3 + 5 + 1 ≤ (d + 9) from by omega) (Nat.le_of_ble_eq_true rfl)) dX5_readWish_116 rfl rfl (Nat.le_of_ble_eq_true rfl) (c_X7_scanIfWord (d + 3) (K := K) (I := I28) (LR.t H0) h34) ?_
  refine x_if_eq 132 dX5_readWish_119 rfl (fun hc => ?_) (fun hc => ?_)
  · have h := ifT hc h
    refine x_iconst 0 dX5_readWish_132 rfl ?_
    exact X.forget (L' := [.ref x0, .retAddr 0]) ⟨Or.inl rfl, ⟨Or.inr rfl, trivial⟩⟩ (tl_X5_readWish_133 d H0 H1 h)
  have h := ifF hc h
  refine x_aloadn dX5_readWish_122 rfl ?_
  refine x_iconst 0 dX5_readWish_123 rfl ?_
  refine x_bipush 9 dX5_readWish_124 rfl ?_
  rcases e3_s h with ⟨v37, I38, k39, h40, h⟩ | ⟨E, I38, k39, h40, h⟩
  rotate_left
  · have hq := c_X5_readNumber (d + 1) (K := K) (I := I32) H0 h40
    cases h
    exact z_Ve [.int 0, .int 9] [.ref x1] (cs_X5_83 _) (ci := 3) rfl (LR.o (LR.kk H0)) (dep (show d + 1 + 7 + 1 ≤ (d + 9) from by omega) (Nat.le_of_ble_eq_true rfl)) dX5_readWish_126 rfl rfl (Nat.le_of_ble_eq_true rfl) hq rfl
  have hq := c_X5_readNumber (d + 1) (K := K) (I := I32) H0 h40
  refine z_V1 [.int 0, .int 9] [.ref x1] (cs_X5_83 _) (ci := 3) rfl (LR.o (LR.kk H0)) (dep (show d + 1 + 7 + 1 ≤ (d + 9) from by omega) (Nat.le_of_ble_eq_true rfl)) dX5_readWish_126 rfl rfl (Nat.le_of_ble_eq_true rfl) hq ?_
  refine x_goto 133 dX5_readWish_129 rfl ?_
  exact X.forget (L' := [.ref x0, .retAddr 0]) ⟨Or.inl rfl, ⟨Or.inr rfl, trivial⟩⟩ (tl_X5_readWish_133 d H0 H1 h)
noncomputable def l_X5_readWish_18 (I : Mem) (k : Nat) (x0 : Nat) (y0 : Int32) : Option (Except String Unit × Mem × Nat) := e2 (f_X5_require I x0 y0 4) (fun E I2 => some (.error E, I2, k)) fun u1 I2 => b1 (ix (I2 (x0 + 3) 5) 16) fun j4 => e3 (f_X5_readName I2 k x0) (fun E I6 k7 => some (.error E, I6, k7)) fun v5 I6 k7 => b1 (pu I6 ((x0 + 3) + 15 + j4) 0 v5) fun I9 => b1 (f_X3_hasWishNamed I9 (x0 + 3) (I9 ((x0 + 3) + 15 + j4) 0) (-1)) fun v10 => if v10 = 0 then (l_X5_readWish_67 I9 k7 x0 ((x0 + 3) + 15 + j4) 1) else (l_X5_readWish_67 I9 k7 x0 ((x0 + 3) + 15 + j4) 0)
theorem tl_X5_readWish_18 (d : Nat) {K : Kt} : ∀ {I : Mem} {k : Nat} {x0 : Nat} (H0 : LR K x0) {y0 : Int32} {x : Except String Unit} {I9 : Mem} {k9 : Nat}, l_X5_readWish_18 I k x0 y0 = some (x, I9, k9) → X (mX5_readWish (d + 9)) cX5_readWish (cst x) (cs6 x) I (kk K (x0 + 1) k) 18 [.ref x0, .retAddr 0] [.int y0, .ref x0] (Ro (rV x) I9 (kk K (x0 + 1) k9)) := by
  intro I k x0 H0 y0 x I9 k9 h
  unfold l_X5_readWish_18 at h
  refine x_iconst 4 dX5_readWish_18 rfl ?_
  rcases e2_s h with ⟨u1, I2, h3, h⟩ | ⟨E, I2, h3, h⟩
  rotate_left
  · have hq := c_X5_require (d + 2) (K := (kk K (x0 + 1) k)) (I := I) (LR.kk H0) h3
    cases h
    exact z_Ve [.int y0, .int 4] [] (cs_X5_79 _) (ci := 3) rfl (LR.o (LR.kk H0)) (dep (show d + 2 + 6 + 1 ≤ (d + 9) from by omega) (Nat.le_of_ble_eq_true rfl)) dX5_readWish_19 rfl rfl (Nat.le_of_ble_eq_true rfl) hq rfl
  have hq := c_X5_require (d + 2) (K := (kk K (x0 + 1) k)) (I := I) (LR.kk H0) h3
  refine z_V0 [.int y0, .int 4] [] (cs_X5_79 _) (ci := 3) rfl (LR.o (LR.kk H0)) (dep (show d + 2 + 6 + 1 ≤ (d + 9) from by omega) (Nat.le_of_ble_eq_true rfl)) dX5_readWish_19 rfl rfl (Nat.le_of_ble_eq_true rfl) hq ?_
  refine x_aloadn dX5_readWish_22 rfl ?_
  refine z_getR fs_X5_21 (LR.o (LR.kk H0)) (LR.g1 (LR.kk H0)) dX5_readWish_23 ?_
  refine z_getRG gs_X5_280 (LM.o (LM.kk (LR.q H0) (by omega))) (LM.g2 (LM.kk (LR.q H0) (by omega))) dX5_readWish_26 ?_
  refine x_aloadn dX5_readWish_29 rfl ?_
  refine z_getR fs_X5_21 (LR.o (LR.kk H0)) (LR.g1 (LR.kk H0)) dX5_readWish_30 ?_
  refine z_getI fs_X5_199 (LM.o (LM.kk (LR.q H0) (by omega))) dX5_readWish_33 ?_
  obtain ⟨j4, hj4, h⟩ := b1_s h
  refine z_aald (LA.kk (LM.l2 (LR.q H0))) ⟨by decide, by decide⟩ hj4 (LM.w (LM.kk (LR.q H0) (by omega)) (ix_s hj4).2.1) dX5_readWish_36 ?_
  refine x_astoren dX5_readWish_37 (Nat.le_of_ble_eq_true rfl) rfl rfl ?_
  refine x_aloadn dX5_readWish_38 rfl ?_
  refine x_aloadn dX5_readWish_39 rfl ?_
  rcases e3_s h with ⟨v5, I6, k7, h8, h⟩ | ⟨E, I6, k7, h8, h⟩
  rotate_left
  · have hq := c_X5_readName (d + 1) (K := K) (I := I2) H0 h8
    cases h
    exact z_Ve [] [.ref ((x0 + 3) + 15 + j4)] (cs_X5_239 _) (ci := 3) rfl (LR.o (LR.kk H0)) (dep (show d + 1 + 7 + 1 ≤ (d + 9) from by omega) (Nat.le_of_ble_eq_true rfl)) dX5_readWish_40 rfl rfl (Nat.le_of_ble_eq_true rfl) hq rfl
  have hq := c_X5_readName (d + 1) (K := K) (I := I2) H0 h8
  refine z_V1 [] [.ref ((x0 + 3) + 15 + j4)] (cs_X5_239 _) (ci := 3) rfl (LR.o (LR.kk H0)) (dep (show d + 1 + 7 + 1 ≤ (d + 9) from by omega) (Nat.le_of_ble_eq_true rfl)) dX5_readWish_40 rfl rfl (Nat.le_of_ble_eq_true rfl) hq ?_
  obtain ⟨I9, hI9, h⟩ := b1_s h
  refine z_putI fs_X5_284 (LO.kk (LM.wo (LR.q H0) (ix_s hj4).2.1)) hI9 dX5_readWish_43 ?_
  refine x_aloadn dX5_readWish_46 rfl ?_
  refine x_aloadn dX5_readWish_47 rfl ?_
  refine z_getR fs_X5_21 (LR.o (LR.kk H0)) (LR.g1 (LR.kk H0)) dX5_readWish_48 ?_
  refine x_aloadn dX5_readWish_51 rfl ?_
  refine z_getI fs_X5_284 (LO.kk (LM.wo (LR.q H0) (ix_s hj4).2.1)) dX5_readWish_52 ?_
  refine x_iconst (-1) dX5_readWish_55 rfl ?_
  obtain ⟨v10, h11, h⟩ := b1_s h
  refine z_V1 [.int (I9 ((x0 + 3) + 15 + j4) 0), .int (-1)] [.ref x0] (cs_X5_287 _) (ci := 1) rfl (LM.o (LM.kk (LR.q H0) (by omega))) (dep (show d + 8 + 0 + 1 ≤ (d + 9) from by omega) (Nat.le_of_ble_eq_true rfl)) dX5_readWish_56 rfl rfl (Nat.le_of_ble_eq_true rfl) (c_X3_hasWishNamed (d + 8) (K := (kk K (x0 + 1) k7)) (I := I9) (LM.kk (LR.q H0) (by omega)) h11) ?_
  refine x_if_ne 66 dX5_readWish_59 rfl (fun hc => ?_) (fun hc => ?_)
  · have h := ifF hc h
    refine x_iconst 0 dX5_readWish_66 rfl ?_
    exact tl_X5_readWish_67 d H0 (LM.wo (LR.q H0) (ix_s hj4).2.1) h
  have h := ifT hc h
  refine x_iconst 1 dX5_readWish_62 rfl ?_
  refine x_goto 67 dX5_readWish_63 rfl ?_
  exact tl_X5_readWish_67 d H0 (LM.wo (LR.q H0) (ix_s hj4).2.1) h
noncomputable def f_X5_readWish (I : Mem) (k : Nat) (x0 : Nat) : Option (Except String Unit × Mem × Nat) := if 16 ≤ (I (x0 + 3) 5) then (l_X5_readWish_18 I k x0 0) else (l_X5_readWish_18 I k x0 1)
theorem c_X5_readWish (d : Nat) {K : Kt} {I : Mem} {k : Nat} {x0 : Nat} (H0 : LR K x0) {x : Except String Unit} {I9 : Mem} {k9 : Nat} (h : f_X5_readWish I k x0 = some (x, I9, k9)) : Ct (mX5_readWish (d + 9)) cX5_readWish (cst x) (cs6 x) [.ref x0] I (kk K (x0 + 1) k) (Ro (rV x) I9 (kk K (x0 + 1) k9)) := by
  refine Ct.of rfl pn_X5 (catR cat0) (Nat.le_of_ble_eq_true rfl) (show X _ _ _ _ _ _ 0 [.ref x0, .retAddr 0] [] _ from ?_)
  unfold f_X5_readWish at h
  refine x_aloadn dX5_readWish_0 rfl ?_
  refine x_aloadn dX5_readWish_1 rfl ?_
  refine z_getR fs_X5_21 (LR.o (LR.kk H0)) (LR.g1 (LR.kk H0)) dX5_readWish_2 ?_
  refine z_getI fs_X5_199 (LM.o (LM.kk (LR.q H0) (by omega))) dX5_readWish_5 ?_
  refine x_bipush 16 dX5_readWish_8 rfl ?_
  refine x_icmp_ge 17 dX5_readWish_10 rfl (fun hc => ?_) (fun hc => ?_)
  · have h := ifT hc h
    refine x_iconst 0 dX5_readWish_17 rfl ?_
    exact tl_X5_readWish_18 d H0 h
  have h := ifF hc h
  refine x_iconst 1 dX5_readWish_13 rfl ?_
  refine x_goto 18 dX5_readWish_14 rfl ?_
  exact tl_X5_readWish_18 d H0 h
