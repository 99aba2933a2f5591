noncomputable def f_X9_append (I : Mem) (x0 : Nat) (x1 : Int32) (x2 : Int32) (x3 : Int32) (x4 : Int32) (x5 : Int32) : Option (Int32 × Mem) := if ((I ((x0 + 1) + 1) 1) + 20) ≤ 500 then (b1 (f_X7_putFourBytes I ((x0 + 1) + 1) x1) fun I1 => b1 (f_X7_putFourBytes I1 ((x0 + 1) + 1) x2) fun I3 => b1 (f_X7_putFourBytes I3 ((x0 + 1) + 1) x3) fun I5 => b1 (f_X7_putFourBytes I5 ((x0 + 1) + 1) x4) fun I7 => b1 (f_X7_putFourBytes I7 ((x0 + 1) + 1) x5) fun I9 => some ((I9 ((x0 + 1) + 1) 1), I9)) else (some ((-1), I))
theorem c_X9_append (d : Nat) {K : Kt} {I : Mem} {x0 : Nat} (H0 : LW K x0) {x1 : Int32} {x2 : Int32} {x3 : Int32} {x4 : Int32} {x5 : Int32} {v : Int32} {I9 : Mem} (h : f_X9_append I x0 x1 x2 x3 x4 x5 = some (v, I9)) : Ct (mX9_append (d + 1)) cX9_append 0 0 [.ref x0, .int x1, .int x2, .int x3, .int x4, .int x5] I K (Ro (.inl (some (.int v))) I9 K) := by
  refine Ct.of rfl pn_X9 (catR (catI (catI (catI (catI (catI cat0)))))) (Nat.le_of_ble_eq_true rfl) (show X _ _ _ _ _ _ 0 [.ref x0, .int x1, .int x2, .int x3, .int x4, .int x5, .retAddr 0] [] _ from ?_)
  unfold f_X9_append at h
  refine x_aloadn dX9_append_0 rfl ?_
  refine z_getR fs_X9_10 (LW.o H0) (LW.g0 H0) dX9_append_1 ?_
  refine z_getRG gs_X9_44 (LR.o (LW.r H0)) (LR.g0 (LW.r H0)) dX9_append_4 ?_
  refine x_astore dX9_append_7 (Nat.le_of_ble_eq_true rfl) rfl rfl ?_
  refine x_aload dX9_append_9 rfl ?_
  refine z_getI fs_X9_48 (LT.o (LR.t (LW.r H0))) dX9_append_11 ?_
  refine x_bipush 20 dX9_append_14 rfl ?_
  refine x_iadd dX9_append_16 ?_
  refine x_sipush 500 dX9_append_17 rfl ?_
  refine x_icmp_le 25 dX9_append_20 rfl (fun hc => ?_) (fun hc => ?_)
  · have h := ifT hc h
    refine x_aload dX9_append_25 rfl ?_
    refine x_iloadn dX9_append_27 rfl ?_
    obtain ⟨I1, h2, h⟩ := b1_s h
    refine z_V0 [.int x1] [] (cs_X9_54 _) (ci := 5) rfl (LT.o (LR.t (LW.r H0))) (dep (show d + 0 + 0 + 1 ≤ (d + 1) from by omega) (Nat.le_of_ble_eq_true rfl)) dX9_append_28 rfl rfl (Nat.le_of_ble_eq_true rfl) (c_X7_putFourBytes d (K := K) (I := I) (LR.t (LW.r H0)) h2) ?_
    refine x_aload dX9_append_31 rfl ?_
    refine x_iloadn dX9_append_33 rfl ?_
    obtain ⟨I3, h4, h⟩ := b1_s h
    refine z_V0 [.int x2] [] (cs_X9_54 _) (ci := 5) rfl (LT.o (LR.t (LW.r H0))) (dep (show d + 0 + 0 + 1 ≤ (d + 1) from by omega) (Nat.le_of_ble_eq_true rfl)) dX9_append_34 rfl rfl (Nat.le_of_ble_eq_true rfl) (c_X7_putFourBytes d (K := K) (I := I1) (LR.t (LW.r H0)) h4) ?_
    refine x_aload dX9_append_37 rfl ?_
    refine x_iloadn dX9_append_39 rfl ?_
    obtain ⟨I5, h6, h⟩ := b1_s h
    refine z_V0 [.int x3] [] (cs_X9_54 _) (ci := 5) rfl (LT.o (LR.t (LW.r H0))) (dep (show d + 0 + 0 + 1 ≤ (d + 1) from by omega) (Nat.le_of_ble_eq_true rfl)) dX9_append_40 rfl rfl (Nat.le_of_ble_eq_true rfl) (c_X7_putFourBytes d (K := K) (I := I3) (LR.t (LW.r H0)) h6) ?_
    refine x_aload dX9_append_43 rfl ?_
    refine x_iload dX9_append_45 rfl ?_
    obtain ⟨I7, h8, h⟩ := b1_s h
    refine z_V0 [.int x4] [] (cs_X9_54 _) (ci := 5) rfl (LT.o (LR.t (LW.r H0))) (dep (show d + 0 + 0 + 1 ≤ (d + 1) from by omega) (Nat.le_of_ble_eq_true rfl)) dX9_append_47 rfl rfl (Nat.le_of_ble_eq_true rfl) (c_X7_putFourBytes d (K := K) (I := I5) (LR.t (LW.r H0)) h8) ?_
    refine x_aload dX9_append_50 rfl ?_
    refine x_iload dX9_append_52 rfl ?_
    obtain ⟨I9, h10, h⟩ := b1_s h
    refine z_V0 [.int x5] [] (cs_X9_54 _) (ci := 5) rfl (LT.o (LR.t (LW.r H0))) (dep (show d + 0 + 0 + 1 ≤ (d + 1) from by omega) (Nat.le_of_ble_eq_true rfl)) dX9_append_54 rfl rfl (Nat.le_of_ble_eq_true rfl) (c_X7_putFourBytes d (K := K) (I := I7) (LR.t (LW.r H0)) h10) ?_
    refine x_aload dX9_append_57 rfl ?_
    refine z_getI fs_X9_48 (LT.o (LR.t (LW.r H0))) dX9_append_59 ?_
    cases h
    exact x_iret rfl dX9_append_62 ⟨rfl, rfl, rfl⟩
  have h := ifF hc h
  refine x_iconst (-1) dX9_append_23 rfl ?_
  cases h
  exact x_iret rfl dX9_append_24 ⟨rfl, rfl, rfl⟩
noncomputable def f_X9_loadedMarket (I : Mem) (x0 : Nat) : Option (Except String Nat) := if (I x0 7) = 0 then (some (.error "java/lang/IllegalStateException")) else (some (.ok (x0 + 37)))
theorem c_X9_loadedMarket (d : Nat) {K : Kt} {I : Mem} {x0 : Nat} (H0 : LW K x0) {x : Except String Nat} (h : f_X9_loadedMarket I x0 = some x) : Ct (mX9_loadedMarket (d + 6)) cX9_loadedMarket (cst x) (cs6 x) [.ref x0] I K (Ro (rR x) I K) := by
  refine Ct.of rfl pn_X9 (catR cat0) (Nat.le_of_ble_eq_true rfl) (show X _ _ _ _ _ _ 0 [.ref x0] [] _ from ?_)
  unfold f_X9_loadedMarket at h
  refine x_aloadn dX9_loadedMarket_0 rfl ?_
  refine z_getI fs_X9_81 (LW.o H0) dX9_loadedMarket_1 ?_
  refine x_if_ne 18 dX9_loadedMarket_4 rfl (fun hc => ?_) (fun hc => ?_)
  · have h := ifF hc h
    refine x_aloadn dX9_loadedMarket_18 rfl ?_
    refine z_getR fs_X9_19 (LW.o H0) (LW.g1 H0) dX9_loadedMarket_19 ?_
    cases h
    exact x_aret rfl (Or.inl ⟨_, rfl⟩) dX9_loadedMarket_22 ⟨rfl, rfl, rfl⟩
  have h := ifT hc h
  cases h
  exact z_throwW ts_X9_326_340_330 ⟨(by show 6 ≤ (d + 6); omega), (by show _ ≤ 40 * (d + 6); have e : ∀ n, n = 0 → n + 82 ≤ 40 * (d + 6) := (fun n hn => by omega); exact e _ rfl)⟩ rfl dX9_loadedMarket_7 dX9_loadedMarket_10 dX9_loadedMarket_11 dX9_loadedMarket_14 dX9_loadedMarket_17
noncomputable def f_X9_day (I : Mem) (x0 : Nat) : Option (Except String Int32) := e1 (f_X9_loadedMarket I x0) (fun E => some (.error E)) fun v1 => b1 (ckE v1 (x0 + 37)) fun _ => some (.ok (I (x0 + 37) 6))
theorem c_X9_day (d : Nat) {K : Kt} {I : Mem} {x0 : Nat} (H0 : LW K x0) {x : Except String Int32} (h : f_X9_day I x0 = some x) : Ct (mX9_day (d + 7)) cX9_day (cst x) (cs6 x) [.ref x0] I K (Ro (rI x) I K) := by
  refine Ct.of rfl pn_X9 (catR cat0) (Nat.le_of_ble_eq_true rfl) (show X _ _ _ _ _ _ 0 [.ref x0] [] _ from ?_)
  unfold f_X9_day at h
  refine x_aloadn dX9_day_0 rfl ?_
  rcases e1_s h with ⟨v1, h2, h⟩ | ⟨E, h2, h⟩
  rotate_left
  · have hq := c_X9_loadedMarket d (K := K) (I := I) H0 h2
    cases h
    exact z_Ve [] [] (cs_X9_97 _) (ci := 7) rfl (LW.o H0) (dep (show d + 0 + 6 + 1 ≤ (d + 7) from by omega) (Nat.le_of_ble_eq_true rfl)) dX9_day_1 rfl rfl (Nat.le_of_ble_eq_true rfl) hq rfl
  have hq := c_X9_loadedMarket d (K := K) (I := I) H0 h2
  refine z_V1 [] [] (cs_X9_97 _) (ci := 7) rfl (LW.o H0) (dep (show d + 0 + 6 + 1 ≤ (d + 7) from by omega) (Nat.le_of_ble_eq_true rfl)) dX9_day_1 rfl rfl (Nat.le_of_ble_eq_true rfl) hq ?_
  obtain ⟨u3, hu3, h⟩ := b1_s h
  refine X.e2 (congrArg Value.ref (ckE_s hu3)) ?_
  refine z_getI fs_X9_101 (LM.o (LW.q H0)) dX9_day_4 ?_
  cases h
  exact x_iret rfl dX9_day_7 ⟨rfl, rfl, rfl⟩
noncomputable def f_X9_dayOfYear (I : Mem) (x0 : Nat) : Option (Except String Int32) := e1 (f_X9_loadedMarket I x0) (fun E => some (.error E)) fun v1 => b1 (ckE v1 (x0 + 37)) fun _ => b1 (f_X3_today I (x0 + 37)) fun v4 => some (.ok v4)
theorem c_X9_dayOfYear (d : Nat) {K : Kt} {I : Mem} {x0 : Nat} (H0 : LW K x0) {x : Except String Int32} (h : f_X9_dayOfYear I x0 = some x) : Ct (mX9_dayOfYear (d + 7)) cX9_dayOfYear (cst x) (cs6 x) [.ref x0] I K (Ro (rI x) I K) := by
  refine Ct.of rfl pn_X9 (catR cat0) (Nat.le_of_ble_eq_true rfl) (show X _ _ _ _ _ _ 0 [.ref x0] [] _ from ?_)
  unfold f_X9_dayOfYear at h
  refine x_aloadn dX9_dayOfYear_0 rfl ?_
  rcases e1_s h with ⟨v1, h2, h⟩ | ⟨E, h2, h⟩
  rotate_left
  · have hq := c_X9_loadedMarket d (K := K) (I := I) H0 h2
    cases h
    exact z_Ve [] [] (cs_X9_97 _) (ci := 7) rfl (LW.o H0) (dep (show d + 0 + 6 + 1 ≤ (d + 7) from by omega) (Nat.le_of_ble_eq_true rfl)) dX9_dayOfYear_1 rfl rfl (Nat.le_of_ble_eq_true rfl) hq rfl
  have hq := c_X9_loadedMarket d (K := K) (I := I) H0 h2
  refine z_V1 [] [] (cs_X9_97 _) (ci := 7) rfl (LW.o H0) (dep (show d + 0 + 6 + 1 ≤ (d + 7) from by omega) (Nat.le_of_ble_eq_true rfl)) dX9_dayOfYear_1 rfl rfl (Nat.le_of_ble_eq_true rfl) hq ?_
  obtain ⟨u3, hu3, h⟩ := b1_s h
  refine X.e2 (congrArg Value.ref (ckE_s hu3)) ?_
  obtain ⟨v4, h5, h⟩ := b1_s h
  refine z_V1 [] [] (cs_X9_107 _) (ci := 1) rfl (LM.o (LW.q H0)) (dep (show d + 6 + 0 + 1 ≤ (d + 7) from by omega) (Nat.le_of_ble_eq_true rfl)) dX9_dayOfYear_4 rfl rfl (Nat.le_of_ble_eq_true rfl) (c_X3_today (d + 6) (K := K) (I := I) (LW.q H0) h5) ?_
  cases h
  exact x_iret rfl dX9_dayOfYear_7 ⟨rfl, rfl, rfl⟩
noncomputable def f_X9_grantedCount (I : Mem) (x0 : Nat) : Option (Except String Int32) := e1 (f_X9_loadedMarket I x0) (fun E => some (.error E)) fun v1 => b1 (ckE v1 (x0 + 37)) fun _ => b1 (f_X3_countGranted I (x0 + 37)) fun v4 => some (.ok v4)
theorem c_X9_grantedCount (d : Nat) {K : Kt} {I : Mem} {x0 : Nat} (H0 : LW K x0) {x : Except String Int32} (h : f_X9_grantedCount I x0 = some x) : Ct (mX9_grantedCount (d + 7)) cX9_grantedCount (cst x) (cs6 x) [.ref x0] I K (Ro (rI x) I K) := by
  refine Ct.of rfl pn_X9 (catR cat0) (Nat.le_of_ble_eq_true rfl) (show X _ _ _ _ _ _ 0 [.ref x0] [] _ from ?_)
  unfold f_X9_grantedCount at h
  refine x_aloadn dX9_grantedCount_0 rfl ?_
  rcases e1_s h with ⟨v1, h2, h⟩ | ⟨E, h2, h⟩
  rotate_left
  · have hq := c_X9_loadedMarket d (K := K) (I := I) H0 h2
    cases h
    exact z_Ve [] [] (cs_X9_97 _) (ci := 7) rfl (LW.o H0) (dep (show d + 0 + 6 + 1 ≤ (d + 7) from by omega) (Nat.le_of_ble_eq_true rfl)) dX9_grantedCount_1 rfl rfl (Nat.le_of_ble_eq_true rfl) hq rfl
  have hq := c_X9_loadedMarket d (K := K) (I := I) H0 h2
  refine z_V1 [] [] (cs_X9_97 _) (ci := 7) rfl (LW.o H0) (dep (show d + 0 + 6 + 1 ≤ (d + 7) from by omega) (Nat.le_of_ble_eq_true rfl)) dX9_grantedCount_1 rfl rfl (Nat.le_of_ble_eq_true rfl) hq ?_
  obtain ⟨u3, hu3, h⟩ := b1_s h
  refine X.e2 (congrArg Value.ref (ckE_s hu3)) ?_
  obtain ⟨v4, h5, h⟩ := b1_s h
  refine z_V1 [] [] (cs_X9_111 _) (ci := 1) rfl (LM.o (LW.q H0)) (dep (show d + 6 + 0 + 1 ≤ (d + 7) from by omega) (Nat.le_of_ble_eq_true rfl)) dX9_grantedCount_4 rfl rfl (Nat.le_of_ble_eq_true rfl) (c_X3_countGranted (d + 6) (K := K) (I := I) (LW.q H0) h5) ?_
  cases h
  exact x_iret rfl dX9_grantedCount_7 ⟨rfl, rfl, rfl⟩
noncomputable def f_X9_fadedCount (I : Mem) (x0 : Nat) : Option (Except String Int32) := e1 (f_X9_loadedMarket I x0) (fun E => some (.error E)) fun v1 => b1 (ckE v1 (x0 + 37)) fun _ => b1 (f_X3_countFaded I (x0 + 37)) fun v4 => some (.ok v4)
theorem c_X9_fadedCount (d : Nat) {K : Kt} {I : Mem} {x0 : Nat} (H0 : LW K x0) {x : Except String Int32} (h : f_X9_fadedCount I x0 = some x) : Ct (mX9_fadedCount (d + 7)) cX9_fadedCount (cst x) (cs6 x) [.ref x0] I K (Ro (rI x) I K) := by
  refine Ct.of rfl pn_X9 (catR cat0) (Nat.le_of_ble_eq_true rfl) (show X _ _ _ _ _ _ 0 [.ref x0] [] _ from ?_)
  unfold f_X9_fadedCount at h
  refine x_aloadn dX9_fadedCount_0 rfl ?_
  rcases e1_s h with ⟨v1, h2, h⟩ | ⟨E, h2, h⟩
  rotate_left
  · have hq := c_X9_loadedMarket d (K := K) (I := I) H0 h2
    cases h
    exact z_Ve [] [] (cs_X9_97 _) (ci := 7) rfl (LW.o H0) (dep (show d + 0 + 6 + 1 ≤ (d + 7) from by omega) (Nat.le_of_ble_eq_true rfl)) dX9_fadedCount_1 rfl rfl (Nat.le_of_ble_eq_true rfl) hq rfl
  have hq := c_X9_loadedMarket d (K := K) (I := I) H0 h2
  refine z_V1 [] [] (cs_X9_97 _) (ci := 7) rfl (LW.o H0) (dep (show d + 0 + 6 + 1 ≤ (d + 7) from by omega) (Nat.le_of_ble_eq_true rfl)) dX9_fadedCount_1 rfl rfl (Nat.le_of_ble_eq_true rfl) hq ?_
  obtain ⟨u3, hu3, h⟩ := b1_s h
  refine X.e2 (congrArg Value.ref (ckE_s hu3)) ?_
  obtain ⟨v4, h5, h⟩ := b1_s h
  refine z_V1 [] [] (cs_X9_114 _) (ci := 1) rfl (LM.o (LW.q H0)) (dep (show d + 6 + 0 + 1 ≤ (d + 7) from by omega) (Nat.le_of_ble_eq_true rfl)) dX9_fadedCount_4 rfl rfl (Nat.le_of_ble_eq_true rfl) (c_X3_countFaded (d + 6) (K := K) (I := I) (LW.q H0) h5) ?_
  cases h
  exact x_iret rfl dX9_fadedCount_7 ⟨rfl, rfl, rfl⟩
noncomputable def f_X9_imbalance (I : Mem) (x0 : Nat) : Option (Except String Int32) := e1 (f_X9_loadedMarket I x0) (fun E => some (.error E)) fun v1 => b1 (ckE v1 (x0 + 37)) fun _ => b1 (f_X3_money I (x0 + 37)) fun v4 => b1 (f_X3_countMisplaced I (x0 + 37)) fun v6 => some (.ok ((if 0 ≤ (v4 - (I (x0 + 37) 13)) then (v4 - (I (x0 + 37) 13)) else 0 - (v4 - (I (x0 + 37) 13))) + v6))
theorem c_X9_imbalance (d : Nat) {K : Kt} {I : Mem} {x0 : Nat} (H0 : LW K x0) {x : Except String Int32} (h : f_X9_imbalance I x0 = some x) : Ct (mX9_imbalance (d + 7)) cX9_imbalance (cst x) (cs6 x) [.ref x0] I K (Ro (rI x) I K) := by
  refine Ct.of rfl pn_X9 (catR cat0) (Nat.le_of_ble_eq_true rfl) (show X _ _ _ _ _ _ 0 [.ref x0, .retAddr 0] [] _ from ?_)
  unfold f_X9_imbalance at h
  refine x_aloadn dX9_imbalance_0 rfl ?_
  rcases e1_s h with ⟨v1, h2, h⟩ | ⟨E, h2, h⟩
  rotate_left
  · have hq := c_X9_loadedMarket d (K := K) (I := I) H0 h2
    cases h
    exact z_Ve [] [] (cs_X9_97 _) (ci := 7) rfl (LW.o H0) (dep (show d + 0 + 6 + 1 ≤ (d + 7) from by omega) (Nat.le_of_ble_eq_true rfl)) dX9_imbalance_1 rfl rfl (Nat.le_of_ble_eq_true rfl) hq rfl
  have hq := c_X9_loadedMarket d (K := K) (I := I) H0 h2
  refine z_V1 [] [] (cs_X9_97 _) (ci := 7) rfl (LW.o H0) (dep (show d + 0 + 6 + 1 ≤ (d + 7) from by omega) (Nat.le_of_ble_eq_true rfl)) dX9_imbalance_1 rfl rfl (Nat.le_of_ble_eq_true rfl) hq ?_
  obtain ⟨u3, hu3, h⟩ := b1_s h
  refine X.e2 (congrArg Value.ref (ckE_s hu3)) ?_
  refine x_astoren dX9_imbalance_4 (Nat.le_of_ble_eq_true rfl) rfl rfl ?_
  refine x_aloadn dX9_imbalance_5 rfl ?_
  obtain ⟨v4, h5, h⟩ := b1_s h
  refine z_V1 [] [] (cs_X9_117 _) (ci := 1) rfl (LM.o (LW.q H0)) (dep (show d + 6 + 0 + 1 ≤ (d + 7) from by omega) (Nat.le_of_ble_eq_true rfl)) dX9_imbalance_6 rfl rfl (Nat.le_of_ble_eq_true rfl) (c_X3_money (d + 6) (K := K) (I := I) (LW.q H0) h5) ?_
  refine x_aloadn dX9_imbalance_9 rfl ?_
  refine z_getI fs_X9_120 (LM.o (LW.q H0)) dX9_imbalance_10 ?_
  refine x_isub dX9_imbalance_13 ?_
  refine x_mabs ms_X9_123 (Nat.le_of_ble_eq_true rfl) (by show 1 ≤ (d + 7); omega) dX9_imbalance_14 ?_
  refine x_aloadn dX9_imbalance_17 rfl ?_
  obtain ⟨v6, h7, h⟩ := b1_s h
  refine z_V1 [] [.int (if 0 ≤ (v4 - (I (x0 + 37) 13)) then (v4 - (I (x0 + 37) 13)) else 0 - (v4 - (I (x0 + 37) 13)))] (cs_X9_129 _) (ci := 1) rfl (LM.o (LW.q H0)) (dep (show d + 6 + 0 + 1 ≤ (d + 7) from by omega) (Nat.le_of_ble_eq_true rfl)) dX9_imbalance_18 rfl rfl (Nat.le_of_ble_eq_true rfl) (c_X3_countMisplaced (d + 6) (K := K) (I := I) (LW.q H0) h7) ?_
  refine x_iadd dX9_imbalance_21 ?_
  cases h
  exact x_iret rfl dX9_imbalance_22 ⟨rfl, rfl, rfl⟩
noncomputable def f_X9_personCount (I : Mem) (x0 : Nat) : Option (Except String Int32) := e1 (f_X9_loadedMarket I x0) (fun E => some (.error E)) fun v1 => b1 (ckE v1 (x0 + 37)) fun _ => some (.ok (I (x0 + 37) 3))
theorem c_X9_personCount (d : Nat) {K : Kt} {I : Mem} {x0 : Nat} (H0 : LW K x0) {x : Except String Int32} (h : f_X9_personCount I x0 = some x) : Ct (mX9_personCount (d + 7)) cX9_personCount (cst x) (cs6 x) [.ref x0] I K (Ro (rI x) I K) := by
  refine Ct.of rfl pn_X9 (catR cat0) (Nat.le_of_ble_eq_true rfl) (show X _ _ _ _ _ _ 0 [.ref x0] [] _ from ?_)
  unfold f_X9_personCount at h
  refine x_aloadn dX9_personCount_0 rfl ?_
  rcases e1_s h with ⟨v1, h2, h⟩ | ⟨E, h2, h⟩
  rotate_left
  · have hq := c_X9_loadedMarket d (K := K) (I := I) H0 h2
    cases h
    exact z_Ve [] [] (cs_X9_97 _) (ci := 7) rfl (LW.o H0) (dep (show d + 0 + 6 + 1 ≤ (d + 7) from by omega) (Nat.le_of_ble_eq_true rfl)) dX9_personCount_1 rfl rfl (Nat.le_of_ble_eq_true rfl) hq rfl
  have hq := c_X9_loadedMarket d (K := K) (I := I) H0 h2
  refine z_V1 [] [] (cs_X9_97 _) (ci := 7) rfl (LW.o H0) (dep (show d + 0 + 6 + 1 ≤ (d + 7) from by omega) (Nat.le_of_ble_eq_true rfl)) dX9_personCount_1 rfl rfl (Nat.le_of_ble_eq_true rfl) hq ?_
  obtain ⟨u3, hu3, h⟩ := b1_s h
  refine X.e2 (congrArg Value.ref (ckE_s hu3)) ?_
  refine z_getI fs_X9_140 (LM.o (LW.q H0)) dX9_personCount_4 ?_
  cases h
  exact x_iret rfl dX9_personCount_7 ⟨rfl, rfl, rfl⟩
noncomputable def l_X9_checkIndex_9 : Option (Except String Unit) := some (.error "java/lang/IndexOutOfBoundsException")
theorem tl_X9_checkIndex_9 (d : Nat) {K : Kt} : ∀ {I : Mem} {x : Except String Unit}, l_X9_checkIndex_9 = some x → X (mX9_checkIndex (d + 6)) cX9_checkIndex (cst x) (cs6 x) I K 9 [.retAddr 0, .retAddr 0] [] (Ro (rV x) I K) := by
  intro I x h
  unfold l_X9_checkIndex_9 at h
  cases h
  exact z_throwW ts_X9_58_342_62 ⟨(by show 6 ≤ (d + 6); omega), (by show _ ≤ 40 * (d + 6); have e : ∀ n, n = 0 → n + 82 ≤ 40 * (d + 6) := (fun n hn => by omega); exact e _ rfl)⟩ rfl dX9_checkIndex_9 dX9_checkIndex_12 dX9_checkIndex_13 dX9_checkIndex_16 dX9_checkIndex_19
noncomputable def f_X9_checkIndex (x0 : Int32) (x1 : Int32) : Option (Except String Unit) := if x0 < 0 then (l_X9_checkIndex_9) else (if x0 < x1 then (some (.ok ())) else (l_X9_checkIndex_9))
theorem c_X9_checkIndex (d : Nat) {K : Kt} {I : Mem} {x0 : Int32} {x1 : Int32} {x : Except String Unit} (h : f_X9_checkIndex x0 x1 = some x) : Ct (mX9_checkIndex (d + 6)) cX9_checkIndex (cst x) (cs6 x) [.int x0, .int x1] I K (Ro (rV x) I K) := by
  refine Ct.of rfl pn_X9 (catI (catI cat0)) (Nat.le_of_ble_eq_true rfl) (show X _ _ _ _ _ _ 0 [.int x0, .int x1] [] _ from ?_)
  unfold f_X9_checkIndex at h
  refine x_iloadn dX9_checkIndex_0 rfl ?_
  refine x_if_lt 9 dX9_checkIndex_1 rfl (fun hc => ?_) (fun hc => ?_)
  · have h := ifT hc h
    exact X.forget (L' := [.retAddr 0, .retAddr 0]) ⟨Or.inr rfl, ⟨Or.inr rfl, trivial⟩⟩ (tl_X9_checkIndex_9 d h)
  have h := ifF hc h
  refine x_iloadn dX9_checkIndex_4 rfl ?_
  refine x_iloadn dX9_checkIndex_5 rfl ?_
  refine x_icmp_lt 20 dX9_checkIndex_6 rfl (fun hc => ?_) (fun hc => ?_)
  · have h := ifT hc h
    cases h
    exact x_vret rfl dX9_checkIndex_20 ⟨rfl, rfl, rfl⟩
  have h := ifF hc h
  exact X.forget (L' := [.retAddr 0, .retAddr 0]) ⟨Or.inr rfl, ⟨Or.inr rfl, trivial⟩⟩ (tl_X9_checkIndex_9 d h)
noncomputable def f_X9_checkPerson (I : Mem) (x0 : Nat) (x1 : Int32) : Option (Except String Unit) := e1 (f_X9_loadedMarket I x0) (fun E => some (.error E)) fun v1 => b1 (ckE v1 (x0 + 37)) fun _ => e1 (f_X9_checkIndex x1 (I (x0 + 37) 3)) (fun E => some (.error E)) fun u4 => some (.ok ())
theorem c_X9_checkPerson (d : Nat) {K : Kt} {I : Mem} {x0 : Nat} (H0 : LW K x0) {x1 : Int32} {x : Except String Unit} (h : f_X9_checkPerson I x0 x1 = some x) : Ct (mX9_checkPerson (d + 7)) cX9_checkPerson (cst x) (cs6 x) [.ref x0, .int x1] I K (Ro (rV x) I K) := by
  refine Ct.of rfl pn_X9 (catR (catI cat0)) (Nat.le_of_ble_eq_true rfl) (show X _ _ _ _ _ _ 0 [.ref x0, .int x1] [] _ from ?_)
  unfold f_X9_checkPerson at h
  refine x_iloadn dX9_checkPerson_0 rfl ?_
  refine x_aloadn dX9_checkPerson_1 rfl ?_
  rcases e1_s h with ⟨v1, h2, h⟩ | ⟨E, h2, h⟩
  rotate_left
  · have hq := c_X9_loadedMarket d (K := K) (I := I) H0 h2
    cases h
    exact z_Ve [] [.int x1] (cs_X9_97 _) (ci := 7) rfl (LW.o H0) (dep (show d + 0 + 6 + 1 ≤ (d + 7) from by omega) (Nat.le_of_ble_eq_true rfl)) dX9_checkPerson_2 rfl rfl (Nat.le_of_ble_eq_true rfl) hq rfl
  have hq := c_X9_loadedMarket d (K := K) (I := I) H0 h2
  refine z_V1 [] [.int x1] (cs_X9_97 _) (ci := 7) rfl (LW.o H0) (dep (show d + 0 + 6 + 1 ≤ (d + 7) from by omega) (Nat.le_of_ble_eq_true rfl)) dX9_checkPerson_2 rfl rfl (Nat.le_of_ble_eq_true rfl) hq ?_
  obtain ⟨u3, hu3, h⟩ := b1_s h
  refine X.e2 (congrArg Value.ref (ckE_s hu3)) ?_
  refine z_getI fs_X9_140 (LM.o (LW.q H0)) dX9_checkPerson_5 ?_
  rcases e1_s h with ⟨u4, h5, h⟩ | ⟨E, h5, h⟩
  rotate_left
  · have hq := c_X9_checkIndex d (K := K) (I := I) h5
    cases h
    exact z_Se [.int x1, .int (I (x0 + 37) 3)] [] (cs_X9_334 _) (dep (show d + 0 + 6 + 1 ≤ (d + 7) from by omega) (Nat.le_of_ble_eq_true rfl)) dX9_checkPerson_8 rfl rfl (Nat.le_of_ble_eq_true rfl) hq rfl
  have hq := c_X9_checkIndex d (K := K) (I := I) h5
  refine z_S0 [.int x1, .int (I (x0 + 37) 3)] [] (cs_X9_334 _) (dep (show d + 0 + 6 + 1 ≤ (d + 7) from by omega) (Nat.le_of_ble_eq_true rfl)) dX9_checkPerson_8 rfl rfl (Nat.le_of_ble_eq_true rfl) hq ?_
  cases h
  exact x_vret rfl dX9_checkPerson_11 ⟨rfl, rfl, rfl⟩
noncomputable def f_X9_personAt (I : Mem) (x0 : Nat) (x1 : Int32) : Option (Except String Nat) := e1 (f_X9_checkPerson I x0 x1) (fun E => some (.error E)) fun u1 => b1 (ix x1 6) fun j3 => some (.ok ((x0 + 37) + 4 + j3))
theorem c_X9_personAt (d : Nat) {K : Kt} {I : Mem} {x0 : Nat} (H0 : LW K x0) {x1 : Int32} {x : Except String Nat} (h : f_X9_personAt I x0 x1 = some x) : Ct (mX9_personAt (d + 8)) cX9_personAt (cst x) (cs6 x) [.ref x0, .int x1] I K (Ro (rR x) I K) := by
  refine Ct.of rfl pn_X9 (catR (catI cat0)) (Nat.le_of_ble_eq_true rfl) (show X _ _ _ _ _ _ 0 [.ref x0, .int x1] [] _ from ?_)
  unfold f_X9_personAt at h
  refine x_aloadn dX9_personAt_0 rfl ?_
  refine x_iloadn dX9_personAt_1 rfl ?_
  rcases e1_s h with ⟨u1, h2, h⟩ | ⟨E, h2, h⟩
  rotate_left
  · have hq := c_X9_checkPerson d (K := K) (I := I) H0 h2
    cases h
    exact z_Ve [.int x1] [] (cs_X9_168 _) (ci := 7) rfl (LW.o H0) (dep (show d + 0 + 7 + 1 ≤ (d + 8) from by omega) (Nat.le_of_ble_eq_true rfl)) dX9_personAt_2 rfl rfl (Nat.le_of_ble_eq_true rfl) hq rfl
  have hq := c_X9_checkPerson d (K := K) (I := I) H0 h2
  refine z_V0 [.int x1] [] (cs_X9_168 _) (ci := 7) rfl (LW.o H0) (dep (show d + 0 + 7 + 1 ≤ (d + 8) from by omega) (Nat.le_of_ble_eq_true rfl)) dX9_personAt_2 rfl rfl (Nat.le_of_ble_eq_true rfl) hq ?_
  refine x_aloadn dX9_personAt_5 rfl ?_
  refine z_getR fs_X9_19 (LW.o H0) (LW.g1 H0) dX9_personAt_6 ?_
  refine z_getRG gs_X9_279 (LM.o (LW.q H0)) (LM.g0 (LW.q H0)) dX9_personAt_9 ?_
  refine x_iloadn dX9_personAt_12 rfl ?_
  obtain ⟨j3, hj3, h⟩ := b1_s h
  refine z_aald (LM.l0 (LW.q H0)) ⟨by decide, by decide⟩ hj3 (LM.p (LW.q H0) (ix_s hj3).2.1) dX9_personAt_13 ?_
  cases h
  exact x_aret rfl (Or.inl ⟨_, rfl⟩) dX9_personAt_14 ⟨rfl, rfl, rfl⟩
noncomputable def f_X9_coins (I : Mem) (x0 : Nat) (x1 : Int32) : Option (Except String Int32) := e1 (f_X9_personAt I x0 x1) (fun E => some (.error E)) fun v1 => b1 (ckA v1 (x0 + 37 + 4) 6) fun j3 => some (.ok (I ((x0 + 37 + 4) + j3) 1))
theorem c_X9_coins (d : Nat) {K : Kt} {I : Mem} {x0 : Nat} (H0 : LW K x0) {x1 : Int32} {x : Except String Int32} (h : f_X9_coins I x0 x1 = some x) : Ct (mX9_coins (d + 9)) cX9_coins (cst x) (cs6 x) [.ref x0, .int x1] I K (Ro (rI x) I K) := by
  refine Ct.of rfl pn_X9 (catR (catI cat0)) (Nat.le_of_ble_eq_true rfl) (show X _ _ _ _ _ _ 0 [.ref x0, .int x1] [] _ from ?_)
  unfold f_X9_coins at h
  refine x_aloadn dX9_coins_0 rfl ?_
  refine x_iloadn dX9_coins_1 rfl ?_
  rcases e1_s h with ⟨v1, h2, h⟩ | ⟨E, h2, h⟩
  rotate_left
  · have hq := c_X9_personAt d (K := K) (I := I) H0 h2
    cases h
    exact z_Ve [.int x1] [] (cs_X9_143 _) (ci := 7) rfl (LW.o H0) (dep (show d + 0 + 8 + 1 ≤ (d + 9) from by omega) (Nat.le_of_ble_eq_true rfl)) dX9_coins_2 rfl rfl (Nat.le_of_ble_eq_true rfl) hq rfl
  have hq := c_X9_personAt d (K := K) (I := I) H0 h2
  refine z_V1 [.int x1] [] (cs_X9_143 _) (ci := 7) rfl (LW.o H0) (dep (show d + 0 + 8 + 1 ≤ (d + 9) from by omega) (Nat.le_of_ble_eq_true rfl)) dX9_coins_2 rfl rfl (Nat.le_of_ble_eq_true rfl) hq ?_
  obtain ⟨j3, hj3, h⟩ := b1_s h
  refine X.e2 (congrArg Value.ref (ckA_s hj3).2) ?_
  have hj3 := (ckA_s hj3).1
  refine z_getI fs_X9_156 (LM.po (LW.q H0) hj3) dX9_coins_5 ?_
  cases h
  exact x_iret rfl dX9_coins_8 ⟨rfl, rfl, rfl⟩
noncomputable def f_X9_birthday (I : Mem) (x0 : Nat) (x1 : Int32) : Option (Except String Int32) := e1 (f_X9_personAt I x0 x1) (fun E => some (.error E)) fun v1 => b1 (ckA v1 (x0 + 37 + 4) 6) fun j3 => some (.ok (I ((x0 + 37 + 4) + j3) 2))
theorem c_X9_birthday (d : Nat) {K : Kt} {I : Mem} {x0 : Nat} (H0 : LW K x0) {x1 : Int32} {x : Except String Int32} (h : f_X9_birthday I x0 x1 = some x) : Ct (mX9_birthday (d + 9)) cX9_birthday (cst x) (cs6 x) [.ref x0, .int x1] I K (Ro (rI x) I K) := by
  refine Ct.of rfl pn_X9 (catR (catI cat0)) (Nat.le_of_ble_eq_true rfl) (show X _ _ _ _ _ _ 0 [.ref x0, .int x1] [] _ from ?_)
  unfold f_X9_birthday at h
  refine x_aloadn dX9_birthday_0 rfl ?_
  refine x_iloadn dX9_birthday_1 rfl ?_
  rcases e1_s h with ⟨v1, h2, h⟩ | ⟨E, h2, h⟩
  rotate_left
  · have hq := c_X9_personAt d (K := K) (I := I) H0 h2
    cases h
    exact z_Ve [.int x1] [] (cs_X9_143 _) (ci := 7) rfl (LW.o H0) (dep (show d + 0 + 8 + 1 ≤ (d + 9) from by omega) (Nat.le_of_ble_eq_true rfl)) dX9_birthday_2 rfl rfl (Nat.le_of_ble_eq_true rfl) hq rfl
  have hq := c_X9_personAt d (K := K) (I := I) H0 h2
  refine z_V1 [.int x1] [] (cs_X9_143 _) (ci := 7) rfl (LW.o H0) (dep (show d + 0 + 8 + 1 ≤ (d + 9) from by omega) (Nat.le_of_ble_eq_true rfl)) dX9_birthday_2 rfl rfl (Nat.le_of_ble_eq_true rfl) hq ?_
  obtain ⟨j3, hj3, h⟩ := b1_s h
  refine X.e2 (congrArg Value.ref (ckA_s hj3).2) ?_
  have hj3 := (ckA_s hj3).1
  refine z_getI fs_X9_159 (LM.po (LW.q H0) hj3) dX9_birthday_5 ?_
  cases h
  exact x_iret rfl dX9_birthday_8 ⟨rfl, rfl, rfl⟩
noncomputable def f_X9_candles (I : Mem) (x0 : Nat) (x1 : Int32) : Option (Except String Int32) := e1 (f_X9_personAt I x0 x1) (fun E => some (.error E)) fun v1 => b1 (ckA v1 (x0 + 37 + 4) 6) fun j3 => some (.ok (I ((x0 + 37 + 4) + j3) 3))
theorem c_X9_candles (d : Nat) {K : Kt} {I : Mem} {x0 : Nat} (H0 : LW K x0) {x1 : Int32} {x : Except String Int32} (h : f_X9_candles I x0 x1 = some x) : Ct (mX9_candles (d + 9)) cX9_candles (cst x) (cs6 x) [.ref x0, .int x1] I K (Ro (rI x) I K) := by
  refine Ct.of rfl pn_X9 (catR (catI cat0)) (Nat.le_of_ble_eq_true rfl) (show X _ _ _ _ _ _ 0 [.ref x0, .int x1] [] _ from ?_)
  unfold f_X9_candles at h
  refine x_aloadn dX9_candles_0 rfl ?_
  refine x_iloadn dX9_candles_1 rfl ?_
  rcases e1_s h with ⟨v1, h2, h⟩ | ⟨E, h2, h⟩
  rotate_left
  · have hq := c_X9_personAt d (K := K) (I := I) H0 h2
    cases h
    exact z_Ve [.int x1] [] (cs_X9_143 _) (ci := 7) rfl (LW.o H0) (dep (show d + 0 + 8 + 1 ≤ (d + 9) from by omega) (Nat.le_of_ble_eq_true rfl)) dX9_candles_2 rfl rfl (Nat.le_of_ble_eq_true rfl) hq rfl
  have hq := c_X9_personAt d (K := K) (I := I) H0 h2
  refine z_V1 [.int x1] [] (cs_X9_143 _) (ci := 7) rfl (LW.o H0) (dep (show d + 0 + 8 + 1 ≤ (d + 9) from by omega) (Nat.le_of_ble_eq_true rfl)) dX9_candles_2 rfl rfl (Nat.le_of_ble_eq_true rfl) hq ?_
  obtain ⟨j3, hj3, h⟩ := b1_s h
  refine X.e2 (congrArg Value.ref (ckA_s hj3).2) ?_
  have hj3 := (ckA_s hj3).1
  refine z_getI fs_X9_162 (LM.po (LW.q H0) hj3) dX9_candles_5 ?_
  cases h
  exact x_iret rfl dX9_candles_8 ⟨rfl, rfl, rfl⟩
noncomputable def f_X9_happiness (I : Mem) (x0 : Nat) (x1 : Int32) : Option (Except String Int32) := e1 (f_X9_personAt I x0 x1) (fun E => some (.error E)) fun v1 => b1 (ckA v1 (x0 + 37 + 4) 6) fun j3 => some (.ok (I ((x0 + 37 + 4) + j3) 4))
theorem c_X9_happiness (d : Nat) {K : Kt} {I : Mem} {x0 : Nat} (H0 : LW K x0) {x1 : Int32} {x : Except String Int32} (h : f_X9_happiness I x0 x1 = some x) : Ct (mX9_happiness (d + 9)) cX9_happiness (cst x) (cs6 x) [.ref x0, .int x1] I K (Ro (rI x) I K) := by
  refine Ct.of rfl pn_X9 (catR (catI cat0)) (Nat.le_of_ble_eq_true rfl) (show X _ _ _ _ _ _ 0 [.ref x0, .int x1] [] _ from ?_)
  unfold f_X9_happiness at h
  refine x_aloadn dX9_happiness_0 rfl ?_
  refine x_iloadn dX9_happiness_1 rfl ?_
  rcases e1_s h with ⟨v1, h2, h⟩ | ⟨E, h2, h⟩
  rotate_left
  · have hq := c_X9_personAt d (K := K) (I := I) H0 h2
    cases h
    exact z_Ve [.int x1] [] (cs_X9_143 _) (ci := 7) rfl (LW.o H0) (dep (show d + 0 + 8 + 1 ≤ (d + 9) from by omega) (Nat.le_of_ble_eq_true rfl)) dX9_happiness_2 rfl rfl (Nat.le_of_ble_eq_true rfl) hq rfl
  have hq := c_X9_personAt d (K := K) (I := I) H0 h2
  refine z_V1 [.int x1] [] (cs_X9_143 _) (ci := 7) rfl (LW.o H0) (dep (show d + 0 + 8 + 1 ≤ (d + 9) from by omega) (Nat.le_of_ble_eq_true rfl)) dX9_happiness_2 rfl rfl (Nat.le_of_ble_eq_true rfl) hq ?_
  obtain ⟨j3, hj3, h⟩ := b1_s h
  refine X.e2 (congrArg Value.ref (ckA_s hj3).2) ?_
  have hj3 := (ckA_s hj3).1
  refine z_getI fs_X9_165 (LM.po (LW.q H0) hj3) dX9_happiness_5 ?_
  cases h
  exact x_iret rfl dX9_happiness_8 ⟨rfl, rfl, rfl⟩
noncomputable def f_X9_shoppingLimit (I : Mem) (x0 : Nat) (x1 : Int32) : Option (Except String Int32) := e1 (f_X9_personAt I x0 x1) (fun E => some (.error E)) fun v1 => b1 (ckA v1 (x0 + 37 + 4) 6) fun j3 => some (.ok (I ((x0 + 37 + 4) + j3) 5))
theorem c_X9_shoppingLimit (d : Nat) {K : Kt} {I : Mem} {x0 : Nat} (H0 : LW K x0) {x1 : Int32} {x : Except String Int32} (h : f_X9_shoppingLimit I x0 x1 = some x) : Ct (mX9_shoppingLimit (d + 9)) cX9_shoppingLimit (cst x) (cs6 x) [.ref x0, .int x1] I K (Ro (rI x) I K) := by
  refine Ct.of rfl pn_X9 (catR (catI cat0)) (Nat.le_of_ble_eq_true rfl) (show X _ _ _ _ _ _ 0 [.ref x0, .int x1] [] _ from ?_)
  unfold f_X9_shoppingLimit at h
  refine x_aloadn dX9_shoppingLimit_0 rfl ?_
  refine x_iloadn dX9_shoppingLimit_1 rfl ?_
  rcases e1_s h with ⟨v1, h2, h⟩ | ⟨E, h2, h⟩
  rotate_left
  · have hq := c_X9_personAt d (K := K) (I := I) H0 h2
    cases h
    exact z_Ve [.int x1] [] (cs_X9_143 _) (ci := 7) rfl (LW.o H0) (dep (show d + 0 + 8 + 1 ≤ (d + 9) from by omega) (Nat.le_of_ble_eq_true rfl)) dX9_shoppingLimit_2 rfl rfl (Nat.le_of_ble_eq_true rfl) hq rfl
  have hq := c_X9_personAt d (K := K) (I := I) H0 h2
  refine z_V1 [.int x1] [] (cs_X9_143 _) (ci := 7) rfl (LW.o H0) (dep (show d + 0 + 8 + 1 ≤ (d + 9) from by omega) (Nat.le_of_ble_eq_true rfl)) dX9_shoppingLimit_2 rfl rfl (Nat.le_of_ble_eq_true rfl) hq ?_
  obtain ⟨j3, hj3, h⟩ := b1_s h
  refine X.e2 (congrArg Value.ref (ckA_s hj3).2) ?_
  have hj3 := (ckA_s hj3).1
  refine z_getI fs_X9_174 (LM.po (LW.q H0) hj3) dX9_shoppingLimit_5 ?_
  cases h
  exact x_iret rfl dX9_shoppingLimit_8 ⟨rfl, rfl, rfl⟩
noncomputable def f_X9_daysUntilBirthday (I : Mem) (x0 : Nat) (x1 : Int32) : Option (Except String Int32) := e1 (f_X9_personAt I x0 x1) (fun E => some (.error E)) fun v1 => b1 (ckA v1 (x0 + 37 + 4) 6) fun j3 => b1 (f_X3_today I (x0 + 37)) fun v4 => if 0 ≤ ((I ((x0 + 37 + 4) + j3) 2) - v4) then (some (.ok ((I ((x0 + 37 + 4) + j3) 2) - v4))) else (some (.ok (((I ((x0 + 37 + 4) + j3) 2) - v4) + (I (x0 + 37) 7))))
theorem c_X9_daysUntilBirthday (d : Nat) {K : Kt} {I : Mem} {x0 : Nat} (H0 : LW K x0) {x1 : Int32} {x : Except String Int32} (h : f_X9_daysUntilBirthday I x0 x1 = some x) : Ct (mX9_daysUntilBirthday (d + 9)) cX9_daysUntilBirthday (cst x) (cs6 x) [.ref x0, .int x1] I K (Ro (rI x) I K) := by
  refine Ct.of rfl pn_X9 (catR (catI cat0)) (Nat.le_of_ble_eq_true rfl) (show X _ _ _ _ _ _ 0 [.ref x0, .int x1, .retAddr 0] [] _ from ?_)
  unfold f_X9_daysUntilBirthday at h
  refine x_aloadn dX9_daysUntilBirthday_0 rfl ?_
  refine x_iloadn dX9_daysUntilBirthday_1 rfl ?_
  rcases e1_s h with ⟨v1, h2, h⟩ | ⟨E, h2, h⟩
  rotate_left
  · have hq := c_X9_personAt d (K := K) (I := I) H0 h2
    cases h
    exact z_Ve [.int x1] [] (cs_X9_143 _) (ci := 7) rfl (LW.o H0) (dep (show d + 0 + 8 + 1 ≤ (d + 9) from by omega) (Nat.le_of_ble_eq_true rfl)) dX9_daysUntilBirthday_2 rfl rfl (Nat.le_of_ble_eq_true rfl) hq rfl
  have hq := c_X9_personAt d (K := K) (I := I) H0 h2
  refine z_V1 [.int x1] [] (cs_X9_143 _) (ci := 7) rfl (LW.o H0) (dep (show d + 0 + 8 + 1 ≤ (d + 9) from by omega) (Nat.le_of_ble_eq_true rfl)) dX9_daysUntilBirthday_2 rfl rfl (Nat.le_of_ble_eq_true rfl) hq ?_
  obtain ⟨j3, hj3, h⟩ := b1_s h
  refine X.e2 (congrArg Value.ref (ckA_s hj3).2) ?_
  have hj3 := (ckA_s hj3).1
  refine z_getI fs_X9_159 (LM.po (LW.q H0) hj3) dX9_daysUntilBirthday_5 ?_
  refine x_aloadn dX9_daysUntilBirthday_8 rfl ?_
  refine z_getR fs_X9_19 (LW.o H0) (LW.g1 H0) dX9_daysUntilBirthday_9 ?_
  obtain ⟨v4, h5, h⟩ := b1_s h
  refine z_V1 [] [.int (I ((x0 + 37 + 4) + j3) 2)] (cs_X9_107 _) (ci := 1) rfl (LM.o (LW.q H0)) (dep (show d + 8 + 0 + 1 ≤ (d + 9) from by omega) (Nat.le_of_ble_eq_true rfl)) dX9_daysUntilBirthday_12 rfl rfl (Nat.le_of_ble_eq_true rfl) (c_X3_today (d + 8) (K := K) (I := I) (LW.q H0) h5) ?_
  refine x_isub dX9_daysUntilBirthday_15 ?_
  refine x_istoren dX9_daysUntilBirthday_16 (Nat.le_of_ble_eq_true rfl) rfl rfl ?_
  refine x_iloadn dX9_daysUntilBirthday_17 rfl ?_
  refine x_if_ge 33 dX9_daysUntilBirthday_18 rfl (fun hc => ?_) (fun hc => ?_)
  · have h := ifT hc h
    refine x_iloadn dX9_daysUntilBirthday_33 rfl ?_
    cases h
    exact x_iret rfl dX9_daysUntilBirthday_34 ⟨rfl, rfl, rfl⟩
  have h := ifF hc h
  refine x_iloadn dX9_daysUntilBirthday_21 rfl ?_
  refine x_aloadn dX9_daysUntilBirthday_22 rfl ?_
  refine z_getR fs_X9_19 (LW.o H0) (LW.g1 H0) dX9_daysUntilBirthday_23 ?_
  refine z_getI fs_X9_104 (LM.o (LW.q H0)) dX9_daysUntilBirthday_26 ?_
  refine x_iadd dX9_daysUntilBirthday_29 ?_
  refine x_goto 34 dX9_daysUntilBirthday_30 rfl ?_
  cases h
  exact x_iret rfl dX9_daysUntilBirthday_34 ⟨rfl, rfl, rfl⟩
noncomputable def f_X9_stallCount (I : Mem) (x0 : Nat) : Option (Except String Int32) := e1 (f_X9_loadedMarket I x0) (fun E => some (.error E)) fun v1 => b1 (ckE v1 (x0 + 37)) fun _ => some (.ok (I (x0 + 37) 4))
theorem c_X9_stallCount (d : Nat) {K : Kt} {I : Mem} {x0 : Nat} (H0 : LW K x0) {x : Except String Int32} (h : f_X9_stallCount I x0 = some x) : Ct (mX9_stallCount (d + 7)) cX9_stallCount (cst x) (cs6 x) [.ref x0] I K (Ro (rI x) I K) := by
  refine Ct.of rfl pn_X9 (catR cat0) (Nat.le_of_ble_eq_true rfl) (show X _ _ _ _ _ _ 0 [.ref x0] [] _ from ?_)
  unfold f_X9_stallCount at h
  refine x_aloadn dX9_stallCount_0 rfl ?_
  rcases e1_s h with ⟨v1, h2, h⟩ | ⟨E, h2, h⟩
  rotate_left
  · have hq := c_X9_loadedMarket d (K := K) (I := I) H0 h2
    cases h
    exact z_Ve [] [] (cs_X9_97 _) (ci := 7) rfl (LW.o H0) (dep (show d + 0 + 6 + 1 ≤ (d + 7) from by omega) (Nat.le_of_ble_eq_true rfl)) dX9_stallCount_1 rfl rfl (Nat.le_of_ble_eq_true rfl) hq rfl
  have hq := c_X9_loadedMarket d (K := K) (I := I) H0 h2
  refine z_V1 [] [] (cs_X9_97 _) (ci := 7) rfl (LW.o H0) (dep (show d + 0 + 6 + 1 ≤ (d + 7) from by omega) (Nat.le_of_ble_eq_true rfl)) dX9_stallCount_1 rfl rfl (Nat.le_of_ble_eq_true rfl) hq ?_
  obtain ⟨u3, hu3, h⟩ := b1_s h
  refine X.e2 (congrArg Value.ref (ckE_s hu3)) ?_
  refine z_getI fs_X9_177 (LM.o (LW.q H0)) dX9_stallCount_4 ?_
  cases h
  exact x_iret rfl dX9_stallCount_7 ⟨rfl, rfl, rfl⟩
noncomputable def f_X9_checkStall (I : Mem) (x0 : Nat) (x1 : Int32) : Option (Except String Unit) := e1 (f_X9_loadedMarket I x0) (fun E => some (.error E)) fun v1 => b1 (ckE v1 (x0 + 37)) fun _ => e1 (f_X9_checkIndex x1 (I (x0 + 37) 4)) (fun E => some (.error E)) fun u4 => some (.ok ())
theorem c_X9_checkStall (d : Nat) {K : Kt} {I : Mem} {x0 : Nat} (H0 : LW K x0) {x1 : Int32} {x : Except String Unit} (h : f_X9_checkStall I x0 x1 = some x) : Ct (mX9_checkStall (d + 7)) cX9_checkStall (cst x) (cs6 x) [.ref x0, .int x1] I K (Ro (rV x) I K) := by
  refine Ct.of rfl pn_X9 (catR (catI cat0)) (Nat.le_of_ble_eq_true rfl) (show X _ _ _ _ _ _ 0 [.ref x0, .int x1] [] _ from ?_)
  unfold f_X9_checkStall at h
  refine x_iloadn dX9_checkStall_0 rfl ?_
  refine x_aloadn dX9_checkStall_1 rfl ?_
  rcases e1_s h with ⟨v1, h2, h⟩ | ⟨E, h2, h⟩
  rotate_left
  · have hq := c_X9_loadedMarket d (K := K) (I := I) H0 h2
    cases h
    exact z_Ve [] [.int x1] (cs_X9_97 _) (ci := 7) rfl (LW.o H0) (dep (show d + 0 + 6 + 1 ≤ (d + 7) from by omega) (Nat.le_of_ble_eq_true rfl)) dX9_checkStall_2 rfl rfl (Nat.le_of_ble_eq_true rfl) hq rfl
  have hq := c_X9_loadedMarket d (K := K) (I := I) H0 h2
  refine z_V1 [] [.int x1] (cs_X9_97 _) (ci := 7) rfl (LW.o H0) (dep (show d + 0 + 6 + 1 ≤ (d + 7) from by omega) (Nat.le_of_ble_eq_true rfl)) dX9_checkStall_2 rfl rfl (Nat.le_of_ble_eq_true rfl) hq ?_
  obtain ⟨u3, hu3, h⟩ := b1_s h
  refine X.e2 (congrArg Value.ref (ckE_s hu3)) ?_
  refine z_getI fs_X9_177 (LM.o (LW.q H0)) dX9_checkStall_5 ?_
  rcases e1_s h with ⟨u4, h5, h⟩ | ⟨E, h5, h⟩
  rotate_left
  · have hq := c_X9_checkIndex d (K := K) (I := I) h5
    cases h
    exact z_Se [.int x1, .int (I (x0 + 37) 4)] [] (cs_X9_334 _) (dep (show d + 0 + 6 + 1 ≤ (d + 7) from by omega) (Nat.le_of_ble_eq_true rfl)) dX9_checkStall_8 rfl rfl (Nat.le_of_ble_eq_true rfl) hq rfl
  have hq := c_X9_checkIndex d (K := K) (I := I) h5
  refine z_S0 [.int x1, .int (I (x0 + 37) 4)] [] (cs_X9_334 _) (dep (show d + 0 + 6 + 1 ≤ (d + 7) from by omega) (Nat.le_of_ble_eq_true rfl)) dX9_checkStall_8 rfl rfl (Nat.le_of_ble_eq_true rfl) hq ?_
  cases h
  exact x_vret rfl dX9_checkStall_11 ⟨rfl, rfl, rfl⟩
noncomputable def f_X9_stallAt (I : Mem) (x0 : Nat) (x1 : Int32) : Option (Except String Nat) := e1 (f_X9_checkStall I x0 x1) (fun E => some (.error E)) fun u1 => b1 (ix x1 5) fun j3 => some (.ok ((x0 + 37) + 10 + j3))
theorem c_X9_stallAt (d : Nat) {K : Kt} {I : Mem} {x0 : Nat} (H0 : LW K x0) {x1 : Int32} {x : Except String Nat} (h : f_X9_stallAt I x0 x1 = some x) : Ct (mX9_stallAt (d + 8)) cX9_stallAt (cst x) (cs6 x) [.ref x0, .int x1] I K (Ro (rR x) I K) := by
  refine Ct.of rfl pn_X9 (catR (catI cat0)) (Nat.le_of_ble_eq_true rfl) (show X _ _ _ _ _ _ 0 [.ref x0, .int x1] [] _ from ?_)
  unfold f_X9_stallAt at h
  refine x_aloadn dX9_stallAt_0 rfl ?_
  refine x_iloadn dX9_stallAt_1 rfl ?_
  rcases e1_s h with ⟨u1, h2, h⟩ | ⟨E, h2, h⟩
  rotate_left
  · have hq := c_X9_checkStall d (K := K) (I := I) H0 h2
    cases h
    exact z_Ve [.int x1] [] (cs_X9_195 _) (ci := 7) rfl (LW.o H0) (dep (show d + 0 + 7 + 1 ≤ (d + 8) from by omega) (Nat.le_of_ble_eq_true rfl)) dX9_stallAt_2 rfl rfl (Nat.le_of_ble_eq_true rfl) hq rfl
  have hq := c_X9_checkStall d (K := K) (I := I) H0 h2
  refine z_V0 [.int x1] [] (cs_X9_195 _) (ci := 7) rfl (LW.o H0) (dep (show d + 0 + 7 + 1 ≤ (d + 8) from by omega) (Nat.le_of_ble_eq_true rfl)) dX9_stallAt_2 rfl rfl (Nat.le_of_ble_eq_true rfl) hq ?_
  refine x_aloadn dX9_stallAt_5 rfl ?_
  refine z_getR fs_X9_19 (LW.o H0) (LW.g1 H0) dX9_stallAt_6 ?_
  refine z_getRG gs_X9_344 (LM.o (LW.q H0)) (LM.g1 (LW.q H0)) dX9_stallAt_9 ?_
  refine x_iloadn dX9_stallAt_12 rfl ?_
  obtain ⟨j3, hj3, h⟩ := b1_s h
  refine z_aald (LM.l1 (LW.q H0)) ⟨by decide, by decide⟩ hj3 (LM.s (LW.q H0) (ix_s hj3).2.1) dX9_stallAt_13 ?_
  cases h
  exact x_aret rfl (Or.inl ⟨_, rfl⟩) dX9_stallAt_14 ⟨rfl, rfl, rfl⟩
noncomputable def f_X9_cash (I : Mem) (x0 : Nat) (x1 : Int32) : Option (Except String Int32) := e1 (f_X9_stallAt I x0 x1) (fun E => some (.error E)) fun v1 => b1 (ckA v1 (x0 + 37 + 10) 5) fun j3 => some (.ok (I ((x0 + 37 + 10) + j3) 1))
theorem c_X9_cash (d : Nat) {K : Kt} {I : Mem} {x0 : Nat} (H0 : LW K x0) {x1 : Int32} {x : Except String Int32} (h : f_X9_cash I x0 x1 = some x) : Ct (mX9_cash (d + 9)) cX9_cash (cst x) (cs6 x) [.ref x0, .int x1] I K (Ro (rI x) I K) := by
  refine Ct.of rfl pn_X9 (catR (catI cat0)) (Nat.le_of_ble_eq_true rfl) (show X _ _ _ _ _ _ 0 [.ref x0, .int x1] [] _ from ?_)
  unfold f_X9_cash at h
  refine x_aloadn dX9_cash_0 rfl ?_
  refine x_iloadn dX9_cash_1 rfl ?_
  rcases e1_s h with ⟨v1, h2, h⟩ | ⟨E, h2, h⟩
  rotate_left
  · have hq := c_X9_stallAt d (K := K) (I := I) H0 h2
    cases h
    exact z_Ve [.int x1] [] (cs_X9_180 _) (ci := 7) rfl (LW.o H0) (dep (show d + 0 + 8 + 1 ≤ (d + 9) from by omega) (Nat.le_of_ble_eq_true rfl)) dX9_cash_2 rfl rfl (Nat.le_of_ble_eq_true rfl) hq rfl
  have hq := c_X9_stallAt d (K := K) (I := I) H0 h2
  refine z_V1 [.int x1] [] (cs_X9_180 _) (ci := 7) rfl (LW.o H0) (dep (show d + 0 + 8 + 1 ≤ (d + 9) from by omega) (Nat.le_of_ble_eq_true rfl)) dX9_cash_2 rfl rfl (Nat.le_of_ble_eq_true rfl) hq ?_
  obtain ⟨j3, hj3, h⟩ := b1_s h
  refine X.e2 (congrArg Value.ref (ckA_s hj3).2) ?_
  have hj3 := (ckA_s hj3).1
  refine z_getI fs_X9_184 (LM.so (LW.q H0) hj3) dX9_cash_5 ?_
  cases h
  exact x_iret rfl dX9_cash_8 ⟨rfl, rfl, rfl⟩
noncomputable def f_X9_stars (I : Mem) (x0 : Nat) (x1 : Int32) : Option (Except String Int32) := e1 (f_X9_stallAt I x0 x1) (fun E => some (.error E)) fun v1 => b1 (ckA v1 (x0 + 37 + 10) 5) fun j3 => some (.ok (I ((x0 + 37 + 10) + j3) 2))
theorem c_X9_stars (d : Nat) {K : Kt} {I : Mem} {x0 : Nat} (H0 : LW K x0) {x1 : Int32} {x : Except String Int32} (h : f_X9_stars I x0 x1 = some x) : Ct (mX9_stars (d + 9)) cX9_stars (cst x) (cs6 x) [.ref x0, .int x1] I K (Ro (rI x) I K) := by
  refine Ct.of rfl pn_X9 (catR (catI cat0)) (Nat.le_of_ble_eq_true rfl) (show X _ _ _ _ _ _ 0 [.ref x0, .int x1] [] _ from ?_)
  unfold f_X9_stars at h
  refine x_aloadn dX9_stars_0 rfl ?_
  refine x_iloadn dX9_stars_1 rfl ?_
  rcases e1_s h with ⟨v1, h2, h⟩ | ⟨E, h2, h⟩
  rotate_left
  · have hq := c_X9_stallAt d (K := K) (I := I) H0 h2
    cases h
    exact z_Ve [.int x1] [] (cs_X9_180 _) (ci := 7) rfl (LW.o H0) (dep (show d + 0 + 8 + 1 ≤ (d + 9) from by omega) (Nat.le_of_ble_eq_true rfl)) dX9_stars_2 rfl rfl (Nat.le_of_ble_eq_true rfl) hq rfl
  have hq := c_X9_stallAt d (K := K) (I := I) H0 h2
  refine z_V1 [.int x1] [] (cs_X9_180 _) (ci := 7) rfl (LW.o H0) (dep (show d + 0 + 8 + 1 ≤ (d + 9) from by omega) (Nat.le_of_ble_eq_true rfl)) dX9_stars_2 rfl rfl (Nat.le_of_ble_eq_true rfl) hq ?_
  obtain ⟨j3, hj3, h⟩ := b1_s h
  refine X.e2 (congrArg Value.ref (ckA_s hj3).2) ?_
  have hj3 := (ckA_s hj3).1
  refine z_getI fs_X9_189 (LM.so (LW.q H0) hj3) dX9_stars_5 ?_
  cases h
  exact x_iret rfl dX9_stars_8 ⟨rfl, rfl, rfl⟩
noncomputable def f_X9_margin (I : Mem) (x0 : Nat) (x1 : Int32) : Option (Except String Int32) := e1 (f_X9_stallAt I x0 x1) (fun E => some (.error E)) fun v1 => b1 (ckA v1 (x0 + 37 + 10) 5) fun j3 => some (.ok (I ((x0 + 37 + 10) + j3) 3))
theorem c_X9_margin (d : Nat) {K : Kt} {I : Mem} {x0 : Nat} (H0 : LW K x0) {x1 : Int32} {x : Except String Int32} (h : f_X9_margin I x0 x1 = some x) : Ct (mX9_margin (d + 9)) cX9_margin (cst x) (cs6 x) [.ref x0, .int x1] I K (Ro (rI x) I K) := by
  refine Ct.of rfl pn_X9 (catR (catI cat0)) (Nat.le_of_ble_eq_true rfl) (show X _ _ _ _ _ _ 0 [.ref x0, .int x1] [] _ from ?_)
  unfold f_X9_margin at h
  refine x_aloadn dX9_margin_0 rfl ?_
  refine x_iloadn dX9_margin_1 rfl ?_
  rcases e1_s h with ⟨v1, h2, h⟩ | ⟨E, h2, h⟩
  rotate_left
  · have hq := c_X9_stallAt d (K := K) (I := I) H0 h2
    cases h
    exact z_Ve [.int x1] [] (cs_X9_180 _) (ci := 7) rfl (LW.o H0) (dep (show d + 0 + 8 + 1 ≤ (d + 9) from by omega) (Nat.le_of_ble_eq_true rfl)) dX9_margin_2 rfl rfl (Nat.le_of_ble_eq_true rfl) hq rfl
  have hq := c_X9_stallAt d (K := K) (I := I) H0 h2
  refine z_V1 [.int x1] [] (cs_X9_180 _) (ci := 7) rfl (LW.o H0) (dep (show d + 0 + 8 + 1 ≤ (d + 9) from by omega) (Nat.le_of_ble_eq_true rfl)) dX9_margin_2 rfl rfl (Nat.le_of_ble_eq_true rfl) hq ?_
  obtain ⟨j3, hj3, h⟩ := b1_s h
  refine X.e2 (congrArg Value.ref (ckA_s hj3).2) ?_
  have hj3 := (ckA_s hj3).1
  refine z_getI fs_X9_192 (LM.so (LW.q H0) hj3) dX9_margin_5 ?_
  cases h
  exact x_iret rfl dX9_margin_8 ⟨rfl, rfl, rfl⟩
noncomputable def f_X9_checkWish (I : Mem) (x0 : Nat) (x1 : Int32) : Option (Except String Unit) := e1 (f_X9_loadedMarket I x0) (fun E => some (.error E)) fun v1 => b1 (ckE v1 (x0 + 37)) fun _ => e1 (f_X9_checkIndex x1 (I (x0 + 37) 5)) (fun E => some (.error E)) fun u4 => some (.ok ())
theorem c_X9_checkWish (d : Nat) {K : Kt} {I : Mem} {x0 : Nat} (H0 : LW K x0) {x1 : Int32} {x : Except String Unit} (h : f_X9_checkWish I x0 x1 = some x) : Ct (mX9_checkWish (d + 7)) cX9_checkWish (cst x) (cs6 x) [.ref x0, .int x1] I K (Ro (rV x) I K) := by
  refine Ct.of rfl pn_X9 (catR (catI cat0)) (Nat.le_of_ble_eq_true rfl) (show X _ _ _ _ _ _ 0 [.ref x0, .int x1] [] _ from ?_)
  unfold f_X9_checkWish at h
  refine x_iloadn dX9_checkWish_0 rfl ?_
  refine x_aloadn dX9_checkWish_1 rfl ?_
  rcases e1_s h with ⟨v1, h2, h⟩ | ⟨E, h2, h⟩
  rotate_left
  · have hq := c_X9_loadedMarket d (K := K) (I := I) H0 h2
    cases h
    exact z_Ve [] [.int x1] (cs_X9_97 _) (ci := 7) rfl (LW.o H0) (dep (show d + 0 + 6 + 1 ≤ (d + 7) from by omega) (Nat.le_of_ble_eq_true rfl)) dX9_checkWish_2 rfl rfl (Nat.le_of_ble_eq_true rfl) hq rfl
  have hq := c_X9_loadedMarket d (K := K) (I := I) H0 h2
  refine z_V1 [] [.int x1] (cs_X9_97 _) (ci := 7) rfl (LW.o H0) (dep (show d + 0 + 6 + 1 ≤ (d + 7) from by omega) (Nat.le_of_ble_eq_true rfl)) dX9_checkWish_2 rfl rfl (Nat.le_of_ble_eq_true rfl) hq ?_
  obtain ⟨u3, hu3, h⟩ := b1_s h
  refine X.e2 (congrArg Value.ref (ckE_s hu3)) ?_
  refine z_getI fs_X9_88 (LM.o (LW.q H0)) dX9_checkWish_5 ?_
  rcases e1_s h with ⟨u4, h5, h⟩ | ⟨E, h5, h⟩
  rotate_left
  · have hq := c_X9_checkIndex d (K := K) (I := I) h5
    cases h
    exact z_Se [.int x1, .int (I (x0 + 37) 5)] [] (cs_X9_334 _) (dep (show d + 0 + 6 + 1 ≤ (d + 7) from by omega) (Nat.le_of_ble_eq_true rfl)) dX9_checkWish_8 rfl rfl (Nat.le_of_ble_eq_true rfl) hq rfl
  have hq := c_X9_checkIndex d (K := K) (I := I) h5
  refine z_S0 [.int x1, .int (I (x0 + 37) 5)] [] (cs_X9_334 _) (dep (show d + 0 + 6 + 1 ≤ (d + 7) from by omega) (Nat.le_of_ble_eq_true rfl)) dX9_checkWish_8 rfl rfl (Nat.le_of_ble_eq_true rfl) hq ?_
  cases h
  exact x_vret rfl dX9_checkWish_11 ⟨rfl, rfl, rfl⟩
noncomputable def f_X9_wishAt (I : Mem) (x0 : Nat) (x1 : Int32) : Option (Except String Nat) := e1 (f_X9_checkWish I x0 x1) (fun E => some (.error E)) fun u1 => b1 (ix x1 16) fun j3 => some (.ok ((x0 + 37) + 15 + j3))
theorem c_X9_wishAt (d : Nat) {K : Kt} {I : Mem} {x0 : Nat} (H0 : LW K x0) {x1 : Int32} {x : Except String Nat} (h : f_X9_wishAt I x0 x1 = some x) : Ct (mX9_wishAt (d + 8)) cX9_wishAt (cst x) (cs6 x) [.ref x0, .int x1] I K (Ro (rR x) I K) := by
  refine Ct.of rfl pn_X9 (catR (catI cat0)) (Nat.le_of_ble_eq_true rfl) (show X _ _ _ _ _ _ 0 [.ref x0, .int x1] [] _ from ?_)
  unfold f_X9_wishAt at h
  refine x_aloadn dX9_wishAt_0 rfl ?_
  refine x_iloadn dX9_wishAt_1 rfl ?_
  rcases e1_s h with ⟨u1, h2, h⟩ | ⟨E, h2, h⟩
  rotate_left
  · have hq := c_X9_checkWish d (K := K) (I := I) H0 h2
    cases h
    exact z_Ve [.int x1] [] (cs_X9_235 _) (ci := 7) rfl (LW.o H0) (dep (show d + 0 + 7 + 1 ≤ (d + 8) from by omega) (Nat.le_of_ble_eq_true rfl)) dX9_wishAt_2 rfl rfl (Nat.le_of_ble_eq_true rfl) hq rfl
  have hq := c_X9_checkWish d (K := K) (I := I) H0 h2
  refine z_V0 [.int x1] [] (cs_X9_235 _) (ci := 7) rfl (LW.o H0) (dep (show d + 0 + 7 + 1 ≤ (d + 8) from by omega) (Nat.le_of_ble_eq_true rfl)) dX9_wishAt_2 rfl rfl (Nat.le_of_ble_eq_true rfl) hq ?_
  refine x_aloadn dX9_wishAt_5 rfl ?_
  refine z_getR fs_X9_19 (LW.o H0) (LW.g1 H0) dX9_wishAt_6 ?_
  refine z_getRG gs_X9_241 (LM.o (LW.q H0)) (LM.g2 (LW.q H0)) dX9_wishAt_9 ?_
  refine x_iloadn dX9_wishAt_12 rfl ?_
  obtain ⟨j3, hj3, h⟩ := b1_s h
  refine z_aald (LM.l2 (LW.q H0)) ⟨by decide, by decide⟩ hj3 (LM.w (LW.q H0) (ix_s hj3).2.1) dX9_wishAt_13 ?_
  cases h
  exact x_aret rfl (Or.inl ⟨_, rfl⟩) dX9_wishAt_14 ⟨rfl, rfl, rfl⟩
noncomputable def f_X9_wear (I : Mem) (x0 : Nat) (x1 : Int32) : Option (Except String Int32) := e1 (f_X9_wishAt I x0 x1) (fun E => some (.error E)) fun v1 => b1 (ckA v1 (x0 + 37 + 15) 16) fun j3 => some (.ok (I ((x0 + 37 + 15) + j3) 3))
theorem c_X9_wear (d : Nat) {K : Kt} {I : Mem} {x0 : Nat} (H0 : LW K x0) {x1 : Int32} {x : Except String Int32} (h : f_X9_wear I x0 x1 = some x) : Ct (mX9_wear (d + 9)) cX9_wear (cst x) (cs6 x) [.ref x0, .int x1] I K (Ro (rI x) I K) := by
  refine Ct.of rfl pn_X9 (catR (catI cat0)) (Nat.le_of_ble_eq_true rfl) (show X _ _ _ _ _ _ 0 [.ref x0, .int x1] [] _ from ?_)
  unfold f_X9_wear at h
  refine x_aloadn dX9_wear_0 rfl ?_
  refine x_iloadn dX9_wear_1 rfl ?_
  rcases e1_s h with ⟨v1, h2, h⟩ | ⟨E, h2, h⟩
  rotate_left
  · have hq := c_X9_wishAt d (K := K) (I := I) H0 h2
    cases h
    exact z_Ve [.int x1] [] (cs_X9_201 _) (ci := 7) rfl (LW.o H0) (dep (show d + 0 + 8 + 1 ≤ (d + 9) from by omega) (Nat.le_of_ble_eq_true rfl)) dX9_wear_2 rfl rfl (Nat.le_of_ble_eq_true rfl) hq rfl
  have hq := c_X9_wishAt d (K := K) (I := I) H0 h2
  refine z_V1 [.int x1] [] (cs_X9_201 _) (ci := 7) rfl (LW.o H0) (dep (show d + 0 + 8 + 1 ≤ (d + 9) from by omega) (Nat.le_of_ble_eq_true rfl)) dX9_wear_2 rfl rfl (Nat.le_of_ble_eq_true rfl) hq ?_
  obtain ⟨j3, hj3, h⟩ := b1_s h
  refine X.e2 (congrArg Value.ref (ckA_s hj3).2) ?_
  have hj3 := (ckA_s hj3).1
  refine z_getI fs_X9_214 (LM.wo (LW.q H0) hj3) dX9_wear_5 ?_
  cases h
  exact x_iret rfl dX9_wear_8 ⟨rfl, rfl, rfl⟩
noncomputable def f_X9_value (I : Mem) (x0 : Nat) (x1 : Int32) : Option (Except String Int32) := e1 (f_X9_wishAt I x0 x1) (fun E => some (.error E)) fun v1 => b1 (ckA v1 (x0 + 37 + 15) 16) fun j3 => b1 (f_X8_worth I ((x0 + 37 + 15) + j3)) fun v4 => some (.ok v4)
theorem c_X9_value (d : Nat) {K : Kt} {I : Mem} {x0 : Nat} (H0 : LW K x0) {x1 : Int32} {x : Except String Int32} (h : f_X9_value I x0 x1 = some x) : Ct (mX9_value (d + 9)) cX9_value (cst x) (cs6 x) [.ref x0, .int x1] I K (Ro (rI x) I K) := by
  refine Ct.of rfl pn_X9 (catR (catI cat0)) (Nat.le_of_ble_eq_true rfl) (show X _ _ _ _ _ _ 0 [.ref x0, .int x1] [] _ from ?_)
  unfold f_X9_value at h
  refine x_aloadn dX9_value_0 rfl ?_
  refine x_iloadn dX9_value_1 rfl ?_
  rcases e1_s h with ⟨v1, h2, h⟩ | ⟨E, h2, h⟩
  rotate_left
  · have hq := c_X9_wishAt d (K := K) (I := I) H0 h2
    cases h
    exact z_Ve [.int x1] [] (cs_X9_201 _) (ci := 7) rfl (LW.o H0) (dep (show d + 0 + 8 + 1 ≤ (d + 9) from by omega) (Nat.le_of_ble_eq_true rfl)) dX9_value_2 rfl rfl (Nat.le_of_ble_eq_true rfl) hq rfl
  have hq := c_X9_wishAt d (K := K) (I := I) H0 h2
  refine z_V1 [.int x1] [] (cs_X9_201 _) (ci := 7) rfl (LW.o H0) (dep (show d + 0 + 8 + 1 ≤ (d + 9) from by omega) (Nat.le_of_ble_eq_true rfl)) dX9_value_2 rfl rfl (Nat.le_of_ble_eq_true rfl) hq ?_
  obtain ⟨j3, hj3, h⟩ := b1_s h
  refine X.e2 (congrArg Value.ref (ckA_s hj3).2) ?_
  have hj3 := (ckA_s hj3).1
  obtain ⟨v4, h5, h⟩ := b1_s h
  refine z_V1 [] [] (cs_X9_217 _) (ci := 6) rfl (LM.wo (LW.q H0) hj3) (dep (show d + 8 + 0 + 1 ≤ (d + 9) from by omega) (Nat.le_of_ble_eq_true rfl)) dX9_value_5 rfl rfl (Nat.le_of_ble_eq_true rfl) (c_X8_worth (d + 8) (K := K) (I := I) (LM.wo (LW.q H0) hj3) h5) ?_
  cases h
  exact x_iret rfl dX9_value_8 ⟨rfl, rfl, rfl⟩
noncomputable def f_X9_owner (I : Mem) (x0 : Nat) (x1 : Int32) : Option (Except String Int32) := e1 (f_X9_wishAt I x0 x1) (fun E => some (.error E)) fun v1 => b1 (ckA v1 (x0 + 37 + 15) 16) fun j3 => some (.ok (I ((x0 + 37 + 15) + j3) 5))
theorem c_X9_owner (d : Nat) {K : Kt} {I : Mem} {x0 : Nat} (H0 : LW K x0) {x1 : Int32} {x : Except String Int32} (h : f_X9_owner I x0 x1 = some x) : Ct (mX9_owner (d + 9)) cX9_owner (cst x) (cs6 x) [.ref x0, .int x1] I K (Ro (rI x) I K) := by
  refine Ct.of rfl pn_X9 (catR (catI cat0)) (Nat.le_of_ble_eq_true rfl) (show X _ _ _ _ _ _ 0 [.ref x0, .int x1] [] _ from ?_)
  unfold f_X9_owner at h
  refine x_aloadn dX9_owner_0 rfl ?_
  refine x_iloadn dX9_owner_1 rfl ?_
  rcases e1_s h with ⟨v1, h2, h⟩ | ⟨E, h2, h⟩
  rotate_left
  · have hq := c_X9_wishAt d (K := K) (I := I) H0 h2
    cases h
    exact z_Ve [.int x1] [] (cs_X9_201 _) (ci := 7) rfl (LW.o H0) (dep (show d + 0 + 8 + 1 ≤ (d + 9) from by omega) (Nat.le_of_ble_eq_true rfl)) dX9_owner_2 rfl rfl (Nat.le_of_ble_eq_true rfl) hq rfl
  have hq := c_X9_wishAt d (K := K) (I := I) H0 h2
  refine z_V1 [.int x1] [] (cs_X9_201 _) (ci := 7) rfl (LW.o H0) (dep (show d + 0 + 8 + 1 ≤ (d + 9) from by omega) (Nat.le_of_ble_eq_true rfl)) dX9_owner_2 rfl rfl (Nat.le_of_ble_eq_true rfl) hq ?_
  obtain ⟨j3, hj3, h⟩ := b1_s h
  refine X.e2 (congrArg Value.ref (ckA_s hj3).2) ?_
  have hj3 := (ckA_s hj3).1
  refine z_getI fs_X9_220 (LM.wo (LW.q H0) hj3) dX9_owner_5 ?_
  cases h
  exact x_iret rfl dX9_owner_8 ⟨rfl, rfl, rfl⟩
noncomputable def f_X9_stallOf (I : Mem) (x0 : Nat) (x1 : Int32) : Option (Except String Int32) := e1 (f_X9_wishAt I x0 x1) (fun E => some (.error E)) fun v1 => b1 (ckA v1 (x0 + 37 + 15) 16) fun j3 => some (.ok (I ((x0 + 37 + 15) + j3) 4))
theorem c_X9_stallOf (d : Nat) {K : Kt} {I : Mem} {x0 : Nat} (H0 : LW K x0) {x1 : Int32} {x : Except String Int32} (h : f_X9_stallOf I x0 x1 = some x) : Ct (mX9_stallOf (d + 9)) cX9_stallOf (cst x) (cs6 x) [.ref x0, .int x1] I K (Ro (rI x) I K) := by
  refine Ct.of rfl pn_X9 (catR (catI cat0)) (Nat.le_of_ble_eq_true rfl) (show X _ _ _ _ _ _ 0 [.ref x0, .int x1] [] _ from ?_)
  unfold f_X9_stallOf at h
  refine x_aloadn dX9_stallOf_0 rfl ?_
  refine x_iloadn dX9_stallOf_1 rfl ?_
  rcases e1_s h with ⟨v1, h2, h⟩ | ⟨E, h2, h⟩
  rotate_left
  · have hq := c_X9_wishAt d (K := K) (I := I) H0 h2
    cases h
    exact z_Ve [.int x1] [] (cs_X9_201 _) (ci := 7) rfl (LW.o H0) (dep (show d + 0 + 8 + 1 ≤ (d + 9) from by omega) (Nat.le_of_ble_eq_true rfl)) dX9_stallOf_2 rfl rfl (Nat.le_of_ble_eq_true rfl) hq rfl
  have hq := c_X9_wishAt d (K := K) (I := I) H0 h2
  refine z_V1 [.int x1] [] (cs_X9_201 _) (ci := 7) rfl (LW.o H0) (dep (show d + 0 + 8 + 1 ≤ (d + 9) from by omega) (Nat.le_of_ble_eq_true rfl)) dX9_stallOf_2 rfl rfl (Nat.le_of_ble_eq_true rfl) hq ?_
  obtain ⟨j3, hj3, h⟩ := b1_s h
  refine X.e2 (congrArg Value.ref (ckA_s hj3).2) ?_
  have hj3 := (ckA_s hj3).1
  refine z_getI fs_X9_223 (LM.wo (LW.q H0) hj3) dX9_stallOf_5 ?_
  cases h
  exact x_iret rfl dX9_stallOf_8 ⟨rfl, rfl, rfl⟩
noncomputable def f_X9_isGranted (I : Mem) (x0 : Nat) (x1 : Int32) : Option (Except String Int32) := e1 (f_X9_wishAt I x0 x1) (fun E => some (.error E)) fun v1 => b1 (ckA v1 (x0 + 37 + 15) 16) fun j3 => b1 (cB (I ((x0 + 37 + 15) + j3) 6)) fun _ => some (.ok (I ((x0 + 37 + 15) + j3) 6))
theorem c_X9_isGranted (d : Nat) {K : Kt} {I : Mem} {x0 : Nat} (H0 : LW K x0) {x1 : Int32} {x : Except String Int32} (h : f_X9_isGranted I x0 x1 = some x) : Ct (mX9_isGranted (d + 9)) cX9_isGranted (cst x) (cs6 x) [.ref x0, .int x1] I K (Ro (rI x) I K) := by
  refine Ct.of rfl pn_X9 (catR (catI cat0)) (Nat.le_of_ble_eq_true rfl) (show X _ _ _ _ _ _ 0 [.ref x0, .int x1] [] _ from ?_)
  unfold f_X9_isGranted at h
  refine x_aloadn dX9_isGranted_0 rfl ?_
  refine x_iloadn dX9_isGranted_1 rfl ?_
  rcases e1_s h with ⟨v1, h2, h⟩ | ⟨E, h2, h⟩
  rotate_left
  · have hq := c_X9_wishAt d (K := K) (I := I) H0 h2
    cases h
    exact z_Ve [.int x1] [] (cs_X9_201 _) (ci := 7) rfl (LW.o H0) (dep (show d + 0 + 8 + 1 ≤ (d + 9) from by omega) (Nat.le_of_ble_eq_true rfl)) dX9_isGranted_2 rfl rfl (Nat.le_of_ble_eq_true rfl) hq rfl
  have hq := c_X9_wishAt d (K := K) (I := I) H0 h2
  refine z_V1 [.int x1] [] (cs_X9_201 _) (ci := 7) rfl (LW.o H0) (dep (show d + 0 + 8 + 1 ≤ (d + 9) from by omega) (Nat.le_of_ble_eq_true rfl)) dX9_isGranted_2 rfl rfl (Nat.le_of_ble_eq_true rfl) hq ?_
  obtain ⟨j3, hj3, h⟩ := b1_s h
  refine X.e2 (congrArg Value.ref (ckA_s hj3).2) ?_
  have hj3 := (ckA_s hj3).1
  refine z_getI fs_X9_226 (LM.wo (LW.q H0) hj3) dX9_isGranted_5 ?_
  obtain ⟨u4, hu4, h⟩ := b1_s h
  cases h
  exact x_zret rfl (nar_b hu4) dX9_isGranted_8 ⟨rfl, rfl, rfl⟩
noncomputable def f_X9_purchaseDay (I : Mem) (x0 : Nat) (x1 : Int32) : Option (Except String Int32) := e1 (f_X9_wishAt I x0 x1) (fun E => some (.error E)) fun v1 => b1 (ckA v1 (x0 + 37 + 15) 16) fun j3 => some (.ok (I ((x0 + 37 + 15) + j3) 8))
theorem c_X9_purchaseDay (d : Nat) {K : Kt} {I : Mem} {x0 : Nat} (H0 : LW K x0) {x1 : Int32} {x : Except String Int32} (h : f_X9_purchaseDay I x0 x1 = some x) : Ct (mX9_purchaseDay (d + 9)) cX9_purchaseDay (cst x) (cs6 x) [.ref x0, .int x1] I K (Ro (rI x) I K) := by
  refine Ct.of rfl pn_X9 (catR (catI cat0)) (Nat.le_of_ble_eq_true rfl) (show X _ _ _ _ _ _ 0 [.ref x0, .int x1] [] _ from ?_)
  unfold f_X9_purchaseDay at h
  refine x_aloadn dX9_purchaseDay_0 rfl ?_
  refine x_iloadn dX9_purchaseDay_1 rfl ?_
  rcases e1_s h with ⟨v1, h2, h⟩ | ⟨E, h2, h⟩
  rotate_left
  · have hq := c_X9_wishAt d (K := K) (I := I) H0 h2
    cases h
    exact z_Ve [.int x1] [] (cs_X9_201 _) (ci := 7) rfl (LW.o H0) (dep (show d + 0 + 8 + 1 ≤ (d + 9) from by omega) (Nat.le_of_ble_eq_true rfl)) dX9_purchaseDay_2 rfl rfl (Nat.le_of_ble_eq_true rfl) hq rfl
  have hq := c_X9_wishAt d (K := K) (I := I) H0 h2
  refine z_V1 [.int x1] [] (cs_X9_201 _) (ci := 7) rfl (LW.o H0) (dep (show d + 0 + 8 + 1 ≤ (d + 9) from by omega) (Nat.le_of_ble_eq_true rfl)) dX9_purchaseDay_2 rfl rfl (Nat.le_of_ble_eq_true rfl) hq ?_
  obtain ⟨j3, hj3, h⟩ := b1_s h
  refine X.e2 (congrArg Value.ref (ckA_s hj3).2) ?_
  have hj3 := (ckA_s hj3).1
  refine z_getI fs_X9_229 (LM.wo (LW.q H0) hj3) dX9_purchaseDay_5 ?_
  cases h
  exact x_iret rfl dX9_purchaseDay_8 ⟨rfl, rfl, rfl⟩
noncomputable def f_X9_purchasePrice (I : Mem) (x0 : Nat) (x1 : Int32) : Option (Except String Int32) := e1 (f_X9_wishAt I x0 x1) (fun E => some (.error E)) fun v1 => b1 (ckA v1 (x0 + 37 + 15) 16) fun j3 => some (.ok (I ((x0 + 37 + 15) + j3) 9))
theorem c_X9_purchasePrice (d : Nat) {K : Kt} {I : Mem} {x0 : Nat} (H0 : LW K x0) {x1 : Int32} {x : Except String Int32} (h : f_X9_purchasePrice I x0 x1 = some x) : Ct (mX9_purchasePrice (d + 9)) cX9_purchasePrice (cst x) (cs6 x) [.ref x0, .int x1] I K (Ro (rI x) I K) := by
  refine Ct.of rfl pn_X9 (catR (catI cat0)) (Nat.le_of_ble_eq_true rfl) (show X _ _ _ _ _ _ 0 [.ref x0, .int x1] [] _ from ?_)
  unfold f_X9_purchasePrice at h
  refine x_aloadn dX9_purchasePrice_0 rfl ?_
  refine x_iloadn dX9_purchasePrice_1 rfl ?_
  rcases e1_s h with ⟨v1, h2, h⟩ | ⟨E, h2, h⟩
  rotate_left
  · have hq := c_X9_wishAt d (K := K) (I := I) H0 h2
    cases h
    exact z_Ve [.int x1] [] (cs_X9_201 _) (ci := 7) rfl (LW.o H0) (dep (show d + 0 + 8 + 1 ≤ (d + 9) from by omega) (Nat.le_of_ble_eq_true rfl)) dX9_purchasePrice_2 rfl rfl (Nat.le_of_ble_eq_true rfl) hq rfl
  have hq := c_X9_wishAt d (K := K) (I := I) H0 h2
  refine z_V1 [.int x1] [] (cs_X9_201 _) (ci := 7) rfl (LW.o H0) (dep (show d + 0 + 8 + 1 ≤ (d + 9) from by omega) (Nat.le_of_ble_eq_true rfl)) dX9_purchasePrice_2 rfl rfl (Nat.le_of_ble_eq_true rfl) hq ?_
  obtain ⟨j3, hj3, h⟩ := b1_s h
  refine X.e2 (congrArg Value.ref (ckA_s hj3).2) ?_
  have hj3 := (ckA_s hj3).1
  refine z_getI fs_X9_232 (LM.wo (LW.q H0) hj3) dX9_purchasePrice_5 ?_
  cases h
  exact x_iret rfl dX9_purchasePrice_8 ⟨rfl, rfl, rfl⟩
noncomputable def f_X9_price (I : Mem) (x0 : Nat) (x1 : Int32) : Option (Except String Int32) := e1 (f_X9_checkWish I x0 x1) (fun E => some (.error E)) fun u1 => b1 (f_X3_priceOf I (x0 + 37) x1) fun v3 => some (.ok v3)
theorem c_X9_price (d : Nat) {K : Kt} {I : Mem} {x0 : Nat} (H0 : LW K x0) {x1 : Int32} {x : Except String Int32} (h : f_X9_price I x0 x1 = some x) : Ct (mX9_price (d + 8)) cX9_price (cst x) (cs6 x) [.ref x0, .int x1] I K (Ro (rI x) I K) := by
  refine Ct.of rfl pn_X9 (catR (catI cat0)) (Nat.le_of_ble_eq_true rfl) (show X _ _ _ _ _ _ 0 [.ref x0, .int x1] [] _ from ?_)
  unfold f_X9_price at h
  refine x_aloadn dX9_price_0 rfl ?_
  refine x_iloadn dX9_price_1 rfl ?_
  rcases e1_s h with ⟨u1, h2, h⟩ | ⟨E, h2, h⟩
  rotate_left
  · have hq := c_X9_checkWish d (K := K) (I := I) H0 h2
    cases h
    exact z_Ve [.int x1] [] (cs_X9_235 _) (ci := 7) rfl (LW.o H0) (dep (show d + 0 + 7 + 1 ≤ (d + 8) from by omega) (Nat.le_of_ble_eq_true rfl)) dX9_price_2 rfl rfl (Nat.le_of_ble_eq_true rfl) hq rfl
  have hq := c_X9_checkWish d (K := K) (I := I) H0 h2
  refine z_V0 [.int x1] [] (cs_X9_235 _) (ci := 7) rfl (LW.o H0) (dep (show d + 0 + 7 + 1 ≤ (d + 8) from by omega) (Nat.le_of_ble_eq_true rfl)) dX9_price_2 rfl rfl (Nat.le_of_ble_eq_true rfl) hq ?_
  refine x_aloadn dX9_price_5 rfl ?_
  refine z_getR fs_X9_19 (LW.o H0) (LW.g1 H0) dX9_price_6 ?_
  refine x_iloadn dX9_price_9 rfl ?_
  obtain ⟨v3, h4, h⟩ := b1_s h
  refine z_V1 [.int x1] [] (cs_X9_238 _) (ci := 1) rfl (LM.o (LW.q H0)) (dep (show d + 7 + 0 + 1 ≤ (d + 8) from by omega) (Nat.le_of_ble_eq_true rfl)) dX9_price_10 rfl rfl (Nat.le_of_ble_eq_true rfl) (c_X3_priceOf (d + 7) (K := K) (I := I) (LW.q H0) h4) ?_
  cases h
  exact x_iret rfl dX9_price_13 ⟨rfl, rfl, rfl⟩
noncomputable def f_X9_offer (I : Mem) (x0 : Nat) (x1 : Int32) (x2 : Int32) : Option (Except String Int32) := e1 (f_X9_checkWish I x0 x1) (fun E => some (.error E)) fun u1 => e1 (f_X9_checkStall I x0 x2) (fun E => some (.error E)) fun u3 => b1 (ix x1 16) fun j5 => if (I ((x0 + 37) + 15 + j5) 5) = (-1) then (some (.ok (-1))) else (b1 (f_X3_offerFor I (x0 + 37) x1 x2) fun v6 => some (.ok v6))
theorem c_X9_offer (d : Nat) {K : Kt} {I : Mem} {x0 : Nat} (H0 : LW K x0) {x1 : Int32} {x2 : Int32} {x : Except String Int32} (h : f_X9_offer I x0 x1 x2 = some x) : Ct (mX9_offer (d + 8)) cX9_offer (cst x) (cs6 x) [.ref x0, .int x1, .int x2] I K (Ro (rI x) I K) := by
  refine Ct.of rfl pn_X9 (catR (catI (catI cat0))) (Nat.le_of_ble_eq_true rfl) (show X _ _ _ _ _ _ 0 [.ref x0, .int x1, .int x2] [] _ from ?_)
  unfold f_X9_offer at h
  refine x_aloadn dX9_offer_0 rfl ?_
  refine x_iloadn dX9_offer_1 rfl ?_
  rcases e1_s h with ⟨u1, h2, h⟩ | ⟨E, h2, h⟩
  rotate_left
  · have hq := c_X9_checkWish d (K := K) (I := I) H0 h2
    cases h
    exact z_Ve [.int x1] [] (cs_X9_235 _) (ci := 7) rfl (LW.o H0) (dep (show d + 0 + 7 + 1 ≤ (d + 8) from by omega) (Nat.le_of_ble_eq_true rfl)) dX9_offer_2 rfl rfl (Nat.le_of_ble_eq_true rfl) hq rfl
  have hq := c_X9_checkWish d (K := K) (I := I) H0 h2
  refine z_V0 [.int x1] [] (cs_X9_235 _) (ci := 7) rfl (LW.o H0) (dep (show d + 0 + 7 + 1 ≤ (d + 8) from by omega) (Nat.le_of_ble_eq_true rfl)) dX9_offer_2 rfl rfl (Nat.le_of_ble_eq_true rfl) hq ?_
  refine x_aloadn dX9_offer_5 rfl ?_
  refine x_iloadn dX9_offer_6 rfl ?_
  rcases e1_s h with ⟨u3, h4, h⟩ | ⟨E, h4, h⟩
  rotate_left
  · have hq := c_X9_checkStall d (K := K) (I := I) H0 h4
    cases h
    exact z_Ve [.int x2] [] (cs_X9_195 _) (ci := 7) rfl (LW.o H0) (dep (show d + 0 + 7 + 1 ≤ (d + 8) from by omega) (Nat.le_of_ble_eq_true rfl)) dX9_offer_7 rfl rfl (Nat.le_of_ble_eq_true rfl) hq rfl
  have hq := c_X9_checkStall d (K := K) (I := I) H0 h4
  refine z_V0 [.int x2] [] (cs_X9_195 _) (ci := 7) rfl (LW.o H0) (dep (show d + 0 + 7 + 1 ≤ (d + 8) from by omega) (Nat.le_of_ble_eq_true rfl)) dX9_offer_7 rfl rfl (Nat.le_of_ble_eq_true rfl) hq ?_
  refine x_aloadn dX9_offer_10 rfl ?_
  refine z_getR fs_X9_19 (LW.o H0) (LW.g1 H0) dX9_offer_11 ?_
  refine z_getRG gs_X9_241 (LM.o (LW.q H0)) (LM.g2 (LW.q H0)) dX9_offer_14 ?_
  refine x_iloadn dX9_offer_17 rfl ?_
  obtain ⟨j5, hj5, h⟩ := b1_s h
  refine z_aald (LM.l2 (LW.q H0)) ⟨by decide, by decide⟩ hj5 (LM.w (LW.q H0) (ix_s hj5).2.1) dX9_offer_18 ?_
  refine z_getI fs_X9_220 (LM.wo (LW.q H0) (ix_s hj5).2.1) dX9_offer_19 ?_
  refine x_iconst (-1) dX9_offer_22 rfl ?_
  refine x_icmp_ne 30 dX9_offer_23 rfl (fun hc => ?_) (fun hc => ?_)
  · have h := ifF hc h
    refine x_aloadn dX9_offer_30 rfl ?_
    refine z_getR fs_X9_19 (LW.o H0) (LW.g1 H0) dX9_offer_31 ?_
    refine x_iloadn dX9_offer_34 rfl ?_
    refine x_iloadn dX9_offer_35 rfl ?_
    obtain ⟨v6, h7, h⟩ := b1_s h
    refine z_V1 [.int x1, .int x2] [] (cs_X9_245 _) (ci := 1) rfl (LM.o (LW.q H0)) (dep (show d + 7 + 0 + 1 ≤ (d + 8) from by omega) (Nat.le_of_ble_eq_true rfl)) dX9_offer_36 rfl rfl (Nat.le_of_ble_eq_true rfl) (c_X3_offerFor (d + 7) (K := K) (I := I) (LW.q H0) h7) ?_
    cases h
    exact x_iret rfl dX9_offer_39 ⟨rfl, rfl, rfl⟩
  have h := ifT hc h
  refine x_iconst (-1) dX9_offer_26 rfl ?_
  refine x_goto 39 dX9_offer_27 rfl ?_
  cases h
  exact x_iret rfl dX9_offer_39 ⟨rfl, rfl, rfl⟩
noncomputable def f_X9_refund (I : Mem) (x0 : Nat) (x1 : Int32) : Option (Except String Int32) := e1 (f_X9_checkWish I x0 x1) (fun E => some (.error E)) fun u1 => b1 (f_X3_refundFor I (x0 + 37) x1) fun v3 => some (.ok v3)
theorem c_X9_refund (d : Nat) {K : Kt} {I : Mem} {x0 : Nat} (H0 : LW K x0) {x1 : Int32} {x : Except String Int32} (h : f_X9_refund I x0 x1 = some x) : Ct (mX9_refund (d + 8)) cX9_refund (cst x) (cs6 x) [.ref x0, .int x1] I K (Ro (rI x) I K) := by
  refine Ct.of rfl pn_X9 (catR (catI cat0)) (Nat.le_of_ble_eq_true rfl) (show X _ _ _ _ _ _ 0 [.ref x0, .int x1] [] _ from ?_)
  unfold f_X9_refund at h
  refine x_aloadn dX9_refund_0 rfl ?_
  refine x_iloadn dX9_refund_1 rfl ?_
  rcases e1_s h with ⟨u1, h2, h⟩ | ⟨E, h2, h⟩
  rotate_left
  · have hq := c_X9_checkWish d (K := K) (I := I) H0 h2
    cases h
    exact z_Ve [.int x1] [] (cs_X9_235 _) (ci := 7) rfl (LW.o H0) (dep (show d + 0 + 7 + 1 ≤ (d + 8) from by omega) (Nat.le_of_ble_eq_true rfl)) dX9_refund_2 rfl rfl (Nat.le_of_ble_eq_true rfl) hq rfl
  have hq := c_X9_checkWish d (K := K) (I := I) H0 h2
  refine z_V0 [.int x1] [] (cs_X9_235 _) (ci := 7) rfl (LW.o H0) (dep (show d + 0 + 7 + 1 ≤ (d + 8) from by omega) (Nat.le_of_ble_eq_true rfl)) dX9_refund_2 rfl rfl (Nat.le_of_ble_eq_true rfl) hq ?_
  refine x_aloadn dX9_refund_5 rfl ?_
  refine z_getR fs_X9_19 (LW.o H0) (LW.g1 H0) dX9_refund_6 ?_
  refine x_iloadn dX9_refund_9 rfl ?_
  obtain ⟨v3, h4, h⟩ := b1_s h
  refine z_V1 [.int x1] [] (cs_X9_248 _) (ci := 1) rfl (LM.o (LW.q H0)) (dep (show d + 7 + 0 + 1 ≤ (d + 8) from by omega) (Nat.le_of_ble_eq_true rfl)) dX9_refund_10 rfl rfl (Nat.le_of_ble_eq_true rfl) (c_X3_refundFor (d + 7) (K := K) (I := I) (LW.q H0) h4) ?_
  cases h
  exact x_iret rfl dX9_refund_13 ⟨rfl, rfl, rfl⟩
noncomputable def f_X9_buyObstacle (I : Mem) (x0 : Nat) (x1 : Int32) (x2 : Int32) : Option (Except String Int32) := e1 (f_X9_checkPerson I x0 x1) (fun E => some (.error E)) fun u1 => e1 (f_X9_checkWish I x0 x2) (fun E => some (.error E)) fun u3 => b1 (f_X3_obstacleToBuy I (x0 + 37) x1 x2) fun v5 => some (.ok v5)
theorem c_X9_buyObstacle (d : Nat) {K : Kt} {I : Mem} {x0 : Nat} (H0 : LW K x0) {x1 : Int32} {x2 : Int32} {x : Except String Int32} (h : f_X9_buyObstacle I x0 x1 x2 = some x) : Ct (mX9_buyObstacle (d + 8)) cX9_buyObstacle (cst x) (cs6 x) [.ref x0, .int x1, .int x2] I K (Ro (rI x) I K) := by
  refine Ct.of rfl pn_X9 (catR (catI (catI cat0))) (Nat.le_of_ble_eq_true rfl) (show X _ _ _ _ _ _ 0 [.ref x0, .int x1, .int x2] [] _ from ?_)
  unfold f_X9_buyObstacle at h
  refine x_aloadn dX9_buyObstacle_0 rfl ?_
  refine x_iloadn dX9_buyObstacle_1 rfl ?_
  rcases e1_s h with ⟨u1, h2, h⟩ | ⟨E, h2, h⟩
  rotate_left
  · have hq := c_X9_checkPerson d (K := K) (I := I) H0 h2
    cases h
    exact z_Ve [.int x1] [] (cs_X9_168 _) (ci := 7) rfl (LW.o H0) (dep (show d + 0 + 7 + 1 ≤ (d + 8) from by omega) (Nat.le_of_ble_eq_true rfl)) dX9_buyObstacle_2 rfl rfl (Nat.le_of_ble_eq_true rfl) hq rfl
  have hq := c_X9_checkPerson d (K := K) (I := I) H0 h2
  refine z_V0 [.int x1] [] (cs_X9_168 _) (ci := 7) rfl (LW.o H0) (dep (show d + 0 + 7 + 1 ≤ (d + 8) from by omega) (Nat.le_of_ble_eq_true rfl)) dX9_buyObstacle_2 rfl rfl (Nat.le_of_ble_eq_true rfl) hq ?_
  refine x_aloadn dX9_buyObstacle_5 rfl ?_
  refine x_iloadn dX9_buyObstacle_6 rfl ?_
  rcases e1_s h with ⟨u3, h4, h⟩ | ⟨E, h4, h⟩
  rotate_left
  · have hq := c_X9_checkWish d (K := K) (I := I) H0 h4
    cases h
    exact z_Ve [.int x2] [] (cs_X9_235 _) (ci := 7) rfl (LW.o H0) (dep (show d + 0 + 7 + 1 ≤ (d + 8) from by omega) (Nat.le_of_ble_eq_true rfl)) dX9_buyObstacle_7 rfl rfl (Nat.le_of_ble_eq_true rfl) hq rfl
  have hq := c_X9_checkWish d (K := K) (I := I) H0 h4
  refine z_V0 [.int x2] [] (cs_X9_235 _) (ci := 7) rfl (LW.o H0) (dep (show d + 0 + 7 + 1 ≤ (d + 8) from by omega) (Nat.le_of_ble_eq_true rfl)) dX9_buyObstacle_7 rfl rfl (Nat.le_of_ble_eq_true rfl) hq ?_
  refine x_aloadn dX9_buyObstacle_10 rfl ?_
  refine z_getR fs_X9_19 (LW.o H0) (LW.g1 H0) dX9_buyObstacle_11 ?_
  refine x_iloadn dX9_buyObstacle_14 rfl ?_
  refine x_iloadn dX9_buyObstacle_15 rfl ?_
  obtain ⟨v5, h6, h⟩ := b1_s h
  refine z_V1 [.int x1, .int x2] [] (cs_X9_251 _) (ci := 1) rfl (LM.o (LW.q H0)) (dep (show d + 6 + 1 + 1 ≤ (d + 8) from by omega) (Nat.le_of_ble_eq_true rfl)) dX9_buyObstacle_16 rfl rfl (Nat.le_of_ble_eq_true rfl) (c_X3_obstacleToBuy (d + 6) (K := K) (I := I) (LW.q H0) h6) ?_
  cases h
  exact x_iret rfl dX9_buyObstacle_19 ⟨rfl, rfl, rfl⟩
noncomputable def f_X9_returnObstacle (I : Mem) (x0 : Nat) (x1 : Int32) : Option (Except String Int32) := e1 (f_X9_checkWish I x0 x1) (fun E => some (.error E)) fun u1 => b1 (f_X3_obstacleToReturn I (x0 + 37) x1) fun v3 => some (.ok v3)
theorem c_X9_returnObstacle (d : Nat) {K : Kt} {I : Mem} {x0 : Nat} (H0 : LW K x0) {x1 : Int32} {x : Except String Int32} (h : f_X9_returnObstacle I x0 x1 = some x) : Ct (mX9_returnObstacle (d + 8)) cX9_returnObstacle (cst x) (cs6 x) [.ref x0, .int x1] I K (Ro (rI x) I K) := by
  refine Ct.of rfl pn_X9 (catR (catI cat0)) (Nat.le_of_ble_eq_true rfl) (show X _ _ _ _ _ _ 0 [.ref x0, .int x1] [] _ from ?_)
  unfold f_X9_returnObstacle at h
  refine x_aloadn dX9_returnObstacle_0 rfl ?_
  refine x_iloadn dX9_returnObstacle_1 rfl ?_
  rcases e1_s h with ⟨u1, h2, h⟩ | ⟨E, h2, h⟩
  rotate_left
  · have hq := c_X9_checkWish d (K := K) (I := I) H0 h2
    cases h
    exact z_Ve [.int x1] [] (cs_X9_235 _) (ci := 7) rfl (LW.o H0) (dep (show d + 0 + 7 + 1 ≤ (d + 8) from by omega) (Nat.le_of_ble_eq_true rfl)) dX9_returnObstacle_2 rfl rfl (Nat.le_of_ble_eq_true rfl) hq rfl
  have hq := c_X9_checkWish d (K := K) (I := I) H0 h2
  refine z_V0 [.int x1] [] (cs_X9_235 _) (ci := 7) rfl (LW.o H0) (dep (show d + 0 + 7 + 1 ≤ (d + 8) from by omega) (Nat.le_of_ble_eq_true rfl)) dX9_returnObstacle_2 rfl rfl (Nat.le_of_ble_eq_true rfl) hq ?_
  refine x_aloadn dX9_returnObstacle_5 rfl ?_
  refine z_getR fs_X9_19 (LW.o H0) (LW.g1 H0) dX9_returnObstacle_6 ?_
  refine x_iloadn dX9_returnObstacle_9 rfl ?_
  obtain ⟨v3, h4, h⟩ := b1_s h
  refine z_V1 [.int x1] [] (cs_X9_257 _) (ci := 1) rfl (LM.o (LW.q H0)) (dep (show d + 6 + 1 + 1 ≤ (d + 8) from by omega) (Nat.le_of_ble_eq_true rfl)) dX9_returnObstacle_10 rfl rfl (Nat.le_of_ble_eq_true rfl) (c_X3_obstacleToReturn (d + 6) (K := K) (I := I) (LW.q H0) h4) ?_
  cases h
  exact x_iret rfl dX9_returnObstacle_13 ⟨rfl, rfl, rfl⟩
noncomputable def f_X9_cheapestWish (I : Mem) (x0 : Nat) (x1 : Int32) : Option (Except String Int32) := e1 (f_X9_personAt I x0 x1) (fun E => some (.error E)) fun v1 => b1 (ckA v1 (x0 + 37 + 4) 6) fun j3 => b1 (f_X3_cheapestFor I (x0 + 37) x1 (I ((x0 + 37 + 4) + j3) 1)) fun v4 => some (.ok v4)
theorem c_X9_cheapestWish (d : Nat) {K : Kt} {I : Mem} {x0 : Nat} (H0 : LW K x0) {x1 : Int32} {x : Except String Int32} (h : f_X9_cheapestWish I x0 x1 = some x) : Ct (mX9_cheapestWish (d + 9)) cX9_cheapestWish (cst x) (cs6 x) [.ref x0, .int x1] I K (Ro (rI x) I K) := by
  refine Ct.of rfl pn_X9 (catR (catI cat0)) (Nat.le_of_ble_eq_true rfl) (show X _ _ _ _ _ _ 0 [.ref x0, .int x1, .retAddr 0] [] _ from ?_)
  unfold f_X9_cheapestWish at h
  refine x_aloadn dX9_cheapestWish_0 rfl ?_
  refine x_iloadn dX9_cheapestWish_1 rfl ?_
  rcases e1_s h with ⟨v1, h2, h⟩ | ⟨E, h2, h⟩
  rotate_left
  · have hq := c_X9_personAt d (K := K) (I := I) H0 h2
    cases h
    exact z_Ve [.int x1] [] (cs_X9_143 _) (ci := 7) rfl (LW.o H0) (dep (show d + 0 + 8 + 1 ≤ (d + 9) from by omega) (Nat.le_of_ble_eq_true rfl)) dX9_cheapestWish_2 rfl rfl (Nat.le_of_ble_eq_true rfl) hq rfl
  have hq := c_X9_personAt d (K := K) (I := I) H0 h2
  refine z_V1 [.int x1] [] (cs_X9_143 _) (ci := 7) rfl (LW.o H0) (dep (show d + 0 + 8 + 1 ≤ (d + 9) from by omega) (Nat.le_of_ble_eq_true rfl)) dX9_cheapestWish_2 rfl rfl (Nat.le_of_ble_eq_true rfl) hq ?_
  obtain ⟨j3, hj3, h⟩ := b1_s h
  refine X.e2 (congrArg Value.ref (ckA_s hj3).2) ?_
  have hj3 := (ckA_s hj3).1
  refine z_getI fs_X9_156 (LM.po (LW.q H0) hj3) dX9_cheapestWish_5 ?_
  refine x_istoren dX9_cheapestWish_8 (Nat.le_of_ble_eq_true rfl) rfl rfl ?_
  refine x_aloadn dX9_cheapestWish_9 rfl ?_
  refine z_getR fs_X9_19 (LW.o H0) (LW.g1 H0) dX9_cheapestWish_10 ?_
  refine x_iloadn dX9_cheapestWish_13 rfl ?_
  refine x_iloadn dX9_cheapestWish_14 rfl ?_
  obtain ⟨v4, h5, h⟩ := b1_s h
  refine z_V1 [.int x1, .int (I ((x0 + 37 + 4) + j3) 1)] [] (cs_X9_263 _) (ci := 1) rfl (LM.o (LW.q H0)) (dep (show d + 6 + 2 + 1 ≤ (d + 9) from by omega) (Nat.le_of_ble_eq_true rfl)) dX9_cheapestWish_15 rfl rfl (Nat.le_of_ble_eq_true rfl) (c_X3_cheapestFor (d + 6) (K := K) (I := I) (LW.q H0) h5) ?_
  cases h
  exact x_iret rfl dX9_cheapestWish_18 ⟨rfl, rfl, rfl⟩
noncomputable def f_X9_bestGrant (I : Mem) (x0 : Nat) (x1 : Int32) : Option (Except String Int32) := e1 (f_X9_checkPerson I x0 x1) (fun E => some (.error E)) fun u1 => b1 (f_X3_bestGrantFor I (x0 + 37) x1) fun v3 => some (.ok v3)
theorem c_X9_bestGrant (d : Nat) {K : Kt} {I : Mem} {x0 : Nat} (H0 : LW K x0) {x1 : Int32} {x : Except String Int32} (h : f_X9_bestGrant I x0 x1 = some x) : Ct (mX9_bestGrant (d + 8)) cX9_bestGrant (cst x) (cs6 x) [.ref x0, .int x1] I K (Ro (rI x) I K) := by
  refine Ct.of rfl pn_X9 (catR (catI cat0)) (Nat.le_of_ble_eq_true rfl) (show X _ _ _ _ _ _ 0 [.ref x0, .int x1] [] _ from ?_)
  unfold f_X9_bestGrant at h
  refine x_aloadn dX9_bestGrant_0 rfl ?_
  refine x_iloadn dX9_bestGrant_1 rfl ?_
  rcases e1_s h with ⟨u1, h2, h⟩ | ⟨E, h2, h⟩
  rotate_left
  · have hq := c_X9_checkPerson d (K := K) (I := I) H0 h2
    cases h
    exact z_Ve [.int x1] [] (cs_X9_168 _) (ci := 7) rfl (LW.o H0) (dep (show d + 0 + 7 + 1 ≤ (d + 8) from by omega) (Nat.le_of_ble_eq_true rfl)) dX9_bestGrant_2 rfl rfl (Nat.le_of_ble_eq_true rfl) hq rfl
  have hq := c_X9_checkPerson d (K := K) (I := I) H0 h2
  refine z_V0 [.int x1] [] (cs_X9_168 _) (ci := 7) rfl (LW.o H0) (dep (show d + 0 + 7 + 1 ≤ (d + 8) from by omega) (Nat.le_of_ble_eq_true rfl)) dX9_bestGrant_2 rfl rfl (Nat.le_of_ble_eq_true rfl) hq ?_
  refine x_aloadn dX9_bestGrant_5 rfl ?_
  refine z_getR fs_X9_19 (LW.o H0) (LW.g1 H0) dX9_bestGrant_6 ?_
  refine x_iloadn dX9_bestGrant_9 rfl ?_
  obtain ⟨v3, h4, h⟩ := b1_s h
  refine z_V1 [.int x1] [] (cs_X9_266 _) (ci := 1) rfl (LM.o (LW.q H0)) (dep (show d + 5 + 2 + 1 ≤ (d + 8) from by omega) (Nat.le_of_ble_eq_true rfl)) dX9_bestGrant_10 rfl rfl (Nat.le_of_ble_eq_true rfl) (c_X3_bestGrantFor (d + 5) (K := K) (I := I) (LW.q H0) h4) ?_
  cases h
  exact x_iret rfl dX9_bestGrant_13 ⟨rfl, rfl, rfl⟩
noncomputable def f_X9_bestOffer (I : Mem) (x0 : Nat) (x1 : Int32) : Option (Except String Int32) := e1 (f_X9_checkWish I x0 x1) (fun E => some (.error E)) fun u1 => b1 (f_X3_bestStallFor I (x0 + 37) x1) fun v3 => some (.ok v3)
theorem c_X9_bestOffer (d : Nat) {K : Kt} {I : Mem} {x0 : Nat} (H0 : LW K x0) {x1 : Int32} {x : Except String Int32} (h : f_X9_bestOffer I x0 x1 = some x) : Ct (mX9_bestOffer (d + 8)) cX9_bestOffer (cst x) (cs6 x) [.ref x0, .int x1] I K (Ro (rI x) I K) := by
  refine Ct.of rfl pn_X9 (catR (catI cat0)) (Nat.le_of_ble_eq_true rfl) (show X _ _ _ _ _ _ 0 [.ref x0, .int x1] [] _ from ?_)
  unfold f_X9_bestOffer at h
  refine x_aloadn dX9_bestOffer_0 rfl ?_
  refine x_iloadn dX9_bestOffer_1 rfl ?_
  rcases e1_s h with ⟨u1, h2, h⟩ | ⟨E, h2, h⟩
  rotate_left
  · have hq := c_X9_checkWish d (K := K) (I := I) H0 h2
    cases h
    exact z_Ve [.int x1] [] (cs_X9_235 _) (ci := 7) rfl (LW.o H0) (dep (show d + 0 + 7 + 1 ≤ (d + 8) from by omega) (Nat.le_of_ble_eq_true rfl)) dX9_bestOffer_2 rfl rfl (Nat.le_of_ble_eq_true rfl) hq rfl
  have hq := c_X9_checkWish d (K := K) (I := I) H0 h2
  refine z_V0 [.int x1] [] (cs_X9_235 _) (ci := 7) rfl (LW.o H0) (dep (show d + 0 + 7 + 1 ≤ (d + 8) from by omega) (Nat.le_of_ble_eq_true rfl)) dX9_bestOffer_2 rfl rfl (Nat.le_of_ble_eq_true rfl) hq ?_
  refine x_aloadn dX9_bestOffer_5 rfl ?_
  refine z_getR fs_X9_19 (LW.o H0) (LW.g1 H0) dX9_bestOffer_6 ?_
  refine x_iloadn dX9_bestOffer_9 rfl ?_
  obtain ⟨v3, h4, h⟩ := b1_s h
  refine z_V1 [.int x1] [] (cs_X9_269 _) (ci := 1) rfl (LM.o (LW.q H0)) (dep (show d + 5 + 2 + 1 ≤ (d + 8) from by omega) (Nat.le_of_ble_eq_true rfl)) dX9_bestOffer_10 rfl rfl (Nat.le_of_ble_eq_true rfl) (c_X3_bestStallFor (d + 5) (K := K) (I := I) (LW.q H0) h4) ?_
  cases h
  exact x_iret rfl dX9_bestOffer_13 ⟨rfl, rfl, rfl⟩
noncomputable def l_X9_checkRange_10 : Option (Except String Unit) := some (.error "java/lang/IllegalArgumentException")
theorem tl_X9_checkRange_10 (d : Nat) {K : Kt} : ∀ {I : Mem} {x : Except String Unit}, l_X9_checkRange_10 = some x → X (mX9_checkRange (d + 6)) cX9_checkRange (cst x) (cs6 x) I K 10 [.retAddr 0, .retAddr 0, .retAddr 0] [] (Ro (rV x) I K) := by
  intro I x h
  unfold l_X9_checkRange_10 at h
  cases h
  exact z_throwW ts_X9_69_348_73 ⟨(by show 6 ≤ (d + 6); omega), (by show _ ≤ 40 * (d + 6); have e : ∀ n, n = 0 → n + 82 ≤ 40 * (d + 6) := (fun n hn => by omega); exact e _ rfl)⟩ rfl dX9_checkRange_10 dX9_checkRange_13 dX9_checkRange_14 dX9_checkRange_17 dX9_checkRange_20
noncomputable def f_X9_checkRange (x0 : Int32) (x1 : Int32) (x2 : Int32) : Option (Except String Unit) := if x0 < x1 then (l_X9_checkRange_10) else (if x0 ≤ x2 then (some (.ok ())) else (l_X9_checkRange_10))
theorem c_X9_checkRange (d : Nat) {K : Kt} {I : Mem} {x0 : Int32} {x1 : Int32} {x2 : Int32} {x : Except String Unit} (h : f_X9_checkRange x0 x1 x2 = some x) : Ct (mX9_checkRange (d + 6)) cX9_checkRange (cst x) (cs6 x) [.int x0, .int x1, .int x2] I K (Ro (rV x) I K) := by
  refine Ct.of rfl pn_X9 (catI (catI (catI cat0))) (Nat.le_of_ble_eq_true rfl) (show X _ _ _ _ _ _ 0 [.int x0, .int x1, .int x2] [] _ from ?_)
  unfold f_X9_checkRange at h
  refine x_iloadn dX9_checkRange_0 rfl ?_
  refine x_iloadn dX9_checkRange_1 rfl ?_
  refine x_icmp_lt 10 dX9_checkRange_2 rfl (fun hc => ?_) (fun hc => ?_)
  · have h := ifT hc h
    exact X.forget (L' := [.retAddr 0, .retAddr 0, .retAddr 0]) ⟨Or.inr rfl, ⟨Or.inr rfl, ⟨Or.inr rfl, trivial⟩⟩⟩ (tl_X9_checkRange_10 d h)
  have h := ifF hc h
  refine x_iloadn dX9_checkRange_5 rfl ?_
  refine x_iloadn dX9_checkRange_6 rfl ?_
  refine x_icmp_le 21 dX9_checkRange_7 rfl (fun hc => ?_) (fun hc => ?_)
  · have h := ifT hc h
    cases h
    exact x_vret rfl dX9_checkRange_21 ⟨rfl, rfl, rfl⟩
  have h := ifF hc h
  exact X.forget (L' := [.retAddr 0, .retAddr 0, .retAddr 0]) ⟨Or.inr rfl, ⟨Or.inr rfl, ⟨Or.inr rfl, trivial⟩⟩⟩ (tl_X9_checkRange_10 d h)
noncomputable def f_X9_coinsAfter (I : Mem) (x0 : Nat) (x1 : Int32) (x2 : Int32) : Option (Except String Int32 × Mem) := e1 (f_X9_checkPerson I x0 x1) (fun E => some (.error E, I)) fun u1 => e1 (f_X9_checkRange x2 0 300) (fun E => some (.error E, I)) fun u3 => b1 (f_X3_copyFrom I (x0 + 68) (x0 + 37)) fun I5 => b2 (f_X3_simulate I5 (x0 + 68) x2) fun v7 I8 => b1 (ix x1 6) fun j10 => some (.ok (I8 ((x0 + 68) + 4 + j10) 1), I8)
theorem c_X9_coinsAfter (d : Nat) {K : Kt} {I : Mem} {x0 : Nat} (H0 : LW K x0) {x1 : Int32} {x2 : Int32} {x : Except String Int32} {I9 : Mem} (h : f_X9_coinsAfter I x0 x1 x2 = some (x, I9)) : Ct (mX9_coinsAfter (d + 8)) cX9_coinsAfter (cst x) (cs6 x) [.ref x0, .int x1, .int x2] I K (Ro (rI x) I9 K) := by
  refine Ct.of rfl pn_X9 (catR (catI (catI cat0))) (Nat.le_of_ble_eq_true rfl) (show X _ _ _ _ _ _ 0 [.ref x0, .int x1, .int x2] [] _ from ?_)
  unfold f_X9_coinsAfter at h
  refine x_aloadn dX9_coinsAfter_0 rfl ?_
  refine x_iloadn dX9_coinsAfter_1 rfl ?_
  rcases e1_s h with ⟨u1, h2, h⟩ | ⟨E, h2, h⟩
  rotate_left
  · have hq := c_X9_checkPerson d (K := K) (I := I) H0 h2
    cases h
    exact z_Ve [.int x1] [] (cs_X9_168 _) (ci := 7) rfl (LW.o H0) (dep (show d + 0 + 7 + 1 ≤ (d + 8) from by omega) (Nat.le_of_ble_eq_true rfl)) dX9_coinsAfter_2 rfl rfl (Nat.le_of_ble_eq_true rfl) hq rfl
  have hq := c_X9_checkPerson d (K := K) (I := I) H0 h2
  refine z_V0 [.int x1] [] (cs_X9_168 _) (ci := 7) rfl (LW.o H0) (dep (show d + 0 + 7 + 1 ≤ (d + 8) from by omega) (Nat.le_of_ble_eq_true rfl)) dX9_coinsAfter_2 rfl rfl (Nat.le_of_ble_eq_true rfl) hq ?_
  refine x_iloadn dX9_coinsAfter_5 rfl ?_
  refine x_iconst 0 dX9_coinsAfter_6 rfl ?_
  refine x_sipush 300 dX9_coinsAfter_7 rfl ?_
  rcases e1_s h with ⟨u3, h4, h⟩ | ⟨E, h4, h⟩
  rotate_left
  · have hq := c_X9_checkRange (d + 1) (K := K) (I := I) h4
    cases h
    exact z_Se [.int x2, .int 0, .int 300] [] (cs_X9_272 _) (dep (show d + 1 + 6 + 1 ≤ (d + 8) from by omega) (Nat.le_of_ble_eq_true rfl)) dX9_coinsAfter_10 rfl rfl (Nat.le_of_ble_eq_true rfl) hq rfl
  have hq := c_X9_checkRange (d + 1) (K := K) (I := I) h4
  refine z_S0 [.int x2, .int 0, .int 300] [] (cs_X9_272 _) (dep (show d + 1 + 6 + 1 ≤ (d + 8) from by omega) (Nat.le_of_ble_eq_true rfl)) dX9_coinsAfter_10 rfl rfl (Nat.le_of_ble_eq_true rfl) hq ?_
  refine x_aloadn dX9_coinsAfter_13 rfl ?_
  refine z_getR fs_X9_23 (LW.o H0) (LW.g2 H0) dX9_coinsAfter_14 ?_
  refine x_aloadn dX9_coinsAfter_17 rfl ?_
  refine z_getR fs_X9_19 (LW.o H0) (LW.g1 H0) dX9_coinsAfter_18 ?_
  obtain ⟨I5, h6, h⟩ := b1_s h
  refine z_V0 [.ref (x0 + 37)] [] (cs_X9_77 _) (ci := 1) rfl (LM.o (LW.f H0)) (dep (show d + 6 + 1 + 1 ≤ (d + 8) from by omega) (Nat.le_of_ble_eq_true rfl)) dX9_coinsAfter_21 rfl rfl (Nat.le_of_ble_eq_true rfl) (c_X3_copyFrom (d + 6) (K := K) (I := I) (LW.f H0) (LW.q H0) h6) ?_
  refine x_aloadn dX9_coinsAfter_24 rfl ?_
  refine z_getR fs_X9_23 (LW.o H0) (LW.g2 H0) dX9_coinsAfter_25 ?_
  refine x_iloadn dX9_coinsAfter_28 rfl ?_
  obtain ⟨v7, I8, h9, h⟩ := b2_s h
  refine z_V1 [.int x2] [] (cs_X9_276 _) (ci := 1) rfl (LM.o (LW.f H0)) (dep (show d + 3 + 4 + 1 ≤ (d + 8) from by omega) (Nat.le_of_ble_eq_true rfl)) dX9_coinsAfter_29 rfl rfl (Nat.le_of_ble_eq_true rfl) (c_X3_simulate (d + 3) (K := K) (I := I5) (LW.f H0) h9) ?_
  refine x_pop dX9_coinsAfter_32 rfl ?_
  refine x_aloadn dX9_coinsAfter_33 rfl ?_
  refine z_getR fs_X9_23 (LW.o H0) (LW.g2 H0) dX9_coinsAfter_34 ?_
  refine z_getRG gs_X9_279 (LM.o (LW.f H0)) (LM.g0 (LW.f H0)) dX9_coinsAfter_37 ?_
  refine x_iloadn dX9_coinsAfter_40 rfl ?_
  obtain ⟨j10, hj10, h⟩ := b1_s h
  refine z_aald (LM.l0 (LW.f H0)) ⟨by decide, by decide⟩ hj10 (LM.p (LW.f H0) (ix_s hj10).2.1) dX9_coinsAfter_41 ?_
  refine z_getI fs_X9_156 (LM.po (LW.f H0) (ix_s hj10).2.1) dX9_coinsAfter_42 ?_
  cases h
  exact x_iret rfl dX9_coinsAfter_45 ⟨rfl, rfl, rfl⟩
noncomputable def f_X9_valueAfter (I : Mem) (x0 : Nat) (x1 : Int32) (x2 : Int32) : Option (Except String Int32 × Mem) := e1 (f_X9_checkWish I x0 x1) (fun E => some (.error E, I)) fun u1 => e1 (f_X9_checkRange x2 0 300) (fun E => some (.error E, I)) fun u3 => b1 (f_X3_copyFrom I (x0 + 68) (x0 + 37)) fun I5 => b2 (f_X3_simulate I5 (x0 + 68) x2) fun v7 I8 => b1 (ix x1 16) fun j10 => b1 (f_X8_worth I8 ((x0 + 68) + 15 + j10)) fun v11 => some (.ok v11, I8)
theorem c_X9_valueAfter (d : Nat) {K : Kt} {I : Mem} {x0 : Nat} (H0 : LW K x0) {x1 : Int32} {x2 : Int32} {x : Except String Int32} {I9 : Mem} (h : f_X9_valueAfter I x0 x1 x2 = some (x, I9)) : Ct (mX9_valueAfter (d + 8)) cX9_valueAfter (cst x) (cs6 x) [.ref x0, .int x1, .int x2] I K (Ro (rI x) I9 K) := by
  refine Ct.of rfl pn_X9 (catR (catI (catI cat0))) (Nat.le_of_ble_eq_true rfl) (show X _ _ _ _ _ _ 0 [.ref x0, .int x1, .int x2] [] _ from ?_)
  unfold f_X9_valueAfter at h
  refine x_aloadn dX9_valueAfter_0 rfl ?_
  refine x_iloadn dX9_valueAfter_1 rfl ?_
  rcases e1_s h with ⟨u1, h2, h⟩ | ⟨E, h2, h⟩
  rotate_left
  · have hq := c_X9_checkWish d (K := K) (I := I) H0 h2
    cases h
    exact z_Ve [.int x1] [] (cs_X9_235 _) (ci := 7) rfl (LW.o H0) (dep (show d + 0 + 7 + 1 ≤ (d + 8) from by omega) (Nat.le_of_ble_eq_true rfl)) dX9_valueAfter_2 rfl rfl (Nat.le_of_ble_eq_true rfl) hq rfl
  have hq := c_X9_checkWish d (K := K) (I := I) H0 h2
  refine z_V0 [.int x1] [] (cs_X9_235 _) (ci := 7) rfl (LW.o H0) (dep (show d + 0 + 7 + 1 ≤ (d + 8) from by omega) (Nat.le_of_ble_eq_true rfl)) dX9_valueAfter_2 rfl rfl (Nat.le_of_ble_eq_true rfl) hq ?_
  refine x_iloadn dX9_valueAfter_5 rfl ?_
  refine x_iconst 0 dX9_valueAfter_6 rfl ?_
  refine x_sipush 300 dX9_valueAfter_7 rfl ?_
  rcases e1_s h with ⟨u3, h4, h⟩ | ⟨E, h4, h⟩
  rotate_left
  · have hq := c_X9_checkRange (d + 1) (K := K) (I := I) h4
    cases h
    exact z_Se [.int x2, .int 0, .int 300] [] (cs_X9_272 _) (dep (show d + 1 + 6 + 1 ≤ (d + 8) from by omega) (Nat.le_of_ble_eq_true rfl)) dX9_valueAfter_10 rfl rfl (Nat.le_of_ble_eq_true rfl) hq rfl
  have hq := c_X9_checkRange (d + 1) (K := K) (I := I) h4
  refine z_S0 [.int x2, .int 0, .int 300] [] (cs_X9_272 _) (dep (show d + 1 + 6 + 1 ≤ (d + 8) from by omega) (Nat.le_of_ble_eq_true rfl)) dX9_valueAfter_10 rfl rfl (Nat.le_of_ble_eq_true rfl) hq ?_
  refine x_aloadn dX9_valueAfter_13 rfl ?_
  refine z_getR fs_X9_23 (LW.o H0) (LW.g2 H0) dX9_valueAfter_14 ?_
  refine x_aloadn dX9_valueAfter_17 rfl ?_
  refine z_getR fs_X9_19 (LW.o H0) (LW.g1 H0) dX9_valueAfter_18 ?_
  obtain ⟨I5, h6, h⟩ := b1_s h
  refine z_V0 [.ref (x0 + 37)] [] (cs_X9_77 _) (ci := 1) rfl (LM.o (LW.f H0)) (dep (show d + 6 + 1 + 1 ≤ (d + 8) from by omega) (Nat.le_of_ble_eq_true rfl)) dX9_valueAfter_21 rfl rfl (Nat.le_of_ble_eq_true rfl) (c_X3_copyFrom (d + 6) (K := K) (I := I) (LW.f H0) (LW.q H0) h6) ?_
  refine x_aloadn dX9_valueAfter_24 rfl ?_
  refine z_getR fs_X9_23 (LW.o H0) (LW.g2 H0) dX9_valueAfter_25 ?_
  refine x_iloadn dX9_valueAfter_28 rfl ?_
  obtain ⟨v7, I8, h9, h⟩ := b2_s h
  refine z_V1 [.int x2] [] (cs_X9_276 _) (ci := 1) rfl (LM.o (LW.f H0)) (dep (show d + 3 + 4 + 1 ≤ (d + 8) from by omega) (Nat.le_of_ble_eq_true rfl)) dX9_valueAfter_29 rfl rfl (Nat.le_of_ble_eq_true rfl) (c_X3_simulate (d + 3) (K := K) (I := I5) (LW.f H0) h9) ?_
  refine x_pop dX9_valueAfter_32 rfl ?_
  refine x_aloadn dX9_valueAfter_33 rfl ?_
  refine z_getR fs_X9_23 (LW.o H0) (LW.g2 H0) dX9_valueAfter_34 ?_
  refine z_getRG gs_X9_241 (LM.o (LW.f H0)) (LM.g2 (LW.f H0)) dX9_valueAfter_37 ?_
  refine x_iloadn dX9_valueAfter_40 rfl ?_
  obtain ⟨j10, hj10, h⟩ := b1_s h
  refine z_aald (LM.l2 (LW.f H0)) ⟨by decide, by decide⟩ hj10 (LM.w (LW.f H0) (ix_s hj10).2.1) dX9_valueAfter_41 ?_
  obtain ⟨v11, h12, h⟩ := b1_s h
  refine z_V1 [] [] (cs_X9_217 _) (ci := 6) rfl (LM.wo (LW.f H0) (ix_s hj10).2.1) (dep (show d + 7 + 0 + 1 ≤ (d + 8) from by omega) (Nat.le_of_ble_eq_true rfl)) dX9_valueAfter_42 rfl rfl (Nat.le_of_ble_eq_true rfl) (c_X8_worth (d + 7) (K := K) (I := I8) (LM.wo (LW.f H0) (ix_s hj10).2.1) h12) ?_
  cases h
  exact x_iret rfl dX9_valueAfter_45 ⟨rfl, rfl, rfl⟩
noncomputable def f_X9_rememberForUndo (I : Mem) (x0 : Nat) : Option (Mem) := b1 (pu I x0 9 (((I x0 9) + 1) - ((I x0 9) + 1) / 8 * 8)) fun I1 => b1 (ix (I1 x0 9) 8) fun j2 => b1 (f_X3_copyFrom I1 (x0 + 104 + 31 * j2) (x0 + 37)) fun I3 => b1 (pu I3 x0 8 (if 8 < ((I3 x0 8) + 1) then 8 else ((I3 x0 8) + 1))) fun I5 => some (I5)
theorem c_X9_rememberForUndo (d : Nat) {K : Kt} {I : Mem} {x0 : Nat} (H0 : LW K x0) {I9 : Mem} (h : f_X9_rememberForUndo I x0 = some I9) : Ct (mX9_rememberForUndo (d + 2)) cX9_rememberForUndo 0 0 [.ref x0] I K (Ro (.inl none) I9 K) := by
  refine Ct.of rfl pn_X9 (catR cat0) (Nat.le_of_ble_eq_true rfl) (show X _ _ _ _ _ _ 0 [.ref x0] [] _ from ?_)
  unfold f_X9_rememberForUndo at h
  refine x_aloadn dX9_rememberForUndo_0 rfl ?_
  refine x_aloadn dX9_rememberForUndo_1 rfl ?_
  refine z_getI fs_X9_331 (LW.o H0) dX9_rememberForUndo_2 ?_
  refine x_iconst 1 dX9_rememberForUndo_5 rfl ?_
  refine x_iadd dX9_rememberForUndo_6 ?_
  refine x_bipush 8 dX9_rememberForUndo_7 rfl ?_
  refine x_irem dX9_rememberForUndo_9 (by decide) ?_
  obtain ⟨I1, hI1, h⟩ := b1_s h
  refine z_putI fs_X9_331 (LW.o H0) hI1 dX9_rememberForUndo_10 ?_
  refine x_aloadn dX9_rememberForUndo_13 rfl ?_
  refine z_getR fs_X9_26 (LW.o H0) (LW.g3 H0) dX9_rememberForUndo_14 ?_
  refine x_aloadn dX9_rememberForUndo_17 rfl ?_
  refine z_getI fs_X9_331 (LW.o H0) dX9_rememberForUndo_18 ?_
  obtain ⟨j2, hj2, h⟩ := b1_s h
  refine z_aald (LW.l3 H0) ⟨by decide, by decide⟩ hj2 (LW.h H0 (ix_s hj2).2.1) dX9_rememberForUndo_21 ?_
  refine x_aloadn dX9_rememberForUndo_22 rfl ?_
  refine z_getR fs_X9_19 (LW.o H0) (LW.g1 H0) dX9_rememberForUndo_23 ?_
  obtain ⟨I3, h4, h⟩ := b1_s h
  refine z_V0 [.ref (x0 + 37)] [] (cs_X9_77 _) (ci := 1) rfl (LM.o (LW.hq H0 (ix_s hj2).2.1)) (dep (show d + 0 + 1 + 1 ≤ (d + 2) from by omega) (Nat.le_of_ble_eq_true rfl)) dX9_rememberForUndo_26 rfl rfl (Nat.le_of_ble_eq_true rfl) (c_X3_copyFrom d (K := K) (I := I1) (LW.hq H0 (ix_s hj2).2.1) (LW.q H0) h4) ?_
  refine x_aloadn dX9_rememberForUndo_29 rfl ?_
  refine x_aloadn dX9_rememberForUndo_30 rfl ?_
  refine z_getI fs_X9_85 (LW.o H0) dX9_rememberForUndo_31 ?_
  refine x_iconst 1 dX9_rememberForUndo_34 rfl ?_
  refine x_iadd dX9_rememberForUndo_35 ?_
  refine x_bipush 8 dX9_rememberForUndo_36 rfl ?_
  refine x_mmin ms_X9_352 (Nat.le_of_ble_eq_true rfl) (by show 1 ≤ (d + 2); omega) dX9_rememberForUndo_38 ?_
  obtain ⟨I5, hI5, h⟩ := b1_s h
  refine z_putI fs_X9_85 (LW.o H0) hI5 dX9_rememberForUndo_41 ?_
  cases h
  exact x_vret rfl dX9_rememberForUndo_44 ⟨rfl, rfl, rfl⟩
noncomputable def f_X9_advance (I : Mem) (x0 : Nat) (x1 : Int32) : Option (Except String Int32 × Mem) := e1 (f_X9_loadedMarket I x0) (fun E => some (.error E, I)) fun v1 => b1 (ckE v1 (x0 + 37)) fun _ => e1 (f_X9_checkRange x1 1 300) (fun E => some (.error E, I)) fun u4 => b1 (f_X9_rememberForUndo I x0) fun I6 => b2 (f_X3_simulate I6 (x0 + 37) x1) fun v8 I9 => some (.ok v8, I9)
theorem c_X9_advance (d : Nat) {K : Kt} {I : Mem} {x0 : Nat} (H0 : LW K x0) {x1 : Int32} {x : Except String Int32} {I9 : Mem} (h : f_X9_advance I x0 x1 = some (x, I9)) : Ct (mX9_advance (d + 7)) cX9_advance (cst x) (cs6 x) [.ref x0, .int x1] I K (Ro (rI x) I9 K) := by
  refine Ct.of rfl pn_X9 (catR (catI cat0)) (Nat.le_of_ble_eq_true rfl) (show X _ _ _ _ _ _ 0 [.ref x0, .int x1, .retAddr 0] [] _ from ?_)
  unfold f_X9_advance at h
  refine x_aloadn dX9_advance_0 rfl ?_
  rcases e1_s h with ⟨v1, h2, h⟩ | ⟨E, h2, h⟩
  rotate_left
  · have hq := c_X9_loadedMarket d (K := K) (I := I) H0 h2
    cases h
    exact z_Ve [] [] (cs_X9_97 _) (ci := 7) rfl (LW.o H0) (dep (show d + 0 + 6 + 1 ≤ (d + 7) from by omega) (Nat.le_of_ble_eq_true rfl)) dX9_advance_1 rfl rfl (Nat.le_of_ble_eq_true rfl) hq rfl
  have hq := c_X9_loadedMarket d (K := K) (I := I) H0 h2
  refine z_V1 [] [] (cs_X9_97 _) (ci := 7) rfl (LW.o H0) (dep (show d + 0 + 6 + 1 ≤ (d + 7) from by omega) (Nat.le_of_ble_eq_true rfl)) dX9_advance_1 rfl rfl (Nat.le_of_ble_eq_true rfl) hq ?_
  obtain ⟨u3, hu3, h⟩ := b1_s h
  refine X.e2 (congrArg Value.ref (ckE_s hu3)) ?_
  refine x_astoren dX9_advance_4 (Nat.le_of_ble_eq_true rfl) rfl rfl ?_
  refine x_iloadn dX9_advance_5 rfl ?_
  refine x_iconst 1 dX9_advance_6 rfl ?_
  refine x_sipush 300 dX9_advance_7 rfl ?_
  rcases e1_s h with ⟨u4, h5, h⟩ | ⟨E, h5, h⟩
  rotate_left
  · have hq := c_X9_checkRange d (K := K) (I := I) h5
    cases h
    exact z_Se [.int x1, .int 1, .int 300] [] (cs_X9_272 _) (dep (show d + 0 + 6 + 1 ≤ (d + 7) from by omega) (Nat.le_of_ble_eq_true rfl)) dX9_advance_10 rfl rfl (Nat.le_of_ble_eq_true rfl) hq rfl
  have hq := c_X9_checkRange d (K := K) (I := I) h5
  refine z_S0 [.int x1, .int 1, .int 300] [] (cs_X9_272 _) (dep (show d + 0 + 6 + 1 ≤ (d + 7) from by omega) (Nat.le_of_ble_eq_true rfl)) dX9_advance_10 rfl rfl (Nat.le_of_ble_eq_true rfl) hq ?_
  refine x_aloadn dX9_advance_13 rfl ?_
  obtain ⟨I6, h7, h⟩ := b1_s h
  refine z_V0 [] [] (cs_X9_308 _) (ci := 7) rfl (LW.o H0) (dep (show d + 4 + 2 + 1 ≤ (d + 7) from by omega) (Nat.le_of_ble_eq_true rfl)) dX9_advance_14 rfl rfl (Nat.le_of_ble_eq_true rfl) (c_X9_rememberForUndo (d + 4) (K := K) (I := I) H0 h7) ?_
  refine x_aloadn dX9_advance_17 rfl ?_
  refine x_iloadn dX9_advance_18 rfl ?_
  obtain ⟨v8, I9, h10, h⟩ := b2_s h
  refine z_V1 [.int x1] [] (cs_X9_276 _) (ci := 1) rfl (LM.o (LW.q H0)) (dep (show d + 2 + 4 + 1 ≤ (d + 7) from by omega) (Nat.le_of_ble_eq_true rfl)) dX9_advance_19 rfl rfl (Nat.le_of_ble_eq_true rfl) (c_X3_simulate (d + 2) (K := K) (I := I6) (LW.q H0) h10) ?_
  cases h
  exact x_iret rfl dX9_advance_22 ⟨rfl, rfl, rfl⟩
noncomputable def f_X9_checkObstacle (x0 : Int32) : Option (Except String Unit) := if x0 = 0 then (some (.ok ())) else (some (.error "java/lang/IllegalArgumentException"))
theorem c_X9_checkObstacle (d : Nat) {K : Kt} {I : Mem} {x0 : Int32} {x : Except String Unit} (h : f_X9_checkObstacle x0 = some x) : Ct (mX9_checkObstacle (d + 6)) cX9_checkObstacle (cst x) (cs6 x) [.int x0] I K (Ro (rV x) I K) := by
  refine Ct.of rfl pn_X9 (catI cat0) (Nat.le_of_ble_eq_true rfl) (show X _ _ _ _ _ _ 0 [.int x0] [] _ from ?_)
  unfold f_X9_checkObstacle at h
  refine x_iloadn dX9_checkObstacle_0 rfl ?_
  refine x_if_eq 15 dX9_checkObstacle_1 rfl (fun hc => ?_) (fun hc => ?_)
  · have h := ifT hc h
    cases h
    exact x_vret rfl dX9_checkObstacle_15 ⟨rfl, rfl, rfl⟩
  have h := ifF hc h
  cases h
  exact z_throwW ts_X9_69_350_73 ⟨(by show 6 ≤ (d + 6); omega), (by show _ ≤ 40 * (d + 6); have e : ∀ n, n = 0 → n + 82 ≤ 40 * (d + 6) := (fun n hn => by omega); exact e _ rfl)⟩ rfl dX9_checkObstacle_4 dX9_checkObstacle_7 dX9_checkObstacle_8 dX9_checkObstacle_11 dX9_checkObstacle_14
noncomputable def f_X9_buy (I : Mem) (x0 : Nat) (x1 : Int32) (x2 : Int32) : Option (Except String Int32 × Mem) := e1 (f_X9_checkPerson I x0 x1) (fun E => some (.error E, I)) fun u1 => e1 (f_X9_checkWish I x0 x2) (fun E => some (.error E, I)) fun u3 => b1 (f_X3_obstacleToBuy I (x0 + 37) x1 x2) fun v5 => e1 (f_X9_checkObstacle v5) (fun E => some (.error E, I)) fun u7 => b1 (f_X9_rememberForUndo I x0) fun I9 => b2 (f_X3_carryOutPurchase I9 (x0 + 37) x1 x2) fun v11 I12 => some (.ok v11, I12)
theorem c_X9_buy (d : Nat) {K : Kt} {I : Mem} {x0 : Nat} (H0 : LW K x0) {x1 : Int32} {x2 : Int32} {x : Except String Int32} {I9 : Mem} (h : f_X9_buy I x0 x1 x2 = some (x, I9)) : Ct (mX9_buy (d + 8)) cX9_buy (cst x) (cs6 x) [.ref x0, .int x1, .int x2] I K (Ro (rI x) I9 K) := by
  refine Ct.of rfl pn_X9 (catR (catI (catI cat0))) (Nat.le_of_ble_eq_true rfl) (show X _ _ _ _ _ _ 0 [.ref x0, .int x1, .int x2] [] _ from ?_)
  unfold f_X9_buy at h
  refine x_aloadn dX9_buy_0 rfl ?_
  refine x_iloadn dX9_buy_1 rfl ?_
  rcases e1_s h with ⟨u1, h2, h⟩ | ⟨E, h2, h⟩
  rotate_left
  · have hq := c_X9_checkPerson d (K := K) (I := I) H0 h2
    cases h
    exact z_Ve [.int x1] [] (cs_X9_168 _) (ci := 7) rfl (LW.o H0) (dep (show d + 0 + 7 + 1 ≤ (d + 8) from by omega) (Nat.le_of_ble_eq_true rfl)) dX9_buy_2 rfl rfl (Nat.le_of_ble_eq_true rfl) hq rfl
  have hq := c_X9_checkPerson d (K := K) (I := I) H0 h2
  refine z_V0 [.int x1] [] (cs_X9_168 _) (ci := 7) rfl (LW.o H0) (dep (show d + 0 + 7 + 1 ≤ (d + 8) from by omega) (Nat.le_of_ble_eq_true rfl)) dX9_buy_2 rfl rfl (Nat.le_of_ble_eq_true rfl) hq ?_
  refine x_aloadn dX9_buy_5 rfl ?_
  refine x_iloadn dX9_buy_6 rfl ?_
  rcases e1_s h with ⟨u3, h4, h⟩ | ⟨E, h4, h⟩
  rotate_left
  · have hq := c_X9_checkWish d (K := K) (I := I) H0 h4
    cases h
    exact z_Ve [.int x2] [] (cs_X9_235 _) (ci := 7) rfl (LW.o H0) (dep (show d + 0 + 7 + 1 ≤ (d + 8) from by omega) (Nat.le_of_ble_eq_true rfl)) dX9_buy_7 rfl rfl (Nat.le_of_ble_eq_true rfl) hq rfl
  have hq := c_X9_checkWish d (K := K) (I := I) H0 h4
  refine z_V0 [.int x2] [] (cs_X9_235 _) (ci := 7) rfl (LW.o H0) (dep (show d + 0 + 7 + 1 ≤ (d + 8) from by omega) (Nat.le_of_ble_eq_true rfl)) dX9_buy_7 rfl rfl (Nat.le_of_ble_eq_true rfl) hq ?_
  refine x_aloadn dX9_buy_10 rfl ?_
  refine z_getR fs_X9_19 (LW.o H0) (LW.g1 H0) dX9_buy_11 ?_
  refine x_iloadn dX9_buy_14 rfl ?_
  refine x_iloadn dX9_buy_15 rfl ?_
  obtain ⟨v5, h6, h⟩ := b1_s h
  refine z_V1 [.int x1, .int x2] [] (cs_X9_251 _) (ci := 1) rfl (LM.o (LW.q H0)) (dep (show d + 6 + 1 + 1 ≤ (d + 8) from by omega) (Nat.le_of_ble_eq_true rfl)) dX9_buy_16 rfl rfl (Nat.le_of_ble_eq_true rfl) (c_X3_obstacleToBuy (d + 6) (K := K) (I := I) (LW.q H0) h6) ?_
  rcases e1_s h with ⟨u7, h8, h⟩ | ⟨E, h8, h⟩
  rotate_left
  · have hq := c_X9_checkObstacle (d + 1) (K := K) (I := I) h8
    cases h
    exact z_Se [.int v5] [] (cs_X9_311 _) (dep (show d + 1 + 6 + 1 ≤ (d + 8) from by omega) (Nat.le_of_ble_eq_true rfl)) dX9_buy_19 rfl rfl (Nat.le_of_ble_eq_true rfl) hq rfl
  have hq := c_X9_checkObstacle (d + 1) (K := K) (I := I) h8
  refine z_S0 [.int v5] [] (cs_X9_311 _) (dep (show d + 1 + 6 + 1 ≤ (d + 8) from by omega) (Nat.le_of_ble_eq_true rfl)) dX9_buy_19 rfl rfl (Nat.le_of_ble_eq_true rfl) hq ?_
  refine x_aloadn dX9_buy_22 rfl ?_
  obtain ⟨I9, h10, h⟩ := b1_s h
  refine z_V0 [] [] (cs_X9_308 _) (ci := 7) rfl (LW.o H0) (dep (show d + 5 + 2 + 1 ≤ (d + 8) from by omega) (Nat.le_of_ble_eq_true rfl)) dX9_buy_23 rfl rfl (Nat.le_of_ble_eq_true rfl) (c_X9_rememberForUndo (d + 5) (K := K) (I := I) H0 h10) ?_
  refine x_aloadn dX9_buy_26 rfl ?_
  refine z_getR fs_X9_19 (LW.o H0) (LW.g1 H0) dX9_buy_27 ?_
  refine x_iloadn dX9_buy_30 rfl ?_
  refine x_iloadn dX9_buy_31 rfl ?_
  obtain ⟨v11, I12, h13, h⟩ := b2_s h
  refine z_V1 [.int x1, .int x2] [] (cs_X9_314 _) (ci := 1) rfl (LM.o (LW.q H0)) (dep (show d + 5 + 2 + 1 ≤ (d + 8) from by omega) (Nat.le_of_ble_eq_true rfl)) dX9_buy_32 rfl rfl (Nat.le_of_ble_eq_true rfl) (c_X3_carryOutPurchase (d + 5) (K := K) (I := I9) (LW.q H0) h13) ?_
  cases h
  exact x_iret rfl dX9_buy_35 ⟨rfl, rfl, rfl⟩
noncomputable def f_X9_sell (I : Mem) (x0 : Nat) (x1 : Int32) (x2 : Int32) : Option (Except String Int32 × Mem) := e1 (f_X9_checkWish I x0 x1) (fun E => some (.error E, I)) fun u1 => e1 (f_X9_checkStall I x0 x2) (fun E => some (.error E, I)) fun u3 => b1 (f_X3_obstacleToSell I (x0 + 37) x1 x2) fun v5 => e1 (f_X9_checkObstacle v5) (fun E => some (.error E, I)) fun u7 => b1 (f_X9_rememberForUndo I x0) fun I9 => b2 (f_X3_carryOutSale I9 (x0 + 37) x1 x2) fun v11 I12 => some (.ok v11, I12)
theorem c_X9_sell (d : Nat) {K : Kt} {I : Mem} {x0 : Nat} (H0 : LW K x0) {x1 : Int32} {x2 : Int32} {x : Except String Int32} {I9 : Mem} (h : f_X9_sell I x0 x1 x2 = some (x, I9)) : Ct (mX9_sell (d + 8)) cX9_sell (cst x) (cs6 x) [.ref x0, .int x1, .int x2] I K (Ro (rI x) I9 K) := by
  refine Ct.of rfl pn_X9 (catR (catI (catI cat0))) (Nat.le_of_ble_eq_true rfl) (show X _ _ _ _ _ _ 0 [.ref x0, .int x1, .int x2] [] _ from ?_)
  unfold f_X9_sell at h
  refine x_aloadn dX9_sell_0 rfl ?_
  refine x_iloadn dX9_sell_1 rfl ?_
  rcases e1_s h with ⟨u1, h2, h⟩ | ⟨E, h2, h⟩
  rotate_left
  · have hq := c_X9_checkWish d (K := K) (I := I) H0 h2
    cases h
    exact z_Ve [.int x1] [] (cs_X9_235 _) (ci := 7) rfl (LW.o H0) (dep (show d + 0 + 7 + 1 ≤ (d + 8) from by omega) (Nat.le_of_ble_eq_true rfl)) dX9_sell_2 rfl rfl (Nat.le_of_ble_eq_true rfl) hq rfl
  have hq := c_X9_checkWish d (K := K) (I := I) H0 h2
  refine z_V0 [.int x1] [] (cs_X9_235 _) (ci := 7) rfl (LW.o H0) (dep (show d + 0 + 7 + 1 ≤ (d + 8) from by omega) (Nat.le_of_ble_eq_true rfl)) dX9_sell_2 rfl rfl (Nat.le_of_ble_eq_true rfl) hq ?_
  refine x_aloadn dX9_sell_5 rfl ?_
  refine x_iloadn dX9_sell_6 rfl ?_
  rcases e1_s h with ⟨u3, h4, h⟩ | ⟨E, h4, h⟩
  rotate_left
  · have hq := c_X9_checkStall d (K := K) (I := I) H0 h4
    cases h
    exact z_Ve [.int x2] [] (cs_X9_195 _) (ci := 7) rfl (LW.o H0) (dep (show d + 0 + 7 + 1 ≤ (d + 8) from by omega) (Nat.le_of_ble_eq_true rfl)) dX9_sell_7 rfl rfl (Nat.le_of_ble_eq_true rfl) hq rfl
  have hq := c_X9_checkStall d (K := K) (I := I) H0 h4
  refine z_V0 [.int x2] [] (cs_X9_195 _) (ci := 7) rfl (LW.o H0) (dep (show d + 0 + 7 + 1 ≤ (d + 8) from by omega) (Nat.le_of_ble_eq_true rfl)) dX9_sell_7 rfl rfl (Nat.le_of_ble_eq_true rfl) hq ?_
  refine x_aloadn dX9_sell_10 rfl ?_
  refine z_getR fs_X9_19 (LW.o H0) (LW.g1 H0) dX9_sell_11 ?_
  refine x_iloadn dX9_sell_14 rfl ?_
  refine x_iloadn dX9_sell_15 rfl ?_
  obtain ⟨v5, h6, h⟩ := b1_s h
  refine z_V1 [.int x1, .int x2] [] (cs_X9_254 _) (ci := 1) rfl (LM.o (LW.q H0)) (dep (show d + 6 + 1 + 1 ≤ (d + 8) from by omega) (Nat.le_of_ble_eq_true rfl)) dX9_sell_16 rfl rfl (Nat.le_of_ble_eq_true rfl) (c_X3_obstacleToSell (d + 6) (K := K) (I := I) (LW.q H0) h6) ?_
  rcases e1_s h with ⟨u7, h8, h⟩ | ⟨E, h8, h⟩
  rotate_left
  · have hq := c_X9_checkObstacle (d + 1) (K := K) (I := I) h8
    cases h
    exact z_Se [.int v5] [] (cs_X9_311 _) (dep (show d + 1 + 6 + 1 ≤ (d + 8) from by omega) (Nat.le_of_ble_eq_true rfl)) dX9_sell_19 rfl rfl (Nat.le_of_ble_eq_true rfl) hq rfl
  have hq := c_X9_checkObstacle (d + 1) (K := K) (I := I) h8
  refine z_S0 [.int v5] [] (cs_X9_311 _) (dep (show d + 1 + 6 + 1 ≤ (d + 8) from by omega) (Nat.le_of_ble_eq_true rfl)) dX9_sell_19 rfl rfl (Nat.le_of_ble_eq_true rfl) hq ?_
  refine x_aloadn dX9_sell_22 rfl ?_
  obtain ⟨I9, h10, h⟩ := b1_s h
  refine z_V0 [] [] (cs_X9_308 _) (ci := 7) rfl (LW.o H0) (dep (show d + 5 + 2 + 1 ≤ (d + 8) from by omega) (Nat.le_of_ble_eq_true rfl)) dX9_sell_23 rfl rfl (Nat.le_of_ble_eq_true rfl) (c_X9_rememberForUndo (d + 5) (K := K) (I := I) H0 h10) ?_
  refine x_aloadn dX9_sell_26 rfl ?_
  refine z_getR fs_X9_19 (LW.o H0) (LW.g1 H0) dX9_sell_27 ?_
  refine x_iloadn dX9_sell_30 rfl ?_
  refine x_iloadn dX9_sell_31 rfl ?_
  obtain ⟨v11, I12, h13, h⟩ := b2_s h
  refine z_V1 [.int x1, .int x2] [] (cs_X9_317 _) (ci := 1) rfl (LM.o (LW.q H0)) (dep (show d + 5 + 2 + 1 ≤ (d + 8) from by omega) (Nat.le_of_ble_eq_true rfl)) dX9_sell_32 rfl rfl (Nat.le_of_ble_eq_true rfl) (c_X3_carryOutSale (d + 5) (K := K) (I := I9) (LW.q H0) h13) ?_
  cases h
  exact x_iret rfl dX9_sell_35 ⟨rfl, rfl, rfl⟩
noncomputable def f_X9_returnWish (I : Mem) (x0 : Nat) (x1 : Int32) : Option (Except String Int32 × Mem) := e1 (f_X9_checkWish I x0 x1) (fun E => some (.error E, I)) fun u1 => b1 (f_X3_obstacleToReturn I (x0 + 37) x1) fun v3 => e1 (f_X9_checkObstacle v3) (fun E => some (.error E, I)) fun u5 => b1 (f_X9_rememberForUndo I x0) fun I7 => b2 (f_X3_carryOutReturn I7 (x0 + 37) x1) fun v9 I10 => some (.ok v9, I10)
theorem c_X9_returnWish (d : Nat) {K : Kt} {I : Mem} {x0 : Nat} (H0 : LW K x0) {x1 : Int32} {x : Except String Int32} {I9 : Mem} (h : f_X9_returnWish I x0 x1 = some (x, I9)) : Ct (mX9_returnWish (d + 8)) cX9_returnWish (cst x) (cs6 x) [.ref x0, .int x1] I K (Ro (rI x) I9 K) := by
  refine Ct.of rfl pn_X9 (catR (catI cat0)) (Nat.le_of_ble_eq_true rfl) (show X _ _ _ _ _ _ 0 [.ref x0, .int x1] [] _ from ?_)
  unfold f_X9_returnWish at h
  refine x_aloadn dX9_returnWish_0 rfl ?_
  refine x_iloadn dX9_returnWish_1 rfl ?_
  rcases e1_s h with ⟨u1, h2, h⟩ | ⟨E, h2, h⟩
  rotate_left
  · have hq := c_X9_checkWish d (K := K) (I := I) H0 h2
    cases h
    exact z_Ve [.int x1] [] (cs_X9_235 _) (ci := 7) rfl (LW.o H0) (dep (show d + 0 + 7 + 1 ≤ (d + 8) from by omega) (Nat.le_of_ble_eq_true rfl)) dX9_returnWish_2 rfl rfl (Nat.le_of_ble_eq_true rfl) hq rfl
  have hq := c_X9_checkWish d (K := K) (I := I) H0 h2
  refine z_V0 [.int x1] [] (cs_X9_235 _) (ci := 7) rfl (LW.o H0) (dep (show d + 0 + 7 + 1 ≤ (d + 8) from by omega) (Nat.le_of_ble_eq_true rfl)) dX9_returnWish_2 rfl rfl (Nat.le_of_ble_eq_true rfl) hq ?_
  refine x_aloadn dX9_returnWish_5 rfl ?_
  refine z_getR fs_X9_19 (LW.o H0) (LW.g1 H0) dX9_returnWish_6 ?_
  refine x_iloadn dX9_returnWish_9 rfl ?_
  obtain ⟨v3, h4, h⟩ := b1_s h
  refine z_V1 [.int x1] [] (cs_X9_257 _) (ci := 1) rfl (LM.o (LW.q H0)) (dep (show d + 6 + 1 + 1 ≤ (d + 8) from by omega) (Nat.le_of_ble_eq_true rfl)) dX9_returnWish_10 rfl rfl (Nat.le_of_ble_eq_true rfl) (c_X3_obstacleToReturn (d + 6) (K := K) (I := I) (LW.q H0) h4) ?_
  rcases e1_s h with ⟨u5, h6, h⟩ | ⟨E, h6, h⟩
  rotate_left
  · have hq := c_X9_checkObstacle (d + 1) (K := K) (I := I) h6
    cases h
    exact z_Se [.int v3] [] (cs_X9_311 _) (dep (show d + 1 + 6 + 1 ≤ (d + 8) from by omega) (Nat.le_of_ble_eq_true rfl)) dX9_returnWish_13 rfl rfl (Nat.le_of_ble_eq_true rfl) hq rfl
  have hq := c_X9_checkObstacle (d + 1) (K := K) (I := I) h6
  refine z_S0 [.int v3] [] (cs_X9_311 _) (dep (show d + 1 + 6 + 1 ≤ (d + 8) from by omega) (Nat.le_of_ble_eq_true rfl)) dX9_returnWish_13 rfl rfl (Nat.le_of_ble_eq_true rfl) hq ?_
  refine x_aloadn dX9_returnWish_16 rfl ?_
  obtain ⟨I7, h8, h⟩ := b1_s h
  refine z_V0 [] [] (cs_X9_308 _) (ci := 7) rfl (LW.o H0) (dep (show d + 5 + 2 + 1 ≤ (d + 8) from by omega) (Nat.le_of_ble_eq_true rfl)) dX9_returnWish_17 rfl rfl (Nat.le_of_ble_eq_true rfl) (c_X9_rememberForUndo (d + 5) (K := K) (I := I) H0 h8) ?_
  refine x_aloadn dX9_returnWish_20 rfl ?_
  refine z_getR fs_X9_19 (LW.o H0) (LW.g1 H0) dX9_returnWish_21 ?_
  refine x_iloadn dX9_returnWish_24 rfl ?_
  obtain ⟨v9, I10, h11, h⟩ := b2_s h
  refine z_V1 [.int x1] [] (cs_X9_320 _) (ci := 1) rfl (LM.o (LW.q H0)) (dep (show d + 5 + 2 + 1 ≤ (d + 8) from by omega) (Nat.le_of_ble_eq_true rfl)) dX9_returnWish_25 rfl rfl (Nat.le_of_ble_eq_true rfl) (c_X3_carryOutReturn (d + 5) (K := K) (I := I7) (LW.q H0) h11) ?_
  cases h
  exact x_iret rfl dX9_returnWish_28 ⟨rfl, rfl, rfl⟩
noncomputable def f_X9_grant (I : Mem) (x0 : Nat) (x1 : Int32) : Option (Except String Int32 × Mem) := e1 (f_X9_checkWish I x0 x1) (fun E => some (.error E, I)) fun u1 => b1 (f_X3_obstacleToGrant I (x0 + 37) x1) fun v3 => e1 (f_X9_checkObstacle v3) (fun E => some (.error E, I)) fun u5 => b1 (f_X9_rememberForUndo I x0) fun I7 => b2 (f_X3_carryOutGrant I7 (x0 + 37) x1) fun v9 I10 => some (.ok v9, I10)
theorem c_X9_grant (d : Nat) {K : Kt} {I : Mem} {x0 : Nat} (H0 : LW K x0) {x1 : Int32} {x : Except String Int32} {I9 : Mem} (h : f_X9_grant I x0 x1 = some (x, I9)) : Ct (mX9_grant (d + 8)) cX9_grant (cst x) (cs6 x) [.ref x0, .int x1] I K (Ro (rI x) I9 K) := by
  refine Ct.of rfl pn_X9 (catR (catI cat0)) (Nat.le_of_ble_eq_true rfl) (show X _ _ _ _ _ _ 0 [.ref x0, .int x1] [] _ from ?_)
  unfold f_X9_grant at h
  refine x_aloadn dX9_grant_0 rfl ?_
  refine x_iloadn dX9_grant_1 rfl ?_
  rcases e1_s h with ⟨u1, h2, h⟩ | ⟨E, h2, h⟩
  rotate_left
  · have hq := c_X9_checkWish d (K := K) (I := I) H0 h2
    cases h
    exact z_Ve [.int x1] [] (cs_X9_235 _) (ci := 7) rfl (LW.o H0) (dep (show d + 0 + 7 + 1 ≤ (d + 8) from by omega) (Nat.le_of_ble_eq_true rfl)) dX9_grant_2 rfl rfl (Nat.le_of_ble_eq_true rfl) hq rfl
  have hq := c_X9_checkWish d (K := K) (I := I) H0 h2
  refine z_V0 [.int x1] [] (cs_X9_235 _) (ci := 7) rfl (LW.o H0) (dep (show d + 0 + 7 + 1 ≤ (d + 8) from by omega) (Nat.le_of_ble_eq_true rfl)) dX9_grant_2 rfl rfl (Nat.le_of_ble_eq_true rfl) hq ?_
  refine x_aloadn dX9_grant_5 rfl ?_
  refine z_getR fs_X9_19 (LW.o H0) (LW.g1 H0) dX9_grant_6 ?_
  refine x_iloadn dX9_grant_9 rfl ?_
  obtain ⟨v3, h4, h⟩ := b1_s h
  refine z_V1 [.int x1] [] (cs_X9_260 _) (ci := 1) rfl (LM.o (LW.q H0)) (dep (show d + 6 + 1 + 1 ≤ (d + 8) from by omega) (Nat.le_of_ble_eq_true rfl)) dX9_grant_10 rfl rfl (Nat.le_of_ble_eq_true rfl) (c_X3_obstacleToGrant (d + 6) (K := K) (I := I) (LW.q H0) h4) ?_
  rcases e1_s h with ⟨u5, h6, h⟩ | ⟨E, h6, h⟩
  rotate_left
  · have hq := c_X9_checkObstacle (d + 1) (K := K) (I := I) h6
    cases h
    exact z_Se [.int v3] [] (cs_X9_311 _) (dep (show d + 1 + 6 + 1 ≤ (d + 8) from by omega) (Nat.le_of_ble_eq_true rfl)) dX9_grant_13 rfl rfl (Nat.le_of_ble_eq_true rfl) hq rfl
  have hq := c_X9_checkObstacle (d + 1) (K := K) (I := I) h6
  refine z_S0 [.int v3] [] (cs_X9_311 _) (dep (show d + 1 + 6 + 1 ≤ (d + 8) from by omega) (Nat.le_of_ble_eq_true rfl)) dX9_grant_13 rfl rfl (Nat.le_of_ble_eq_true rfl) hq ?_
  refine x_aloadn dX9_grant_16 rfl ?_
  obtain ⟨I7, h8, h⟩ := b1_s h
  refine z_V0 [] [] (cs_X9_308 _) (ci := 7) rfl (LW.o H0) (dep (show d + 5 + 2 + 1 ≤ (d + 8) from by omega) (Nat.le_of_ble_eq_true rfl)) dX9_grant_17 rfl rfl (Nat.le_of_ble_eq_true rfl) (c_X9_rememberForUndo (d + 5) (K := K) (I := I) H0 h8) ?_
  refine x_aloadn dX9_grant_20 rfl ?_
  refine z_getR fs_X9_19 (LW.o H0) (LW.g1 H0) dX9_grant_21 ?_
  refine x_iloadn dX9_grant_24 rfl ?_
  obtain ⟨v9, I10, h11, h⟩ := b2_s h
  refine z_V1 [.int x1] [] (cs_X9_323 _) (ci := 1) rfl (LM.o (LW.q H0)) (dep (show d + 6 + 1 + 1 ≤ (d + 8) from by omega) (Nat.le_of_ble_eq_true rfl)) dX9_grant_25 rfl rfl (Nat.le_of_ble_eq_true rfl) (c_X3_carryOutGrant (d + 6) (K := K) (I := I7) (LW.q H0) h11) ?_
  cases h
  exact x_iret rfl dX9_grant_28 ⟨rfl, rfl, rfl⟩
noncomputable def f_X9_setLimit (I : Mem) (x0 : Nat) (x1 : Int32) (x2 : Int32) : Option (Except String Int32 × Mem) := e1 (f_X9_personAt I x0 x1) (fun E => some (.error E, I)) fun v1 => b1 (ckA v1 (x0 + 37 + 4) 6) fun j3 => e1 (f_X9_checkRange x2 0 200) (fun E => some (.error E, I)) fun u4 => b1 (f_X9_rememberForUndo I x0) fun I6 => b1 (pu I6 ((x0 + 37 + 4) + j3) 5 x2) fun I8 => some (.ok (I6 ((x0 + 37 + 4) + j3) 5), I8)
theorem c_X9_setLimit (d : Nat) {K : Kt} {I : Mem} {x0 : Nat} (H0 : LW K x0) {x1 : Int32} {x2 : Int32} {x : Except String Int32} {I9 : Mem} (h : f_X9_setLimit I x0 x1 x2 = some (x, I9)) : Ct (mX9_setLimit (d + 9)) cX9_setLimit (cst x) (cs6 x) [.ref x0, .int x1, .int x2] I K (Ro (rI x) I9 K) := by
  refine Ct.of rfl pn_X9 (catR (catI (catI cat0))) (Nat.le_of_ble_eq_true rfl) (show X _ _ _ _ _ _ 0 [.ref x0, .int x1, .int x2, .retAddr 0, .retAddr 0] [] _ from ?_)
  unfold f_X9_setLimit at h
  refine x_aloadn dX9_setLimit_0 rfl ?_
  refine x_iloadn dX9_setLimit_1 rfl ?_
  rcases e1_s h with ⟨v1, h2, h⟩ | ⟨E, h2, h⟩
  rotate_left
  · have hq := c_X9_personAt d (K := K) (I := I) H0 h2
    cases h
    exact z_Ve [.int x1] [] (cs_X9_143 _) (ci := 7) rfl (LW.o H0) (dep (show d + 0 + 8 + 1 ≤ (d + 9) from by omega) (Nat.le_of_ble_eq_true rfl)) dX9_setLimit_2 rfl rfl (Nat.le_of_ble_eq_true rfl) hq rfl
  have hq := c_X9_personAt d (K := K) (I := I) H0 h2
  refine z_V1 [.int x1] [] (cs_X9_143 _) (ci := 7) rfl (LW.o H0) (dep (show d + 0 + 8 + 1 ≤ (d + 9) from by omega) (Nat.le_of_ble_eq_true rfl)) dX9_setLimit_2 rfl rfl (Nat.le_of_ble_eq_true rfl) hq ?_
  obtain ⟨j3, hj3, h⟩ := b1_s h
  refine X.e2 (congrArg Value.ref (ckA_s hj3).2) ?_
  have hj3 := (ckA_s hj3).1
  refine x_astoren dX9_setLimit_5 (Nat.le_of_ble_eq_true rfl) rfl rfl ?_
  refine x_iloadn dX9_setLimit_6 rfl ?_
  refine x_iconst 0 dX9_setLimit_7 rfl ?_
  refine x_sipush 200 dX9_setLimit_8 rfl ?_
  rcases e1_s h with ⟨u4, h5, h⟩ | ⟨E, h5, h⟩
  rotate_left
  · have hq := c_X9_checkRange (d + 2) (K := K) (I := I) h5
    cases h
    exact z_Se [.int x2, .int 0, .int 200] [] (cs_X9_272 _) (dep (show d + 2 + 6 + 1 ≤ (d + 9) from by omega) (Nat.le_of_ble_eq_true rfl)) dX9_setLimit_11 rfl rfl (Nat.le_of_ble_eq_true rfl) hq rfl
  have hq := c_X9_checkRange (d + 2) (K := K) (I := I) h5
  refine z_S0 [.int x2, .int 0, .int 200] [] (cs_X9_272 _) (dep (show d + 2 + 6 + 1 ≤ (d + 9) from by omega) (Nat.le_of_ble_eq_true rfl)) dX9_setLimit_11 rfl rfl (Nat.le_of_ble_eq_true rfl) hq ?_
  refine x_aloadn dX9_setLimit_14 rfl ?_
  obtain ⟨I6, h7, h⟩ := b1_s h
  refine z_V0 [] [] (cs_X9_308 _) (ci := 7) rfl (LW.o H0) (dep (show d + 6 + 2 + 1 ≤ (d + 9) from by omega) (Nat.le_of_ble_eq_true rfl)) dX9_setLimit_15 rfl rfl (Nat.le_of_ble_eq_true rfl) (c_X9_rememberForUndo (d + 6) (K := K) (I := I) H0 h7) ?_
  refine x_aloadn dX9_setLimit_18 rfl ?_
  refine z_getI fs_X9_174 (LM.po (LW.q H0) hj3) dX9_setLimit_19 ?_
  refine x_istore dX9_setLimit_22 (Nat.le_of_ble_eq_true rfl) rfl rfl ?_
  refine x_aloadn dX9_setLimit_24 rfl ?_
  refine x_iloadn dX9_setLimit_25 rfl ?_
  obtain ⟨I8, hI8, h⟩ := b1_s h
  refine z_putI fs_X9_174 (LM.po (LW.q H0) hj3) hI8 dX9_setLimit_26 ?_
  refine x_iload dX9_setLimit_29 rfl ?_
  cases h
  exact x_iret rfl dX9_setLimit_31 ⟨rfl, rfl, rfl⟩
noncomputable def f_X9_setMargin (I : Mem) (x0 : Nat) (x1 : Int32) (x2 : Int32) : Option (Except String Int32 × Mem) := e1 (f_X9_stallAt I x0 x1) (fun E => some (.error E, I)) fun v1 => b1 (ckA v1 (x0 + 37 + 10) 5) fun j3 => e1 (f_X9_checkRange x2 0 100) (fun E => some (.error E, I)) fun u4 => b1 (f_X9_rememberForUndo I x0) fun I6 => b1 (pu I6 ((x0 + 37 + 10) + j3) 3 x2) fun I8 => some (.ok (I6 ((x0 + 37 + 10) + j3) 3), I8)
theorem c_X9_setMargin (d : Nat) {K : Kt} {I : Mem} {x0 : Nat} (H0 : LW K x0) {x1 : Int32} {x2 : Int32} {x : Except String Int32} {I9 : Mem} (h : f_X9_setMargin I x0 x1 x2 = some (x, I9)) : Ct (mX9_setMargin (d + 9)) cX9_setMargin (cst x) (cs6 x) [.ref x0, .int x1, .int x2] I K (Ro (rI x) I9 K) := by
  refine Ct.of rfl pn_X9 (catR (catI (catI cat0))) (Nat.le_of_ble_eq_true rfl) (show X _ _ _ _ _ _ 0 [.ref x0, .int x1, .int x2, .retAddr 0, .retAddr 0] [] _ from ?_)
  unfold f_X9_setMargin at h
  refine x_aloadn dX9_setMargin_0 rfl ?_
  refine x_iloadn dX9_setMargin_1 rfl ?_
  rcases e1_s h with ⟨v1, h2, h⟩ | ⟨E, h2, h⟩
  rotate_left
  · have hq := c_X9_stallAt d (K := K) (I := I) H0 h2
    cases h
    exact z_Ve [.int x1] [] (cs_X9_180 _) (ci := 7) rfl (LW.o H0) (dep (show d + 0 + 8 + 1 ≤ (d + 9) from by omega) (Nat.le_of_ble_eq_true rfl)) dX9_setMargin_2 rfl rfl (Nat.le_of_ble_eq_true rfl) hq rfl
  have hq := c_X9_stallAt d (K := K) (I := I) H0 h2
  refine z_V1 [.int x1] [] (cs_X9_180 _) (ci := 7) rfl (LW.o H0) (dep (show d + 0 + 8 + 1 ≤ (d + 9) from by omega) (Nat.le_of_ble_eq_true rfl)) dX9_setMargin_2 rfl rfl (Nat.le_of_ble_eq_true rfl) hq ?_
  obtain ⟨j3, hj3, h⟩ := b1_s h
  refine X.e2 (congrArg Value.ref (ckA_s hj3).2) ?_
  have hj3 := (ckA_s hj3).1
  refine x_astoren dX9_setMargin_5 (Nat.le_of_ble_eq_true rfl) rfl rfl ?_
  refine x_iloadn dX9_setMargin_6 rfl ?_
  refine x_iconst 0 dX9_setMargin_7 rfl ?_
  refine x_bipush 100 dX9_setMargin_8 rfl ?_
  rcases e1_s h with ⟨u4, h5, h⟩ | ⟨E, h5, h⟩
  rotate_left
  · have hq := c_X9_checkRange (d + 2) (K := K) (I := I) h5
    cases h
    exact z_Se [.int x2, .int 0, .int 100] [] (cs_X9_272 _) (dep (show d + 2 + 6 + 1 ≤ (d + 9) from by omega) (Nat.le_of_ble_eq_true rfl)) dX9_setMargin_10 rfl rfl (Nat.le_of_ble_eq_true rfl) hq rfl
  have hq := c_X9_checkRange (d + 2) (K := K) (I := I) h5
  refine z_S0 [.int x2, .int 0, .int 100] [] (cs_X9_272 _) (dep (show d + 2 + 6 + 1 ≤ (d + 9) from by omega) (Nat.le_of_ble_eq_true rfl)) dX9_setMargin_10 rfl rfl (Nat.le_of_ble_eq_true rfl) hq ?_
  refine x_aloadn dX9_setMargin_13 rfl ?_
  obtain ⟨I6, h7, h⟩ := b1_s h
  refine z_V0 [] [] (cs_X9_308 _) (ci := 7) rfl (LW.o H0) (dep (show d + 6 + 2 + 1 ≤ (d + 9) from by omega) (Nat.le_of_ble_eq_true rfl)) dX9_setMargin_14 rfl rfl (Nat.le_of_ble_eq_true rfl) (c_X9_rememberForUndo (d + 6) (K := K) (I := I) H0 h7) ?_
  refine x_aloadn dX9_setMargin_17 rfl ?_
  refine z_getI fs_X9_192 (LM.so (LW.q H0) hj3) dX9_setMargin_18 ?_
  refine x_istore dX9_setMargin_21 (Nat.le_of_ble_eq_true rfl) rfl rfl ?_
  refine x_aloadn dX9_setMargin_23 rfl ?_
  refine x_iloadn dX9_setMargin_24 rfl ?_
  obtain ⟨I8, hI8, h⟩ := b1_s h
  refine z_putI fs_X9_192 (LM.so (LW.q H0) hj3) hI8 dX9_setMargin_25 ?_
  refine x_iload dX9_setMargin_28 rfl ?_
  cases h
  exact x_iret rfl dX9_setMargin_30 ⟨rfl, rfl, rfl⟩
noncomputable def f_X9_undoCount (I : Mem) (x0 : Nat) : Option (Int32) := some ((I x0 8))
theorem c_X9_undoCount (d : Nat) {K : Kt} {I : Mem} {x0 : Nat} (H0 : LW K x0) {v : Int32} (h : f_X9_undoCount I x0 = some v) : Ct (mX9_undoCount d) cX9_undoCount 0 0 [.ref x0] I K (Ro (.inl (some (.int v))) I K) := by
  refine Ct.of rfl pn_X9 (catR cat0) (Nat.le_of_ble_eq_true rfl) (show X _ _ _ _ _ _ 0 [.ref x0] [] _ from ?_)
  unfold f_X9_undoCount at h
  refine x_aloadn dX9_undoCount_0 rfl ?_
  refine z_getI fs_X9_85 (LW.o H0) dX9_undoCount_1 ?_
  cases h
  exact x_iret rfl dX9_undoCount_4 ⟨rfl, rfl, rfl⟩
noncomputable def f_X9_saveState (I : Mem) (x0 : Nat) (x1 : Int32) : Option (Except String Int32 × Mem) := e1 (f_X9_loadedMarket I x0) (fun E => some (.error E, I)) fun v1 => b1 (ckE v1 (x0 + 37)) fun _ => e1 (f_X9_checkIndex x1 2) (fun E => some (.error E, I)) fun u4 => b1 (ix x1 2) fun j6 => b1 (f_X3_copyFrom I (x0 + 352 + 31 * j6) (x0 + 37)) fun I7 => b1 (ix x1 2) fun j9 => b1 (pu I7 (x0 + 101) j9 (vp_nar .boolean 1)) fun I10 => some (.ok (I10 (x0 + 37) 6), I10)
theorem c_X9_saveState (d : Nat) {K : Kt} {I : Mem} {x0 : Nat} (H0 : LW K x0) {x1 : Int32} {x : Except String Int32} {I9 : Mem} (h : f_X9_saveState I x0 x1 = some (x, I9)) : Ct (mX9_saveState (d + 7)) cX9_saveState (cst x) (cs6 x) [.ref x0, .int x1] I K (Ro (rI x) I9 K) := by
  refine Ct.of rfl pn_X9 (catR (catI cat0)) (Nat.le_of_ble_eq_true rfl) (show X _ _ _ _ _ _ 0 [.ref x0, .int x1, .retAddr 0] [] _ from ?_)
  unfold f_X9_saveState at h
  refine x_aloadn dX9_saveState_0 rfl ?_
  rcases e1_s h with ⟨v1, h2, h⟩ | ⟨E, h2, h⟩
  rotate_left
  · have hq := c_X9_loadedMarket d (K := K) (I := I) H0 h2
    cases h
    exact z_Ve [] [] (cs_X9_97 _) (ci := 7) rfl (LW.o H0) (dep (show d + 0 + 6 + 1 ≤ (d + 7) from by omega) (Nat.le_of_ble_eq_true rfl)) dX9_saveState_1 rfl rfl (Nat.le_of_ble_eq_true rfl) hq rfl
  have hq := c_X9_loadedMarket d (K := K) (I := I) H0 h2
  refine z_V1 [] [] (cs_X9_97 _) (ci := 7) rfl (LW.o H0) (dep (show d + 0 + 6 + 1 ≤ (d + 7) from by omega) (Nat.le_of_ble_eq_true rfl)) dX9_saveState_1 rfl rfl (Nat.le_of_ble_eq_true rfl) hq ?_
  obtain ⟨u3, hu3, h⟩ := b1_s h
  refine X.e2 (congrArg Value.ref (ckE_s hu3)) ?_
  refine x_astoren dX9_saveState_4 (Nat.le_of_ble_eq_true rfl) rfl rfl ?_
  refine x_iloadn dX9_saveState_5 rfl ?_
  refine x_iconst 2 dX9_saveState_6 rfl ?_
  rcases e1_s h with ⟨u4, h5, h⟩ | ⟨E, h5, h⟩
  rotate_left
  · have hq := c_X9_checkIndex d (K := K) (I := I) h5
    cases h
    exact z_Se [.int x1, .int 2] [] (cs_X9_334 _) (dep (show d + 0 + 6 + 1 ≤ (d + 7) from by omega) (Nat.le_of_ble_eq_true rfl)) dX9_saveState_7 rfl rfl (Nat.le_of_ble_eq_true rfl) hq rfl
  have hq := c_X9_checkIndex d (K := K) (I := I) h5
  refine z_S0 [.int x1, .int 2] [] (cs_X9_334 _) (dep (show d + 0 + 6 + 1 ≤ (d + 7) from by omega) (Nat.le_of_ble_eq_true rfl)) dX9_saveState_7 rfl rfl (Nat.le_of_ble_eq_true rfl) hq ?_
  refine x_aloadn dX9_saveState_10 rfl ?_
  refine z_getR fs_X9_30 (LW.o H0) (LW.g4 H0) dX9_saveState_11 ?_
  refine x_iloadn dX9_saveState_14 rfl ?_
  obtain ⟨j6, hj6, h⟩ := b1_s h
  refine z_aald (LW.l4 H0) ⟨by decide, by decide⟩ hj6 (LW.v H0 (ix_s hj6).2.1) dX9_saveState_15 ?_
  refine x_aloadn dX9_saveState_16 rfl ?_
  obtain ⟨I7, h8, h⟩ := b1_s h
  refine z_V0 [.ref (x0 + 37)] [] (cs_X9_77 _) (ci := 1) rfl (LM.o (LW.vq H0 (ix_s hj6).2.1)) (dep (show d + 5 + 1 + 1 ≤ (d + 7) from by omega) (Nat.le_of_ble_eq_true rfl)) dX9_saveState_17 rfl rfl (Nat.le_of_ble_eq_true rfl) (c_X3_copyFrom (d + 5) (K := K) (I := I) (LW.vq H0 (ix_s hj6).2.1) (LW.q H0) h8) ?_
  refine x_aloadn dX9_saveState_20 rfl ?_
  refine z_getR fs_X9_33 (LW.o H0) (LW.g5 H0) dX9_saveState_21 ?_
  refine x_iloadn dX9_saveState_24 rfl ?_
  refine x_iconst 1 dX9_saveState_25 rfl ?_
  obtain ⟨j9, hj9, h⟩ := b1_s h
  obtain ⟨I10, hI10, h⟩ := b1_s h
  refine z_zast (LW.l5 H0) hj9 hI10 dX9_saveState_26 ?_
  refine x_aloadn dX9_saveState_27 rfl ?_
  refine z_getI fs_X9_101 (LM.o (LW.q H0)) dX9_saveState_28 ?_
  cases h
  exact x_iret rfl dX9_saveState_31 ⟨rfl, rfl, rfl⟩
noncomputable def f_X9_restoreState (I : Mem) (x0 : Nat) (x1 : Int32) : Option (Except String Int32 × Mem) := e1 (f_X9_checkIndex x1 2) (fun E => some (.error E, I)) fun u1 => b1 (ix x1 2) fun j3 => if (I (x0 + 101) j3) = 0 then (some (.error "java/lang/IllegalStateException", I)) else (b1 (ix x1 2) fun j4 => b1 (f_X3_copyFrom I (x0 + 37) (x0 + 352 + 31 * j4)) fun I5 => b1 (pu I5 x0 8 0) fun I7 => some (.ok (I7 (x0 + 37) 6), I7))
theorem c_X9_restoreState (d : Nat) {K : Kt} {I : Mem} {x0 : Nat} (H0 : LW K x0) {x1 : Int32} {x : Except String Int32} {I9 : Mem} (h : f_X9_restoreState I x0 x1 = some (x, I9)) : Ct (mX9_restoreState (d + 7)) cX9_restoreState (cst x) (cs6 x) [.ref x0, .int x1] I K (Ro (rI x) I9 K) := by
  refine Ct.of rfl pn_X9 (catR (catI cat0)) (Nat.le_of_ble_eq_true rfl) (show X _ _ _ _ _ _ 0 [.ref x0, .int x1] [] _ from ?_)
  unfold f_X9_restoreState at h
  refine x_iloadn dX9_restoreState_0 rfl ?_
  refine x_iconst 2 dX9_restoreState_1 rfl ?_
  rcases e1_s h with ⟨u1, h2, h⟩ | ⟨E, h2, h⟩
  rotate_left
  · have hq := c_X9_checkIndex d (K := K) (I := I) h2
    cases h
    exact z_Se [.int x1, .int 2] [] (cs_X9_334 _) (dep (show d + 0 + 6 + 1 ≤ (d + 7) from by omega) (Nat.le_of_ble_eq_true rfl)) dX9_restoreState_2 rfl rfl (Nat.le_of_ble_eq_true rfl) hq rfl
  have hq := c_X9_checkIndex d (K := K) (I := I) h2
  refine z_S0 [.int x1, .int 2] [] (cs_X9_334 _) (dep (show d + 0 + 6 + 1 ≤ (d + 7) from by omega) (Nat.le_of_ble_eq_true rfl)) dX9_restoreState_2 rfl rfl (Nat.le_of_ble_eq_true rfl) hq ?_
  refine x_aloadn dX9_restoreState_5 rfl ?_
  refine z_getR fs_X9_33 (LW.o H0) (LW.g5 H0) dX9_restoreState_6 ?_
  refine x_iloadn dX9_restoreState_9 rfl ?_
  obtain ⟨j3, hj3, h⟩ := b1_s h
  refine z_zald (LW.l5 H0) hj3 dX9_restoreState_10 ?_
  refine x_if_ne 25 dX9_restoreState_11 rfl (fun hc => ?_) (fun hc => ?_)
  · have h := ifF hc h
    refine x_aloadn dX9_restoreState_25 rfl ?_
    refine z_getR fs_X9_19 (LW.o H0) (LW.g1 H0) dX9_restoreState_26 ?_
    refine x_aloadn dX9_restoreState_29 rfl ?_
    refine z_getR fs_X9_30 (LW.o H0) (LW.g4 H0) dX9_restoreState_30 ?_
    refine x_iloadn dX9_restoreState_33 rfl ?_
    obtain ⟨j4, hj4, h⟩ := b1_s h
    refine z_aald (LW.l4 H0) ⟨by decide, by decide⟩ hj4 (LW.v H0 (ix_s hj4).2.1) dX9_restoreState_34 ?_
    obtain ⟨I5, h6, h⟩ := b1_s h
    refine z_V0 [.ref (x0 + 352 + 31 * j4)] [] (cs_X9_77 _) (ci := 1) rfl (LM.o (LW.q H0)) (dep (show d + 5 + 1 + 1 ≤ (d + 7) from by omega) (Nat.le_of_ble_eq_true rfl)) dX9_restoreState_35 rfl rfl (Nat.le_of_ble_eq_true rfl) (c_X3_copyFrom (d + 5) (K := K) (I := I) (LW.q H0) (LW.vq H0 (ix_s hj4).2.1) h6) ?_
    refine x_aloadn dX9_restoreState_38 rfl ?_
    refine x_iconst 0 dX9_restoreState_39 rfl ?_
    obtain ⟨I7, hI7, h⟩ := b1_s h
    refine z_putI fs_X9_85 (LW.o H0) hI7 dX9_restoreState_40 ?_
    refine x_aloadn dX9_restoreState_43 rfl ?_
    refine z_getR fs_X9_19 (LW.o H0) (LW.g1 H0) dX9_restoreState_44 ?_
    refine z_getI fs_X9_101 (LM.o (LW.q H0)) dX9_restoreState_47 ?_
    cases h
    exact x_iret rfl dX9_restoreState_50 ⟨rfl, rfl, rfl⟩
  have h := ifT hc h
  cases h
  exact z_throwW ts_X9_326_338_330 ⟨(by show 6 ≤ (d + 7); omega), (by show _ ≤ 40 * (d + 7); have e : ∀ n, n = 0 → n + 82 ≤ 40 * (d + 7) := (fun n hn => by omega); exact e _ rfl)⟩ rfl dX9_restoreState_14 dX9_restoreState_17 dX9_restoreState_18 dX9_restoreState_21 dX9_restoreState_24
