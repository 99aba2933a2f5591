noncomputable def f_L_flush (I : Mem) (K : Kt) (x0 : Nat) (x1 : Nat) : Option (Mem) := b1 (cA K 100 x1) fun m2 => b1 (ix 0 m2) fun j1 => b1 (cA K 100 x1) fun m6 => b1 (ix 1 m6) fun j5 => b1 (cA K 100 x1) fun m10 => b1 (ix 2 m10) fun j9 => b1 (cA K 100 x1) fun m14 => b1 (ix 3 m14) fun j13 => b1 (cA K 100 x1) fun m18 => b1 (ix 4 m18) fun j17 => b1 (cW K x0) fun _ => b2 (f_X9_append I x0 (I x1 j1) (I x1 j5) (I x1 j9) (I x1 j13) (I x1 j17)) fun v23 I24 => b1 (cA K 100 x1) fun m27 => b1 (ix 5 m27) fun j26 => b1 (pu I24 x1 j26 0) fun I30 => some (I30)
theorem c_L_flush (d : Nat) {K : Kt} {I : Mem} {x0 : Nat} {x1 : Nat} {I9 : Mem} (h : f_L_flush I K x0 x1 = some I9) : Ct (mL_flush (d + 2)) cL_flush 0 0 [.ref x0, .ref x1] I K (Ro (.inl none) I9 K) := by
  refine Ct.of rfl pn_L (catR (catR cat0)) (Nat.le_of_ble_eq_true rfl) (show X (mL_flush (d + 2)) cL_flush 0 0 I K 0 [.ref x0, .ref x1, .retAddr 0] [] (Ro (.inl none) I9 K) from ?_)
  unfold f_L_flush at h
  refine x_aloadn dL_flush_0 rfl ?_
  refine x_aloadn dL_flush_1 rfl ?_
  refine x_iconst 0 dL_flush_2 rfl ?_
  obtain ⟨m2, hq3, h⟩ := b1_s h
  obtain ⟨j1, hq4, h⟩ := b1_s h
  refine z_iald (cA_s hq3) hq4 dL_flush_3 ?_
  refine x_aloadn dL_flush_4 rfl ?_
  refine x_iconst 1 dL_flush_5 rfl ?_
  obtain ⟨m6, hq7, h⟩ := b1_s h
  obtain ⟨j5, hq8, h⟩ := b1_s h
  refine z_iald (cA_s hq7) hq8 dL_flush_6 ?_
  refine x_aloadn dL_flush_7 rfl ?_
  refine x_iconst 2 dL_flush_8 rfl ?_
  obtain ⟨m10, hq11, h⟩ := b1_s h
  obtain ⟨j9, hq12, h⟩ := b1_s h
  refine z_iald (cA_s hq11) hq12 dL_flush_9 ?_
  refine x_aloadn dL_flush_10 rfl ?_
  refine x_iconst 3 dL_flush_11 rfl ?_
  obtain ⟨m14, hq15, h⟩ := b1_s h
  obtain ⟨j13, hq16, h⟩ := b1_s h
  refine z_iald (cA_s hq15) hq16 dL_flush_12 ?_
  refine x_aloadn dL_flush_13 rfl ?_
  refine x_iconst 4 dL_flush_14 rfl ?_
  obtain ⟨m18, hq19, h⟩ := b1_s h
  obtain ⟨j17, hq20, h⟩ := b1_s h
  refine z_iald (cA_s hq19) hq20 dL_flush_15 ?_
  obtain ⟨u21, hq22, h⟩ := b1_s h
  obtain ⟨v23, I24, hq25, h⟩ := b2_s h
  have hq := c_X9_append d (K := K) (I := I) (cW_s hq22) hq25
  refine X.c0 (z_Vcall [.int (I x1 j1), .int (I x1 j5), .int (I x1 j9), .int (I x1 j13), .int (I x1 j17)] [] (cs_L_13 _) (ci := 7) rfl (LW.o (cW_s hq22)) (dep (show d + 0 + 1 + 1 ≤ (d + 2) from by omega) (Nat.le_of_ble_eq_true rfl)) dL_flush_16 rfl rfl (Nat.le_of_ble_eq_true rfl) hq ?_)
  refine x_istoren dL_flush_19 (Nat.le_of_ble_eq_true rfl) rfl rfl ?_
  refine x_aloadn dL_flush_20 rfl ?_
  refine x_iconst 5 dL_flush_21 rfl ?_
  refine x_iconst 0 dL_flush_22 rfl ?_
  obtain ⟨m27, hq28, h⟩ := b1_s h
  obtain ⟨j26, hq29, h⟩ := b1_s h
  obtain ⟨I30, hq31, h⟩ := b1_s h
  refine z_iast (cA_s hq28) hq29 hq31 dL_flush_23 ?_
  cases h
  exact x_vret rfl dL_flush_24 ⟨rfl, rfl, rfl⟩
noncomputable def f_L_put (I : Mem) (K : Kt) (x0 : Nat) (x1 : Nat) (x2 : Int32) : Option (Mem) := b1 (cA K 100 x1) fun m2 => b1 (ix 5 m2) fun j1 => b1 (cA K 100 x1) fun m6 => b1 (ix ((I x1 j1) / 4) m6) fun j5 => b1 (cA K 100 x1) fun m10 => b1 (ix ((I x1 j1) / 4) m10) fun j9 => b1 (pu I x1 j9 (((I x1 j5) <<< (8 &&& 31)) ||| x2)) fun I13 => b1 (cA K 100 x1) fun m16 => b1 (ix 5 m16) fun j15 => b1 (cA K 100 x1) fun m20 => b1 (ix 5 m20) fun j19 => b1 (pu I13 x1 j19 ((I13 x1 j15) + 1)) fun I23 => b1 (cA K 100 x1) fun m26 => b1 (ix 6 m26) fun j25 => b1 (cA K 100 x1) fun m30 => b1 (ix 6 m30) fun j29 => b1 (pu I23 x1 j29 ((I23 x1 j25) + 1)) fun I33 => b1 (cA K 100 x1) fun m36 => b1 (ix 5 m36) fun j35 => if (I33 x1 j35) = 20 then (b1 (f_L_flush I33 K x0 x1) fun I39 => some (I39)) else (some (I33))
theorem c_L_put (d : Nat) {K : Kt} {I : Mem} {x0 : Nat} {x1 : Nat} {x2 : Int32} {I9 : Mem} (h : f_L_put I K x0 x1 x2 = some I9) : Ct (mL_put (d + 3)) cL_put 0 0 [.ref x0, .ref x1, .int x2] I K (Ro (.inl none) I9 K) := by
  refine Ct.of rfl pn_L (catR (catR (catI cat0))) (Nat.le_of_ble_eq_true rfl) (show X (mL_put (d + 3)) cL_put 0 0 I K 0 [.ref x0, .ref x1, .int x2, .retAddr 0] [] (Ro (.inl none) I9 K) from ?_)
  unfold f_L_put at h
  refine x_aloadn dL_put_0 rfl ?_
  refine x_iconst 5 dL_put_1 rfl ?_
  obtain ⟨m2, hq3, h⟩ := b1_s h
  obtain ⟨j1, hq4, h⟩ := b1_s h
  refine z_iald (cA_s hq3) hq4 dL_put_2 ?_
  refine x_istoren dL_put_3 (Nat.le_of_ble_eq_true rfl) rfl rfl ?_
  refine x_aloadn dL_put_4 rfl ?_
  refine x_iloadn dL_put_5 rfl ?_
  refine x_iconst 4 dL_put_6 rfl ?_
  refine x_idiv dL_put_7 (by decide) ?_
  refine x_aloadn dL_put_8 rfl ?_
  refine x_iloadn dL_put_9 rfl ?_
  refine x_iconst 4 dL_put_10 rfl ?_
  refine x_idiv dL_put_11 (by decide) ?_
  obtain ⟨m6, hq7, h⟩ := b1_s h
  obtain ⟨j5, hq8, h⟩ := b1_s h
  refine z_iald (cA_s hq7) hq8 dL_put_12 ?_
  refine x_bipush 8 dL_put_13 (by decide) ?_
  refine x_ishl dL_put_15 ?_
  refine x_iloadn dL_put_16 rfl ?_
  refine x_ior dL_put_17 ?_
  obtain ⟨m10, hq11, h⟩ := b1_s h
  obtain ⟨j9, hq12, h⟩ := b1_s h
  obtain ⟨I13, hq14, h⟩ := b1_s h
  refine z_iast (cA_s hq11) hq12 hq14 dL_put_18 ?_
  refine x_aloadn dL_put_19 rfl ?_
  refine x_iconst 5 dL_put_20 rfl ?_
  refine x_dup2 dL_put_21 rfl rfl ?_
  obtain ⟨m16, hq17, h⟩ := b1_s h
  obtain ⟨j15, hq18, h⟩ := b1_s h
  refine z_iald (cA_s hq17) hq18 dL_put_22 ?_
  refine x_iconst 1 dL_put_23 rfl ?_
  refine x_iadd dL_put_24 ?_
  obtain ⟨m20, hq21, h⟩ := b1_s h
  obtain ⟨j19, hq22, h⟩ := b1_s h
  obtain ⟨I23, hq24, h⟩ := b1_s h
  refine z_iast (cA_s hq21) hq22 hq24 dL_put_25 ?_
  refine x_aloadn dL_put_26 rfl ?_
  refine x_bipush 6 dL_put_27 (by decide) ?_
  refine x_dup2 dL_put_29 rfl rfl ?_
  obtain ⟨m26, hq27, h⟩ := b1_s h
  obtain ⟨j25, hq28, h⟩ := b1_s h
  refine z_iald (cA_s hq27) hq28 dL_put_30 ?_
  refine x_iconst 1 dL_put_31 rfl ?_
  refine x_iadd dL_put_32 ?_
  obtain ⟨m30, hq31, h⟩ := b1_s h
  obtain ⟨j29, hq32, h⟩ := b1_s h
  obtain ⟨I33, hq34, h⟩ := b1_s h
  refine z_iast (cA_s hq31) hq32 hq34 dL_put_33 ?_
  refine x_aloadn dL_put_34 rfl ?_
  refine x_iconst 5 dL_put_35 rfl ?_
  obtain ⟨m36, hq37, h⟩ := b1_s h
  obtain ⟨j35, hq38, h⟩ := b1_s h
  refine z_iald (cA_s hq37) hq38 dL_put_36 ?_
  refine x_bipush 20 dL_put_37 (by decide) ?_
  refine x_icmp_ne 47 dL_put_39 rfl (fun hc => ?_) (fun hc => ?_)
  · have h := ifF hc h
    cases h
    exact x_vret rfl dL_put_47 ⟨rfl, rfl, rfl⟩
  have h := ifT hc h
  refine x_aloadn dL_put_42 rfl ?_
  refine x_aloadn dL_put_43 rfl ?_
  obtain ⟨I39, hq40, h⟩ := b1_s h
  have hq := c_L_flush d hq40
  refine X.c0 (z_Scall [.ref x0, .ref x1] [] (cs_L_7 _) (dep (show d + 0 + 2 + 1 ≤ (d + 3) from by omega) (Nat.le_of_ble_eq_true rfl)) dL_put_44 rfl rfl (Nat.le_of_ble_eq_true rfl) hq ?_)
  cases h
  exact x_vret rfl dL_put_47 ⟨rfl, rfl, rfl⟩
noncomputable def l_L_said_5 (m9 : Nat) (I : Mem) (K : Kt) (x0 : Nat) (x1 : Nat) (x2 : Int32) : Option (Int32 × Mem) := match m9 with
  | 0 => none
  | m9 + 1 => b1 (cA K 100 x1) fun m6 => b1 (ix 5 m6) fun j5 => if (I x1 j5) ≤ 0 then (b1 (cA K 100 x1) fun m10 => b1 (ix 6 m10) fun j9 => b1 (pu I x1 j9 0) fun I13 => some (x2, I13)) else (b1 (f_L_put I K x0 x1 32) fun I15 => l_L_said_5 m9 I15 K x0 x1 x2)
theorem tl_L_said_5 (d : Nat) (m9 : Nat) : ∀ {I : Mem} {K : Kt} {x0 : Nat} {x1 : Nat} {x2 : Int32} {v : Int32} {I9 : Mem}, l_L_said_5 m9 I K x0 x1 x2 = some (v, I9) → X (mL_said (d + 4)) cL_said 0 0 I K 5 [.ref x0, .ref x1, .int x2] [] (Ro (.inl (some (.int v))) I9 K) := by
  induction m9 with
  | zero =>
    intro I K x0 x1 x2 v I9 h
    cases h
  | succ m9 ih =>
    intro I K x0 x1 x2 v I9 h
    unfold l_L_said_5 at h
    refine x_aloadn dL_said_5 rfl ?_
    refine x_iconst 5 dL_said_6 rfl ?_
    obtain ⟨m6, hq7, h⟩ := b1_s h
    obtain ⟨j5, hq8, h⟩ := b1_s h
    refine z_iald (cA_s hq7) hq8 dL_said_7 ?_
    refine x_if_le 21 dL_said_8 rfl (fun hc => ?_) (fun hc => ?_)
    · have h := ifT hc h
      refine x_aloadn dL_said_21 rfl ?_
      refine x_bipush 6 dL_said_22 (by decide) ?_
      refine x_iconst 0 dL_said_24 rfl ?_
      obtain ⟨m10, hq11, h⟩ := b1_s h
      obtain ⟨j9, hq12, h⟩ := b1_s h
      obtain ⟨I13, hq14, h⟩ := b1_s h
      refine z_iast (cA_s hq11) hq12 hq14 dL_said_25 ?_
      refine x_iloadn dL_said_26 rfl ?_
      cases h
      exact x_iret rfl dL_said_27 ⟨rfl, rfl, rfl⟩
    have h := ifF hc h
    refine x_aloadn dL_said_11 rfl ?_
    refine x_aloadn dL_said_12 rfl ?_
    refine x_bipush 32 dL_said_13 (by decide) ?_
    obtain ⟨I15, hq16, h⟩ := b1_s h
    have hq := c_L_put d hq16
    refine X.c0 (z_Scall [.ref x0, .ref x1, .int 32] [] (cs_L_21 _) (dep (show d + 0 + 3 + 1 ≤ (d + 4) from by omega) (Nat.le_of_ble_eq_true rfl)) dL_said_15 rfl rfl (Nat.le_of_ble_eq_true rfl) hq ?_)
    refine x_goto 5 dL_said_18 rfl ?_
    exact (ih h)
noncomputable def f_L_said (I : Mem) (K : Kt) (x0 : Nat) (x1 : Nat) : Option (Int32 × Mem) := b1 (cA K 100 x1) fun m2 => b1 (ix 6 m2) fun j1 => l_L_said_5 FU I K x0 x1 (I x1 j1)
theorem c_L_said (d : Nat) {K : Kt} {I : Mem} {x0 : Nat} {x1 : Nat} {v : Int32} {I9 : Mem} (h : f_L_said I K x0 x1 = some (v, I9)) : Ct (mL_said (d + 4)) cL_said 0 0 [.ref x0, .ref x1] I K (Ro (.inl (some (.int v))) I9 K) := by
  refine Ct.of rfl pn_L (catR (catR cat0)) (Nat.le_of_ble_eq_true rfl) (show X (mL_said (d + 4)) cL_said 0 0 I K 0 [.ref x0, .ref x1, .retAddr 0] [] (Ro (.inl (some (.int v))) I9 K) from ?_)
  unfold f_L_said at h
  refine x_aloadn dL_said_0 rfl ?_
  refine x_bipush 6 dL_said_1 (by decide) ?_
  obtain ⟨m2, hq3, h⟩ := b1_s h
  obtain ⟨j1, hq4, h⟩ := b1_s h
  refine z_iald (cA_s hq3) hq4 dL_said_3 ?_
  refine x_istoren dL_said_4 (Nat.le_of_ble_eq_true rfl) rfl rfl ?_
  exact (tl_L_said_5 d FU h)
noncomputable def f_L_cell (n : Nat) (xs : Nat → Int32) (I : Mem) (K : Kt) (x1 : Int32) : Option (Int32) := if (nI n) ≤ x1 then (some (0)) else (b1 (ix x1 n) fun j1 => some ((xs j1)))
theorem c_L_cell (d : Nat) {n : Nat} {xs : Nat → Int32} {K : Kt} {I : Mem} {x1 : Int32} {v : Int32} (h : f_L_cell n xs I K x1 = some v) : CtS n xs (mL_cell d) cL_cell 0 0 [.ref (xE 50), .int x1] I K (Ro (.inl (some (.int v))) I K) := by
  refine CtS.of rfl pn_L (catR (catI cat0)) (Nat.le_of_ble_eq_true rfl) (show X (mL_cell d) cL_cell 0 0 I K 0 [.ref (xE 50), .int x1] [] (Ro (.inl (some (.int v))) I K) (GsL n xs) from ?_)
  unfold f_L_cell at h
  refine x_iloadn dL_cell_0 rfl ?_
  refine x_aloadn dL_cell_1 rfl ?_
  refine x_slen dL_cell_2 ?_
  refine x_icmp_ge 12 dL_cell_3 rfl (fun hc => ?_) (fun hc => ?_)
  · have h := ifT hc h
    refine x_iconst 0 dL_cell_12 rfl ?_
    cases h
    exact x_iret rfl dL_cell_13 ⟨rfl, rfl, rfl⟩
  have h := ifF hc h
  refine x_aloadn dL_cell_6 rfl ?_
  refine x_iloadn dL_cell_7 rfl ?_
  obtain ⟨j1, hq2, h⟩ := b1_s h
  refine x_sld hq2 dL_cell_8 ?_
  refine x_goto 13 dL_cell_9 rfl ?_
  cases h
  exact x_iret rfl dL_cell_13 ⟨rfl, rfl, rfl⟩
noncomputable def l_L_market_474 (n : Nat) (xs : Nat → Int32) (c347 : Mem → Kt → Nat → Int32 → Int32 → Option (Nat × Mem × Kt)) (I : Mem) (K : Kt) (x1 : Nat) (x3 : Int32) (x4 : Int32) (x6 : Nat) : Option (Nat × Mem × Kt) := b1 (cO K 8 x1) fun _ => b1 (gR K x1 9) fun r50 => b1 (cO K 11 r50) fun _ => b3 (f_Jx4a65c_add_9ea2d I K r50 x6) fun v54 I55 K56 => c347 I55 K56 x1 x3 (x4 + 1)
theorem tl_L_market_474 (d : Nat) {n : Nat} {xs : Nat → Int32} {c347 : Mem → Kt → Nat → Int32 → Int32 → Option (Nat × Mem × Kt)} (hc347 : ∀ {I : Mem} {K : Kt} {x1 : Nat} {x3 : Int32} {x4 : Int32} {v : Nat} {I9 : Mem} {K9 : Kt}, c347 I K x1 x3 x4 = some (v, I9, K9) → XG (mL_market (d + 6)) cL_market 0 0 K9 I K 347 [.ref (xE 50), .ref x1, .retAddr 0, .int x3, .int x4, .retAddr 0, .retAddr 0, .retAddr 0] [] (Ro (.inl (some (.ref v))) I9 K9) (GsL n xs)) : ∀ {I : Mem} {K : Kt} {x1 : Nat} {x3 : Int32} {x4 : Int32} {x6 : Nat} {v : Nat} {I9 : Mem} {K9 : Kt}, l_L_market_474 n xs c347 I K x1 x3 x4 x6 = some (v, I9, K9) → XG (mL_market (d + 6)) cL_market 0 0 K9 I K 474 [.ref (xE 50), .ref x1, .retAddr 0, .int x3, .int x4, .retAddr 0, .ref x6, .retAddr 0] [] (Ro (.inl (some (.ref v))) I9 K9) (GsL n xs) := by
  intro I K x1 x3 x4 x6 v I9 K9 h
  unfold l_L_market_474 at h
  refine XG.l (fun z9 => x_aloadn dL_market_474 rfl z9) ?_
  obtain ⟨u48, hq49, h⟩ := b1_s h
  obtain ⟨r50, hq51, h⟩ := b1_s h
  refine XG.l (fun z9 => x_getRN fn_L_114 (cO_s hq49).1 (cO_s hq49).2 hq51 dL_market_475 z9) ?_
  refine XG.l (fun z9 => x_aload dL_market_478 rfl z9) ?_
  obtain ⟨u52, hq53, h⟩ := b1_s h
  obtain ⟨v54, I55, K56, hq57, h⟩ := b3_s h
  have hq := c_Jx4a65c_add_9ea2d d hq57
  refine XG.call hq.1 ?_ (fun z9 => z_Vcall [.ref x6] [] (cs_L_55 _) (ci := 11) rfl (cO_s hq53) (dep (show d + 0 + 5 + 1 ≤ (d + 6) from by omega) (Nat.le_of_ble_eq_true rfl)) dL_market_480 rfl rfl (Nat.le_of_ble_eq_true rfl) hq.2 z9)
  refine XG.l (fun z9 => x_pop dL_market_483 rfl z9) ?_
  refine XG.l (fun z9 => z_iinc 1 (by decide) dL_market_484 rfl rfl rfl z9) ?_
  refine XG.l (fun z9 => x_goto 347 dL_market_487 rfl z9) ?_
  exact XG.forget (L' := [.ref (xE 50), .ref x1, .retAddr 0, .int x3, .int (x4 + 1), .retAddr 0, .retAddr 0, .retAddr 0]) ⟨Or.inl rfl, ⟨Or.inl rfl, ⟨Or.inl rfl, ⟨Or.inl rfl, ⟨Or.inl rfl, ⟨Or.inl rfl, ⟨Or.inr rfl, ⟨Or.inl rfl, trivial⟩⟩⟩⟩⟩⟩⟩⟩ (hc347 h)
noncomputable def l_L_market_465 (n : Nat) (xs : Nat → Int32) (c347 : Mem → Kt → Nat → Int32 → Int32 → Option (Nat × Mem × Kt)) (I : Mem) (K : Kt) (x1 : Nat) (x3 : Int32) (x4 : Int32) (x6 : Nat) (x7 : Int32) : Option (Nat × Mem × Kt) := b1 (cO K 10 x6) fun _ => b1 (pu I x6 4 (x7 - x7 / 2 * 2)) fun I46 => l_L_market_474 n xs c347 I46 K x1 x3 x4 x6
theorem tl_L_market_465 (d : Nat) {n : Nat} {xs : Nat → Int32} {c347 : Mem → Kt → Nat → Int32 → Int32 → Option (Nat × Mem × Kt)} (hc347 : ∀ {I : Mem} {K : Kt} {x1 : Nat} {x3 : Int32} {x4 : Int32} {v : Nat} {I9 : Mem} {K9 : Kt}, c347 I K x1 x3 x4 = some (v, I9, K9) → XG (mL_market (d + 6)) cL_market 0 0 K9 I K 347 [.ref (xE 50), .ref x1, .retAddr 0, .int x3, .int x4, .retAddr 0, .retAddr 0, .retAddr 0] [] (Ro (.inl (some (.ref v))) I9 K9) (GsL n xs)) : ∀ {I : Mem} {K : Kt} {x1 : Nat} {x3 : Int32} {x4 : Int32} {x6 : Nat} {x7 : Int32} {v : Nat} {I9 : Mem} {K9 : Kt}, l_L_market_465 n xs c347 I K x1 x3 x4 x6 x7 = some (v, I9, K9) → XG (mL_market (d + 6)) cL_market 0 0 K9 I K 465 [.ref (xE 50), .ref x1, .retAddr 0, .int x3, .int x4, .retAddr 0, .ref x6, .int x7] [] (Ro (.inl (some (.ref v))) I9 K9) (GsL n xs) := by
  intro I K x1 x3 x4 x6 x7 v I9 K9 h
  unfold l_L_market_465 at h
  refine XG.l (fun z9 => x_aload dL_market_465 rfl z9) ?_
  refine XG.l (fun z9 => x_iload dL_market_467 rfl z9) ?_
  refine XG.l (fun z9 => x_iconst 2 dL_market_469 rfl z9) ?_
  refine XG.l (fun z9 => x_irem dL_market_470 (by decide) z9) ?_
  obtain ⟨u44, hq45, h⟩ := b1_s h
  obtain ⟨I46, hq47, h⟩ := b1_s h
  refine XG.l (fun z9 => z_putAN fn_L_111 (cO_s hq45) ⟨rfl, rfl⟩ hq47 dL_market_471 z9) ?_
  exact XG.forget (L' := [.ref (xE 50), .ref x1, .retAddr 0, .int x3, .int x4, .retAddr 0, .ref x6, .retAddr 0]) ⟨Or.inl rfl, ⟨Or.inl rfl, ⟨Or.inl rfl, ⟨Or.inl rfl, ⟨Or.inl rfl, ⟨Or.inl rfl, ⟨Or.inl rfl, ⟨Or.inr rfl, trivial⟩⟩⟩⟩⟩⟩⟩⟩ (tl_L_market_474 d hc347 h)
noncomputable def l_L_market_347 (n : Nat) (xs : Nat → Int32) (m9 : Nat) (I : Mem) (K : Kt) (x1 : Nat) (x3 : Int32) (x4 : Int32) : Option (Nat × Mem × Kt) := match m9 with
  | 0 => none
  | m9 + 1 => if 4 ≤ x4 then (some (x1, I, K)) else (b1 (f_L_cell n xs I K (5 + x4)) fun v23 => b1 (cL K) fun _ => b2 (puN I K (10, 10)) fun I26 K27 => b1 (f_X12_init I26 K27 (kN K)) fun I30 => b1 (cO K27 10 (kN K)) fun _ => b1 (pu I30 (kN K) 0 (1 + (v23 &&& 31))) fun I34 => b1 (cO K27 10 (kN K)) fun _ => b1 (pu I34 (kN K) 1 ((ush v23 5) &&& 3)) fun I38 => b1 (cO K27 10 (kN K)) fun _ => b1 (pu I38 (kN K) 2 (((ush v23 7) &&& 15) - ((ush v23 7) &&& 15) / 10 * 10)) fun I42 => if 2 ≤ ((ush v23 11) &&& 3) then (l_L_market_465 n xs (l_L_market_347 n xs m9) I42 K27 x1 x3 x4 (kN K) ((ush v23 11) &&& 3)) else (b1 (nz x3) fun _ => b1 (cO K27 8 x1) fun _ => b1 (f_X10_stock I42 K27 x1 (((ush v23 11) &&& 3) - ((ush v23 11) &&& 3) / x3 * x3)) fun v62 => b1 (cO K27 8 x1) fun _ => b1 (gR K27 x1 8) fun r66 => b1 (nz x3) fun _ => b1 (cO K27 11 r66) fun _ => b1 (f_Jx4a65c_get_915e3 I42 K27 r66 (((ush v23 11) &&& 3) - ((ush v23 11) &&& 3) / x3 * x3)) fun v72 => b1 (cA K27 100 v72) fun _ => b1 (cA K27 100 v72) fun m77 => b1 (ix 0 m77) fun j76 => if (I42 v72 j76) ≤ v62 then (l_L_market_465 n xs (l_L_market_347 n xs m9) I42 K27 x1 x3 x4 (kN K) ((ush v23 11) &&& 3)) else (b1 (nz x3) fun _ => b1 (cO K27 10 (kN K)) fun _ => b1 (pu I42 (kN K) 3 (((ush v23 11) &&& 3) - ((ush v23 11) &&& 3) / x3 * x3)) fun I84 => l_L_market_474 n xs (l_L_market_347 n xs m9) I84 K27 x1 x3 x4 (kN K))))
theorem tl_L_market_347 (d : Nat) {n : Nat} {xs : Nat → Int32} (m9 : Nat) : ∀ {I : Mem} {K : Kt} {x1 : Nat} {x3 : Int32} {x4 : Int32} {v : Nat} {I9 : Mem} {K9 : Kt}, l_L_market_347 n xs m9 I K x1 x3 x4 = some (v, I9, K9) → XG (mL_market (d + 6)) cL_market 0 0 K9 I K 347 [.ref (xE 50), .ref x1, .retAddr 0, .int x3, .int x4, .retAddr 0, .retAddr 0, .retAddr 0] [] (Ro (.inl (some (.ref v))) I9 K9) (GsL n xs) := by
  induction m9 with
  | zero =>
    intro I K x1 x3 x4 v I9 K9 h
    cases h
  | succ m9 ih =>
    intro I K x1 x3 x4 v I9 K9 h
    unfold l_L_market_347 at h
    refine XG.l (fun z9 => x_iload dL_market_347 rfl z9) ?_
    refine XG.l (fun z9 => x_iconst 4 dL_market_349 rfl z9) ?_
    rcases Classical.em (4 ≤ x4) with hc | hc
    · have h := ifT hc h
      refine XG.l (fun z9 => x_icmp_ge 490 dL_market_350 rfl (fun _ => z9) (fun hn => absurd hc hn)) ?_
      refine XG.l (fun z9 => x_aloadn dL_market_490 rfl z9) ?_
      cases h
      exact XG.z (x_aret rfl (Or.inl ⟨_, rfl⟩) dL_market_491 ⟨rfl, rfl, rfl⟩)
    have h := ifF hc h
    refine XG.l (fun z9 => x_icmp_ge 490 dL_market_350 rfl (fun hn => absurd hn hc) (fun _ => z9)) ?_
    refine XG.l (fun z9 => x_aloadn dL_market_353 rfl z9) ?_
    refine XG.l (fun z9 => x_iconst 5 dL_market_354 rfl z9) ?_
    refine XG.l (fun z9 => x_iload dL_market_355 rfl z9) ?_
    refine XG.l (fun z9 => x_iadd dL_market_357 z9) ?_
    obtain ⟨v23, hq24, h⟩ := b1_s h
    have hq := c_L_cell (d + 5) hq24
    refine XG.l (fun z9 => X.c0 (z_SScall [.ref (xE 50), .int (5 + x4)] [] (cs_L_28 _) rfl (dep (show d + 5 + 0 + 1 ≤ (d + 6) from by omega) (Nat.le_of_ble_eq_true rfl)) dL_market_358 rfl rfl (Nat.le_of_ble_eq_true rfl) hq z9)) ?_
    refine XG.l (fun z9 => x_istore dL_market_361 (Nat.le_of_ble_eq_true rfl) rfl rfl z9) ?_
    obtain ⟨u25, hq28, h⟩ := b1_s h
    obtain ⟨I26, K27, hq29, h⟩ := b2_s h
    refine XG.sn hq29 ?_ (fun z9 => x_new ns_L_86 (cL_s hq28) dL_market_363 z9)
    refine XG.l (fun z9 => x_dup dL_market_366 rfl z9) ?_
    obtain ⟨I30, hq31, h⟩ := b1_s h
    have hq := c_X12_init (d + 4) hq31
    refine XG.l (fun z9 => X.c0 (z_Icall [] [.ref (kN K)] (Or.inr (cn_L_88 _)) (dep (show d + 4 + 1 + 1 ≤ (d + 6) from by omega) (Nat.le_of_ble_eq_true rfl)) dL_market_367 rfl rfl (Nat.le_of_ble_eq_true rfl) hq z9)) ?_
    refine XG.l (fun z9 => x_astore dL_market_370 (Nat.le_of_ble_eq_true rfl) rfl rfl z9) ?_
    refine XG.l (fun z9 => x_aload dL_market_372 rfl z9) ?_
    refine XG.l (fun z9 => x_iconst 1 dL_market_374 rfl z9) ?_
    refine XG.l (fun z9 => x_iload dL_market_375 rfl z9) ?_
    refine XG.l (fun z9 => x_bipush 31 dL_market_377 (by decide) z9) ?_
    refine XG.l (fun z9 => x_iand dL_market_379 z9) ?_
    refine XG.l (fun z9 => x_iadd dL_market_380 z9) ?_
    obtain ⟨u32, hq33, h⟩ := b1_s h
    obtain ⟨I34, hq35, h⟩ := b1_s h
    refine XG.l (fun z9 => z_putAN fn_L_89 (cO_s hq33) ⟨rfl, rfl⟩ hq35 dL_market_381 z9) ?_
    refine XG.l (fun z9 => x_aload dL_market_384 rfl z9) ?_
    refine XG.l (fun z9 => x_iload dL_market_386 rfl z9) ?_
    refine XG.l (fun z9 => x_iconst 5 dL_market_388 rfl z9) ?_
    refine XG.l (fun z9 => x_iushr dL_market_389 z9) ?_
    refine XG.l (fun z9 => x_iconst 3 dL_market_390 rfl z9) ?_
    refine XG.l (fun z9 => x_iand dL_market_391 z9) ?_
    obtain ⟨u36, hq37, h⟩ := b1_s h
    obtain ⟨I38, hq39, h⟩ := b1_s h
    refine XG.l (fun z9 => z_putAN fn_L_92 (cO_s hq37) ⟨rfl, rfl⟩ hq39 dL_market_392 z9) ?_
    refine XG.l (fun z9 => x_aload dL_market_395 rfl z9) ?_
    refine XG.l (fun z9 => x_iload dL_market_397 rfl z9) ?_
    refine XG.l (fun z9 => x_bipush 7 dL_market_399 (by decide) z9) ?_
    refine XG.l (fun z9 => x_iushr dL_market_401 z9) ?_
    refine XG.l (fun z9 => x_bipush 15 dL_market_402 (by decide) z9) ?_
    refine XG.l (fun z9 => x_iand dL_market_404 z9) ?_
    refine XG.l (fun z9 => x_bipush 10 dL_market_405 (by decide) z9) ?_
    refine XG.l (fun z9 => x_irem dL_market_407 (by decide) z9) ?_
    obtain ⟨u40, hq41, h⟩ := b1_s h
    obtain ⟨I42, hq43, h⟩ := b1_s h
    refine XG.l (fun z9 => z_putAN fn_L_95 (cO_s hq41) ⟨rfl, rfl⟩ hq43 dL_market_408 z9) ?_
    refine XG.l (fun z9 => x_iload dL_market_411 rfl z9) ?_
    refine XG.l (fun z9 => x_bipush 11 dL_market_413 (by decide) z9) ?_
    refine XG.l (fun z9 => x_iushr dL_market_415 z9) ?_
    refine XG.l (fun z9 => x_iconst 3 dL_market_416 rfl z9) ?_
    refine XG.l (fun z9 => x_iand dL_market_417 z9) ?_
    refine XG.l (fun z9 => x_istore dL_market_418 (Nat.le_of_ble_eq_true rfl) rfl rfl z9) ?_
    refine XG.l (fun z9 => x_iload dL_market_420 rfl z9) ?_
    refine XG.l (fun z9 => x_iconst 2 dL_market_422 rfl z9) ?_
    rcases Classical.em (2 ≤ ((ush v23 11) &&& 3)) with hc | hc
    · have h := ifT hc h
      refine XG.l (fun z9 => x_icmp_ge 465 dL_market_423 rfl (fun _ => z9) (fun hn => absurd hc hn)) ?_
      exact XG.forget (L' := [.ref (xE 50), .ref x1, .retAddr 0, .int x3, .int x4, .retAddr 0, .ref (kN K), .int ((ush v23 11) &&& 3)]) ⟨Or.inl rfl, ⟨Or.inl rfl, ⟨Or.inl rfl, ⟨Or.inl rfl, ⟨Or.inl rfl, ⟨Or.inr rfl, ⟨Or.inl rfl, ⟨Or.inl rfl, trivial⟩⟩⟩⟩⟩⟩⟩⟩ (tl_L_market_465 d ih h)
    have h := ifF hc h
    refine XG.l (fun z9 => x_icmp_ge 465 dL_market_423 rfl (fun hn => absurd hn hc) (fun _ => z9)) ?_
    refine XG.l (fun z9 => x_aloadn dL_market_426 rfl z9) ?_
    refine XG.l (fun z9 => x_iload dL_market_427 rfl z9) ?_
    refine XG.l (fun z9 => x_iloadn dL_market_429 rfl z9) ?_
    obtain ⟨u58, hq59, h⟩ := b1_s h
    refine XG.l (fun z9 => x_irem dL_market_430 (nz_s hq59) z9) ?_
    obtain ⟨u60, hq61, h⟩ := b1_s h
    obtain ⟨v62, hq63, h⟩ := b1_s h
    have hq := c_X10_stock (d + 2) hq63
    refine XG.l (fun z9 => X.c0 (z_Vcall [.int (((ush v23 11) &&& 3) - ((ush v23 11) &&& 3) / x3 * x3)] [] (cs_L_98 _) (ci := 8) rfl (cO_s hq61) (dep (show d + 2 + 3 + 1 ≤ (d + 6) from by omega) (Nat.le_of_ble_eq_true rfl)) dL_market_431 rfl rfl (Nat.le_of_ble_eq_true rfl) hq z9)) ?_
    refine XG.l (fun z9 => x_aloadn dL_market_434 rfl z9) ?_
    obtain ⟨u64, hq65, h⟩ := b1_s h
    obtain ⟨r66, hq67, h⟩ := b1_s h
    refine XG.l (fun z9 => x_getRN fn_L_51 (cO_s hq65).1 (cO_s hq65).2 hq67 dL_market_435 z9) ?_
    refine XG.l (fun z9 => x_iload dL_market_438 rfl z9) ?_
    refine XG.l (fun z9 => x_iloadn dL_market_440 rfl z9) ?_
    obtain ⟨u68, hq69, h⟩ := b1_s h
    refine XG.l (fun z9 => x_irem dL_market_441 (nz_s hq69) z9) ?_
    obtain ⟨u70, hq71, h⟩ := b1_s h
    obtain ⟨v72, hq73, h⟩ := b1_s h
    have hq := c_Jx4a65c_get_915e3 (d + 3) hq73
    refine XG.l (fun z9 => X.c0 (z_Vcall [.int (((ush v23 11) &&& 3) - ((ush v23 11) &&& 3) / x3 * x3)] [.int v62] (cs_L_102 _) (ci := 11) rfl (cO_s hq71) (dep (show d + 3 + 2 + 1 ≤ (d + 6) from by omega) (Nat.le_of_ble_eq_true rfl)) dL_market_442 rfl rfl (Nat.le_of_ble_eq_true rfl) hq z9)) ?_
    obtain ⟨u74, hq75, h⟩ := b1_s h
    refine XG.l (fun z9 => x_castI (show Cond.classLink RL 106 "[I" ∈ wsG from inT6 195 rfl rfl) (cA_s hq75) dL_market_445 z9) ?_
    refine XG.l (fun z9 => x_iconst 0 dL_market_448 rfl z9) ?_
    obtain ⟨m77, hq78, h⟩ := b1_s h
    obtain ⟨j76, hq79, h⟩ := b1_s h
    refine XG.l (fun z9 => z_iald (cA_s hq78) hq79 dL_market_449 z9) ?_
    rcases Classical.em ((I42 v72 j76) ≤ v62) with hc | hc
    · have h := ifT hc h
      refine XG.l (fun z9 => x_icmp_ge 465 dL_market_450 rfl (fun _ => z9) (fun hn => absurd hc hn)) ?_
      exact XG.forget (L' := [.ref (xE 50), .ref x1, .retAddr 0, .int x3, .int x4, .retAddr 0, .ref (kN K), .int ((ush v23 11) &&& 3)]) ⟨Or.inl rfl, ⟨Or.inl rfl, ⟨Or.inl rfl, ⟨Or.inl rfl, ⟨Or.inl rfl, ⟨Or.inr rfl, ⟨Or.inl rfl, ⟨Or.inl rfl, trivial⟩⟩⟩⟩⟩⟩⟩⟩ (tl_L_market_465 d ih h)
    have h := ifF hc h
    refine XG.l (fun z9 => x_icmp_ge 465 dL_market_450 rfl (fun hn => absurd hn hc) (fun _ => z9)) ?_
    refine XG.l (fun z9 => x_aload dL_market_453 rfl z9) ?_
    refine XG.l (fun z9 => x_iload dL_market_455 rfl z9) ?_
    refine XG.l (fun z9 => x_iloadn dL_market_457 rfl z9) ?_
    obtain ⟨u80, hq81, h⟩ := b1_s h
    refine XG.l (fun z9 => x_irem dL_market_458 (nz_s hq81) z9) ?_
    obtain ⟨u82, hq83, h⟩ := b1_s h
    obtain ⟨I84, hq85, h⟩ := b1_s h
    refine XG.l (fun z9 => z_putAN fn_L_108 (cO_s hq83) ⟨rfl, rfl⟩ hq85 dL_market_459 z9) ?_
    refine XG.l (fun z9 => x_goto 474 dL_market_462 rfl z9) ?_
    exact XG.forget (L' := [.ref (xE 50), .ref x1, .retAddr 0, .int x3, .int x4, .retAddr 0, .ref (kN K), .retAddr 0]) ⟨Or.inl rfl, ⟨Or.inl rfl, ⟨Or.inl rfl, ⟨Or.inl rfl, ⟨Or.inl rfl, ⟨Or.inr rfl, ⟨Or.inl rfl, ⟨Or.inr rfl, trivial⟩⟩⟩⟩⟩⟩⟩⟩ (tl_L_market_474 d ih h)
noncomputable def l_L_market_325 (n : Nat) (xs : Nat → Int32) (c196 : Mem → Kt → Nat → Int32 → Int32 → Option (Nat × Mem × Kt)) (I : Mem) (K : Kt) (x1 : Nat) (x3 : Int32) (x4 : Int32) (x6 : Nat) (y0 : Int32) (y1 : Nat) : Option (Nat × Mem × Kt) := b1 (cO K 9 y1) fun _ => b1 (pu I y1 4 y0) fun I125 => b1 (cO K 8 x1) fun _ => b1 (gR K x1 7) fun r129 => b1 (cO K 11 r129) fun _ => b3 (f_Jx4a65c_add_9ea2d I125 K r129 x6) fun v133 I134 K135 => c196 I134 K135 x1 x3 (x4 + 1)
theorem tl_L_market_325 (d : Nat) {n : Nat} {xs : Nat → Int32} {c196 : Mem → Kt → Nat → Int32 → Int32 → Option (Nat × Mem × Kt)} (hc196 : ∀ {I : Mem} {K : Kt} {x1 : Nat} {x3 : Int32} {x4 : Int32} {v : Nat} {I9 : Mem} {K9 : Kt}, c196 I K x1 x3 x4 = some (v, I9, K9) → XG (mL_market (d + 6)) cL_market 0 0 K9 I K 196 [.ref (xE 50), .ref x1, .retAddr 0, .int x3, .int x4, .retAddr 0, .retAddr 0, .retAddr 0] [] (Ro (.inl (some (.ref v))) I9 K9) (GsL n xs)) : ∀ {I : Mem} {K : Kt} {x1 : Nat} {x3 : Int32} {x4 : Int32} {x6 : Nat} {y0 : Int32} {y1 : Nat} {v : Nat} {I9 : Mem} {K9 : Kt}, l_L_market_325 n xs c196 I K x1 x3 x4 x6 y0 y1 = some (v, I9, K9) → XG (mL_market (d + 6)) cL_market 0 0 K9 I K 325 [.ref (xE 50), .ref x1, .retAddr 0, .int x3, .int x4, .retAddr 0, .ref x6, .retAddr 0] [.int y0, .ref y1] (Ro (.inl (some (.ref v))) I9 K9) (GsL n xs) := by
  intro I K x1 x3 x4 x6 y0 y1 v I9 K9 h
  unfold l_L_market_325 at h
  obtain ⟨u123, hq124, h⟩ := b1_s h
  obtain ⟨I125, hq126, h⟩ := b1_s h
  refine XG.l (fun z9 => z_putAN fn_L_80 (cO_s hq124) ⟨rfl, rfl⟩ hq126 dL_market_325 z9) ?_
  refine XG.l (fun z9 => x_aloadn dL_market_328 rfl z9) ?_
  obtain ⟨u127, hq128, h⟩ := b1_s h
  obtain ⟨r129, hq130, h⟩ := b1_s h
  refine XG.l (fun z9 => x_getRN fn_L_83 (cO_s hq128).1 (cO_s hq128).2 hq130 dL_market_329 z9) ?_
  refine XG.l (fun z9 => x_aload dL_market_332 rfl z9) ?_
  obtain ⟨u131, hq132, h⟩ := b1_s h
  obtain ⟨v133, I134, K135, hq136, h⟩ := b3_s h
  have hq := c_Jx4a65c_add_9ea2d d hq136
  refine XG.call hq.1 ?_ (fun z9 => z_Vcall [.ref x6] [] (cs_L_55 _) (ci := 11) rfl (cO_s hq132) (dep (show d + 0 + 5 + 1 ≤ (d + 6) from by omega) (Nat.le_of_ble_eq_true rfl)) dL_market_334 rfl rfl (Nat.le_of_ble_eq_true rfl) hq.2 z9)
  refine XG.l (fun z9 => x_pop dL_market_337 rfl z9) ?_
  refine XG.l (fun z9 => z_iinc 1 (by decide) dL_market_338 rfl rfl rfl z9) ?_
  refine XG.l (fun z9 => x_goto 196 dL_market_341 rfl z9) ?_
  exact XG.forget (L' := [.ref (xE 50), .ref x1, .retAddr 0, .int x3, .int (x4 + 1), .retAddr 0, .retAddr 0, .retAddr 0]) ⟨Or.inl rfl, ⟨Or.inl rfl, ⟨Or.inl rfl, ⟨Or.inl rfl, ⟨Or.inl rfl, ⟨Or.inl rfl, ⟨Or.inr rfl, ⟨Or.inl rfl, trivial⟩⟩⟩⟩⟩⟩⟩⟩ (hc196 h)
noncomputable def l_L_market_298 (n : Nat) (xs : Nat → Int32) (c196 : Mem → Kt → Nat → Int32 → Int32 → Option (Nat × Mem × Kt)) (I : Mem) (K : Kt) (x1 : Nat) (x3 : Int32) (x4 : Int32) (x5 : Int32) (x6 : Nat) (y0 : Int32) (y1 : Nat) : Option (Nat × Mem × Kt) := b1 (cO K 9 y1) fun _ => b1 (cF .boolean y0) fun _ => b1 (pu I y1 6 y0) fun I119 => if ((ush x5 14) &&& 3) = 0 then (l_L_market_325 n xs c196 I119 K x1 x3 x4 x6 0 x6) else (l_L_market_325 n xs c196 I119 K x1 x3 x4 x6 ((ush x5 16) &&& 31) x6)
theorem tl_L_market_298 (d : Nat) {n : Nat} {xs : Nat → Int32} {c196 : Mem → Kt → Nat → Int32 → Int32 → Option (Nat × Mem × Kt)} (hc196 : ∀ {I : Mem} {K : Kt} {x1 : Nat} {x3 : Int32} {x4 : Int32} {v : Nat} {I9 : Mem} {K9 : Kt}, c196 I K x1 x3 x4 = some (v, I9, K9) → XG (mL_market (d + 6)) cL_market 0 0 K9 I K 196 [.ref (xE 50), .ref x1, .retAddr 0, .int x3, .int x4, .retAddr 0, .retAddr 0, .retAddr 0] [] (Ro (.inl (some (.ref v))) I9 K9) (GsL n xs)) : ∀ {I : Mem} {K : Kt} {x1 : Nat} {x3 : Int32} {x4 : Int32} {x5 : Int32} {x6 : Nat} {y0 : Int32} {y1 : Nat} {v : Nat} {I9 : Mem} {K9 : Kt}, l_L_market_298 n xs c196 I K x1 x3 x4 x5 x6 y0 y1 = some (v, I9, K9) → XG (mL_market (d + 6)) cL_market 0 0 K9 I K 298 [.ref (xE 50), .ref x1, .retAddr 0, .int x3, .int x4, .int x5, .ref x6, .retAddr 0] [.int y0, .ref y1] (Ro (.inl (some (.ref v))) I9 K9) (GsL n xs) := by
  intro I K x1 x3 x4 x5 x6 y0 y1 v I9 K9 h
  unfold l_L_market_298 at h
  obtain ⟨u117, hq118, h⟩ := b1_s h
  obtain ⟨u120, hq121, h⟩ := b1_s h
  obtain ⟨I119, hq122, h⟩ := b1_s h
  refine XG.l (fun z9 => z_putAN fn_L_77 (cO_s hq118) (cF_s hq121) hq122 dL_market_298 z9) ?_
  refine XG.l (fun z9 => x_aload dL_market_301 rfl z9) ?_
  refine XG.l (fun z9 => x_iload dL_market_303 rfl z9) ?_
  refine XG.l (fun z9 => x_bipush 14 dL_market_305 (by decide) z9) ?_
  refine XG.l (fun z9 => x_iushr dL_market_307 z9) ?_
  refine XG.l (fun z9 => x_iconst 3 dL_market_308 rfl z9) ?_
  refine XG.l (fun z9 => x_iand dL_market_309 z9) ?_
  rcases Classical.em (((ush x5 14) &&& 3) = 0) with hc | hc
  · have h := ifT hc h
    refine XG.l (fun z9 => x_if_ne 317 dL_market_310 rfl (fun hn => absurd hc hn) (fun _ => z9)) ?_
    refine XG.l (fun z9 => x_iconst 0 dL_market_313 rfl z9) ?_
    refine XG.l (fun z9 => x_goto 325 dL_market_314 rfl z9) ?_
    exact XG.forget (L' := [.ref (xE 50), .ref x1, .retAddr 0, .int x3, .int x4, .retAddr 0, .ref x6, .retAddr 0]) ⟨Or.inl rfl, ⟨Or.inl rfl, ⟨Or.inl rfl, ⟨Or.inl rfl, ⟨Or.inl rfl, ⟨Or.inr rfl, ⟨Or.inl rfl, ⟨Or.inl rfl, trivial⟩⟩⟩⟩⟩⟩⟩⟩ (tl_L_market_325 d hc196 h)
  have h := ifF hc h
  refine XG.l (fun z9 => x_if_ne 317 dL_market_310 rfl (fun _ => z9) (fun hn => absurd hn hc)) ?_
  refine XG.l (fun z9 => x_iload dL_market_317 rfl z9) ?_
  refine XG.l (fun z9 => x_bipush 16 dL_market_319 (by decide) z9) ?_
  refine XG.l (fun z9 => x_iushr dL_market_321 z9) ?_
  refine XG.l (fun z9 => x_bipush 31 dL_market_322 (by decide) z9) ?_
  refine XG.l (fun z9 => x_iand dL_market_324 z9) ?_
  exact XG.forget (L' := [.ref (xE 50), .ref x1, .retAddr 0, .int x3, .int x4, .retAddr 0, .ref x6, .retAddr 0]) ⟨Or.inl rfl, ⟨Or.inl rfl, ⟨Or.inl rfl, ⟨Or.inl rfl, ⟨Or.inl rfl, ⟨Or.inr rfl, ⟨Or.inl rfl, ⟨Or.inl rfl, trivial⟩⟩⟩⟩⟩⟩⟩⟩ (tl_L_market_325 d hc196 h)
noncomputable def l_L_market_278 (n : Nat) (xs : Nat → Int32) (c196 : Mem → Kt → Nat → Int32 → Int32 → Option (Nat × Mem × Kt)) (I : Mem) (K : Kt) (x1 : Nat) (x3 : Int32) (x4 : Int32) (x5 : Int32) (x6 : Nat) (y0 : Int32) (y1 : Nat) : Option (Nat × Mem × Kt) := b1 (cO K 9 y1) fun _ => b1 (cF .boolean y0) fun _ => b1 (pu I y1 5 y0) fun I113 => if ((ush x5 13) &&& 1) = 0 then (l_L_market_298 n xs c196 I113 K x1 x3 x4 x5 x6 1 x6) else (l_L_market_298 n xs c196 I113 K x1 x3 x4 x5 x6 0 x6)
theorem tl_L_market_278 (d : Nat) {n : Nat} {xs : Nat → Int32} {c196 : Mem → Kt → Nat → Int32 → Int32 → Option (Nat × Mem × Kt)} (hc196 : ∀ {I : Mem} {K : Kt} {x1 : Nat} {x3 : Int32} {x4 : Int32} {v : Nat} {I9 : Mem} {K9 : Kt}, c196 I K x1 x3 x4 = some (v, I9, K9) → XG (mL_market (d + 6)) cL_market 0 0 K9 I K 196 [.ref (xE 50), .ref x1, .retAddr 0, .int x3, .int x4, .retAddr 0, .retAddr 0, .retAddr 0] [] (Ro (.inl (some (.ref v))) I9 K9) (GsL n xs)) : ∀ {I : Mem} {K : Kt} {x1 : Nat} {x3 : Int32} {x4 : Int32} {x5 : Int32} {x6 : Nat} {y0 : Int32} {y1 : Nat} {v : Nat} {I9 : Mem} {K9 : Kt}, l_L_market_278 n xs c196 I K x1 x3 x4 x5 x6 y0 y1 = some (v, I9, K9) → XG (mL_market (d + 6)) cL_market 0 0 K9 I K 278 [.ref (xE 50), .ref x1, .retAddr 0, .int x3, .int x4, .int x5, .ref x6, .retAddr 0] [.int y0, .ref y1] (Ro (.inl (some (.ref v))) I9 K9) (GsL n xs) := by
  intro I K x1 x3 x4 x5 x6 y0 y1 v I9 K9 h
  unfold l_L_market_278 at h
  obtain ⟨u111, hq112, h⟩ := b1_s h
  obtain ⟨u114, hq115, h⟩ := b1_s h
  obtain ⟨I113, hq116, h⟩ := b1_s h
  refine XG.l (fun z9 => z_putAN fn_L_73 (cO_s hq112) (cF_s hq115) hq116 dL_market_278 z9) ?_
  refine XG.l (fun z9 => x_aload dL_market_281 rfl z9) ?_
  refine XG.l (fun z9 => x_iload dL_market_283 rfl z9) ?_
  refine XG.l (fun z9 => x_bipush 13 dL_market_285 (by decide) z9) ?_
  refine XG.l (fun z9 => x_iushr dL_market_287 z9) ?_
  refine XG.l (fun z9 => x_iconst 1 dL_market_288 rfl z9) ?_
  refine XG.l (fun z9 => x_iand dL_market_289 z9) ?_
  rcases Classical.em (((ush x5 13) &&& 1) = 0) with hc | hc
  · have h := ifT hc h
    refine XG.l (fun z9 => x_if_ne 297 dL_market_290 rfl (fun hn => absurd hc hn) (fun _ => z9)) ?_
    refine XG.l (fun z9 => x_iconst 1 dL_market_293 rfl z9) ?_
    refine XG.l (fun z9 => x_goto 298 dL_market_294 rfl z9) ?_
    exact (tl_L_market_298 d hc196 h)
  have h := ifF hc h
  refine XG.l (fun z9 => x_if_ne 297 dL_market_290 rfl (fun _ => z9) (fun hn => absurd hn hc)) ?_
  refine XG.l (fun z9 => x_iconst 0 dL_market_297 rfl z9) ?_
  exact (tl_L_market_298 d hc196 h)
noncomputable def l_L_market_196 (n : Nat) (xs : Nat → Int32) (m9 : Nat) (I : Mem) (K : Kt) (x1 : Nat) (x3 : Int32) (x4 : Int32) : Option (Nat × Mem × Kt) := match m9 with
  | 0 => none
  | m9 + 1 => if 2 ≤ x4 then (l_L_market_347 n xs FU I K x1 x3 0) else (b1 (f_L_cell n xs I K (3 + x4)) fun v86 => b1 (cL K) fun _ => b2 (puN I K (9, 7)) fun I89 K90 => b1 (f_X11_init I89 K90 (kN K)) fun u93 => b1 (cO K90 9 (kN K)) fun _ => b1 (pu I89 (kN K) 0 (v86 &&& 127)) fun I97 => b1 (cO K90 8 x1) fun _ => b1 (nz (I97 x1 0)) fun _ => b1 (cO K90 9 (kN K)) fun _ => b1 (pu I97 (kN K) 1 (((ush v86 7) &&& 7) - ((ush v86 7) &&& 7) / (I97 x1 0) * (I97 x1 0))) fun I105 => b1 (cO K90 9 (kN K)) fun _ => b1 (pu I105 (kN K) 2 ((ush v86 10) &&& 3)) fun I109 => if ((ush v86 12) &&& 1) = 0 then (l_L_market_278 n xs (l_L_market_196 n xs m9) I109 K90 x1 x3 x4 v86 (kN K) 1 (kN K)) else (l_L_market_278 n xs (l_L_market_196 n xs m9) I109 K90 x1 x3 x4 v86 (kN K) 0 (kN K)))
theorem tl_L_market_196 (d : Nat) {n : Nat} {xs : Nat → Int32} (m9 : Nat) : ∀ {I : Mem} {K : Kt} {x1 : Nat} {x3 : Int32} {x4 : Int32} {v : Nat} {I9 : Mem} {K9 : Kt}, l_L_market_196 n xs m9 I K x1 x3 x4 = some (v, I9, K9) → XG (mL_market (d + 6)) cL_market 0 0 K9 I K 196 [.ref (xE 50), .ref x1, .retAddr 0, .int x3, .int x4, .retAddr 0, .retAddr 0, .retAddr 0] [] (Ro (.inl (some (.ref v))) I9 K9) (GsL n xs) := by
  induction m9 with
  | zero =>
    intro I K x1 x3 x4 v I9 K9 h
    cases h
  | succ m9 ih =>
    intro I K x1 x3 x4 v I9 K9 h
    unfold l_L_market_196 at h
    refine XG.l (fun z9 => x_iload dL_market_196 rfl z9) ?_
    refine XG.l (fun z9 => x_iconst 2 dL_market_198 rfl z9) ?_
    rcases Classical.em (2 ≤ x4) with hc | hc
    · have h := ifT hc h
      refine XG.l (fun z9 => x_icmp_ge 344 dL_market_199 rfl (fun _ => z9) (fun hn => absurd hc hn)) ?_
      refine XG.l (fun z9 => x_iconst 0 dL_market_344 rfl z9) ?_
      refine XG.l (fun z9 => x_istore dL_market_345 (Nat.le_of_ble_eq_true rfl) rfl rfl z9) ?_
      exact (tl_L_market_347 d FU h)
    have h := ifF hc h
    refine XG.l (fun z9 => x_icmp_ge 344 dL_market_199 rfl (fun hn => absurd hn hc) (fun _ => z9)) ?_
    refine XG.l (fun z9 => x_aloadn dL_market_202 rfl z9) ?_
    refine XG.l (fun z9 => x_iconst 3 dL_market_203 rfl z9) ?_
    refine XG.l (fun z9 => x_iload dL_market_204 rfl z9) ?_
    refine XG.l (fun z9 => x_iadd dL_market_206 z9) ?_
    obtain ⟨v86, hq87, h⟩ := b1_s h
    have hq := c_L_cell (d + 5) hq87
    refine XG.l (fun z9 => X.c0 (z_SScall [.ref (xE 50), .int (3 + x4)] [] (cs_L_28 _) rfl (dep (show d + 5 + 0 + 1 ≤ (d + 6) from by omega) (Nat.le_of_ble_eq_true rfl)) dL_market_207 rfl rfl (Nat.le_of_ble_eq_true rfl) hq z9)) ?_
    refine XG.l (fun z9 => x_istore dL_market_210 (Nat.le_of_ble_eq_true rfl) rfl rfl z9) ?_
    obtain ⟨u88, hq91, h⟩ := b1_s h
    obtain ⟨I89, K90, hq92, h⟩ := b2_s h
    refine XG.sn hq92 ?_ (fun z9 => x_new ns_L_61 (cL_s hq91) dL_market_212 z9)
    refine XG.l (fun z9 => x_dup dL_market_215 rfl z9) ?_
    obtain ⟨u93, hq94, h⟩ := b1_s h
    have hq := c_X11_init (d + 4) hq94
    refine XG.l (fun z9 => X.c0 (z_Icall [] [.ref (kN K)] (Or.inr (cn_L_63 _)) (dep (show d + 4 + 1 + 1 ≤ (d + 6) from by omega) (Nat.le_of_ble_eq_true rfl)) dL_market_216 rfl rfl (Nat.le_of_ble_eq_true rfl) hq z9)) ?_
    refine XG.l (fun z9 => x_astore dL_market_219 (Nat.le_of_ble_eq_true rfl) rfl rfl z9) ?_
    refine XG.l (fun z9 => x_aload dL_market_221 rfl z9) ?_
    refine XG.l (fun z9 => x_iload dL_market_223 rfl z9) ?_
    refine XG.l (fun z9 => x_bipush 127 dL_market_225 (by decide) z9) ?_
    refine XG.l (fun z9 => x_iand dL_market_227 z9) ?_
    obtain ⟨u95, hq96, h⟩ := b1_s h
    obtain ⟨I97, hq98, h⟩ := b1_s h
    refine XG.l (fun z9 => z_putAN fn_L_64 (cO_s hq96) ⟨rfl, rfl⟩ hq98 dL_market_228 z9) ?_
    refine XG.l (fun z9 => x_aload dL_market_231 rfl z9) ?_
    refine XG.l (fun z9 => x_iload dL_market_233 rfl z9) ?_
    refine XG.l (fun z9 => x_bipush 7 dL_market_235 (by decide) z9) ?_
    refine XG.l (fun z9 => x_iushr dL_market_237 z9) ?_
    refine XG.l (fun z9 => x_bipush 7 dL_market_238 (by decide) z9) ?_
    refine XG.l (fun z9 => x_iand dL_market_240 z9) ?_
    refine XG.l (fun z9 => x_aloadn dL_market_241 rfl z9) ?_
    obtain ⟨u99, hq100, h⟩ := b1_s h
    refine XG.l (fun z9 => x_getIN fn_L_32 (cO_s hq100).1 (cO_s hq100).2 dL_market_242 z9) ?_
    obtain ⟨u101, hq102, h⟩ := b1_s h
    refine XG.l (fun z9 => x_irem dL_market_245 (nz_s hq102) z9) ?_
    obtain ⟨u103, hq104, h⟩ := b1_s h
    obtain ⟨I105, hq106, h⟩ := b1_s h
    refine XG.l (fun z9 => z_putAN fn_L_67 (cO_s hq104) ⟨rfl, rfl⟩ hq106 dL_market_246 z9) ?_
    refine XG.l (fun z9 => x_aload dL_market_249 rfl z9) ?_
    refine XG.l (fun z9 => x_iload dL_market_251 rfl z9) ?_
    refine XG.l (fun z9 => x_bipush 10 dL_market_253 (by decide) z9) ?_
    refine XG.l (fun z9 => x_iushr dL_market_255 z9) ?_
    refine XG.l (fun z9 => x_iconst 3 dL_market_256 rfl z9) ?_
    refine XG.l (fun z9 => x_iand dL_market_257 z9) ?_
    obtain ⟨u107, hq108, h⟩ := b1_s h
    obtain ⟨I109, hq110, h⟩ := b1_s h
    refine XG.l (fun z9 => z_putAN fn_L_70 (cO_s hq108) ⟨rfl, rfl⟩ hq110 dL_market_258 z9) ?_
    refine XG.l (fun z9 => x_aload dL_market_261 rfl z9) ?_
    refine XG.l (fun z9 => x_iload dL_market_263 rfl z9) ?_
    refine XG.l (fun z9 => x_bipush 12 dL_market_265 (by decide) z9) ?_
    refine XG.l (fun z9 => x_iushr dL_market_267 z9) ?_
    refine XG.l (fun z9 => x_iconst 1 dL_market_268 rfl z9) ?_
    refine XG.l (fun z9 => x_iand dL_market_269 z9) ?_
    rcases Classical.em (((ush v86 12) &&& 1) = 0) with hc | hc
    · have h := ifT hc h
      refine XG.l (fun z9 => x_if_ne 277 dL_market_270 rfl (fun hn => absurd hc hn) (fun _ => z9)) ?_
      refine XG.l (fun z9 => x_iconst 1 dL_market_273 rfl z9) ?_
      refine XG.l (fun z9 => x_goto 278 dL_market_274 rfl z9) ?_
      exact (tl_L_market_278 d ih h)
    have h := ifF hc h
    refine XG.l (fun z9 => x_if_ne 277 dL_market_270 rfl (fun _ => z9) (fun hn => absurd hn hc)) ?_
    refine XG.l (fun z9 => x_iconst 0 dL_market_277 rfl z9) ?_
    exact (tl_L_market_278 d ih h)
noncomputable def l_L_market_113 (n : Nat) (xs : Nat → Int32) (m9 : Nat) (I : Mem) (K : Kt) (x1 : Nat) (x3 : Int32) (x4 : Int32) : Option (Nat × Mem × Kt) := match m9 with
  | 0 => none
  | m9 + 1 => if x3 ≤ x4 then (l_L_market_196 n xs FU I K x1 x3 0) else (b1 (f_L_cell n xs I K (1 + x4)) fun v137 => b1 (cO K 8 x1) fun _ => b1 (gR K x1 8) fun r141 => b1 (ixn 4) fun m143 => b1 (cL K) fun _ => b2 (puN I K (100, m143)) fun I145 K146 => b1 (cA K146 100 (kN K)) fun m151 => b1 (ix 0 m151) fun j150 => b1 (pu I145 (kN K) j150 (1 + (v137 &&& 3))) fun I154 => b1 (cA K146 100 (kN K)) fun m157 => b1 (ix 1 m157) fun j156 => b1 (pu I154 (kN K) j156 ((ush v137 2) &&& 63)) fun I160 => b1 (cA K146 100 (kN K)) fun m163 => b1 (ix 2 m163) fun j162 => b1 (pu I160 (kN K) j162 (((ush v137 8) &&& 63) - ((ush v137 8) &&& 63) / 51 * 51)) fun I166 => b1 (cA K146 100 (kN K)) fun m169 => b1 (ix 3 m169) fun j168 => b1 (pu I166 (kN K) j168 (((ush v137 14) &&& 127) - ((ush v137 14) &&& 127) / 101 * 101)) fun I172 => b1 (cO K146 11 r141) fun _ => b3 (f_Jx4a65c_add_9ea2d I172 K146 r141 (kN K)) fun v176 I177 K178 => l_L_market_113 n xs m9 I177 K178 x1 x3 (x4 + 1))
theorem tl_L_market_113 (d : Nat) {n : Nat} {xs : Nat → Int32} (m9 : Nat) : ∀ {I : Mem} {K : Kt} {x1 : Nat} {x3 : Int32} {x4 : Int32} {v : Nat} {I9 : Mem} {K9 : Kt}, l_L_market_113 n xs m9 I K x1 x3 x4 = some (v, I9, K9) → XG (mL_market (d + 6)) cL_market 0 0 K9 I K 113 [.ref (xE 50), .ref x1, .retAddr 0, .int x3, .int x4, .retAddr 0, .retAddr 0, .retAddr 0] [] (Ro (.inl (some (.ref v))) I9 K9) (GsL n xs) := by
  induction m9 with
  | zero =>
    intro I K x1 x3 x4 v I9 K9 h
    cases h
  | succ m9 ih =>
    intro I K x1 x3 x4 v I9 K9 h
    unfold l_L_market_113 at h
    refine XG.l (fun z9 => x_iload dL_market_113 rfl z9) ?_
    refine XG.l (fun z9 => x_iloadn dL_market_115 rfl z9) ?_
    rcases Classical.em (x3 ≤ x4) with hc | hc
    · have h := ifT hc h
      refine XG.l (fun z9 => x_icmp_ge 193 dL_market_116 rfl (fun _ => z9) (fun hn => absurd hc hn)) ?_
      refine XG.l (fun z9 => x_iconst 0 dL_market_193 rfl z9) ?_
      refine XG.l (fun z9 => x_istore dL_market_194 (Nat.le_of_ble_eq_true rfl) rfl rfl z9) ?_
      exact (tl_L_market_196 d FU h)
    have h := ifF hc h
    refine XG.l (fun z9 => x_icmp_ge 193 dL_market_116 rfl (fun hn => absurd hn hc) (fun _ => z9)) ?_
    refine XG.l (fun z9 => x_aloadn dL_market_119 rfl z9) ?_
    refine XG.l (fun z9 => x_iconst 1 dL_market_120 rfl z9) ?_
    refine XG.l (fun z9 => x_iload dL_market_121 rfl z9) ?_
    refine XG.l (fun z9 => x_iadd dL_market_123 z9) ?_
    obtain ⟨v137, hq138, h⟩ := b1_s h
    have hq := c_L_cell (d + 5) hq138
    refine XG.l (fun z9 => X.c0 (z_SScall [.ref (xE 50), .int (1 + x4)] [] (cs_L_28 _) rfl (dep (show d + 5 + 0 + 1 ≤ (d + 6) from by omega) (Nat.le_of_ble_eq_true rfl)) dL_market_124 rfl rfl (Nat.le_of_ble_eq_true rfl) hq z9)) ?_
    refine XG.l (fun z9 => x_istore dL_market_127 (Nat.le_of_ble_eq_true rfl) rfl rfl z9) ?_
    refine XG.l (fun z9 => x_aloadn dL_market_129 rfl z9) ?_
    obtain ⟨u139, hq140, h⟩ := b1_s h
    obtain ⟨r141, hq142, h⟩ := b1_s h
    refine XG.l (fun z9 => x_getRN fn_L_51 (cO_s hq140).1 (cO_s hq140).2 hq142 dL_market_130 z9) ?_
    refine XG.l (fun z9 => x_iconst 4 dL_market_133 rfl z9) ?_
    obtain ⟨m143, hq147, h⟩ := b1_s h
    obtain ⟨u144, hq148, h⟩ := b1_s h
    obtain ⟨I145, K146, hq149, h⟩ := b2_s h
    refine XG.sn hq149 ?_ (fun z9 => x_newI (show Cond.arrayClass .int ∈ wsG from inT2 93 rfl rfl) (ixn_s hq147).1 (ixn_s hq147).2 (cL_s hq148) dL_market_134 z9)
    refine XG.l (fun z9 => x_dup dL_market_136 rfl z9) ?_
    refine XG.l (fun z9 => x_iconst 0 dL_market_137 rfl z9) ?_
    refine XG.l (fun z9 => x_iconst 1 dL_market_138 rfl z9) ?_
    refine XG.l (fun z9 => x_iload dL_market_139 rfl z9) ?_
    refine XG.l (fun z9 => x_iconst 3 dL_market_141 rfl z9) ?_
    refine XG.l (fun z9 => x_iand dL_market_142 z9) ?_
    refine XG.l (fun z9 => x_iadd dL_market_143 z9) ?_
    obtain ⟨m151, hq152, h⟩ := b1_s h
    obtain ⟨j150, hq153, h⟩ := b1_s h
    obtain ⟨I154, hq155, h⟩ := b1_s h
    refine XG.l (fun z9 => z_iast (cA_s hq152) hq153 hq155 dL_market_144 z9) ?_
    refine XG.l (fun z9 => x_dup dL_market_145 rfl z9) ?_
    refine XG.l (fun z9 => x_iconst 1 dL_market_146 rfl z9) ?_
    refine XG.l (fun z9 => x_iload dL_market_147 rfl z9) ?_
    refine XG.l (fun z9 => x_iconst 2 dL_market_149 rfl z9) ?_
    refine XG.l (fun z9 => x_iushr dL_market_150 z9) ?_
    refine XG.l (fun z9 => x_bipush 63 dL_market_151 (by decide) z9) ?_
    refine XG.l (fun z9 => x_iand dL_market_153 z9) ?_
    obtain ⟨m157, hq158, h⟩ := b1_s h
    obtain ⟨j156, hq159, h⟩ := b1_s h
    obtain ⟨I160, hq161, h⟩ := b1_s h
    refine XG.l (fun z9 => z_iast (cA_s hq158) hq159 hq161 dL_market_154 z9) ?_
    refine XG.l (fun z9 => x_dup dL_market_155 rfl z9) ?_
    refine XG.l (fun z9 => x_iconst 2 dL_market_156 rfl z9) ?_
    refine XG.l (fun z9 => x_iload dL_market_157 rfl z9) ?_
    refine XG.l (fun z9 => x_bipush 8 dL_market_159 (by decide) z9) ?_
    refine XG.l (fun z9 => x_iushr dL_market_161 z9) ?_
    refine XG.l (fun z9 => x_bipush 63 dL_market_162 (by decide) z9) ?_
    refine XG.l (fun z9 => x_iand dL_market_164 z9) ?_
    refine XG.l (fun z9 => x_bipush 51 dL_market_165 (by decide) z9) ?_
    refine XG.l (fun z9 => x_irem dL_market_167 (by decide) z9) ?_
    obtain ⟨m163, hq164, h⟩ := b1_s h
    obtain ⟨j162, hq165, h⟩ := b1_s h
    obtain ⟨I166, hq167, h⟩ := b1_s h
    refine XG.l (fun z9 => z_iast (cA_s hq164) hq165 hq167 dL_market_168 z9) ?_
    refine XG.l (fun z9 => x_dup dL_market_169 rfl z9) ?_
    refine XG.l (fun z9 => x_iconst 3 dL_market_170 rfl z9) ?_
    refine XG.l (fun z9 => x_iload dL_market_171 rfl z9) ?_
    refine XG.l (fun z9 => x_bipush 14 dL_market_173 (by decide) z9) ?_
    refine XG.l (fun z9 => x_iushr dL_market_175 z9) ?_
    refine XG.l (fun z9 => x_bipush 127 dL_market_176 (by decide) z9) ?_
    refine XG.l (fun z9 => x_iand dL_market_178 z9) ?_
    refine XG.l (fun z9 => x_bipush 101 dL_market_179 (by decide) z9) ?_
    refine XG.l (fun z9 => x_irem dL_market_181 (by decide) z9) ?_
    obtain ⟨m169, hq170, h⟩ := b1_s h
    obtain ⟨j168, hq171, h⟩ := b1_s h
    obtain ⟨I172, hq173, h⟩ := b1_s h
    refine XG.l (fun z9 => z_iast (cA_s hq170) hq171 hq173 dL_market_182 z9) ?_
    obtain ⟨u174, hq175, h⟩ := b1_s h
    obtain ⟨v176, I177, K178, hq179, h⟩ := b3_s h
    have hq := c_Jx4a65c_add_9ea2d d hq179
    refine XG.call hq.1 ?_ (fun z9 => z_Vcall [.ref (kN K)] [] (cs_L_55 _) (ci := 11) rfl (cO_s hq175) (dep (show d + 0 + 5 + 1 ≤ (d + 6) from by omega) (Nat.le_of_ble_eq_true rfl)) dL_market_183 rfl rfl (Nat.le_of_ble_eq_true rfl) hq.2 z9)
    refine XG.l (fun z9 => x_pop dL_market_186 rfl z9) ?_
    refine XG.l (fun z9 => z_iinc 1 (by decide) dL_market_187 rfl rfl rfl z9) ?_
    refine XG.l (fun z9 => x_goto 113 dL_market_190 rfl z9) ?_
    exact XG.forget (L' := [.ref (xE 50), .ref x1, .retAddr 0, .int x3, .int (x4 + 1), .retAddr 0, .retAddr 0, .retAddr 0]) ⟨Or.inl rfl, ⟨Or.inl rfl, ⟨Or.inl rfl, ⟨Or.inl rfl, ⟨Or.inl rfl, ⟨Or.inr rfl, ⟨Or.inl rfl, ⟨Or.inl rfl, trivial⟩⟩⟩⟩⟩⟩⟩⟩ (ih h)
noncomputable def l_L_market_101 (n : Nat) (xs : Nat → Int32) (I : Mem) (K : Kt) (x1 : Nat) (x2 : Int32) : Option (Nat × Mem × Kt) := l_L_market_113 n xs FU I K x1 (1 + ((ush x2 20) &&& 1)) 0
theorem tl_L_market_101 (d : Nat) {n : Nat} {xs : Nat → Int32} : ∀ {I : Mem} {K : Kt} {x1 : Nat} {x2 : Int32} {v : Nat} {I9 : Mem} {K9 : Kt}, l_L_market_101 n xs I K x1 x2 = some (v, I9, K9) → XG (mL_market (d + 6)) cL_market 0 0 K9 I K 101 [.ref (xE 50), .ref x1, .int x2, .retAddr 0, .retAddr 0, .retAddr 0, .retAddr 0, .retAddr 0] [] (Ro (.inl (some (.ref v))) I9 K9) (GsL n xs) := by
  intro I K x1 x2 v I9 K9 h
  unfold l_L_market_101 at h
  refine XG.l (fun z9 => x_iconst 1 dL_market_101 rfl z9) ?_
  refine XG.l (fun z9 => x_iloadn dL_market_102 rfl z9) ?_
  refine XG.l (fun z9 => x_bipush 20 dL_market_103 (by decide) z9) ?_
  refine XG.l (fun z9 => x_iushr dL_market_105 z9) ?_
  refine XG.l (fun z9 => x_iconst 1 dL_market_106 rfl z9) ?_
  refine XG.l (fun z9 => x_iand dL_market_107 z9) ?_
  refine XG.l (fun z9 => x_iadd dL_market_108 z9) ?_
  refine XG.l (fun z9 => x_istoren dL_market_109 (Nat.le_of_ble_eq_true rfl) rfl rfl z9) ?_
  refine XG.l (fun z9 => x_iconst 0 dL_market_110 rfl z9) ?_
  refine XG.l (fun z9 => x_istore dL_market_111 (Nat.le_of_ble_eq_true rfl) rfl rfl z9) ?_
  exact XG.forget (L' := [.ref (xE 50), .ref x1, .retAddr 0, .int (1 + ((ush x2 20) &&& 1)), .int 0, .retAddr 0, .retAddr 0, .retAddr 0]) ⟨Or.inl rfl, ⟨Or.inl rfl, ⟨Or.inr rfl, ⟨Or.inl rfl, ⟨Or.inl rfl, ⟨Or.inl rfl, ⟨Or.inl rfl, ⟨Or.inl rfl, trivial⟩⟩⟩⟩⟩⟩⟩⟩ (tl_L_market_113 d FU h)
noncomputable def l_L_market_66 (n : Nat) (xs : Nat → Int32) (I : Mem) (K : Kt) (x1 : Nat) (x2 : Int32) : Option (Nat × Mem × Kt) := if ((ush x2 12) &&& 1) = 0 then (b1 (cO K 8 x1) fun _ => b1 (nz (I x1 0)) fun _ => b1 (cO K 8 x1) fun _ => b1 (pu I x1 5 (((ush x2 13) &&& 3) - ((ush x2 13) &&& 3) / (I x1 0) * (I x1 0))) fun I186 => b1 (cO K 8 x1) fun _ => b1 (pu I186 x1 6 ((ush x2 15) &&& 31)) fun I190 => l_L_market_101 n xs I190 K x1 x2) else (l_L_market_101 n xs I K x1 x2)
theorem tl_L_market_66 (d : Nat) {n : Nat} {xs : Nat → Int32} : ∀ {I : Mem} {K : Kt} {x1 : Nat} {x2 : Int32} {v : Nat} {I9 : Mem} {K9 : Kt}, l_L_market_66 n xs I K x1 x2 = some (v, I9, K9) → XG (mL_market (d + 6)) cL_market 0 0 K9 I K 66 [.ref (xE 50), .ref x1, .int x2, .retAddr 0, .retAddr 0, .retAddr 0, .retAddr 0, .retAddr 0] [] (Ro (.inl (some (.ref v))) I9 K9) (GsL n xs) := by
  intro I K x1 x2 v I9 K9 h
  unfold l_L_market_66 at h
  refine XG.l (fun z9 => x_iloadn dL_market_66 rfl z9) ?_
  refine XG.l (fun z9 => x_bipush 12 dL_market_67 (by decide) z9) ?_
  refine XG.l (fun z9 => x_iushr dL_market_69 z9) ?_
  refine XG.l (fun z9 => x_iconst 1 dL_market_70 rfl z9) ?_
  refine XG.l (fun z9 => x_iand dL_market_71 z9) ?_
  rcases Classical.em (((ush x2 12) &&& 1) = 0) with hc | hc
  · have h := ifT hc h
    refine XG.l (fun z9 => x_if_ne 101 dL_market_72 rfl (fun hn => absurd hc hn) (fun _ => z9)) ?_
    refine XG.l (fun z9 => x_aloadn dL_market_75 rfl z9) ?_
    refine XG.l (fun z9 => x_iloadn dL_market_76 rfl z9) ?_
    refine XG.l (fun z9 => x_bipush 13 dL_market_77 (by decide) z9) ?_
    refine XG.l (fun z9 => x_iushr dL_market_79 z9) ?_
    refine XG.l (fun z9 => x_iconst 3 dL_market_80 rfl z9) ?_
    refine XG.l (fun z9 => x_iand dL_market_81 z9) ?_
    refine XG.l (fun z9 => x_aloadn dL_market_82 rfl z9) ?_
    obtain ⟨u180, hq181, h⟩ := b1_s h
    refine XG.l (fun z9 => x_getIN fn_L_32 (cO_s hq181).1 (cO_s hq181).2 dL_market_83 z9) ?_
    obtain ⟨u182, hq183, h⟩ := b1_s h
    refine XG.l (fun z9 => x_irem dL_market_86 (nz_s hq183) z9) ?_
    obtain ⟨u184, hq185, h⟩ := b1_s h
    obtain ⟨I186, hq187, h⟩ := b1_s h
    refine XG.l (fun z9 => z_putAN fn_L_45 (cO_s hq185) ⟨rfl, rfl⟩ hq187 dL_market_87 z9) ?_
    refine XG.l (fun z9 => x_aloadn dL_market_90 rfl z9) ?_
    refine XG.l (fun z9 => x_iloadn dL_market_91 rfl z9) ?_
    refine XG.l (fun z9 => x_bipush 15 dL_market_92 (by decide) z9) ?_
    refine XG.l (fun z9 => x_iushr dL_market_94 z9) ?_
    refine XG.l (fun z9 => x_bipush 31 dL_market_95 (by decide) z9) ?_
    refine XG.l (fun z9 => x_iand dL_market_97 z9) ?_
    obtain ⟨u188, hq189, h⟩ := b1_s h
    obtain ⟨I190, hq191, h⟩ := b1_s h
    refine XG.l (fun z9 => z_putAN fn_L_48 (cO_s hq189) ⟨rfl, rfl⟩ hq191 dL_market_98 z9) ?_
    exact (tl_L_market_101 d h)
  have h := ifF hc h
  refine XG.l (fun z9 => x_if_ne 101 dL_market_72 rfl (fun _ => z9) (fun hn => absurd hn hc)) ?_
  exact (tl_L_market_101 d h)
noncomputable def f_L_market (n : Nat) (xs : Nat → Int32) (I : Mem) (K : Kt) : Option (Nat × Mem × Kt) := b1 (cL K) fun _ => b2 (puN I K (8, 10)) fun I2 K3 => b2 (f_X10_init I2 K3 (kN K)) fun I6 K7 => b1 (f_L_cell n xs I6 K7 0) fun v9 => b1 (cO K7 8 (kN K)) fun _ => b1 (pu I6 (kN K) 0 (4 + (v9 &&& 3))) fun I13 => b1 (cO K7 8 (kN K)) fun _ => b1 (pu I13 (kN K) 2 ((ush v9 2) &&& 3)) fun I17 => b1 (cO K7 8 (kN K)) fun _ => b1 (pu I17 (kN K) 3 ((ush v9 4) &&& 31)) fun I21 => if ((ush v9 9) &&& 1) = 0 then (b1 (cO K7 8 (kN K)) fun _ => b1 (nz (I21 (kN K) 0)) fun _ => b1 (cO K7 8 (kN K)) fun _ => b1 (pu I21 (kN K) 4 (((ush v9 10) &&& 3) - ((ush v9 10) &&& 3) / (I21 (kN K) 0) * (I21 (kN K) 0))) fun I198 => l_L_market_66 n xs I198 K7 (kN K) v9) else (l_L_market_66 n xs I21 K7 (kN K) v9)
theorem c_L_market (d : Nat) {n : Nat} {xs : Nat → Int32} {K : Kt} {I : Mem} {v : Nat} {I9 : Mem} {K9 : Kt} (h : f_L_market n xs I K = some (v, I9, K9)) : CtGS n xs (mL_market (d + 6)) cL_market 0 0 K9 [.ref (xE 50)] I K (Ro (.inl (some (.ref v))) I9 K9) := by
  refine CtGS.of rfl pn_L (catR cat0) (Nat.le_of_ble_eq_true rfl) (show XG (mL_market (d + 6)) cL_market 0 0 K9 I K 0 [.ref (xE 50), .retAddr 0, .retAddr 0, .retAddr 0, .retAddr 0, .retAddr 0, .retAddr 0, .retAddr 0] [] (Ro (.inl (some (.ref v))) I9 K9) (GsL n xs) from ?_)
  unfold f_L_market at h
  obtain ⟨u1, hq4, h⟩ := b1_s h
  obtain ⟨I2, K3, hq5, h⟩ := b2_s h
  refine XG.sn hq5 ?_ (fun z9 => x_new ns_L_25 (cL_s hq4) dL_market_0 z9)
  refine XG.l (fun z9 => x_dup dL_market_3 rfl z9) ?_
  obtain ⟨I6, K7, hq8, h⟩ := b2_s h
  have hq := c_X10_init (d + 1) hq8
  refine XG.call hq.1 ?_ (fun z9 => z_Icall [] [.ref (kN K)] (Or.inr (cn_L_27 _)) (dep (show d + 1 + 4 + 1 ≤ (d + 6) from by omega) (Nat.le_of_ble_eq_true rfl)) dL_market_4 rfl rfl (Nat.le_of_ble_eq_true rfl) hq.2 z9)
  refine XG.l (fun z9 => x_astoren dL_market_7 (Nat.le_of_ble_eq_true rfl) rfl rfl z9) ?_
  refine XG.l (fun z9 => x_aloadn dL_market_8 rfl z9) ?_
  refine XG.l (fun z9 => x_iconst 0 dL_market_9 rfl z9) ?_
  obtain ⟨v9, hq10, h⟩ := b1_s h
  have hq := c_L_cell (d + 5) hq10
  refine XG.l (fun z9 => X.c0 (z_SScall [.ref (xE 50), .int 0] [] (cs_L_28 _) rfl (dep (show d + 5 + 0 + 1 ≤ (d + 6) from by omega) (Nat.le_of_ble_eq_true rfl)) dL_market_10 rfl rfl (Nat.le_of_ble_eq_true rfl) hq z9)) ?_
  refine XG.l (fun z9 => x_istoren dL_market_13 (Nat.le_of_ble_eq_true rfl) rfl rfl z9) ?_
  refine XG.l (fun z9 => x_aloadn dL_market_14 rfl z9) ?_
  refine XG.l (fun z9 => x_iconst 4 dL_market_15 rfl z9) ?_
  refine XG.l (fun z9 => x_iloadn dL_market_16 rfl z9) ?_
  refine XG.l (fun z9 => x_iconst 3 dL_market_17 rfl z9) ?_
  refine XG.l (fun z9 => x_iand dL_market_18 z9) ?_
  refine XG.l (fun z9 => x_iadd dL_market_19 z9) ?_
  obtain ⟨u11, hq12, h⟩ := b1_s h
  obtain ⟨I13, hq14, h⟩ := b1_s h
  refine XG.l (fun z9 => z_putAN fn_L_32 (cO_s hq12) ⟨rfl, rfl⟩ hq14 dL_market_20 z9) ?_
  refine XG.l (fun z9 => x_aloadn dL_market_23 rfl z9) ?_
  refine XG.l (fun z9 => x_iloadn dL_market_24 rfl z9) ?_
  refine XG.l (fun z9 => x_iconst 2 dL_market_25 rfl z9) ?_
  refine XG.l (fun z9 => x_iushr dL_market_26 z9) ?_
  refine XG.l (fun z9 => x_iconst 3 dL_market_27 rfl z9) ?_
  refine XG.l (fun z9 => x_iand dL_market_28 z9) ?_
  obtain ⟨u15, hq16, h⟩ := b1_s h
  obtain ⟨I17, hq18, h⟩ := b1_s h
  refine XG.l (fun z9 => z_putAN fn_L_36 (cO_s hq16) ⟨rfl, rfl⟩ hq18 dL_market_29 z9) ?_
  refine XG.l (fun z9 => x_aloadn dL_market_32 rfl z9) ?_
  refine XG.l (fun z9 => x_iloadn dL_market_33 rfl z9) ?_
  refine XG.l (fun z9 => x_iconst 4 dL_market_34 rfl z9) ?_
  refine XG.l (fun z9 => x_iushr dL_market_35 z9) ?_
  refine XG.l (fun z9 => x_bipush 31 dL_market_36 (by decide) z9) ?_
  refine XG.l (fun z9 => x_iand dL_market_38 z9) ?_
  obtain ⟨u19, hq20, h⟩ := b1_s h
  obtain ⟨I21, hq22, h⟩ := b1_s h
  refine XG.l (fun z9 => z_putAN fn_L_39 (cO_s hq20) ⟨rfl, rfl⟩ hq22 dL_market_39 z9) ?_
  refine XG.l (fun z9 => x_iloadn dL_market_42 rfl z9) ?_
  refine XG.l (fun z9 => x_bipush 9 dL_market_43 (by decide) z9) ?_
  refine XG.l (fun z9 => x_iushr dL_market_45 z9) ?_
  refine XG.l (fun z9 => x_iconst 1 dL_market_46 rfl z9) ?_
  refine XG.l (fun z9 => x_iand dL_market_47 z9) ?_
  rcases Classical.em (((ush v9 9) &&& 1) = 0) with hc | hc
  · have h := ifT hc h
    refine XG.l (fun z9 => x_if_ne 66 dL_market_48 rfl (fun hn => absurd hc hn) (fun _ => z9)) ?_
    refine XG.l (fun z9 => x_aloadn dL_market_51 rfl z9) ?_
    refine XG.l (fun z9 => x_iloadn dL_market_52 rfl z9) ?_
    refine XG.l (fun z9 => x_bipush 10 dL_market_53 (by decide) z9) ?_
    refine XG.l (fun z9 => x_iushr dL_market_55 z9) ?_
    refine XG.l (fun z9 => x_iconst 3 dL_market_56 rfl z9) ?_
    refine XG.l (fun z9 => x_iand dL_market_57 z9) ?_
    refine XG.l (fun z9 => x_aloadn dL_market_58 rfl z9) ?_
    obtain ⟨u192, hq193, h⟩ := b1_s h
    refine XG.l (fun z9 => x_getIN fn_L_32 (cO_s hq193).1 (cO_s hq193).2 dL_market_59 z9) ?_
    obtain ⟨u194, hq195, h⟩ := b1_s h
    refine XG.l (fun z9 => x_irem dL_market_62 (nz_s hq195) z9) ?_
    obtain ⟨u196, hq197, h⟩ := b1_s h
    obtain ⟨I198, hq199, h⟩ := b1_s h
    refine XG.l (fun z9 => z_putAN fn_L_42 (cO_s hq197) ⟨rfl, rfl⟩ hq199 dL_market_63 z9) ?_
    exact (tl_L_market_66 d h)
  have h := ifF hc h
  refine XG.l (fun z9 => x_if_ne 66 dL_market_48 rfl (fun _ => z9) (fun hn => absurd hn hc)) ?_
  exact (tl_L_market_66 d h)
noncomputable def l_L_text_483 (I : Mem) (K : Kt) (x2 : Nat) : Option (Nat × Mem × Kt) := b1 (cO K 0 x2) fun _ => b3 (f_J4_toString_0e30d I K x2) fun v75 I76 K77 => some (v75, I76, K77)
theorem tl_L_text_483 (d : Nat) : ∀ {I : Mem} {K : Kt} {x2 : Nat} {v : Nat} {I9 : Mem} {K9 : Kt}, l_L_text_483 I K x2 = some (v, I9, K9) → XG (mL_text (d + 9)) cL_text 0 0 K9 I K 483 [.retAddr 0, .retAddr 0, .ref x2, .retAddr 0, .retAddr 0] [] (Ro (.inl (some (.ref v))) I9 K9) := by
  intro I K x2 v I9 K9 h
  unfold l_L_text_483 at h
  refine XG.l (fun z9 => x_aloadn dL_text_483 rfl z9) ?_
  obtain ⟨u73, hq74, h⟩ := b1_s h
  obtain ⟨v75, I76, K77, hq78, h⟩ := b3_s h
  have hq := c_J4_toString_0e30d (d + 3) hq78
  refine XG.call hq.1 ?_ (fun z9 => z_Vcall [] [] (cs_L_174 _) (ci := 0) rfl (cO_s hq74) (dep (show d + 3 + 5 + 1 ≤ (d + 9) from by omega) (Nat.le_of_ble_eq_true rfl)) dL_text_484 rfl rfl (Nat.le_of_ble_eq_true rfl) hq.2 z9)
  cases h
  exact XG.z (x_aret rfl (Or.inl ⟨_, rfl⟩) dL_text_487 ⟨rfl, rfl, rfl⟩)
noncomputable def l_L_text_435 (c329 : Mem → Kt → Nat → Int32 → Nat → Int32 → Option (Nat × Mem × Kt)) (I : Mem) (K : Kt) (x0 : Nat) (x1 : Int32) (x2 : Nat) (x3 : Int32) (x4 : Nat) : Option (Nat × Mem × Kt) := b1 (cO K 10 x4) fun _ => if (I x4 2) ≤ 0 then (c329 I K x0 x1 x2 (x3 + 1)) else (b1 (cO K 0 x2) fun _ => b3 (f_J4_append_15ec4 I K x2 40) fun v160 I161 K162 => b1 (cO K162 10 x4) fun _ => b1 (cO K162 0 v160) fun _ => b3 (f_J4_append_bf812 I161 K162 v160 (I161 x4 2)) fun v168 I169 K170 => c329 I169 K170 x0 x1 x2 (x3 + 1))
theorem tl_L_text_435 (d : Nat) {c329 : Mem → Kt → Nat → Int32 → Nat → Int32 → Option (Nat × Mem × Kt)} (hc329 : ∀ {I : Mem} {K : Kt} {x0 : Nat} {x1 : Int32} {x2 : Nat} {x3 : Int32} {v : Nat} {I9 : Mem} {K9 : Kt}, c329 I K x0 x1 x2 x3 = some (v, I9, K9) → XG (mL_text (d + 9)) cL_text 0 0 K9 I K 329 [.ref x0, .int x1, .ref x2, .int x3, .retAddr 0] [] (Ro (.inl (some (.ref v))) I9 K9)) : ∀ {I : Mem} {K : Kt} {x0 : Nat} {x1 : Int32} {x2 : Nat} {x3 : Int32} {x4 : Nat} {v : Nat} {I9 : Mem} {K9 : Kt}, l_L_text_435 c329 I K x0 x1 x2 x3 x4 = some (v, I9, K9) → XG (mL_text (d + 9)) cL_text 0 0 K9 I K 435 [.ref x0, .int x1, .ref x2, .int x3, .ref x4] [] (Ro (.inl (some (.ref v))) I9 K9) := by
  intro I K x0 x1 x2 x3 x4 v I9 K9 h
  unfold l_L_text_435 at h
  refine XG.l (fun z9 => x_aload dL_text_435 rfl z9) ?_
  obtain ⟨u156, hq157, h⟩ := b1_s h
  refine XG.l (fun z9 => x_getIN fn_L_95 (cO_s hq157).1 (cO_s hq157).2 dL_text_437 z9) ?_
  rcases Classical.em ((I x4 2) ≤ 0) with hc | hc
  · have h := ifT hc h
    refine XG.l (fun z9 => x_if_le 458 dL_text_440 rfl (fun _ => z9) (fun hn => absurd hc hn)) ?_
    refine XG.l (fun z9 => z_iinc 1 (by decide) dL_text_458 rfl rfl rfl z9) ?_
    refine XG.l (fun z9 => x_goto 329 dL_text_461 rfl z9) ?_
    exact XG.forget (L' := [.ref x0, .int x1, .ref x2, .int (x3 + 1), .retAddr 0]) ⟨Or.inl rfl, ⟨Or.inl rfl, ⟨Or.inl rfl, ⟨Or.inl rfl, ⟨Or.inr rfl, trivial⟩⟩⟩⟩⟩ (hc329 h)
  have h := ifF hc h
  refine XG.l (fun z9 => x_if_le 458 dL_text_440 rfl (fun hn => absurd hn hc) (fun _ => z9)) ?_
  refine XG.l (fun z9 => x_aloadn dL_text_443 rfl z9) ?_
  refine XG.l (fun z9 => x_ldcS 40 (show (RL, 167, " worn ", 40) ∈ strT from by decide +kernel) dL_text_444 z9) ?_
  obtain ⟨u158, hq159, h⟩ := b1_s h
  obtain ⟨v160, I161, K162, hq163, h⟩ := b3_s h
  have hq := c_J4_append_15ec4 (d + 3) hq163
  refine XG.call hq.1 ?_ (fun z9 => z_Vcall [.ref (xE (100 + 40))] [] (cs_L_129 _) (ci := 0) rfl (cO_s hq159) (dep (show d + 3 + 5 + 1 ≤ (d + 9) from by omega) (Nat.le_of_ble_eq_true rfl)) dL_text_446 rfl rfl (Nat.le_of_ble_eq_true rfl) hq.2 z9)
  refine XG.l (fun z9 => x_aload dL_text_449 rfl z9) ?_
  obtain ⟨u164, hq165, h⟩ := b1_s h
  refine XG.l (fun z9 => x_getIN fn_L_95 (cO_s hq165).1 (cO_s hq165).2 dL_text_451 z9) ?_
  obtain ⟨u166, hq167, h⟩ := b1_s h
  obtain ⟨v168, I169, K170, hq171, h⟩ := b3_s h
  have hq := c_J4_append_bf812 (d + 3) hq171
  refine XG.call hq.1 ?_ (fun z9 => z_Vcall [.int (I161 x4 2)] [] (cs_L_124 _) (ci := 0) rfl (cO_s hq167) (dep (show d + 3 + 5 + 1 ≤ (d + 9) from by omega) (Nat.le_of_ble_eq_true rfl)) dL_text_454 rfl rfl (Nat.le_of_ble_eq_true rfl) hq.2 z9)
  refine XG.l (fun z9 => x_pop dL_text_457 rfl z9) ?_
  refine XG.l (fun z9 => z_iinc 1 (by decide) dL_text_458 rfl rfl rfl z9) ?_
  refine XG.l (fun z9 => x_goto 329 dL_text_461 rfl z9) ?_
  exact XG.forget (L' := [.ref x0, .int x1, .ref x2, .int (x3 + 1), .retAddr 0]) ⟨Or.inl rfl, ⟨Or.inl rfl, ⟨Or.inl rfl, ⟨Or.inl rfl, ⟨Or.inr rfl, trivial⟩⟩⟩⟩⟩ (hc329 h)
noncomputable def l_L_text_329 (m9 : Nat) (I : Mem) (K : Kt) (x0 : Nat) (x1 : Int32) (x2 : Nat) (x3 : Int32) : Option (Nat × Mem × Kt) := match m9 with
  | 0 => none
  | m9 + 1 => b1 (cO K 8 x0) fun _ => b1 (gR K x0 9) fun r67 => b1 (cO K 11 r67) fun _ => b1 (f_Jx4a65c_size_8abf5 I K r67) fun v71 => if v71 ≤ x3 then (if (x1 &&& 1) = 0 then (b1 (cO K 0 x2) fun _ => b3 (f_J4_append_15ec4 I K x2 41) fun v81 I82 K83 => b1 (cO K83 8 x0) fun _ => b2 (f_X10_advance I82 K83 x0 2) fun v87 I88 => l_L_text_483 I88 K83 x2) else (l_L_text_483 I K x2)) else (b1 (cO K 8 x0) fun _ => b1 (gR K x0 9) fun r92 => b1 (cO K 11 r92) fun _ => b1 (f_Jx4a65c_get_915e3 I K r92 x3) fun v96 => b1 (cO K 10 v96) fun _ => b1 (cO K 0 x2) fun _ => b3 (f_J4_append_15ec4 I K x2 37) fun v102 I103 K104 => b1 (cO K104 0 v102) fun _ => b3 (f_J4_append_cf468 I103 K104 v102 (((112 + x3)).toUInt32 % 65536).toInt32) fun v108 I109 K110 => b1 (cO K110 0 v108) fun _ => b3 (f_J4_append_cf468 I109 K110 v108 32) fun v114 I115 K116 => b1 (cO K116 10 v96) fun _ => b1 (cO K116 0 v114) fun _ => b3 (f_J4_append_bf812 I115 K116 v114 (I115 v96 0)) fun v122 I123 K124 => b1 (cO K124 0 v122) fun _ => b3 (f_J4_append_cf468 I123 K124 v122 32) fun v128 I129 K130 => b1 (cO K130 10 v96) fun _ => b1 (cO K130 0 v128) fun _ => b3 (f_J4_append_bf812 I129 K130 v128 (I129 v96 1)) fun v136 I137 K138 => b1 (cO K138 10 v96) fun _ => if (I137 v96 3) < 0 then (b1 (cO K138 0 x2) fun _ => b3 (f_J4_append_15ec4 I137 K138 x2 39) fun v144 I145 K146 => b1 (cO K146 10 v96) fun _ => b1 (cO K146 0 v144) fun _ => b3 (f_J4_append_bf812 I145 K146 v144 (I145 v96 4)) fun v152 I153 K154 => l_L_text_435 (l_L_text_329 m9) I153 K154 x0 x1 x2 x3 v96) else (b1 (cO K138 0 x2) fun _ => b3 (f_J4_append_15ec4 I137 K138 x2 38) fun v174 I175 K176 => b1 (cO K176 10 v96) fun _ => b1 (cO K176 0 v174) fun _ => b3 (f_J4_append_bf812 I175 K176 v174 (I175 v96 3)) fun v182 I183 K184 => l_L_text_435 (l_L_text_329 m9) I183 K184 x0 x1 x2 x3 v96))
theorem tl_L_text_329 (d : Nat) (m9 : Nat) : ∀ {I : Mem} {K : Kt} {x0 : Nat} {x1 : Int32} {x2 : Nat} {x3 : Int32} {v : Nat} {I9 : Mem} {K9 : Kt}, l_L_text_329 m9 I K x0 x1 x2 x3 = some (v, I9, K9) → XG (mL_text (d + 9)) cL_text 0 0 K9 I K 329 [.ref x0, .int x1, .ref x2, .int x3, .retAddr 0] [] (Ro (.inl (some (.ref v))) I9 K9) := by
  induction m9 with
  | zero =>
    intro I K x0 x1 x2 x3 v I9 K9 h
    cases h
  | succ m9 ih =>
    intro I K x0 x1 x2 x3 v I9 K9 h
    unfold l_L_text_329 at h
    refine XG.l (fun z9 => x_iloadn dL_text_329 rfl z9) ?_
    refine XG.l (fun z9 => x_aloadn dL_text_330 rfl z9) ?_
    obtain ⟨u65, hq66, h⟩ := b1_s h
    obtain ⟨r67, hq68, h⟩ := b1_s h
    refine XG.l (fun z9 => x_getRN fn_L_114 (cO_s hq66).1 (cO_s hq66).2 hq68 dL_text_331 z9) ?_
    obtain ⟨u69, hq70, h⟩ := b1_s h
    obtain ⟨v71, hq72, h⟩ := b1_s h
    have hq := c_Jx4a65c_size_8abf5 (d + 8) hq72
    refine XG.l (fun z9 => X.c0 (z_Vcall [] [.int x3] (cs_L_141 _) (ci := 11) rfl (cO_s hq70) (dep (show d + 8 + 0 + 1 ≤ (d + 9) from by omega) (Nat.le_of_ble_eq_true rfl)) dL_text_334 rfl rfl (Nat.le_of_ble_eq_true rfl) hq z9)) ?_
    rcases Classical.em (v71 ≤ x3) with hc | hc
    · have h := ifT hc h
      refine XG.l (fun z9 => x_icmp_ge 464 dL_text_337 rfl (fun _ => z9) (fun hn => absurd hc hn)) ?_
      refine XG.l (fun z9 => x_iloadn dL_text_464 rfl z9) ?_
      refine XG.l (fun z9 => x_iconst 1 dL_text_465 rfl z9) ?_
      refine XG.l (fun z9 => x_iand dL_text_466 z9) ?_
      rcases Classical.em ((x1 &&& 1) = 0) with hc | hc
      · have h := ifT hc h
        refine XG.l (fun z9 => x_if_ne 483 dL_text_467 rfl (fun hn => absurd hc hn) (fun _ => z9)) ?_
        refine XG.l (fun z9 => x_aloadn dL_text_470 rfl z9) ?_
        refine XG.l (fun z9 => x_ldcS 41 (show (RL, 169, ";repeat 2 (advance 1)", 41) ∈ strT from by decide +kernel) dL_text_471 z9) ?_
        obtain ⟨u79, hq80, h⟩ := b1_s h
        obtain ⟨v81, I82, K83, hq84, h⟩ := b3_s h
        have hq := c_J4_append_15ec4 (d + 3) hq84
        refine XG.call hq.1 ?_ (fun z9 => z_Vcall [.ref (xE (100 + 41))] [] (cs_L_129 _) (ci := 0) rfl (cO_s hq80) (dep (show d + 3 + 5 + 1 ≤ (d + 9) from by omega) (Nat.le_of_ble_eq_true rfl)) dL_text_473 rfl rfl (Nat.le_of_ble_eq_true rfl) hq.2 z9)
        refine XG.l (fun z9 => x_pop dL_text_476 rfl z9) ?_
        refine XG.l (fun z9 => x_aloadn dL_text_477 rfl z9) ?_
        refine XG.l (fun z9 => x_iconst 2 dL_text_478 rfl z9) ?_
        obtain ⟨u85, hq86, h⟩ := b1_s h
        obtain ⟨v87, I88, hq89, h⟩ := b2_s h
        have hq := c_X10_advance (d + 1) hq89
        refine XG.l (fun z9 => X.c0 (z_Vcall [.int 2] [] (cs_L_171 _) (ci := 8) rfl (cO_s hq86) (dep (show d + 1 + 7 + 1 ≤ (d + 9) from by omega) (Nat.le_of_ble_eq_true rfl)) dL_text_479 rfl rfl (Nat.le_of_ble_eq_true rfl) hq z9)) ?_
        refine XG.l (fun z9 => x_istoren dL_text_482 (Nat.le_of_ble_eq_true rfl) rfl rfl z9) ?_
        exact XG.forget (L' := [.retAddr 0, .retAddr 0, .ref x2, .retAddr 0, .retAddr 0]) ⟨Or.inr rfl, ⟨Or.inr rfl, ⟨Or.inl rfl, ⟨Or.inr rfl, ⟨Or.inl rfl, trivial⟩⟩⟩⟩⟩ (tl_L_text_483 d h)
      have h := ifF hc h
      refine XG.l (fun z9 => x_if_ne 483 dL_text_467 rfl (fun _ => z9) (fun hn => absurd hn hc)) ?_
      exact XG.forget (L' := [.retAddr 0, .retAddr 0, .ref x2, .retAddr 0, .retAddr 0]) ⟨Or.inr rfl, ⟨Or.inr rfl, ⟨Or.inl rfl, ⟨Or.inr rfl, ⟨Or.inl rfl, trivial⟩⟩⟩⟩⟩ (tl_L_text_483 d h)
    have h := ifF hc h
    refine XG.l (fun z9 => x_icmp_ge 464 dL_text_337 rfl (fun hn => absurd hn hc) (fun _ => z9)) ?_
    refine XG.l (fun z9 => x_aloadn dL_text_340 rfl z9) ?_
    obtain ⟨u90, hq91, h⟩ := b1_s h
    obtain ⟨r92, hq93, h⟩ := b1_s h
    refine XG.l (fun z9 => x_getRN fn_L_114 (cO_s hq91).1 (cO_s hq91).2 hq93 dL_text_341 z9) ?_
    refine XG.l (fun z9 => x_iloadn dL_text_344 rfl z9) ?_
    obtain ⟨u94, hq95, h⟩ := b1_s h
    obtain ⟨v96, hq97, h⟩ := b1_s h
    have hq := c_Jx4a65c_get_915e3 (d + 6) hq97
    refine XG.l (fun z9 => X.c0 (z_Vcall [.int x3] [] (cs_L_102 _) (ci := 11) rfl (cO_s hq95) (dep (show d + 6 + 2 + 1 ≤ (d + 9) from by omega) (Nat.le_of_ble_eq_true rfl)) dL_text_345 rfl rfl (Nat.le_of_ble_eq_true rfl) hq z9)) ?_
    obtain ⟨u98, hq99, h⟩ := b1_s h
    refine XG.l (fun z9 => x_castC (ci := 10) rfl (show Cond.classLink RL 86 "WishMarketLaw$Wish" ∈ wsG from inT6 125 rfl rfl) (cO_s hq99) dL_text_348 z9) ?_
    refine XG.l (fun z9 => x_astore dL_text_351 (Nat.le_of_ble_eq_true rfl) rfl rfl z9) ?_
    refine XG.l (fun z9 => x_aloadn dL_text_353 rfl z9) ?_
    refine XG.l (fun z9 => x_ldcS 37 (show (RL, 161, ";wish ", 37) ∈ strT from by decide +kernel) dL_text_354 z9) ?_
    obtain ⟨u100, hq101, h⟩ := b1_s h
    obtain ⟨v102, I103, K104, hq105, h⟩ := b3_s h
    have hq := c_J4_append_15ec4 (d + 3) hq105
    refine XG.call hq.1 ?_ (fun z9 => z_Vcall [.ref (xE (100 + 37))] [] (cs_L_129 _) (ci := 0) rfl (cO_s hq101) (dep (show d + 3 + 5 + 1 ≤ (d + 9) from by omega) (Nat.le_of_ble_eq_true rfl)) dL_text_356 rfl rfl (Nat.le_of_ble_eq_true rfl) hq.2 z9)
    refine XG.l (fun z9 => x_bipush 112 dL_text_359 (by decide) z9) ?_
    refine XG.l (fun z9 => x_iloadn dL_text_361 rfl z9) ?_
    refine XG.l (fun z9 => x_iadd dL_text_362 z9) ?_
    refine XG.l (fun z9 => x_i2c dL_text_363 z9) ?_
    obtain ⟨u106, hq107, h⟩ := b1_s h
    obtain ⟨v108, I109, K110, hq111, h⟩ := b3_s h
    have hq := c_J4_append_cf468 (d + 3) hq111
    refine XG.call hq.1 ?_ (fun z9 => z_Vcall [.int (((112 + x3)).toUInt32 % 65536).toInt32] [] (cs_L_138 _) (ci := 0) rfl (cO_s hq107) (dep (show d + 3 + 5 + 1 ≤ (d + 9) from by omega) (Nat.le_of_ble_eq_true rfl)) dL_text_364 rfl rfl (Nat.le_of_ble_eq_true rfl) hq.2 z9)
    refine XG.l (fun z9 => x_bipush 32 dL_text_367 (by decide) z9) ?_
    obtain ⟨u112, hq113, h⟩ := b1_s h
    obtain ⟨v114, I115, K116, hq117, h⟩ := b3_s h
    have hq := c_J4_append_cf468 (d + 3) hq117
    refine XG.call hq.1 ?_ (fun z9 => z_Vcall [.int 32] [] (cs_L_138 _) (ci := 0) rfl (cO_s hq113) (dep (show d + 3 + 5 + 1 ≤ (d + 9) from by omega) (Nat.le_of_ble_eq_true rfl)) dL_text_369 rfl rfl (Nat.le_of_ble_eq_true rfl) hq.2 z9)
    refine XG.l (fun z9 => x_aload dL_text_372 rfl z9) ?_
    obtain ⟨u118, hq119, h⟩ := b1_s h
    refine XG.l (fun z9 => x_getIN fn_L_89 (cO_s hq119).1 (cO_s hq119).2 dL_text_374 z9) ?_
    obtain ⟨u120, hq121, h⟩ := b1_s h
    obtain ⟨v122, I123, K124, hq125, h⟩ := b3_s h
    have hq := c_J4_append_bf812 (d + 3) hq125
    refine XG.call hq.1 ?_ (fun z9 => z_Vcall [.int (I115 v96 0)] [] (cs_L_124 _) (ci := 0) rfl (cO_s hq121) (dep (show d + 3 + 5 + 1 ≤ (d + 9) from by omega) (Nat.le_of_ble_eq_true rfl)) dL_text_377 rfl rfl (Nat.le_of_ble_eq_true rfl) hq.2 z9)
    refine XG.l (fun z9 => x_bipush 32 dL_text_380 (by decide) z9) ?_
    obtain ⟨u126, hq127, h⟩ := b1_s h
    obtain ⟨v128, I129, K130, hq131, h⟩ := b3_s h
    have hq := c_J4_append_cf468 (d + 3) hq131
    refine XG.call hq.1 ?_ (fun z9 => z_Vcall [.int 32] [] (cs_L_138 _) (ci := 0) rfl (cO_s hq127) (dep (show d + 3 + 5 + 1 ≤ (d + 9) from by omega) (Nat.le_of_ble_eq_true rfl)) dL_text_382 rfl rfl (Nat.le_of_ble_eq_true rfl) hq.2 z9)
    refine XG.l (fun z9 => x_aload dL_text_385 rfl z9) ?_
    obtain ⟨u132, hq133, h⟩ := b1_s h
    refine XG.l (fun z9 => x_getIN fn_L_92 (cO_s hq133).1 (cO_s hq133).2 dL_text_387 z9) ?_
    obtain ⟨u134, hq135, h⟩ := b1_s h
    obtain ⟨v136, I137, K138, hq139, h⟩ := b3_s h
    have hq := c_J4_append_bf812 (d + 3) hq139
    refine XG.call hq.1 ?_ (fun z9 => z_Vcall [.int (I129 v96 1)] [] (cs_L_124 _) (ci := 0) rfl (cO_s hq135) (dep (show d + 3 + 5 + 1 ≤ (d + 9) from by omega) (Nat.le_of_ble_eq_true rfl)) dL_text_390 rfl rfl (Nat.le_of_ble_eq_true rfl) hq.2 z9)
    refine XG.l (fun z9 => x_pop dL_text_393 rfl z9) ?_
    refine XG.l (fun z9 => x_aload dL_text_394 rfl z9) ?_
    obtain ⟨u140, hq141, h⟩ := b1_s h
    refine XG.l (fun z9 => x_getIN fn_L_108 (cO_s hq141).1 (cO_s hq141).2 dL_text_396 z9) ?_
    rcases Classical.em ((I137 v96 3) < 0) with hc | hc
    · have h := ifT hc h
      refine XG.l (fun z9 => x_if_lt 420 dL_text_399 rfl (fun _ => z9) (fun hn => absurd hc hn)) ?_
      refine XG.l (fun z9 => x_aloadn dL_text_420 rfl z9) ?_
      refine XG.l (fun z9 => x_ldcS 39 (show (RL, 165, " with ", 39) ∈ strT from by decide +kernel) dL_text_421 z9) ?_
      obtain ⟨u142, hq143, h⟩ := b1_s h
      obtain ⟨v144, I145, K146, hq147, h⟩ := b3_s h
      have hq := c_J4_append_15ec4 (d + 3) hq147
      refine XG.call hq.1 ?_ (fun z9 => z_Vcall [.ref (xE (100 + 39))] [] (cs_L_129 _) (ci := 0) rfl (cO_s hq143) (dep (show d + 3 + 5 + 1 ≤ (d + 9) from by omega) (Nat.le_of_ble_eq_true rfl)) dL_text_423 rfl rfl (Nat.le_of_ble_eq_true rfl) hq.2 z9)
      refine XG.l (fun z9 => x_aload dL_text_426 rfl z9) ?_
      obtain ⟨u148, hq149, h⟩ := b1_s h
      refine XG.l (fun z9 => x_getIN fn_L_111 (cO_s hq149).1 (cO_s hq149).2 dL_text_428 z9) ?_
      obtain ⟨u150, hq151, h⟩ := b1_s h
      obtain ⟨v152, I153, K154, hq155, h⟩ := b3_s h
      have hq := c_J4_append_bf812 (d + 3) hq155
      refine XG.call hq.1 ?_ (fun z9 => z_Vcall [.int (I145 v96 4)] [] (cs_L_124 _) (ci := 0) rfl (cO_s hq151) (dep (show d + 3 + 5 + 1 ≤ (d + 9) from by omega) (Nat.le_of_ble_eq_true rfl)) dL_text_431 rfl rfl (Nat.le_of_ble_eq_true rfl) hq.2 z9)
      refine XG.l (fun z9 => x_pop dL_text_434 rfl z9) ?_
      exact (tl_L_text_435 d ih h)
    have h := ifF hc h
    refine XG.l (fun z9 => x_if_lt 420 dL_text_399 rfl (fun hn => absurd hn hc) (fun _ => z9)) ?_
    refine XG.l (fun z9 => x_aloadn dL_text_402 rfl z9) ?_
    refine XG.l (fun z9 => x_ldcS 38 (show (RL, 163, " at ", 38) ∈ strT from by decide +kernel) dL_text_403 z9) ?_
    obtain ⟨u172, hq173, h⟩ := b1_s h
    obtain ⟨v174, I175, K176, hq177, h⟩ := b3_s h
    have hq := c_J4_append_15ec4 (d + 3) hq177
    refine XG.call hq.1 ?_ (fun z9 => z_Vcall [.ref (xE (100 + 38))] [] (cs_L_129 _) (ci := 0) rfl (cO_s hq173) (dep (show d + 3 + 5 + 1 ≤ (d + 9) from by omega) (Nat.le_of_ble_eq_true rfl)) dL_text_405 rfl rfl (Nat.le_of_ble_eq_true rfl) hq.2 z9)
    refine XG.l (fun z9 => x_aload dL_text_408 rfl z9) ?_
    obtain ⟨u178, hq179, h⟩ := b1_s h
    refine XG.l (fun z9 => x_getIN fn_L_108 (cO_s hq179).1 (cO_s hq179).2 dL_text_410 z9) ?_
    obtain ⟨u180, hq181, h⟩ := b1_s h
    obtain ⟨v182, I183, K184, hq185, h⟩ := b3_s h
    have hq := c_J4_append_bf812 (d + 3) hq185
    refine XG.call hq.1 ?_ (fun z9 => z_Vcall [.int (I175 v96 3)] [] (cs_L_124 _) (ci := 0) rfl (cO_s hq181) (dep (show d + 3 + 5 + 1 ≤ (d + 9) from by omega) (Nat.le_of_ble_eq_true rfl)) dL_text_413 rfl rfl (Nat.le_of_ble_eq_true rfl) hq.2 z9)
    refine XG.l (fun z9 => x_pop dL_text_416 rfl z9) ?_
    refine XG.l (fun z9 => x_goto 435 dL_text_417 rfl z9) ?_
    exact (tl_L_text_435 d ih h)
noncomputable def l_L_text_295 (c179 : Mem → Kt → Nat → Int32 → Nat → Int32 → Option (Nat × Mem × Kt)) (I : Mem) (K : Kt) (x0 : Nat) (x1 : Int32) (x2 : Nat) (x3 : Int32) (x4 : Nat) (y0 : Nat) (y1 : Nat) : Option (Nat × Mem × Kt) := b1 (cO K 0 y1) fun _ => b3 (f_J4_append_15ec4 I K y1 y0) fun v262 I263 K264 => b1 (cO K264 0 v262) fun _ => b3 (f_J4_append_15ec4 I263 K264 v262 36) fun v268 I269 K270 => b1 (cO K270 0 v268) fun _ => b3 (f_J4_append_bf812 I269 K270 v268 x3) fun v274 I275 K276 => b1 (cO K276 0 v274) fun _ => b3 (f_J4_append_cf468 I275 K276 v274 32) fun v280 I281 K282 => b1 (cO K282 9 x4) fun _ => b1 (cO K282 0 v280) fun _ => b3 (f_J4_append_bf812 I281 K282 v280 (I281 x4 4)) fun v288 I289 K290 => c179 I289 K290 x0 x1 x2 (x3 + 1)
theorem tl_L_text_295 (d : Nat) {c179 : Mem → Kt → Nat → Int32 → Nat → Int32 → Option (Nat × Mem × Kt)} (hc179 : ∀ {I : Mem} {K : Kt} {x0 : Nat} {x1 : Int32} {x2 : Nat} {x3 : Int32} {v : Nat} {I9 : Mem} {K9 : Kt}, c179 I K x0 x1 x2 x3 = some (v, I9, K9) → XG (mL_text (d + 9)) cL_text 0 0 K9 I K 179 [.ref x0, .int x1, .ref x2, .int x3, .retAddr 0] [] (Ro (.inl (some (.ref v))) I9 K9)) : ∀ {I : Mem} {K : Kt} {x0 : Nat} {x1 : Int32} {x2 : Nat} {x3 : Int32} {x4 : Nat} {y0 : Nat} {y1 : Nat} {v : Nat} {I9 : Mem} {K9 : Kt}, l_L_text_295 c179 I K x0 x1 x2 x3 x4 y0 y1 = some (v, I9, K9) → XG (mL_text (d + 9)) cL_text 0 0 K9 I K 295 [.ref x0, .int x1, .ref x2, .int x3, .ref x4] [.ref (xE (100 + y0)), .ref y1] (Ro (.inl (some (.ref v))) I9 K9) := by
  intro I K x0 x1 x2 x3 x4 y0 y1 v I9 K9 h
  unfold l_L_text_295 at h
  obtain ⟨u260, hq261, h⟩ := b1_s h
  obtain ⟨v262, I263, K264, hq265, h⟩ := b3_s h
  have hq := c_J4_append_15ec4 (d + 3) hq265
  refine XG.call hq.1 ?_ (fun z9 => z_Vcall [.ref (xE (100 + y0))] [] (cs_L_129 _) (ci := 0) rfl (cO_s hq261) (dep (show d + 3 + 5 + 1 ≤ (d + 9) from by omega) (Nat.le_of_ble_eq_true rfl)) dL_text_295 rfl rfl (Nat.le_of_ble_eq_true rfl) hq.2 z9)
  refine XG.l (fun z9 => x_ldcS 36 (show (RL, 159, ";limit ", 36) ∈ strT from by decide +kernel) dL_text_298 z9) ?_
  obtain ⟨u266, hq267, h⟩ := b1_s h
  obtain ⟨v268, I269, K270, hq271, h⟩ := b3_s h
  have hq := c_J4_append_15ec4 (d + 3) hq271
  refine XG.call hq.1 ?_ (fun z9 => z_Vcall [.ref (xE (100 + 36))] [] (cs_L_129 _) (ci := 0) rfl (cO_s hq267) (dep (show d + 3 + 5 + 1 ≤ (d + 9) from by omega) (Nat.le_of_ble_eq_true rfl)) dL_text_300 rfl rfl (Nat.le_of_ble_eq_true rfl) hq.2 z9)
  refine XG.l (fun z9 => x_iloadn dL_text_303 rfl z9) ?_
  obtain ⟨u272, hq273, h⟩ := b1_s h
  obtain ⟨v274, I275, K276, hq277, h⟩ := b3_s h
  have hq := c_J4_append_bf812 (d + 3) hq277
  refine XG.call hq.1 ?_ (fun z9 => z_Vcall [.int x3] [] (cs_L_124 _) (ci := 0) rfl (cO_s hq273) (dep (show d + 3 + 5 + 1 ≤ (d + 9) from by omega) (Nat.le_of_ble_eq_true rfl)) dL_text_304 rfl rfl (Nat.le_of_ble_eq_true rfl) hq.2 z9)
  refine XG.l (fun z9 => x_bipush 32 dL_text_307 (by decide) z9) ?_
  obtain ⟨u278, hq279, h⟩ := b1_s h
  obtain ⟨v280, I281, K282, hq283, h⟩ := b3_s h
  have hq := c_J4_append_cf468 (d + 3) hq283
  refine XG.call hq.1 ?_ (fun z9 => z_Vcall [.int 32] [] (cs_L_138 _) (ci := 0) rfl (cO_s hq279) (dep (show d + 3 + 5 + 1 ≤ (d + 9) from by omega) (Nat.le_of_ble_eq_true rfl)) dL_text_309 rfl rfl (Nat.le_of_ble_eq_true rfl) hq.2 z9)
  refine XG.l (fun z9 => x_aload dL_text_312 rfl z9) ?_
  obtain ⟨u284, hq285, h⟩ := b1_s h
  refine XG.l (fun z9 => x_getIN fn_L_80 (cO_s hq285).1 (cO_s hq285).2 dL_text_314 z9) ?_
  obtain ⟨u286, hq287, h⟩ := b1_s h
  obtain ⟨v288, I289, K290, hq291, h⟩ := b3_s h
  have hq := c_J4_append_bf812 (d + 3) hq291
  refine XG.call hq.1 ?_ (fun z9 => z_Vcall [.int (I281 x4 4)] [] (cs_L_124 _) (ci := 0) rfl (cO_s hq287) (dep (show d + 3 + 5 + 1 ≤ (d + 9) from by omega) (Nat.le_of_ble_eq_true rfl)) dL_text_317 rfl rfl (Nat.le_of_ble_eq_true rfl) hq.2 z9)
  refine XG.l (fun z9 => x_pop dL_text_320 rfl z9) ?_
  refine XG.l (fun z9 => z_iinc 1 (by decide) dL_text_321 rfl rfl rfl z9) ?_
  refine XG.l (fun z9 => x_goto 179 dL_text_324 rfl z9) ?_
  exact XG.forget (L' := [.ref x0, .int x1, .ref x2, .int (x3 + 1), .retAddr 0]) ⟨Or.inl rfl, ⟨Or.inl rfl, ⟨Or.inl rfl, ⟨Or.inl rfl, ⟨Or.inr rfl, trivial⟩⟩⟩⟩⟩ (hc179 h)
noncomputable def l_L_text_277 (c179 : Mem → Kt → Nat → Int32 → Nat → Int32 → Option (Nat × Mem × Kt)) (I : Mem) (K : Kt) (x0 : Nat) (x1 : Int32) (x2 : Nat) (x3 : Int32) (x4 : Nat) (y0 : Nat) (y1 : Nat) : Option (Nat × Mem × Kt) := b1 (cO K 0 y1) fun _ => b3 (f_J4_append_15ec4 I K y1 y0) fun v254 I255 K256 => b1 (cO K256 9 x4) fun _ => if (I255 x4 6) = 0 then (l_L_text_295 c179 I255 K256 x0 x1 x2 x3 x4 18 v254) else (l_L_text_295 c179 I255 K256 x0 x1 x2 x3 x4 35 v254)
theorem tl_L_text_277 (d : Nat) {c179 : Mem → Kt → Nat → Int32 → Nat → Int32 → Option (Nat × Mem × Kt)} (hc179 : ∀ {I : Mem} {K : Kt} {x0 : Nat} {x1 : Int32} {x2 : Nat} {x3 : Int32} {v : Nat} {I9 : Mem} {K9 : Kt}, c179 I K x0 x1 x2 x3 = some (v, I9, K9) → XG (mL_text (d + 9)) cL_text 0 0 K9 I K 179 [.ref x0, .int x1, .ref x2, .int x3, .retAddr 0] [] (Ro (.inl (some (.ref v))) I9 K9)) : ∀ {I : Mem} {K : Kt} {x0 : Nat} {x1 : Int32} {x2 : Nat} {x3 : Int32} {x4 : Nat} {y0 : Nat} {y1 : Nat} {v : Nat} {I9 : Mem} {K9 : Kt}, l_L_text_277 c179 I K x0 x1 x2 x3 x4 y0 y1 = some (v, I9, K9) → XG (mL_text (d + 9)) cL_text 0 0 K9 I K 277 [.ref x0, .int x1, .ref x2, .int x3, .ref x4] [.ref (xE (100 + y0)), .ref y1] (Ro (.inl (some (.ref v))) I9 K9) := by
  intro I K x0 x1 x2 x3 x4 y0 y1 v I9 K9 h
  unfold l_L_text_277 at h
  obtain ⟨u252, hq253, h⟩ := b1_s h
  obtain ⟨v254, I255, K256, hq257, h⟩ := b3_s h
  have hq := c_J4_append_15ec4 (d + 3) hq257
  refine XG.call hq.1 ?_ (fun z9 => z_Vcall [.ref (xE (100 + y0))] [] (cs_L_129 _) (ci := 0) rfl (cO_s hq253) (dep (show d + 3 + 5 + 1 ≤ (d + 9) from by omega) (Nat.le_of_ble_eq_true rfl)) dL_text_277 rfl rfl (Nat.le_of_ble_eq_true rfl) hq.2 z9)
  refine XG.l (fun z9 => x_aload dL_text_280 rfl z9) ?_
  obtain ⟨u258, hq259, h⟩ := b1_s h
  refine XG.l (fun z9 => x_getIN fn_L_77 (cO_s hq259).1 (cO_s hq259).2 dL_text_282 z9) ?_
  rcases Classical.em ((I255 x4 6) = 0) with hc | hc
  · have h := ifT hc h
    refine XG.l (fun z9 => x_if_eq 293 dL_text_285 rfl (fun _ => z9) (fun hn => absurd hc hn)) ?_
    refine XG.l (fun z9 => x_ldcS 18 (show (RL, 155, "", 18) ∈ strT from by decide +kernel) dL_text_293 z9) ?_
    exact (tl_L_text_295 d hc179 h)
  have h := ifF hc h
  refine XG.l (fun z9 => x_if_eq 293 dL_text_285 rfl (fun hn => absurd hn hc) (fun _ => z9)) ?_
  refine XG.l (fun z9 => x_ldcS 35 (show (RL, 157, " bargain", 35) ∈ strT from by decide +kernel) dL_text_288 z9) ?_
  refine XG.l (fun z9 => x_goto 295 dL_text_290 rfl z9) ?_
  exact (tl_L_text_295 d hc179 h)
noncomputable def l_L_text_220 (c179 : Mem → Kt → Nat → Int32 → Nat → Int32 → Option (Nat × Mem × Kt)) (I : Mem) (K : Kt) (x0 : Nat) (x1 : Int32) (x2 : Nat) (x3 : Int32) (x4 : Nat) (y0 : Nat) (y1 : Nat) : Option (Nat × Mem × Kt) := b1 (cO K 0 y1) fun _ => b3 (f_J4_append_15ec4 I K y1 y0) fun v204 I205 K206 => b1 (cO K206 0 v204) fun _ => b3 (f_J4_append_cf468 I205 K206 v204 32) fun v210 I211 K212 => b1 (cO K212 9 x4) fun _ => b1 (cO K212 0 v210) fun _ => b3 (f_J4_append_bf812 I211 K212 v210 (I211 x4 0)) fun v218 I219 K220 => b1 (cO K220 0 v218) fun _ => b3 (f_J4_append_cf468 I219 K220 v218 32) fun v224 I225 K226 => b1 (cO K226 9 x4) fun _ => b1 (cO K226 0 v224) fun _ => b3 (f_J4_append_bf812 I225 K226 v224 (I225 x4 1)) fun v232 I233 K234 => b1 (cO K234 0 v232) fun _ => b3 (f_J4_append_cf468 I233 K234 v232 32) fun v238 I239 K240 => b1 (cO K240 9 x4) fun _ => b1 (cO K240 0 v238) fun _ => b3 (f_J4_append_bf812 I239 K240 v238 (I239 x4 2)) fun v246 I247 K248 => b1 (cO K248 9 x4) fun _ => if (I247 x4 5) = 0 then (l_L_text_277 c179 I247 K248 x0 x1 x2 x3 x4 18 v246) else (l_L_text_277 c179 I247 K248 x0 x1 x2 x3 x4 34 v246)
theorem tl_L_text_220 (d : Nat) {c179 : Mem → Kt → Nat → Int32 → Nat → Int32 → Option (Nat × Mem × Kt)} (hc179 : ∀ {I : Mem} {K : Kt} {x0 : Nat} {x1 : Int32} {x2 : Nat} {x3 : Int32} {v : Nat} {I9 : Mem} {K9 : Kt}, c179 I K x0 x1 x2 x3 = some (v, I9, K9) → XG (mL_text (d + 9)) cL_text 0 0 K9 I K 179 [.ref x0, .int x1, .ref x2, .int x3, .retAddr 0] [] (Ro (.inl (some (.ref v))) I9 K9)) : ∀ {I : Mem} {K : Kt} {x0 : Nat} {x1 : Int32} {x2 : Nat} {x3 : Int32} {x4 : Nat} {y0 : Nat} {y1 : Nat} {v : Nat} {I9 : Mem} {K9 : Kt}, l_L_text_220 c179 I K x0 x1 x2 x3 x4 y0 y1 = some (v, I9, K9) → XG (mL_text (d + 9)) cL_text 0 0 K9 I K 220 [.ref x0, .int x1, .ref x2, .int x3, .ref x4] [.ref (xE (100 + y0)), .ref y1] (Ro (.inl (some (.ref v))) I9 K9) := by
  intro I K x0 x1 x2 x3 x4 y0 y1 v I9 K9 h
  unfold l_L_text_220 at h
  obtain ⟨u202, hq203, h⟩ := b1_s h
  obtain ⟨v204, I205, K206, hq207, h⟩ := b3_s h
  have hq := c_J4_append_15ec4 (d + 3) hq207
  refine XG.call hq.1 ?_ (fun z9 => z_Vcall [.ref (xE (100 + y0))] [] (cs_L_129 _) (ci := 0) rfl (cO_s hq203) (dep (show d + 3 + 5 + 1 ≤ (d + 9) from by omega) (Nat.le_of_ble_eq_true rfl)) dL_text_220 rfl rfl (Nat.le_of_ble_eq_true rfl) hq.2 z9)
  refine XG.l (fun z9 => x_bipush 32 dL_text_223 (by decide) z9) ?_
  obtain ⟨u208, hq209, h⟩ := b1_s h
  obtain ⟨v210, I211, K212, hq213, h⟩ := b3_s h
  have hq := c_J4_append_cf468 (d + 3) hq213
  refine XG.call hq.1 ?_ (fun z9 => z_Vcall [.int 32] [] (cs_L_138 _) (ci := 0) rfl (cO_s hq209) (dep (show d + 3 + 5 + 1 ≤ (d + 9) from by omega) (Nat.le_of_ble_eq_true rfl)) dL_text_225 rfl rfl (Nat.le_of_ble_eq_true rfl) hq.2 z9)
  refine XG.l (fun z9 => x_aload dL_text_228 rfl z9) ?_
  obtain ⟨u214, hq215, h⟩ := b1_s h
  refine XG.l (fun z9 => x_getIN fn_L_64 (cO_s hq215).1 (cO_s hq215).2 dL_text_230 z9) ?_
  obtain ⟨u216, hq217, h⟩ := b1_s h
  obtain ⟨v218, I219, K220, hq221, h⟩ := b3_s h
  have hq := c_J4_append_bf812 (d + 3) hq221
  refine XG.call hq.1 ?_ (fun z9 => z_Vcall [.int (I211 x4 0)] [] (cs_L_124 _) (ci := 0) rfl (cO_s hq217) (dep (show d + 3 + 5 + 1 ≤ (d + 9) from by omega) (Nat.le_of_ble_eq_true rfl)) dL_text_233 rfl rfl (Nat.le_of_ble_eq_true rfl) hq.2 z9)
  refine XG.l (fun z9 => x_bipush 32 dL_text_236 (by decide) z9) ?_
  obtain ⟨u222, hq223, h⟩ := b1_s h
  obtain ⟨v224, I225, K226, hq227, h⟩ := b3_s h
  have hq := c_J4_append_cf468 (d + 3) hq227
  refine XG.call hq.1 ?_ (fun z9 => z_Vcall [.int 32] [] (cs_L_138 _) (ci := 0) rfl (cO_s hq223) (dep (show d + 3 + 5 + 1 ≤ (d + 9) from by omega) (Nat.le_of_ble_eq_true rfl)) dL_text_238 rfl rfl (Nat.le_of_ble_eq_true rfl) hq.2 z9)
  refine XG.l (fun z9 => x_aload dL_text_241 rfl z9) ?_
  obtain ⟨u228, hq229, h⟩ := b1_s h
  refine XG.l (fun z9 => x_getIN fn_L_67 (cO_s hq229).1 (cO_s hq229).2 dL_text_243 z9) ?_
  obtain ⟨u230, hq231, h⟩ := b1_s h
  obtain ⟨v232, I233, K234, hq235, h⟩ := b3_s h
  have hq := c_J4_append_bf812 (d + 3) hq235
  refine XG.call hq.1 ?_ (fun z9 => z_Vcall [.int (I225 x4 1)] [] (cs_L_124 _) (ci := 0) rfl (cO_s hq231) (dep (show d + 3 + 5 + 1 ≤ (d + 9) from by omega) (Nat.le_of_ble_eq_true rfl)) dL_text_246 rfl rfl (Nat.le_of_ble_eq_true rfl) hq.2 z9)
  refine XG.l (fun z9 => x_bipush 32 dL_text_249 (by decide) z9) ?_
  obtain ⟨u236, hq237, h⟩ := b1_s h
  obtain ⟨v238, I239, K240, hq241, h⟩ := b3_s h
  have hq := c_J4_append_cf468 (d + 3) hq241
  refine XG.call hq.1 ?_ (fun z9 => z_Vcall [.int 32] [] (cs_L_138 _) (ci := 0) rfl (cO_s hq237) (dep (show d + 3 + 5 + 1 ≤ (d + 9) from by omega) (Nat.le_of_ble_eq_true rfl)) dL_text_251 rfl rfl (Nat.le_of_ble_eq_true rfl) hq.2 z9)
  refine XG.l (fun z9 => x_aload dL_text_254 rfl z9) ?_
  obtain ⟨u242, hq243, h⟩ := b1_s h
  refine XG.l (fun z9 => x_getIN fn_L_70 (cO_s hq243).1 (cO_s hq243).2 dL_text_256 z9) ?_
  obtain ⟨u244, hq245, h⟩ := b1_s h
  obtain ⟨v246, I247, K248, hq249, h⟩ := b3_s h
  have hq := c_J4_append_bf812 (d + 3) hq249
  refine XG.call hq.1 ?_ (fun z9 => z_Vcall [.int (I239 x4 2)] [] (cs_L_124 _) (ci := 0) rfl (cO_s hq245) (dep (show d + 3 + 5 + 1 ≤ (d + 9) from by omega) (Nat.le_of_ble_eq_true rfl)) dL_text_259 rfl rfl (Nat.le_of_ble_eq_true rfl) hq.2 z9)
  refine XG.l (fun z9 => x_aload dL_text_262 rfl z9) ?_
  obtain ⟨u250, hq251, h⟩ := b1_s h
  refine XG.l (fun z9 => x_getIN fn_L_73 (cO_s hq251).1 (cO_s hq251).2 dL_text_264 z9) ?_
  rcases Classical.em ((I247 x4 5) = 0) with hc | hc
  · have h := ifT hc h
    refine XG.l (fun z9 => x_if_eq 275 dL_text_267 rfl (fun _ => z9) (fun hn => absurd hc hn)) ?_
    refine XG.l (fun z9 => x_ldcS 18 (show (RL, 155, "", 18) ∈ strT from by decide +kernel) dL_text_275 z9) ?_
    exact (tl_L_text_277 d hc179 h)
  have h := ifF hc h
  refine XG.l (fun z9 => x_if_eq 275 dL_text_267 rfl (fun hn => absurd hn hc) (fun _ => z9)) ?_
  refine XG.l (fun z9 => x_ldcS 34 (show (RL, 153, " party", 34) ∈ strT from by decide +kernel) dL_text_270 z9) ?_
  refine XG.l (fun z9 => x_goto 277 dL_text_272 rfl z9) ?_
  exact (tl_L_text_277 d hc179 h)
noncomputable def l_L_text_179 (m9 : Nat) (I : Mem) (K : Kt) (x0 : Nat) (x1 : Int32) (x2 : Nat) (x3 : Int32) : Option (Nat × Mem × Kt) := match m9 with
  | 0 => none
  | m9 + 1 => b1 (cO K 8 x0) fun _ => b1 (gR K x0 7) fun r59 => b1 (cO K 11 r59) fun _ => b1 (f_Jx4a65c_size_8abf5 I K r59) fun v63 => if v63 ≤ x3 then (l_L_text_329 FU I K x0 x1 x2 0) else (b1 (cO K 8 x0) fun _ => b1 (gR K x0 7) fun r188 => b1 (cO K 11 r188) fun _ => b1 (f_Jx4a65c_get_915e3 I K r188 x3) fun v192 => b1 (cO K 9 v192) fun _ => b1 (cO K 0 x2) fun _ => b3 (f_J4_append_15ec4 I K x2 31) fun v198 I199 K200 => if x3 = 0 then (l_L_text_220 (l_L_text_179 m9) I199 K200 x0 x1 x2 x3 v192 32 v198) else (l_L_text_220 (l_L_text_179 m9) I199 K200 x0 x1 x2 x3 v192 33 v198))
theorem tl_L_text_179 (d : Nat) (m9 : Nat) : ∀ {I : Mem} {K : Kt} {x0 : Nat} {x1 : Int32} {x2 : Nat} {x3 : Int32} {v : Nat} {I9 : Mem} {K9 : Kt}, l_L_text_179 m9 I K x0 x1 x2 x3 = some (v, I9, K9) → XG (mL_text (d + 9)) cL_text 0 0 K9 I K 179 [.ref x0, .int x1, .ref x2, .int x3, .retAddr 0] [] (Ro (.inl (some (.ref v))) I9 K9) := by
  induction m9 with
  | zero =>
    intro I K x0 x1 x2 x3 v I9 K9 h
    cases h
  | succ m9 ih =>
    intro I K x0 x1 x2 x3 v I9 K9 h
    unfold l_L_text_179 at h
    refine XG.l (fun z9 => x_iloadn dL_text_179 rfl z9) ?_
    refine XG.l (fun z9 => x_aloadn dL_text_180 rfl z9) ?_
    obtain ⟨u57, hq58, h⟩ := b1_s h
    obtain ⟨r59, hq60, h⟩ := b1_s h
    refine XG.l (fun z9 => x_getRN fn_L_83 (cO_s hq58).1 (cO_s hq58).2 hq60 dL_text_181 z9) ?_
    obtain ⟨u61, hq62, h⟩ := b1_s h
    obtain ⟨v63, hq64, h⟩ := b1_s h
    have hq := c_Jx4a65c_size_8abf5 (d + 8) hq64
    refine XG.l (fun z9 => X.c0 (z_Vcall [] [.int x3] (cs_L_141 _) (ci := 11) rfl (cO_s hq62) (dep (show d + 8 + 0 + 1 ≤ (d + 9) from by omega) (Nat.le_of_ble_eq_true rfl)) dL_text_184 rfl rfl (Nat.le_of_ble_eq_true rfl) hq z9)) ?_
    rcases Classical.em (v63 ≤ x3) with hc | hc
    · have h := ifT hc h
      refine XG.l (fun z9 => x_icmp_ge 327 dL_text_187 rfl (fun _ => z9) (fun hn => absurd hc hn)) ?_
      refine XG.l (fun z9 => x_iconst 0 dL_text_327 rfl z9) ?_
      refine XG.l (fun z9 => x_istoren dL_text_328 (Nat.le_of_ble_eq_true rfl) rfl rfl z9) ?_
      exact (tl_L_text_329 d FU h)
    have h := ifF hc h
    refine XG.l (fun z9 => x_icmp_ge 327 dL_text_187 rfl (fun hn => absurd hn hc) (fun _ => z9)) ?_
    refine XG.l (fun z9 => x_aloadn dL_text_190 rfl z9) ?_
    obtain ⟨u186, hq187, h⟩ := b1_s h
    obtain ⟨r188, hq189, h⟩ := b1_s h
    refine XG.l (fun z9 => x_getRN fn_L_83 (cO_s hq187).1 (cO_s hq187).2 hq189 dL_text_191 z9) ?_
    refine XG.l (fun z9 => x_iloadn dL_text_194 rfl z9) ?_
    obtain ⟨u190, hq191, h⟩ := b1_s h
    obtain ⟨v192, hq193, h⟩ := b1_s h
    have hq := c_Jx4a65c_get_915e3 (d + 6) hq193
    refine XG.l (fun z9 => X.c0 (z_Vcall [.int x3] [] (cs_L_102 _) (ci := 11) rfl (cO_s hq191) (dep (show d + 6 + 2 + 1 ≤ (d + 9) from by omega) (Nat.le_of_ble_eq_true rfl)) dL_text_195 rfl rfl (Nat.le_of_ble_eq_true rfl) hq z9)) ?_
    obtain ⟨u194, hq195, h⟩ := b1_s h
    refine XG.l (fun z9 => x_castC (ci := 9) rfl (show Cond.classLink RL 61 "WishMarketLaw$Person" ∈ wsG from inT6 91 rfl rfl) (cO_s hq195) dL_text_198 z9) ?_
    refine XG.l (fun z9 => x_astore dL_text_201 (Nat.le_of_ble_eq_true rfl) rfl rfl z9) ?_
    refine XG.l (fun z9 => x_aloadn dL_text_203 rfl z9) ?_
    refine XG.l (fun z9 => x_ldcS 31 (show (RL, 147, ";person ", 31) ∈ strT from by decide +kernel) dL_text_204 z9) ?_
    obtain ⟨u196, hq197, h⟩ := b1_s h
    obtain ⟨v198, I199, K200, hq201, h⟩ := b3_s h
    have hq := c_J4_append_15ec4 (d + 3) hq201
    refine XG.call hq.1 ?_ (fun z9 => z_Vcall [.ref (xE (100 + 31))] [] (cs_L_129 _) (ci := 0) rfl (cO_s hq197) (dep (show d + 3 + 5 + 1 ≤ (d + 9) from by omega) (Nat.le_of_ble_eq_true rfl)) dL_text_206 rfl rfl (Nat.le_of_ble_eq_true rfl) hq.2 z9)
    refine XG.l (fun z9 => x_iloadn dL_text_209 rfl z9) ?_
    rcases Classical.em (x3 = 0) with hc | hc
    · have h := ifT hc h
      refine XG.l (fun z9 => x_if_ne 218 dL_text_210 rfl (fun hn => absurd hc hn) (fun _ => z9)) ?_
      refine XG.l (fun z9 => x_ldcS 32 (show (RL, 149, "ann", 32) ∈ strT from by decide +kernel) dL_text_213 z9) ?_
      refine XG.l (fun z9 => x_goto 220 dL_text_215 rfl z9) ?_
      exact (tl_L_text_220 d ih h)
    have h := ifF hc h
    refine XG.l (fun z9 => x_if_ne 218 dL_text_210 rfl (fun _ => z9) (fun hn => absurd hn hc)) ?_
    refine XG.l (fun z9 => x_ldcS 33 (show (RL, 151, "bob", 33) ∈ strT from by decide +kernel) dL_text_218 z9) ?_
    exact (tl_L_text_220 d ih h)
noncomputable def l_L_text_97 (m9 : Nat) (I : Mem) (K : Kt) (x0 : Nat) (x1 : Int32) (x2 : Nat) (x3 : Int32) : Option (Nat × Mem × Kt) := match m9 with
  | 0 => none
  | m9 + 1 => b1 (cO K 8 x0) fun _ => b1 (gR K x0 8) fun r51 => b1 (cO K 11 r51) fun _ => b1 (f_Jx4a65c_size_8abf5 I K r51) fun v55 => if v55 ≤ x3 then (l_L_text_179 FU I K x0 x1 x2 0) else (b1 (cO K 8 x0) fun _ => b1 (gR K x0 8) fun r294 => b1 (cO K 11 r294) fun _ => b1 (f_Jx4a65c_get_915e3 I K r294 x3) fun v298 => b1 (cA K 100 v298) fun _ => b1 (cO K 0 x2) fun _ => b3 (f_J4_append_15ec4 I K x2 30) fun v304 I305 K306 => b1 (cA K306 100 v298) fun m309 => b1 (ix 0 m309) fun j308 => b1 (cO K306 0 v304) fun _ => b3 (f_J4_append_bf812 I305 K306 v304 (I305 v298 j308)) fun v314 I315 K316 => b1 (cO K316 0 v314) fun _ => b3 (f_J4_append_cf468 I315 K316 v314 32) fun v320 I321 K322 => b1 (cA K322 100 v298) fun m325 => b1 (ix 1 m325) fun j324 => b1 (cO K322 0 v320) fun _ => b3 (f_J4_append_bf812 I321 K322 v320 (I321 v298 j324)) fun v330 I331 K332 => b1 (cO K332 0 v330) fun _ => b3 (f_J4_append_cf468 I331 K332 v330 32) fun v336 I337 K338 => b1 (cA K338 100 v298) fun m341 => b1 (ix 2 m341) fun j340 => b1 (cO K338 0 v336) fun _ => b3 (f_J4_append_bf812 I337 K338 v336 (I337 v298 j340)) fun v346 I347 K348 => b1 (cO K348 0 v346) fun _ => b3 (f_J4_append_cf468 I347 K348 v346 32) fun v352 I353 K354 => b1 (cA K354 100 v298) fun m357 => b1 (ix 3 m357) fun j356 => b1 (cO K354 0 v352) fun _ => b3 (f_J4_append_bf812 I353 K354 v352 (I353 v298 j356)) fun v362 I363 K364 => l_L_text_97 m9 I363 K364 x0 x1 x2 (x3 + 1))
theorem tl_L_text_97 (d : Nat) (m9 : Nat) : ∀ {I : Mem} {K : Kt} {x0 : Nat} {x1 : Int32} {x2 : Nat} {x3 : Int32} {v : Nat} {I9 : Mem} {K9 : Kt}, l_L_text_97 m9 I K x0 x1 x2 x3 = some (v, I9, K9) → XG (mL_text (d + 9)) cL_text 0 0 K9 I K 97 [.ref x0, .int x1, .ref x2, .int x3, .retAddr 0] [] (Ro (.inl (some (.ref v))) I9 K9) := by
  induction m9 with
  | zero =>
    intro I K x0 x1 x2 x3 v I9 K9 h
    cases h
  | succ m9 ih =>
    intro I K x0 x1 x2 x3 v I9 K9 h
    unfold l_L_text_97 at h
    refine XG.l (fun z9 => x_iloadn dL_text_97 rfl z9) ?_
    refine XG.l (fun z9 => x_aloadn dL_text_98 rfl z9) ?_
    obtain ⟨u49, hq50, h⟩ := b1_s h
    obtain ⟨r51, hq52, h⟩ := b1_s h
    refine XG.l (fun z9 => x_getRN fn_L_51 (cO_s hq50).1 (cO_s hq50).2 hq52 dL_text_99 z9) ?_
    obtain ⟨u53, hq54, h⟩ := b1_s h
    obtain ⟨v55, hq56, h⟩ := b1_s h
    have hq := c_Jx4a65c_size_8abf5 (d + 8) hq56
    refine XG.l (fun z9 => X.c0 (z_Vcall [] [.int x3] (cs_L_141 _) (ci := 11) rfl (cO_s hq54) (dep (show d + 8 + 0 + 1 ≤ (d + 9) from by omega) (Nat.le_of_ble_eq_true rfl)) dL_text_102 rfl rfl (Nat.le_of_ble_eq_true rfl) hq z9)) ?_
    rcases Classical.em (v55 ≤ x3) with hc | hc
    · have h := ifT hc h
      refine XG.l (fun z9 => x_icmp_ge 177 dL_text_105 rfl (fun _ => z9) (fun hn => absurd hc hn)) ?_
      refine XG.l (fun z9 => x_iconst 0 dL_text_177 rfl z9) ?_
      refine XG.l (fun z9 => x_istoren dL_text_178 (Nat.le_of_ble_eq_true rfl) rfl rfl z9) ?_
      exact (tl_L_text_179 d FU h)
    have h := ifF hc h
    refine XG.l (fun z9 => x_icmp_ge 177 dL_text_105 rfl (fun hn => absurd hn hc) (fun _ => z9)) ?_
    refine XG.l (fun z9 => x_aloadn dL_text_108 rfl z9) ?_
    obtain ⟨u292, hq293, h⟩ := b1_s h
    obtain ⟨r294, hq295, h⟩ := b1_s h
    refine XG.l (fun z9 => x_getRN fn_L_51 (cO_s hq293).1 (cO_s hq293).2 hq295 dL_text_109 z9) ?_
    refine XG.l (fun z9 => x_iloadn dL_text_112 rfl z9) ?_
    obtain ⟨u296, hq297, h⟩ := b1_s h
    obtain ⟨v298, hq299, h⟩ := b1_s h
    have hq := c_Jx4a65c_get_915e3 (d + 6) hq299
    refine XG.l (fun z9 => X.c0 (z_Vcall [.int x3] [] (cs_L_102 _) (ci := 11) rfl (cO_s hq297) (dep (show d + 6 + 2 + 1 ≤ (d + 9) from by omega) (Nat.le_of_ble_eq_true rfl)) dL_text_113 rfl rfl (Nat.le_of_ble_eq_true rfl) hq z9)) ?_
    obtain ⟨u300, hq301, h⟩ := b1_s h
    refine XG.l (fun z9 => x_castI (show Cond.classLink RL 106 "[I" ∈ wsG from inT6 195 rfl rfl) (cA_s hq301) dL_text_116 z9) ?_
    refine XG.l (fun z9 => x_astore dL_text_119 (Nat.le_of_ble_eq_true rfl) rfl rfl z9) ?_
    refine XG.l (fun z9 => x_aloadn dL_text_121 rfl z9) ?_
    refine XG.l (fun z9 => x_ldcS 30 (show (RL, 145, ";stall ", 30) ∈ strT from by decide +kernel) dL_text_122 z9) ?_
    obtain ⟨u302, hq303, h⟩ := b1_s h
    obtain ⟨v304, I305, K306, hq307, h⟩ := b3_s h
    have hq := c_J4_append_15ec4 (d + 3) hq307
    refine XG.call hq.1 ?_ (fun z9 => z_Vcall [.ref (xE (100 + 30))] [] (cs_L_129 _) (ci := 0) rfl (cO_s hq303) (dep (show d + 3 + 5 + 1 ≤ (d + 9) from by omega) (Nat.le_of_ble_eq_true rfl)) dL_text_124 rfl rfl (Nat.le_of_ble_eq_true rfl) hq.2 z9)
    refine XG.l (fun z9 => x_aload dL_text_127 rfl z9) ?_
    refine XG.l (fun z9 => x_iconst 0 dL_text_129 rfl z9) ?_
    obtain ⟨m309, hq310, h⟩ := b1_s h
    obtain ⟨j308, hq311, h⟩ := b1_s h
    refine XG.l (fun z9 => z_iald (cA_s hq310) hq311 dL_text_130 z9) ?_
    obtain ⟨u312, hq313, h⟩ := b1_s h
    obtain ⟨v314, I315, K316, hq317, h⟩ := b3_s h
    have hq := c_J4_append_bf812 (d + 3) hq317
    refine XG.call hq.1 ?_ (fun z9 => z_Vcall [.int (I305 v298 j308)] [] (cs_L_124 _) (ci := 0) rfl (cO_s hq313) (dep (show d + 3 + 5 + 1 ≤ (d + 9) from by omega) (Nat.le_of_ble_eq_true rfl)) dL_text_131 rfl rfl (Nat.le_of_ble_eq_true rfl) hq.2 z9)
    refine XG.l (fun z9 => x_bipush 32 dL_text_134 (by decide) z9) ?_
    obtain ⟨u318, hq319, h⟩ := b1_s h
    obtain ⟨v320, I321, K322, hq323, h⟩ := b3_s h
    have hq := c_J4_append_cf468 (d + 3) hq323
    refine XG.call hq.1 ?_ (fun z9 => z_Vcall [.int 32] [] (cs_L_138 _) (ci := 0) rfl (cO_s hq319) (dep (show d + 3 + 5 + 1 ≤ (d + 9) from by omega) (Nat.le_of_ble_eq_true rfl)) dL_text_136 rfl rfl (Nat.le_of_ble_eq_true rfl) hq.2 z9)
    refine XG.l (fun z9 => x_aload dL_text_139 rfl z9) ?_
    refine XG.l (fun z9 => x_iconst 1 dL_text_141 rfl z9) ?_
    obtain ⟨m325, hq326, h⟩ := b1_s h
    obtain ⟨j324, hq327, h⟩ := b1_s h
    refine XG.l (fun z9 => z_iald (cA_s hq326) hq327 dL_text_142 z9) ?_
    obtain ⟨u328, hq329, h⟩ := b1_s h
    obtain ⟨v330, I331, K332, hq333, h⟩ := b3_s h
    have hq := c_J4_append_bf812 (d + 3) hq333
    refine XG.call hq.1 ?_ (fun z9 => z_Vcall [.int (I321 v298 j324)] [] (cs_L_124 _) (ci := 0) rfl (cO_s hq329) (dep (show d + 3 + 5 + 1 ≤ (d + 9) from by omega) (Nat.le_of_ble_eq_true rfl)) dL_text_143 rfl rfl (Nat.le_of_ble_eq_true rfl) hq.2 z9)
    refine XG.l (fun z9 => x_bipush 32 dL_text_146 (by decide) z9) ?_
    obtain ⟨u334, hq335, h⟩ := b1_s h
    obtain ⟨v336, I337, K338, hq339, h⟩ := b3_s h
    have hq := c_J4_append_cf468 (d + 3) hq339
    refine XG.call hq.1 ?_ (fun z9 => z_Vcall [.int 32] [] (cs_L_138 _) (ci := 0) rfl (cO_s hq335) (dep (show d + 3 + 5 + 1 ≤ (d + 9) from by omega) (Nat.le_of_ble_eq_true rfl)) dL_text_148 rfl rfl (Nat.le_of_ble_eq_true rfl) hq.2 z9)
    refine XG.l (fun z9 => x_aload dL_text_151 rfl z9) ?_
    refine XG.l (fun z9 => x_iconst 2 dL_text_153 rfl z9) ?_
    obtain ⟨m341, hq342, h⟩ := b1_s h
    obtain ⟨j340, hq343, h⟩ := b1_s h
    refine XG.l (fun z9 => z_iald (cA_s hq342) hq343 dL_text_154 z9) ?_
    obtain ⟨u344, hq345, h⟩ := b1_s h
    obtain ⟨v346, I347, K348, hq349, h⟩ := b3_s h
    have hq := c_J4_append_bf812 (d + 3) hq349
    refine XG.call hq.1 ?_ (fun z9 => z_Vcall [.int (I337 v298 j340)] [] (cs_L_124 _) (ci := 0) rfl (cO_s hq345) (dep (show d + 3 + 5 + 1 ≤ (d + 9) from by omega) (Nat.le_of_ble_eq_true rfl)) dL_text_155 rfl rfl (Nat.le_of_ble_eq_true rfl) hq.2 z9)
    refine XG.l (fun z9 => x_bipush 32 dL_text_158 (by decide) z9) ?_
    obtain ⟨u350, hq351, h⟩ := b1_s h
    obtain ⟨v352, I353, K354, hq355, h⟩ := b3_s h
    have hq := c_J4_append_cf468 (d + 3) hq355
    refine XG.call hq.1 ?_ (fun z9 => z_Vcall [.int 32] [] (cs_L_138 _) (ci := 0) rfl (cO_s hq351) (dep (show d + 3 + 5 + 1 ≤ (d + 9) from by omega) (Nat.le_of_ble_eq_true rfl)) dL_text_160 rfl rfl (Nat.le_of_ble_eq_true rfl) hq.2 z9)
    refine XG.l (fun z9 => x_aload dL_text_163 rfl z9) ?_
    refine XG.l (fun z9 => x_iconst 3 dL_text_165 rfl z9) ?_
    obtain ⟨m357, hq358, h⟩ := b1_s h
    obtain ⟨j356, hq359, h⟩ := b1_s h
    refine XG.l (fun z9 => z_iald (cA_s hq358) hq359 dL_text_166 z9) ?_
    obtain ⟨u360, hq361, h⟩ := b1_s h
    obtain ⟨v362, I363, K364, hq365, h⟩ := b3_s h
    have hq := c_J4_append_bf812 (d + 3) hq365
    refine XG.call hq.1 ?_ (fun z9 => z_Vcall [.int (I353 v298 j356)] [] (cs_L_124 _) (ci := 0) rfl (cO_s hq361) (dep (show d + 3 + 5 + 1 ≤ (d + 9) from by omega) (Nat.le_of_ble_eq_true rfl)) dL_text_167 rfl rfl (Nat.le_of_ble_eq_true rfl) hq.2 z9)
    refine XG.l (fun z9 => x_pop dL_text_170 rfl z9) ?_
    refine XG.l (fun z9 => z_iinc 1 (by decide) dL_text_171 rfl rfl rfl z9) ?_
    refine XG.l (fun z9 => x_goto 97 dL_text_174 rfl z9) ?_
    exact XG.forget (L' := [.ref x0, .int x1, .ref x2, .int (x3 + 1), .retAddr 0]) ⟨Or.inl rfl, ⟨Or.inl rfl, ⟨Or.inl rfl, ⟨Or.inl rfl, ⟨Or.inr rfl, trivial⟩⟩⟩⟩⟩ (ih h)
noncomputable def l_L_text_62 (I : Mem) (K : Kt) (x0 : Nat) (x1 : Int32) (x2 : Nat) : Option (Nat × Mem × Kt) := b1 (cO K 8 x0) fun _ => if (I x0 5) < 0 then (l_L_text_97 FU I K x0 x1 x2 0) else (b1 (cO K 0 x2) fun _ => b3 (f_J4_append_15ec4 I K x2 29) fun v368 I369 K370 => b1 (cO K370 8 x0) fun _ => b1 (cO K370 0 v368) fun _ => b3 (f_J4_append_bf812 I369 K370 v368 (I369 x0 5)) fun v376 I377 K378 => b1 (cO K378 0 v376) fun _ => b3 (f_J4_append_cf468 I377 K378 v376 32) fun v382 I383 K384 => b1 (cO K384 8 x0) fun _ => b1 (cO K384 0 v382) fun _ => b3 (f_J4_append_bf812 I383 K384 v382 (I383 x0 6)) fun v390 I391 K392 => l_L_text_97 FU I391 K392 x0 x1 x2 0)
theorem tl_L_text_62 (d : Nat) : ∀ {I : Mem} {K : Kt} {x0 : Nat} {x1 : Int32} {x2 : Nat} {v : Nat} {I9 : Mem} {K9 : Kt}, l_L_text_62 I K x0 x1 x2 = some (v, I9, K9) → XG (mL_text (d + 9)) cL_text 0 0 K9 I K 62 [.ref x0, .int x1, .ref x2, .retAddr 0, .retAddr 0] [] (Ro (.inl (some (.ref v))) I9 K9) := by
  intro I K x0 x1 x2 v I9 K9 h
  unfold l_L_text_62 at h
  refine XG.l (fun z9 => x_aloadn dL_text_62 rfl z9) ?_
  obtain ⟨u47, hq48, h⟩ := b1_s h
  refine XG.l (fun z9 => x_getIN fn_L_45 (cO_s hq48).1 (cO_s hq48).2 dL_text_63 z9) ?_
  rcases Classical.em ((I x0 5) < 0) with hc | hc
  · have h := ifT hc h
    refine XG.l (fun z9 => x_if_lt 95 dL_text_66 rfl (fun _ => z9) (fun hn => absurd hc hn)) ?_
    refine XG.l (fun z9 => x_iconst 0 dL_text_95 rfl z9) ?_
    refine XG.l (fun z9 => x_istoren dL_text_96 (Nat.le_of_ble_eq_true rfl) rfl rfl z9) ?_
    exact (tl_L_text_97 d FU h)
  have h := ifF hc h
  refine XG.l (fun z9 => x_if_lt 95 dL_text_66 rfl (fun hn => absurd hn hc) (fun _ => z9)) ?_
  refine XG.l (fun z9 => x_aloadn dL_text_69 rfl z9) ?_
  refine XG.l (fun z9 => x_ldcS 29 (show (RL, 136, ";tax ", 29) ∈ strT from by decide +kernel) dL_text_70 z9) ?_
  obtain ⟨u366, hq367, h⟩ := b1_s h
  obtain ⟨v368, I369, K370, hq371, h⟩ := b3_s h
  have hq := c_J4_append_15ec4 (d + 3) hq371
  refine XG.call hq.1 ?_ (fun z9 => z_Vcall [.ref (xE (100 + 29))] [] (cs_L_129 _) (ci := 0) rfl (cO_s hq367) (dep (show d + 3 + 5 + 1 ≤ (d + 9) from by omega) (Nat.le_of_ble_eq_true rfl)) dL_text_72 rfl rfl (Nat.le_of_ble_eq_true rfl) hq.2 z9)
  refine XG.l (fun z9 => x_aloadn dL_text_75 rfl z9) ?_
  obtain ⟨u372, hq373, h⟩ := b1_s h
  refine XG.l (fun z9 => x_getIN fn_L_45 (cO_s hq373).1 (cO_s hq373).2 dL_text_76 z9) ?_
  obtain ⟨u374, hq375, h⟩ := b1_s h
  obtain ⟨v376, I377, K378, hq379, h⟩ := b3_s h
  have hq := c_J4_append_bf812 (d + 3) hq379
  refine XG.call hq.1 ?_ (fun z9 => z_Vcall [.int (I369 x0 5)] [] (cs_L_124 _) (ci := 0) rfl (cO_s hq375) (dep (show d + 3 + 5 + 1 ≤ (d + 9) from by omega) (Nat.le_of_ble_eq_true rfl)) dL_text_79 rfl rfl (Nat.le_of_ble_eq_true rfl) hq.2 z9)
  refine XG.l (fun z9 => x_bipush 32 dL_text_82 (by decide) z9) ?_
  obtain ⟨u380, hq381, h⟩ := b1_s h
  obtain ⟨v382, I383, K384, hq385, h⟩ := b3_s h
  have hq := c_J4_append_cf468 (d + 3) hq385
  refine XG.call hq.1 ?_ (fun z9 => z_Vcall [.int 32] [] (cs_L_138 _) (ci := 0) rfl (cO_s hq381) (dep (show d + 3 + 5 + 1 ≤ (d + 9) from by omega) (Nat.le_of_ble_eq_true rfl)) dL_text_84 rfl rfl (Nat.le_of_ble_eq_true rfl) hq.2 z9)
  refine XG.l (fun z9 => x_aloadn dL_text_87 rfl z9) ?_
  obtain ⟨u386, hq387, h⟩ := b1_s h
  refine XG.l (fun z9 => x_getIN fn_L_48 (cO_s hq387).1 (cO_s hq387).2 dL_text_88 z9) ?_
  obtain ⟨u388, hq389, h⟩ := b1_s h
  obtain ⟨v390, I391, K392, hq393, h⟩ := b3_s h
  have hq := c_J4_append_bf812 (d + 3) hq393
  refine XG.call hq.1 ?_ (fun z9 => z_Vcall [.int (I383 x0 6)] [] (cs_L_124 _) (ci := 0) rfl (cO_s hq389) (dep (show d + 3 + 5 + 1 ≤ (d + 9) from by omega) (Nat.le_of_ble_eq_true rfl)) dL_text_91 rfl rfl (Nat.le_of_ble_eq_true rfl) hq.2 z9)
  refine XG.l (fun z9 => x_pop dL_text_94 rfl z9) ?_
  refine XG.l (fun z9 => x_iconst 0 dL_text_95 rfl z9) ?_
  refine XG.l (fun z9 => x_istoren dL_text_96 (Nat.le_of_ble_eq_true rfl) rfl rfl z9) ?_
  exact (tl_L_text_97 d FU h)
noncomputable def f_L_text (I : Mem) (K : Kt) (x0 : Nat) (x1 : Int32) : Option (Nat × Mem × Kt) := b1 (cL K) fun _ => b2 (puN I K (0, 4)) fun I2 K3 => b2 (f_J4_init_a7421 I2 K3 (kN K) 25) fun I6 K7 => b1 (cO K7 8 x0) fun _ => b1 (cO K7 0 (kN K)) fun _ => b3 (f_J4_append_bf812 I6 K7 (kN K) (I6 x0 0)) fun v13 I14 K15 => b1 (cO K15 0 v13) fun _ => b3 (f_J4_append_15ec4 I14 K15 v13 26) fun v19 I20 K21 => b1 (cO K21 8 x0) fun _ => b1 (cO K21 0 v19) fun _ => b3 (f_J4_append_bf812 I20 K21 v19 (I20 x0 2)) fun v27 I28 K29 => b1 (cO K29 0 v27) fun _ => b3 (f_J4_append_15ec4 I28 K29 v27 27) fun v33 I34 K35 => b1 (cO K35 8 x0) fun _ => b1 (cO K35 0 v33) fun _ => b3 (f_J4_append_bf812 I34 K35 v33 (I34 x0 3)) fun v41 I42 K43 => b1 (cO K43 8 x0) fun _ => if (I42 x0 4) < 0 then (l_L_text_62 I42 K43 x0 x1 v41) else (b1 (cO K43 0 v41) fun _ => b3 (f_J4_append_15ec4 I42 K43 v41 28) fun v396 I397 K398 => b1 (cO K398 8 x0) fun _ => b1 (cO K398 0 v396) fun _ => b3 (f_J4_append_bf812 I397 K398 v396 (I397 x0 4)) fun v404 I405 K406 => l_L_text_62 I405 K406 x0 x1 v41)
theorem c_L_text (d : Nat) {K : Kt} {I : Mem} {x0 : Nat} {x1 : Int32} {v : Nat} {I9 : Mem} {K9 : Kt} (h : f_L_text I K x0 x1 = some (v, I9, K9)) : CtG (mL_text (d + 9)) cL_text 0 0 K9 [.ref x0, .int x1] I K (Ro (.inl (some (.ref v))) I9 K9) := by
  refine CtG.of rfl pn_L (catR (catI cat0)) (Nat.le_of_ble_eq_true rfl) (show XG (mL_text (d + 9)) cL_text 0 0 K9 I K 0 [.ref x0, .int x1, .retAddr 0, .retAddr 0, .retAddr 0] [] (Ro (.inl (some (.ref v))) I9 K9) from ?_)
  unfold f_L_text at h
  obtain ⟨u1, hq4, h⟩ := b1_s h
  obtain ⟨I2, K3, hq5, h⟩ := b2_s h
  refine XG.sn hq5 ?_ (fun z9 => x_new ns_L_117 (cL_s hq4) dL_text_0 z9)
  refine XG.l (fun z9 => x_dup dL_text_3 rfl z9) ?_
  refine XG.l (fun z9 => x_ldcS 25 (show (RL, 119, "market ", 25) ∈ strT from by decide +kernel) dL_text_4 z9) ?_
  obtain ⟨I6, K7, hq8, h⟩ := b2_s h
  have hq := c_J4_init_a7421 d hq8
  refine XG.call hq.1 ?_ (fun z9 => z_Icall [.ref (xE (100 + 25))] [.ref (kN K)] (Or.inl (cs_L_121 _)) (dep (show d + 0 + 8 + 1 ≤ (d + 9) from by omega) (Nat.le_of_ble_eq_true rfl)) dL_text_6 rfl rfl (Nat.le_of_ble_eq_true rfl) hq.2 z9)
  refine XG.l (fun z9 => x_aloadn dL_text_9 rfl z9) ?_
  obtain ⟨u9, hq10, h⟩ := b1_s h
  refine XG.l (fun z9 => x_getIN fn_L_32 (cO_s hq10).1 (cO_s hq10).2 dL_text_10 z9) ?_
  obtain ⟨u11, hq12, h⟩ := b1_s h
  obtain ⟨v13, I14, K15, hq16, h⟩ := b3_s h
  have hq := c_J4_append_bf812 (d + 3) hq16
  refine XG.call hq.1 ?_ (fun z9 => z_Vcall [.int (I6 x0 0)] [] (cs_L_124 _) (ci := 0) rfl (cO_s hq12) (dep (show d + 3 + 5 + 1 ≤ (d + 9) from by omega) (Nat.le_of_ble_eq_true rfl)) dL_text_13 rfl rfl (Nat.le_of_ble_eq_true rfl) hq.2 z9)
  refine XG.l (fun z9 => x_ldcS 26 (show (RL, 127, ";regret ", 26) ∈ strT from by decide +kernel) dL_text_16 z9) ?_
  obtain ⟨u17, hq18, h⟩ := b1_s h
  obtain ⟨v19, I20, K21, hq22, h⟩ := b3_s h
  have hq := c_J4_append_15ec4 (d + 3) hq22
  refine XG.call hq.1 ?_ (fun z9 => z_Vcall [.ref (xE (100 + 26))] [] (cs_L_129 _) (ci := 0) rfl (cO_s hq18) (dep (show d + 3 + 5 + 1 ≤ (d + 9) from by omega) (Nat.le_of_ble_eq_true rfl)) dL_text_18 rfl rfl (Nat.le_of_ble_eq_true rfl) hq.2 z9)
  refine XG.l (fun z9 => x_aloadn dL_text_21 rfl z9) ?_
  obtain ⟨u23, hq24, h⟩ := b1_s h
  refine XG.l (fun z9 => x_getIN fn_L_36 (cO_s hq24).1 (cO_s hq24).2 dL_text_22 z9) ?_
  obtain ⟨u25, hq26, h⟩ := b1_s h
  obtain ⟨v27, I28, K29, hq30, h⟩ := b3_s h
  have hq := c_J4_append_bf812 (d + 3) hq30
  refine XG.call hq.1 ?_ (fun z9 => z_Vcall [.int (I20 x0 2)] [] (cs_L_124 _) (ci := 0) rfl (cO_s hq26) (dep (show d + 3 + 5 + 1 ≤ (d + 9) from by omega) (Nat.le_of_ble_eq_true rfl)) dL_text_25 rfl rfl (Nat.le_of_ble_eq_true rfl) hq.2 z9)
  refine XG.l (fun z9 => x_ldcS 27 (show (RL, 132, ";fee ", 27) ∈ strT from by decide +kernel) dL_text_28 z9) ?_
  obtain ⟨u31, hq32, h⟩ := b1_s h
  obtain ⟨v33, I34, K35, hq36, h⟩ := b3_s h
  have hq := c_J4_append_15ec4 (d + 3) hq36
  refine XG.call hq.1 ?_ (fun z9 => z_Vcall [.ref (xE (100 + 27))] [] (cs_L_129 _) (ci := 0) rfl (cO_s hq32) (dep (show d + 3 + 5 + 1 ≤ (d + 9) from by omega) (Nat.le_of_ble_eq_true rfl)) dL_text_30 rfl rfl (Nat.le_of_ble_eq_true rfl) hq.2 z9)
  refine XG.l (fun z9 => x_aloadn dL_text_33 rfl z9) ?_
  obtain ⟨u37, hq38, h⟩ := b1_s h
  refine XG.l (fun z9 => x_getIN fn_L_39 (cO_s hq38).1 (cO_s hq38).2 dL_text_34 z9) ?_
  obtain ⟨u39, hq40, h⟩ := b1_s h
  obtain ⟨v41, I42, K43, hq44, h⟩ := b3_s h
  have hq := c_J4_append_bf812 (d + 3) hq44
  refine XG.call hq.1 ?_ (fun z9 => z_Vcall [.int (I34 x0 3)] [] (cs_L_124 _) (ci := 0) rfl (cO_s hq40) (dep (show d + 3 + 5 + 1 ≤ (d + 9) from by omega) (Nat.le_of_ble_eq_true rfl)) dL_text_37 rfl rfl (Nat.le_of_ble_eq_true rfl) hq.2 z9)
  refine XG.l (fun z9 => x_astoren dL_text_40 (Nat.le_of_ble_eq_true rfl) rfl rfl z9) ?_
  refine XG.l (fun z9 => x_aloadn dL_text_41 rfl z9) ?_
  obtain ⟨u45, hq46, h⟩ := b1_s h
  refine XG.l (fun z9 => x_getIN fn_L_42 (cO_s hq46).1 (cO_s hq46).2 dL_text_42 z9) ?_
  rcases Classical.em ((I42 x0 4) < 0) with hc | hc
  · have h := ifT hc h
    refine XG.l (fun z9 => x_if_lt 62 dL_text_45 rfl (fun _ => z9) (fun hn => absurd hc hn)) ?_
    exact (tl_L_text_62 d h)
  have h := ifF hc h
  refine XG.l (fun z9 => x_if_lt 62 dL_text_45 rfl (fun hn => absurd hn hc) (fun _ => z9)) ?_
  refine XG.l (fun z9 => x_aloadn dL_text_48 rfl z9) ?_
  refine XG.l (fun z9 => x_ldcS 28 (show (RL, 134, ";auction ", 28) ∈ strT from by decide +kernel) dL_text_49 z9) ?_
  obtain ⟨u394, hq395, h⟩ := b1_s h
  obtain ⟨v396, I397, K398, hq399, h⟩ := b3_s h
  have hq := c_J4_append_15ec4 (d + 3) hq399
  refine XG.call hq.1 ?_ (fun z9 => z_Vcall [.ref (xE (100 + 28))] [] (cs_L_129 _) (ci := 0) rfl (cO_s hq395) (dep (show d + 3 + 5 + 1 ≤ (d + 9) from by omega) (Nat.le_of_ble_eq_true rfl)) dL_text_51 rfl rfl (Nat.le_of_ble_eq_true rfl) hq.2 z9)
  refine XG.l (fun z9 => x_aloadn dL_text_54 rfl z9) ?_
  obtain ⟨u400, hq401, h⟩ := b1_s h
  refine XG.l (fun z9 => x_getIN fn_L_42 (cO_s hq401).1 (cO_s hq401).2 dL_text_55 z9) ?_
  obtain ⟨u402, hq403, h⟩ := b1_s h
  obtain ⟨v404, I405, K406, hq407, h⟩ := b3_s h
  have hq := c_J4_append_bf812 (d + 3) hq407
  refine XG.call hq.1 ?_ (fun z9 => z_Vcall [.int (I397 x0 4)] [] (cs_L_124 _) (ci := 0) rfl (cO_s hq403) (dep (show d + 3 + 5 + 1 ≤ (d + 9) from by omega) (Nat.le_of_ble_eq_true rfl)) dL_text_58 rfl rfl (Nat.le_of_ble_eq_true rfl) hq.2 z9)
  refine XG.l (fun z9 => x_pop dL_text_61 rfl z9) ?_
  exact (tl_L_text_62 d h)
noncomputable def l_L_told_2 (m9 : Nat) (I : Mem) (K : Kt) (x0 : Nat) (x1 : Nat) (x2 : Nat) (x3 : Int32) : Option (Int32 × Mem) := match m9 with
  | 0 => none
  | m9 + 1 => b1 (cO K 12 x2) fun _ => b1 (f_J0_length_8abf5_o I K x2) fun v3 => if v3 ≤ x3 then (b2 (f_L_said I K x0 x1) fun v5 I6 => some (v5, I6)) else (b1 (cO K 12 x2) fun _ => b1 (f_J0_charAt_5068e_o I K x2 x3) fun v10 => b1 (f_L_put I K x0 x1 v10) fun I12 => l_L_told_2 m9 I12 K x0 x1 x2 (x3 + 1))
theorem tl_L_told_2 (d : Nat) (m9 : Nat) : ∀ {I : Mem} {K : Kt} {x0 : Nat} {x1 : Nat} {x2 : Nat} {x3 : Int32} {v : Int32} {I9 : Mem}, l_L_told_2 m9 I K x0 x1 x2 x3 = some (v, I9) → X (mL_told (d + 5)) cL_told 0 0 I K 2 [.ref x0, .ref x1, .ref x2, .int x3] [] (Ro (.inl (some (.int v))) I9 K) := by
  induction m9 with
  | zero =>
    intro I K x0 x1 x2 x3 v I9 h
    cases h
  | succ m9 ih =>
    intro I K x0 x1 x2 x3 v I9 h
    unfold l_L_told_2 at h
    refine x_iloadn dL_told_2 rfl ?_
    refine x_aloadn dL_told_3 rfl ?_
    obtain ⟨u1, hq2, h⟩ := b1_s h
    obtain ⟨v3, hq4, h⟩ := b1_s h
    have hq := c_J0_length_8abf5_o (d + 3) hq4
    refine X.c0 (z_Fcall [] [.int x3] (cs_L_178 _) (fun hE => hE.1.2.2.2.2.2.2.2.2.2.2.1) (ci := 12) rfl (cO_s hq2) (dep (show d + 3 + 1 + 1 ≤ (d + 5) from by omega) (Nat.le_of_ble_eq_true rfl)) dL_told_4 rfl rfl (Nat.le_of_ble_eq_true rfl) hq ?_)
    refine x_icmp_ge 30 dL_told_9 rfl (fun hc => ?_) (fun hc => ?_)
    · have h := ifT hc h
      refine x_aloadn dL_told_30 rfl ?_
      refine x_aloadn dL_told_31 rfl ?_
      obtain ⟨v5, I6, hq7, h⟩ := b2_s h
      have hq := c_L_said d hq7
      refine X.c0 (z_Scall [.ref x0, .ref x1] [] (cs_L_187 _) (dep (show d + 0 + 4 + 1 ≤ (d + 5) from by omega) (Nat.le_of_ble_eq_true rfl)) dL_told_32 rfl rfl (Nat.le_of_ble_eq_true rfl) hq ?_)
      cases h
      exact x_iret rfl dL_told_35 ⟨rfl, rfl, rfl⟩
    have h := ifF hc h
    refine x_aloadn dL_told_12 rfl ?_
    refine x_aloadn dL_told_13 rfl ?_
    refine x_aloadn dL_told_14 rfl ?_
    refine x_iloadn dL_told_15 rfl ?_
    obtain ⟨u8, hq9, h⟩ := b1_s h
    obtain ⟨v10, hq11, h⟩ := b1_s h
    have hq := c_J0_charAt_5068e_o (d + 1) hq11
    refine X.c0 (z_Fcall [.int x3] [.ref x1, .ref x0] (cs_L_183 _) (fun hE => hE.1.2.2.2.2.2.2.2.2.2.2.2) (ci := 12) rfl (cO_s hq9) (dep (show d + 1 + 3 + 1 ≤ (d + 5) from by omega) (Nat.le_of_ble_eq_true rfl)) dL_told_16 rfl rfl (Nat.le_of_ble_eq_true rfl) hq ?_)
    obtain ⟨I12, hq13, h⟩ := b1_s h
    have hq := c_L_put (d + 1) hq13
    refine X.c0 (z_Scall [.ref x0, .ref x1, .int v10] [] (cs_L_21 _) (dep (show d + 1 + 3 + 1 ≤ (d + 5) from by omega) (Nat.le_of_ble_eq_true rfl)) dL_told_21 rfl rfl (Nat.le_of_ble_eq_true rfl) hq ?_)
    refine z_iinc 1 (by decide) dL_told_24 rfl rfl rfl ?_
    refine x_goto 2 dL_told_27 rfl ?_
    exact (ih h)
noncomputable def f_L_told (I : Mem) (K : Kt) (x0 : Nat) (x1 : Nat) (x2 : Nat) : Option (Int32 × Mem) := l_L_told_2 FU I K x0 x1 x2 0
theorem c_L_told (d : Nat) {K : Kt} {I : Mem} {x0 : Nat} {x1 : Nat} {x2 : Nat} {v : Int32} {I9 : Mem} (h : f_L_told I K x0 x1 x2 = some (v, I9)) : Ct (mL_told (d + 5)) cL_told 0 0 [.ref x0, .ref x1, .ref x2] I K (Ro (.inl (some (.int v))) I9 K) := by
  refine Ct.of rfl pn_L (catR (catR (catR cat0))) (Nat.le_of_ble_eq_true rfl) (show X (mL_told (d + 5)) cL_told 0 0 I K 0 [.ref x0, .ref x1, .ref x2, .retAddr 0] [] (Ro (.inl (some (.int v))) I9 K) from ?_)
  unfold f_L_told at h
  refine x_iconst 0 dL_told_0 rfl ?_
  refine x_istoren dL_told_1 (Nat.le_of_ble_eq_true rfl) rfl rfl ?_
  exact (tl_L_told_2 d FU h)
noncomputable def l_L_all_28 (m9 : Nat) (I : Mem) (K : Kt) (x0 : Nat) (x1 : Int32) (x2 : Int32) : Option (Int32) := match m9 with
  | 0 => none
  | m9 + 1 => b1 (cW K x0) fun _ => o1 (f_X9_stallCount I x0) fun v7 => if v7 ≤ x2 then (some (x1)) else (b1 (cW K x0) fun _ => o1 (f_X9_cash I x0 x2) fun v11 => l_L_all_28 m9 I K x0 (x1 + v11) (x2 + 1))
theorem tl_L_all_28 (d : Nat) (m9 : Nat) : ∀ {I : Mem} {K : Kt} {x0 : Nat} {x1 : Int32} {x2 : Int32} {v : Int32}, l_L_all_28 m9 I K x0 x1 x2 = some v → X (mL_all (d + 10)) cL_all 0 0 I K 28 [.ref x0, .int x1, .int x2] [] (Ro (.inl (some (.int v))) I K) := by
  induction m9 with
  | zero =>
    intro I K x0 x1 x2 v h
    cases h
  | succ m9 ih =>
    intro I K x0 x1 x2 v h
    unfold l_L_all_28 at h
    refine x_iloadn dL_all_28 rfl ?_
    refine x_aloadn dL_all_29 rfl ?_
    obtain ⟨u5, hq6, h⟩ := b1_s h
    obtain ⟨v7, hq8, h⟩ := o1_s h
    have hq := z0 (c_X9_stallCount (d + 2) (K := K) (I := I) (cW_s hq6) hq8)
    refine X.c0 (z_Vcall [] [.int x2] (cs_L_291 _) (ci := 7) rfl (LW.o (cW_s hq6)) (dep (show d + 2 + 7 + 1 ≤ (d + 10) from by omega) (Nat.le_of_ble_eq_true rfl)) dL_all_30 rfl rfl (Nat.le_of_ble_eq_true rfl) hq ?_)
    refine x_icmp_ge 50 dL_all_33 rfl (fun hc => ?_) (fun hc => ?_)
    · have h := ifT hc h
      refine x_iloadn dL_all_50 rfl ?_
      cases h
      exact x_iret rfl dL_all_51 ⟨rfl, rfl, rfl⟩
    have h := ifF hc h
    refine x_iloadn dL_all_36 rfl ?_
    refine x_aloadn dL_all_37 rfl ?_
    refine x_iloadn dL_all_38 rfl ?_
    obtain ⟨u9, hq10, h⟩ := b1_s h
    obtain ⟨v11, hq12, h⟩ := o1_s h
    have hq := z0 (c_X9_cash d (K := K) (I := I) (cW_s hq10) hq12)
    refine X.c0 (z_Vcall [.int x2] [.int x1] (cs_L_244 _) (ci := 7) rfl (LW.o (cW_s hq10)) (dep (show d + 0 + 9 + 1 ≤ (d + 10) from by omega) (Nat.le_of_ble_eq_true rfl)) dL_all_39 rfl rfl (Nat.le_of_ble_eq_true rfl) hq ?_)
    refine x_iadd dL_all_42 ?_
    refine x_istoren dL_all_43 (Nat.le_of_ble_eq_true rfl) rfl rfl ?_
    refine z_iinc 1 (by decide) dL_all_44 rfl rfl rfl ?_
    refine x_goto 28 dL_all_47 rfl ?_
    exact (ih h)
noncomputable def l_L_all_4 (m9 : Nat) (I : Mem) (K : Kt) (x0 : Nat) (x1 : Int32) (x2 : Int32) : Option (Int32) := match m9 with
  | 0 => none
  | m9 + 1 => b1 (cW K x0) fun _ => o1 (f_X9_personCount I x0) fun v3 => if v3 ≤ x2 then (l_L_all_28 FU I K x0 x1 0) else (b1 (cW K x0) fun _ => o1 (f_X9_coins I x0 x2) fun v15 => l_L_all_4 m9 I K x0 (x1 + v15) (x2 + 1))
theorem tl_L_all_4 (d : Nat) (m9 : Nat) : ∀ {I : Mem} {K : Kt} {x0 : Nat} {x1 : Int32} {x2 : Int32} {v : Int32}, l_L_all_4 m9 I K x0 x1 x2 = some v → X (mL_all (d + 10)) cL_all 0 0 I K 4 [.ref x0, .int x1, .int x2] [] (Ro (.inl (some (.int v))) I K) := by
  induction m9 with
  | zero =>
    intro I K x0 x1 x2 v h
    cases h
  | succ m9 ih =>
    intro I K x0 x1 x2 v h
    unfold l_L_all_4 at h
    refine x_iloadn dL_all_4 rfl ?_
    refine x_aloadn dL_all_5 rfl ?_
    obtain ⟨u1, hq2, h⟩ := b1_s h
    obtain ⟨v3, hq4, h⟩ := o1_s h
    have hq := z0 (c_X9_personCount (d + 2) (K := K) (I := I) (cW_s hq2) hq4)
    refine X.c0 (z_Vcall [] [.int x2] (cs_L_368 _) (ci := 7) rfl (LW.o (cW_s hq2)) (dep (show d + 2 + 7 + 1 ≤ (d + 10) from by omega) (Nat.le_of_ble_eq_true rfl)) dL_all_6 rfl rfl (Nat.le_of_ble_eq_true rfl) hq ?_)
    refine x_icmp_ge 26 dL_all_9 rfl (fun hc => ?_) (fun hc => ?_)
    · have h := ifT hc h
      refine x_iconst 0 dL_all_26 rfl ?_
      refine x_istoren dL_all_27 (Nat.le_of_ble_eq_true rfl) rfl rfl ?_
      exact (tl_L_all_28 d FU h)
    have h := ifF hc h
    refine x_iloadn dL_all_12 rfl ?_
    refine x_aloadn dL_all_13 rfl ?_
    refine x_iloadn dL_all_14 rfl ?_
    obtain ⟨u13, hq14, h⟩ := b1_s h
    obtain ⟨v15, hq16, h⟩ := o1_s h
    have hq := z0 (c_X9_coins d (K := K) (I := I) (cW_s hq14) hq16)
    refine X.c0 (z_Vcall [.int x2] [.int x1] (cs_L_225 _) (ci := 7) rfl (LW.o (cW_s hq14)) (dep (show d + 0 + 9 + 1 ≤ (d + 10) from by omega) (Nat.le_of_ble_eq_true rfl)) dL_all_15 rfl rfl (Nat.le_of_ble_eq_true rfl) hq ?_)
    refine x_iadd dL_all_18 ?_
    refine x_istoren dL_all_19 (Nat.le_of_ble_eq_true rfl) rfl rfl ?_
    refine z_iinc 1 (by decide) dL_all_20 rfl rfl rfl ?_
    refine x_goto 4 dL_all_23 rfl ?_
    exact (ih h)
noncomputable def f_L_all (I : Mem) (K : Kt) (x0 : Nat) : Option (Int32) := l_L_all_4 FU I K x0 0 0
theorem c_L_all (d : Nat) {K : Kt} {I : Mem} {x0 : Nat} {v : Int32} (h : f_L_all I K x0 = some v) : Ct (mL_all (d + 10)) cL_all 0 0 [.ref x0] I K (Ro (.inl (some (.int v))) I K) := by
  refine Ct.of rfl pn_L (catR cat0) (Nat.le_of_ble_eq_true rfl) (show X (mL_all (d + 10)) cL_all 0 0 I K 0 [.ref x0, .retAddr 0, .retAddr 0] [] (Ro (.inl (some (.int v))) I K) from ?_)
  unfold f_L_all at h
  refine x_iconst 0 dL_all_0 rfl ?_
  refine x_istoren dL_all_1 (Nat.le_of_ble_eq_true rfl) rfl rfl ?_
  refine x_iconst 0 dL_all_2 rfl ?_
  refine x_istoren dL_all_3 (Nat.le_of_ble_eq_true rfl) rfl rfl ?_
  exact (tl_L_all_4 d FU h)
noncomputable def l_L_sees_158 (m9 : Nat) (I : Mem) (K : Kt) (x0 : Nat) (x1 : Nat) (x2 : Int32) : Option (Mem × Kt) := match m9 with
  | 0 => none
  | m9 + 1 => b1 (cW K x0) fun _ => o1 (f_X9_stallCount I x0) fun v40 => if v40 ≤ x2 then (some (I, K)) else (b1 (cW K x0) fun _ => o1 (f_X9_cash I x0 x2) fun v44 => b1 (cW K x0) fun _ => o1 (f_X9_stars I x0 x2) fun v48 => b1 (cW K x0) fun _ => o1 (f_X9_margin I x0 x2) fun v52 => b1 (cA K 103 x1) fun m55 => b1 (ix (40 + x2) m55) fun j54 => b1 (puJ K x1 j54 ((((1000000 : Int64) * (v44 : Int32).toInt64) + ((1000 : Int64) * (v48 : Int32).toInt64)) + (v52 : Int32).toInt64)) fun K58 => l_L_sees_158 m9 I K58 x0 x1 (x2 + 1))
theorem tl_L_sees_158 (d : Nat) (m9 : Nat) : ∀ {I : Mem} {K : Kt} {x0 : Nat} {x1 : Nat} {x2 : Int32} {I9 : Mem} {K9 : Kt}, l_L_sees_158 m9 I K x0 x1 x2 = some (I9, K9) → XG (mL_sees (d + 10)) cL_sees 0 0 K9 I K 158 [.ref x0, .ref x1, .int x2] [] (Ro (.inl none) I9 K9) := by
  induction m9 with
  | zero =>
    intro I K x0 x1 x2 I9 K9 h
    cases h
  | succ m9 ih =>
    intro I K x0 x1 x2 I9 K9 h
    unfold l_L_sees_158 at h
    refine XG.l (fun z9 => x_iloadn dL_sees_158 rfl z9) ?_
    refine XG.l (fun z9 => x_aloadn dL_sees_159 rfl z9) ?_
    obtain ⟨u38, hq39, h⟩ := b1_s h
    obtain ⟨v40, hq41, h⟩ := o1_s h
    have hq := z0 (c_X9_stallCount (d + 2) (K := K) (I := I) (cW_s hq39) hq41)
    refine XG.l (fun z9 => X.c0 (z_Vcall [] [.int x2] (cs_L_291 _) (ci := 7) rfl (LW.o (cW_s hq39)) (dep (show d + 2 + 7 + 1 ≤ (d + 10) from by omega) (Nat.le_of_ble_eq_true rfl)) dL_sees_160 rfl rfl (Nat.le_of_ble_eq_true rfl) hq z9)) ?_
    rcases Classical.em (v40 ≤ x2) with hc | hc
    · have h := ifT hc h
      refine XG.l (fun z9 => x_icmp_ge 206 dL_sees_163 rfl (fun _ => z9) (fun hn => absurd hc hn)) ?_
      cases h
      exact XG.z (x_vret rfl dL_sees_206 ⟨rfl, rfl, rfl⟩)
    have h := ifF hc h
    refine XG.l (fun z9 => x_icmp_ge 206 dL_sees_163 rfl (fun hn => absurd hn hc) (fun _ => z9)) ?_
    refine XG.l (fun z9 => x_aloadn dL_sees_166 rfl z9) ?_
    refine XG.l (fun z9 => x_bipush 40 dL_sees_167 (by decide) z9) ?_
    refine XG.l (fun z9 => x_iloadn dL_sees_169 rfl z9) ?_
    refine XG.l (fun z9 => x_iadd dL_sees_170 z9) ?_
    refine XG.l (fun z9 => x_ldc2 1000000 (show Cond.constantLong RL 379 1000000 ∈ wsG from inT8 121 rfl rfl) dL_sees_171 z9) ?_
    refine XG.l (fun z9 => x_aloadn dL_sees_174 rfl z9) ?_
    refine XG.l (fun z9 => x_iloadn dL_sees_175 rfl z9) ?_
    obtain ⟨u42, hq43, h⟩ := b1_s h
    obtain ⟨v44, hq45, h⟩ := o1_s h
    have hq := z0 (c_X9_cash d (K := K) (I := I) (cW_s hq43) hq45)
    refine XG.l (fun z9 => X.c0 (z_Vcall [.int x2] [.long (1000000 : Int64), .int (40 + x2), .ref x1] (cs_L_244 _) (ci := 7) rfl (LW.o (cW_s hq43)) (dep (show d + 0 + 9 + 1 ≤ (d + 10) from by omega) (Nat.le_of_ble_eq_true rfl)) dL_sees_176 rfl rfl (Nat.le_of_ble_eq_true rfl) hq z9)) ?_
    refine XG.l (fun z9 => x_i2l dL_sees_179 z9) ?_
    refine XG.l (fun z9 => x_lmul dL_sees_180 z9) ?_
    refine XG.l (fun z9 => x_ldc2 1000 (show Cond.constantLong RL 375 1000 ∈ wsG from inT8 119 rfl rfl) dL_sees_181 z9) ?_
    refine XG.l (fun z9 => x_aloadn dL_sees_184 rfl z9) ?_
    refine XG.l (fun z9 => x_iloadn dL_sees_185 rfl z9) ?_
    obtain ⟨u46, hq47, h⟩ := b1_s h
    obtain ⟨v48, hq49, h⟩ := o1_s h
    have hq := z0 (c_X9_stars d (K := K) (I := I) (cW_s hq47) hq49)
    refine XG.l (fun z9 => X.c0 (z_Vcall [.int x2] [.long (1000 : Int64), .long ((1000000 : Int64) * (v44 : Int32).toInt64), .int (40 + x2), .ref x1] (cs_L_247 _) (ci := 7) rfl (LW.o (cW_s hq47)) (dep (show d + 0 + 9 + 1 ≤ (d + 10) from by omega) (Nat.le_of_ble_eq_true rfl)) dL_sees_186 rfl rfl (Nat.le_of_ble_eq_true rfl) hq z9)) ?_
    refine XG.l (fun z9 => x_i2l dL_sees_189 z9) ?_
    refine XG.l (fun z9 => x_lmul dL_sees_190 z9) ?_
    refine XG.l (fun z9 => x_ladd dL_sees_191 z9) ?_
    refine XG.l (fun z9 => x_aloadn dL_sees_192 rfl z9) ?_
    refine XG.l (fun z9 => x_iloadn dL_sees_193 rfl z9) ?_
    obtain ⟨u50, hq51, h⟩ := b1_s h
    obtain ⟨v52, hq53, h⟩ := o1_s h
    have hq := z0 (c_X9_margin d (K := K) (I := I) (cW_s hq51) hq53)
    refine XG.l (fun z9 => X.c0 (z_Vcall [.int x2] [.long (((1000000 : Int64) * (v44 : Int32).toInt64) + ((1000 : Int64) * (v48 : Int32).toInt64)), .int (40 + x2), .ref x1] (cs_L_250 _) (ci := 7) rfl (LW.o (cW_s hq51)) (dep (show d + 0 + 9 + 1 ≤ (d + 10) from by omega) (Nat.le_of_ble_eq_true rfl)) dL_sees_194 rfl rfl (Nat.le_of_ble_eq_true rfl) hq z9)) ?_
    refine XG.l (fun z9 => x_i2l dL_sees_197 z9) ?_
    refine XG.l (fun z9 => x_ladd dL_sees_198 z9) ?_
    obtain ⟨m55, hq56, h⟩ := b1_s h
    obtain ⟨j54, hq57, h⟩ := b1_s h
    obtain ⟨K58, hq59, h⟩ := b1_s h
    refine XG.sj hq59 ?_ (fun z9 => x_last (cA_s hq56).1 (cA_s hq56).2 (ix_s hq57).1 (ix_s hq57).2 dL_sees_199 z9)
    refine XG.l (fun z9 => z_iinc 1 (by decide) dL_sees_200 rfl rfl rfl z9) ?_
    refine XG.l (fun z9 => x_goto 158 dL_sees_203 rfl z9) ?_
    exact (ih h)
noncomputable def l_L_sees_96 (m9 : Nat) (I : Mem) (K : Kt) (x0 : Nat) (x1 : Nat) (x2 : Int32) : Option (Mem × Kt) := match m9 with
  | 0 => none
  | m9 + 1 => b1 (cW K x0) fun _ => o1 (f_X9_personCount I x0) fun v36 => if v36 ≤ x2 then (l_L_sees_158 FU I K x0 x1 0) else (b1 (cW K x0) fun _ => o1 (f_X9_shoppingLimit I x0 x2) fun v62 => b1 (cA K 103 x1) fun m65 => b1 (ix (20 + x2) m65) fun j64 => b1 (puJ K x1 j64 (v62 : Int32).toInt64) fun K68 => b1 (cW K68 x0) fun _ => o1 (f_X9_coins I x0 x2) fun v72 => b1 (cW K68 x0) fun _ => o1 (f_X9_candles I x0 x2) fun v76 => b1 (cW K68 x0) fun _ => o1 (f_X9_happiness I x0 x2) fun v80 => b1 (cA K68 103 x1) fun m83 => b1 (ix (30 + x2) m83) fun j82 => b1 (puJ K68 x1 j82 ((((1000000 : Int64) * (v72 : Int32).toInt64) + ((1000 : Int64) * (v76 : Int32).toInt64)) + (v80 : Int32).toInt64)) fun K86 => l_L_sees_96 m9 I K86 x0 x1 (x2 + 1))
theorem tl_L_sees_96 (d : Nat) (m9 : Nat) : ∀ {I : Mem} {K : Kt} {x0 : Nat} {x1 : Nat} {x2 : Int32} {I9 : Mem} {K9 : Kt}, l_L_sees_96 m9 I K x0 x1 x2 = some (I9, K9) → XG (mL_sees (d + 10)) cL_sees 0 0 K9 I K 96 [.ref x0, .ref x1, .int x2] [] (Ro (.inl none) I9 K9) := by
  induction m9 with
  | zero =>
    intro I K x0 x1 x2 I9 K9 h
    cases h
  | succ m9 ih =>
    intro I K x0 x1 x2 I9 K9 h
    unfold l_L_sees_96 at h
    refine XG.l (fun z9 => x_iloadn dL_sees_96 rfl z9) ?_
    refine XG.l (fun z9 => x_aloadn dL_sees_97 rfl z9) ?_
    obtain ⟨u34, hq35, h⟩ := b1_s h
    obtain ⟨v36, hq37, h⟩ := o1_s h
    have hq := z0 (c_X9_personCount (d + 2) (K := K) (I := I) (cW_s hq35) hq37)
    refine XG.l (fun z9 => X.c0 (z_Vcall [] [.int x2] (cs_L_368 _) (ci := 7) rfl (LW.o (cW_s hq35)) (dep (show d + 2 + 7 + 1 ≤ (d + 10) from by omega) (Nat.le_of_ble_eq_true rfl)) dL_sees_98 rfl rfl (Nat.le_of_ble_eq_true rfl) hq z9)) ?_
    rcases Classical.em (v36 ≤ x2) with hc | hc
    · have h := ifT hc h
      refine XG.l (fun z9 => x_icmp_ge 156 dL_sees_101 rfl (fun _ => z9) (fun hn => absurd hc hn)) ?_
      refine XG.l (fun z9 => x_iconst 0 dL_sees_156 rfl z9) ?_
      refine XG.l (fun z9 => x_istoren dL_sees_157 (Nat.le_of_ble_eq_true rfl) rfl rfl z9) ?_
      exact (tl_L_sees_158 d FU h)
    have h := ifF hc h
    refine XG.l (fun z9 => x_icmp_ge 156 dL_sees_101 rfl (fun hn => absurd hn hc) (fun _ => z9)) ?_
    refine XG.l (fun z9 => x_aloadn dL_sees_104 rfl z9) ?_
    refine XG.l (fun z9 => x_bipush 20 dL_sees_105 (by decide) z9) ?_
    refine XG.l (fun z9 => x_iloadn dL_sees_107 rfl z9) ?_
    refine XG.l (fun z9 => x_iadd dL_sees_108 z9) ?_
    refine XG.l (fun z9 => x_aloadn dL_sees_109 rfl z9) ?_
    refine XG.l (fun z9 => x_iloadn dL_sees_110 rfl z9) ?_
    obtain ⟨u60, hq61, h⟩ := b1_s h
    obtain ⟨v62, hq63, h⟩ := o1_s h
    have hq := z0 (c_X9_shoppingLimit d (K := K) (I := I) (cW_s hq61) hq63)
    refine XG.l (fun z9 => X.c0 (z_Vcall [.int x2] [.int (20 + x2), .ref x1] (cs_L_235 _) (ci := 7) rfl (LW.o (cW_s hq61)) (dep (show d + 0 + 9 + 1 ≤ (d + 10) from by omega) (Nat.le_of_ble_eq_true rfl)) dL_sees_111 rfl rfl (Nat.le_of_ble_eq_true rfl) hq z9)) ?_
    refine XG.l (fun z9 => x_i2l dL_sees_114 z9) ?_
    obtain ⟨m65, hq66, h⟩ := b1_s h
    obtain ⟨j64, hq67, h⟩ := b1_s h
    obtain ⟨K68, hq69, h⟩ := b1_s h
    refine XG.sj hq69 ?_ (fun z9 => x_last (cA_s hq66).1 (cA_s hq66).2 (ix_s hq67).1 (ix_s hq67).2 dL_sees_115 z9)
    refine XG.l (fun z9 => x_aloadn dL_sees_116 rfl z9) ?_
    refine XG.l (fun z9 => x_bipush 30 dL_sees_117 (by decide) z9) ?_
    refine XG.l (fun z9 => x_iloadn dL_sees_119 rfl z9) ?_
    refine XG.l (fun z9 => x_iadd dL_sees_120 z9) ?_
    refine XG.l (fun z9 => x_ldc2 1000000 (show Cond.constantLong RL 379 1000000 ∈ wsG from inT8 121 rfl rfl) dL_sees_121 z9) ?_
    refine XG.l (fun z9 => x_aloadn dL_sees_124 rfl z9) ?_
    refine XG.l (fun z9 => x_iloadn dL_sees_125 rfl z9) ?_
    obtain ⟨u70, hq71, h⟩ := b1_s h
    obtain ⟨v72, hq73, h⟩ := o1_s h
    have hq := z0 (c_X9_coins d (K := K68) (I := I) (cW_s hq71) hq73)
    refine XG.l (fun z9 => X.c0 (z_Vcall [.int x2] [.long (1000000 : Int64), .int (30 + x2), .ref x1] (cs_L_225 _) (ci := 7) rfl (LW.o (cW_s hq71)) (dep (show d + 0 + 9 + 1 ≤ (d + 10) from by omega) (Nat.le_of_ble_eq_true rfl)) dL_sees_126 rfl rfl (Nat.le_of_ble_eq_true rfl) hq z9)) ?_
    refine XG.l (fun z9 => x_i2l dL_sees_129 z9) ?_
    refine XG.l (fun z9 => x_lmul dL_sees_130 z9) ?_
    refine XG.l (fun z9 => x_ldc2 1000 (show Cond.constantLong RL 375 1000 ∈ wsG from inT8 119 rfl rfl) dL_sees_131 z9) ?_
    refine XG.l (fun z9 => x_aloadn dL_sees_134 rfl z9) ?_
    refine XG.l (fun z9 => x_iloadn dL_sees_135 rfl z9) ?_
    obtain ⟨u74, hq75, h⟩ := b1_s h
    obtain ⟨v76, hq77, h⟩ := o1_s h
    have hq := z0 (c_X9_candles d (K := K68) (I := I) (cW_s hq75) hq77)
    refine XG.l (fun z9 => X.c0 (z_Vcall [.int x2] [.long (1000 : Int64), .long ((1000000 : Int64) * (v72 : Int32).toInt64), .int (30 + x2), .ref x1] (cs_L_227 _) (ci := 7) rfl (LW.o (cW_s hq75)) (dep (show d + 0 + 9 + 1 ≤ (d + 10) from by omega) (Nat.le_of_ble_eq_true rfl)) dL_sees_136 rfl rfl (Nat.le_of_ble_eq_true rfl) hq z9)) ?_
    refine XG.l (fun z9 => x_i2l dL_sees_139 z9) ?_
    refine XG.l (fun z9 => x_lmul dL_sees_140 z9) ?_
    refine XG.l (fun z9 => x_ladd dL_sees_141 z9) ?_
    refine XG.l (fun z9 => x_aloadn dL_sees_142 rfl z9) ?_
    refine XG.l (fun z9 => x_iloadn dL_sees_143 rfl z9) ?_
    obtain ⟨u78, hq79, h⟩ := b1_s h
    obtain ⟨v80, hq81, h⟩ := o1_s h
    have hq := z0 (c_X9_happiness d (K := K68) (I := I) (cW_s hq79) hq81)
    refine XG.l (fun z9 => X.c0 (z_Vcall [.int x2] [.long (((1000000 : Int64) * (v72 : Int32).toInt64) + ((1000 : Int64) * (v76 : Int32).toInt64)), .int (30 + x2), .ref x1] (cs_L_229 _) (ci := 7) rfl (LW.o (cW_s hq79)) (dep (show d + 0 + 9 + 1 ≤ (d + 10) from by omega) (Nat.le_of_ble_eq_true rfl)) dL_sees_144 rfl rfl (Nat.le_of_ble_eq_true rfl) hq z9)) ?_
    refine XG.l (fun z9 => x_i2l dL_sees_147 z9) ?_
    refine XG.l (fun z9 => x_ladd dL_sees_148 z9) ?_
    obtain ⟨m83, hq84, h⟩ := b1_s h
    obtain ⟨j82, hq85, h⟩ := b1_s h
    obtain ⟨K86, hq87, h⟩ := b1_s h
    refine XG.sj hq87 ?_ (fun z9 => x_last (cA_s hq84).1 (cA_s hq84).2 (ix_s hq85).1 (ix_s hq85).2 dL_sees_149 z9)
    refine XG.l (fun z9 => z_iinc 1 (by decide) dL_sees_150 rfl rfl rfl z9) ?_
    refine XG.l (fun z9 => x_goto 96 dL_sees_153 rfl z9) ?_
    exact (ih h)
noncomputable def l_L_sees_31 (m9 : Nat) (I : Mem) (K : Kt) (x0 : Nat) (x1 : Nat) (x2 : Int32) : Option (Mem × Kt) := match m9 with
  | 0 => none
  | m9 + 1 => if 4 ≤ x2 then (l_L_sees_96 FU I K x0 x1 0) else (b1 (cW K x0) fun _ => o1 (f_X9_wear I x0 x2) fun v90 => b1 (cA K 103 x1) fun m93 => b1 (ix (10 + x2) m93) fun j92 => b1 (puJ K x1 j92 (v90 : Int32).toInt64) fun K96 => b1 (cW K96 x0) fun _ => o1 (f_X9_owner I x0 x2) fun v100 => b1 (cW K96 x0) fun _ => o1 (f_X9_stallOf I x0 x2) fun v104 => b1 (cW K96 x0) fun _ => o1 (f_X9_purchaseDay I x0 x2) fun v108 => b1 (cA K96 103 x1) fun m111 => b1 (ix (14 + x2) m111) fun j110 => b1 (puJ K96 x1 j110 (((((1000 : Int64) * ((v100 + 1) : Int32).toInt64) + ((100 : Int64) * ((v104 + 1) : Int32).toInt64)) + (v108 : Int32).toInt64) + (1 : Int64))) fun K114 => l_L_sees_31 m9 I K114 x0 x1 (x2 + 1))
theorem tl_L_sees_31 (d : Nat) (m9 : Nat) : ∀ {I : Mem} {K : Kt} {x0 : Nat} {x1 : Nat} {x2 : Int32} {I9 : Mem} {K9 : Kt}, l_L_sees_31 m9 I K x0 x1 x2 = some (I9, K9) → XG (mL_sees (d + 10)) cL_sees 0 0 K9 I K 31 [.ref x0, .ref x1, .int x2] [] (Ro (.inl none) I9 K9) := by
  induction m9 with
  | zero =>
    intro I K x0 x1 x2 I9 K9 h
    cases h
  | succ m9 ih =>
    intro I K x0 x1 x2 I9 K9 h
    unfold l_L_sees_31 at h
    refine XG.l (fun z9 => x_iloadn dL_sees_31 rfl z9) ?_
    refine XG.l (fun z9 => x_iconst 4 dL_sees_32 rfl z9) ?_
    rcases Classical.em (4 ≤ x2) with hc | hc
    · have h := ifT hc h
      refine XG.l (fun z9 => x_icmp_ge 94 dL_sees_33 rfl (fun _ => z9) (fun hn => absurd hc hn)) ?_
      refine XG.l (fun z9 => x_iconst 0 dL_sees_94 rfl z9) ?_
      refine XG.l (fun z9 => x_istoren dL_sees_95 (Nat.le_of_ble_eq_true rfl) rfl rfl z9) ?_
      exact (tl_L_sees_96 d FU h)
    have h := ifF hc h
    refine XG.l (fun z9 => x_icmp_ge 94 dL_sees_33 rfl (fun hn => absurd hn hc) (fun _ => z9)) ?_
    refine XG.l (fun z9 => x_aloadn dL_sees_36 rfl z9) ?_
    refine XG.l (fun z9 => x_bipush 10 dL_sees_37 (by decide) z9) ?_
    refine XG.l (fun z9 => x_iloadn dL_sees_39 rfl z9) ?_
    refine XG.l (fun z9 => x_iadd dL_sees_40 z9) ?_
    refine XG.l (fun z9 => x_aloadn dL_sees_41 rfl z9) ?_
    refine XG.l (fun z9 => x_iloadn dL_sees_42 rfl z9) ?_
    obtain ⟨u88, hq89, h⟩ := b1_s h
    obtain ⟨v90, hq91, h⟩ := o1_s h
    have hq := z0 (c_X9_wear d (K := K) (I := I) (cW_s hq89) hq91)
    refine XG.l (fun z9 => X.c0 (z_Vcall [.int x2] [.int (10 + x2), .ref x1] (cs_L_206 _) (ci := 7) rfl (LW.o (cW_s hq89)) (dep (show d + 0 + 9 + 1 ≤ (d + 10) from by omega) (Nat.le_of_ble_eq_true rfl)) dL_sees_43 rfl rfl (Nat.le_of_ble_eq_true rfl) hq z9)) ?_
    refine XG.l (fun z9 => x_i2l dL_sees_46 z9) ?_
    obtain ⟨m93, hq94, h⟩ := b1_s h
    obtain ⟨j92, hq95, h⟩ := b1_s h
    obtain ⟨K96, hq97, h⟩ := b1_s h
    refine XG.sj hq97 ?_ (fun z9 => x_last (cA_s hq94).1 (cA_s hq94).2 (ix_s hq95).1 (ix_s hq95).2 dL_sees_47 z9)
    refine XG.l (fun z9 => x_aloadn dL_sees_48 rfl z9) ?_
    refine XG.l (fun z9 => x_bipush 14 dL_sees_49 (by decide) z9) ?_
    refine XG.l (fun z9 => x_iloadn dL_sees_51 rfl z9) ?_
    refine XG.l (fun z9 => x_iadd dL_sees_52 z9) ?_
    refine XG.l (fun z9 => x_ldc2 1000 (show Cond.constantLong RL 375 1000 ∈ wsG from inT8 119 rfl rfl) dL_sees_53 z9) ?_
    refine XG.l (fun z9 => x_aloadn dL_sees_56 rfl z9) ?_
    refine XG.l (fun z9 => x_iloadn dL_sees_57 rfl z9) ?_
    obtain ⟨u98, hq99, h⟩ := b1_s h
    obtain ⟨v100, hq101, h⟩ := o1_s h
    have hq := z0 (c_X9_owner d (K := K96) (I := I) (cW_s hq99) hq101)
    refine XG.l (fun z9 => X.c0 (z_Vcall [.int x2] [.long (1000 : Int64), .int (14 + x2), .ref x1] (cs_L_197 _) (ci := 7) rfl (LW.o (cW_s hq99)) (dep (show d + 0 + 9 + 1 ≤ (d + 10) from by omega) (Nat.le_of_ble_eq_true rfl)) dL_sees_58 rfl rfl (Nat.le_of_ble_eq_true rfl) hq z9)) ?_
    refine XG.l (fun z9 => x_iconst 1 dL_sees_61 rfl z9) ?_
    refine XG.l (fun z9 => x_iadd dL_sees_62 z9) ?_
    refine XG.l (fun z9 => x_i2l dL_sees_63 z9) ?_
    refine XG.l (fun z9 => x_lmul dL_sees_64 z9) ?_
    refine XG.l (fun z9 => x_ldc2 100 (show Cond.constantLong RL 377 100 ∈ wsG from inT8 120 rfl rfl) dL_sees_65 z9) ?_
    refine XG.l (fun z9 => x_aloadn dL_sees_68 rfl z9) ?_
    refine XG.l (fun z9 => x_iloadn dL_sees_69 rfl z9) ?_
    obtain ⟨u102, hq103, h⟩ := b1_s h
    obtain ⟨v104, hq105, h⟩ := o1_s h
    have hq := z0 (c_X9_stallOf d (K := K96) (I := I) (cW_s hq103) hq105)
    refine XG.l (fun z9 => X.c0 (z_Vcall [.int x2] [.long (100 : Int64), .long ((1000 : Int64) * ((v100 + 1) : Int32).toInt64), .int (14 + x2), .ref x1] (cs_L_199 _) (ci := 7) rfl (LW.o (cW_s hq103)) (dep (show d + 0 + 9 + 1 ≤ (d + 10) from by omega) (Nat.le_of_ble_eq_true rfl)) dL_sees_70 rfl rfl (Nat.le_of_ble_eq_true rfl) hq z9)) ?_
    refine XG.l (fun z9 => x_iconst 1 dL_sees_73 rfl z9) ?_
    refine XG.l (fun z9 => x_iadd dL_sees_74 z9) ?_
    refine XG.l (fun z9 => x_i2l dL_sees_75 z9) ?_
    refine XG.l (fun z9 => x_lmul dL_sees_76 z9) ?_
    refine XG.l (fun z9 => x_ladd dL_sees_77 z9) ?_
    refine XG.l (fun z9 => x_aloadn dL_sees_78 rfl z9) ?_
    refine XG.l (fun z9 => x_iloadn dL_sees_79 rfl z9) ?_
    obtain ⟨u106, hq107, h⟩ := b1_s h
    obtain ⟨v108, hq109, h⟩ := o1_s h
    have hq := z0 (c_X9_purchaseDay d (K := K96) (I := I) (cW_s hq107) hq109)
    refine XG.l (fun z9 => X.c0 (z_Vcall [.int x2] [.long (((1000 : Int64) * ((v100 + 1) : Int32).toInt64) + ((100 : Int64) * ((v104 + 1) : Int32).toInt64)), .int (14 + x2), .ref x1] (cs_L_208 _) (ci := 7) rfl (LW.o (cW_s hq107)) (dep (show d + 0 + 9 + 1 ≤ (d + 10) from by omega) (Nat.le_of_ble_eq_true rfl)) dL_sees_80 rfl rfl (Nat.le_of_ble_eq_true rfl) hq z9)) ?_
    refine XG.l (fun z9 => x_i2l dL_sees_83 z9) ?_
    refine XG.l (fun z9 => x_ladd dL_sees_84 z9) ?_
    refine XG.l (fun z9 => x_lconst 1 dL_sees_85 rfl z9) ?_
    refine XG.l (fun z9 => x_ladd dL_sees_86 z9) ?_
    obtain ⟨m111, hq112, h⟩ := b1_s h
    obtain ⟨j110, hq113, h⟩ := b1_s h
    obtain ⟨K114, hq115, h⟩ := b1_s h
    refine XG.sj hq115 ?_ (fun z9 => x_last (cA_s hq112).1 (cA_s hq112).2 (ix_s hq113).1 (ix_s hq113).2 dL_sees_87 z9)
    refine XG.l (fun z9 => z_iinc 1 (by decide) dL_sees_88 rfl rfl rfl z9) ?_
    refine XG.l (fun z9 => x_goto 31 dL_sees_91 rfl z9) ?_
    exact (ih h)
noncomputable def f_L_sees (I : Mem) (K : Kt) (x0 : Nat) (x1 : Nat) : Option (Mem × Kt) := b2 (f_J7_fill_d0a16 I K x1 (0 : Int64)) fun I1 K2 => b1 (cW K2 x0) fun _ => o1 (f_X9_day I1 x0) fun v6 => b1 (cA K2 103 x1) fun m9 => b1 (ix 0 m9) fun j8 => b1 (puJ K2 x1 j8 (v6 : Int32).toInt64) fun K12 => b1 (cW K12 x0) fun _ => o1 (f_X9_fadedCount I1 x0) fun v16 => b1 (cA K12 103 x1) fun m19 => b1 (ix 1 m19) fun j18 => b1 (puJ K12 x1 j18 (v16 : Int32).toInt64) fun K22 => b1 (cW K22 x0) fun _ => o1 (f_X9_grantedCount I1 x0) fun v26 => b1 (cA K22 103 x1) fun m29 => b1 (ix 2 m29) fun j28 => b1 (puJ K22 x1 j28 (v26 : Int32).toInt64) fun K32 => l_L_sees_31 FU I1 K32 x0 x1 0
theorem c_L_sees (d : Nat) {K : Kt} {I : Mem} {x0 : Nat} {x1 : Nat} {I9 : Mem} {K9 : Kt} (h : f_L_sees I K x0 x1 = some (I9, K9)) : CtG (mL_sees (d + 10)) cL_sees 0 0 K9 [.ref x0, .ref x1] I K (Ro (.inl none) I9 K9) := by
  refine CtG.of rfl pn_L (catR (catR cat0)) (Nat.le_of_ble_eq_true rfl) (show XG (mL_sees (d + 10)) cL_sees 0 0 K9 I K 0 [.ref x0, .ref x1, .retAddr 0] [] (Ro (.inl none) I9 K9) from ?_)
  unfold f_L_sees at h
  refine XG.l (fun z9 => x_aloadn dL_sees_0 rfl z9) ?_
  refine XG.l (fun z9 => x_lconst 0 dL_sees_1 rfl z9) ?_
  obtain ⟨I1, K2, hq3, h⟩ := b2_s h
  have hq := c_J7_fill_d0a16 (d + 9) hq3
  refine XG.call hq.1 ?_ (fun z9 => z_Scall [.ref x1, .long (0 : Int64)] [] (cs_L_371 _) (dep (show d + 9 + 0 + 1 ≤ (d + 10) from by omega) (Nat.le_of_ble_eq_true rfl)) dL_sees_2 rfl rfl (Nat.le_of_ble_eq_true rfl) hq.2 z9)
  refine XG.l (fun z9 => x_aloadn dL_sees_5 rfl z9) ?_
  refine XG.l (fun z9 => x_iconst 0 dL_sees_6 rfl z9) ?_
  refine XG.l (fun z9 => x_aloadn dL_sees_7 rfl z9) ?_
  obtain ⟨u4, hq5, h⟩ := b1_s h
  obtain ⟨v6, hq7, h⟩ := o1_s h
  have hq := z0 (c_X9_day (d + 2) (K := K2) (I := I1) (cW_s hq5) hq7)
  refine XG.l (fun z9 => X.c0 (z_Vcall [] [.int 0, .ref x1] (cs_L_256 _) (ci := 7) rfl (LW.o (cW_s hq5)) (dep (show d + 2 + 7 + 1 ≤ (d + 10) from by omega) (Nat.le_of_ble_eq_true rfl)) dL_sees_8 rfl rfl (Nat.le_of_ble_eq_true rfl) hq z9)) ?_
  refine XG.l (fun z9 => x_i2l dL_sees_11 z9) ?_
  obtain ⟨m9, hq10, h⟩ := b1_s h
  obtain ⟨j8, hq11, h⟩ := b1_s h
  obtain ⟨K12, hq13, h⟩ := b1_s h
  refine XG.sj hq13 ?_ (fun z9 => x_last (cA_s hq10).1 (cA_s hq10).2 (ix_s hq11).1 (ix_s hq11).2 dL_sees_12 z9)
  refine XG.l (fun z9 => x_aloadn dL_sees_13 rfl z9) ?_
  refine XG.l (fun z9 => x_iconst 1 dL_sees_14 rfl z9) ?_
  refine XG.l (fun z9 => x_aloadn dL_sees_15 rfl z9) ?_
  obtain ⟨u14, hq15, h⟩ := b1_s h
  obtain ⟨v16, hq17, h⟩ := o1_s h
  have hq := z0 (c_X9_fadedCount (d + 2) (K := K12) (I := I1) (cW_s hq15) hq17)
  refine XG.l (fun z9 => X.c0 (z_Vcall [] [.int 1, .ref x1] (cs_L_265 _) (ci := 7) rfl (LW.o (cW_s hq15)) (dep (show d + 2 + 7 + 1 ≤ (d + 10) from by omega) (Nat.le_of_ble_eq_true rfl)) dL_sees_16 rfl rfl (Nat.le_of_ble_eq_true rfl) hq z9)) ?_
  refine XG.l (fun z9 => x_i2l dL_sees_19 z9) ?_
  obtain ⟨m19, hq20, h⟩ := b1_s h
  obtain ⟨j18, hq21, h⟩ := b1_s h
  obtain ⟨K22, hq23, h⟩ := b1_s h
  refine XG.sj hq23 ?_ (fun z9 => x_last (cA_s hq20).1 (cA_s hq20).2 (ix_s hq21).1 (ix_s hq21).2 dL_sees_20 z9)
  refine XG.l (fun z9 => x_aloadn dL_sees_21 rfl z9) ?_
  refine XG.l (fun z9 => x_iconst 2 dL_sees_22 rfl z9) ?_
  refine XG.l (fun z9 => x_aloadn dL_sees_23 rfl z9) ?_
  obtain ⟨u24, hq25, h⟩ := b1_s h
  obtain ⟨v26, hq27, h⟩ := o1_s h
  have hq := z0 (c_X9_grantedCount (d + 2) (K := K22) (I := I1) (cW_s hq25) hq27)
  refine XG.l (fun z9 => X.c0 (z_Vcall [] [.int 2, .ref x1] (cs_L_262 _) (ci := 7) rfl (LW.o (cW_s hq25)) (dep (show d + 2 + 7 + 1 ≤ (d + 10) from by omega) (Nat.le_of_ble_eq_true rfl)) dL_sees_24 rfl rfl (Nat.le_of_ble_eq_true rfl) hq z9)) ?_
  refine XG.l (fun z9 => x_i2l dL_sees_27 z9) ?_
  obtain ⟨m29, hq30, h⟩ := b1_s h
  obtain ⟨j28, hq31, h⟩ := b1_s h
  obtain ⟨K32, hq33, h⟩ := b1_s h
  refine XG.sj hq33 ?_ (fun z9 => x_last (cA_s hq30).1 (cA_s hq30).2 (ix_s hq31).1 (ix_s hq31).2 dL_sees_28 z9)
  refine XG.l (fun z9 => x_iconst 0 dL_sees_29 rfl z9) ?_
  refine XG.l (fun z9 => x_istoren dL_sees_30 (Nat.le_of_ble_eq_true rfl) rfl rfl z9) ?_
  exact (tl_L_sees_31 d FU h)
