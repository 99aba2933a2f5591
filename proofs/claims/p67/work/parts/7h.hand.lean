noncomputable def f_X10_init (I : Mem) (K : Kt) (x0 : Nat) : Option (Mem × Kt) := b1 (cO K 8 x0) fun _ => b1 (pu I x0 2 3) fun I3 => b1 (cO K 8 x0) fun _ => b1 (pu I3 x0 3 10) fun I7 => b1 (cO K 8 x0) fun _ => b1 (pu I7 x0 4 (-1)) fun I11 => b1 (cO K 8 x0) fun _ => b1 (pu I11 x0 5 (-1)) fun I15 => b1 (cL K) fun _ => b2 (puN I15 K (11, 3)) fun I18 K19 => b2 (f_Jx4a65c_init_da8c8 I18 K19 (kN K)) fun I22 K23 => b1 (cO K23 8 x0) fun _ => b1 (puG K23 x0 7 (kN K)) fun K27 => b1 (cL K27) fun _ => b2 (puN I22 K27 (11, 3)) fun I30 K31 => b2 (f_Jx4a65c_init_da8c8 I30 K31 (kN K27)) fun I34 K35 => b1 (cO K35 8 x0) fun _ => b1 (puG K35 x0 8 (kN K27)) fun K39 => b1 (cL K39) fun _ => b2 (puN I34 K39 (11, 3)) fun I42 K43 => b2 (f_Jx4a65c_init_da8c8 I42 K43 (kN K39)) fun I46 K47 => b1 (cO K47 8 x0) fun _ => b1 (puG K47 x0 9 (kN K39)) fun K51 => some (I46, K51)
theorem c_X10_init (d : Nat) {K : Kt} {I : Mem} {x0 : Nat} {I9 : Mem} {K9 : Kt} (h : f_X10_init I K x0 = some (I9, K9)) : CtG (mX10_init (d + 4)) cX10_init 0 0 K9 [.ref x0] I K (Ro (.inl none) I9 K9) := by
  refine CtG.of rfl pn_X10 (catR cat0) (Nat.le_of_ble_eq_true rfl) (show XG (mX10_init (d + 4)) cX10_init 0 0 K9 I K 0 [.ref x0] [] (Ro (.inl none) I9 K9) from ?_)
  unfold f_X10_init at h
  refine XG.l (fun z9 => x_aloadn dX10_init_0 rfl z9) ?_
  refine XG.l (fun z9 => x_objInit (show Cond.methodLink RX10 1 Lib.objectInit ∈ wsG from inT5 202 rfl rfl) (show Cond.instanceMethod Lib.objectInit ∈ wsG from inT1 46 rfl rfl) (show Cond.code Lib.objectInit ⟨#[0xb1]⟩ 1 none ∈ wsG from inT1 47 rfl rfl) (Nat.le_of_ble_eq_true rfl) (by show 1 ≤ (d + 4); omega) dX10_init_1 z9) ?_
  refine XG.l (fun z9 => x_aloadn dX10_init_4 rfl z9) ?_
  refine XG.l (fun z9 => x_iconst 3 dX10_init_5 rfl z9) ?_
  obtain ⟨u1, hq2, h⟩ := b1_s h
  obtain ⟨I3, hq4, h⟩ := b1_s h
  refine XG.l (fun z9 => z_putA fs_X10_7 (cO_s hq2) ⟨rfl, rfl⟩ hq4 dX10_init_6 z9) ?_
  refine XG.l (fun z9 => x_aloadn dX10_init_9 rfl z9) ?_
  refine XG.l (fun z9 => x_bipush 10 dX10_init_10 (by decide) z9) ?_
  obtain ⟨u5, hq6, h⟩ := b1_s h
  obtain ⟨I7, hq8, h⟩ := b1_s h
  refine XG.l (fun z9 => z_putA fs_X10_13 (cO_s hq6) ⟨rfl, rfl⟩ hq8 dX10_init_12 z9) ?_
  refine XG.l (fun z9 => x_aloadn dX10_init_15 rfl z9) ?_
  refine XG.l (fun z9 => x_iconst (-1) dX10_init_16 rfl z9) ?_
  obtain ⟨u9, hq10, h⟩ := b1_s h
  obtain ⟨I11, hq12, h⟩ := b1_s h
  refine XG.l (fun z9 => z_putA fs_X10_16 (cO_s hq10) ⟨rfl, rfl⟩ hq12 dX10_init_17 z9) ?_
  refine XG.l (fun z9 => x_aloadn dX10_init_20 rfl z9) ?_
  refine XG.l (fun z9 => x_iconst (-1) dX10_init_21 rfl z9) ?_
  obtain ⟨u13, hq14, h⟩ := b1_s h
  obtain ⟨I15, hq16, h⟩ := b1_s h
  refine XG.l (fun z9 => z_putA fs_X10_19 (cO_s hq14) ⟨rfl, rfl⟩ hq16 dX10_init_22 z9) ?_
  refine XG.l (fun z9 => x_aloadn dX10_init_25 rfl z9) ?_
  obtain ⟨u17, hq20, h⟩ := b1_s h
  obtain ⟨I18, K19, hq21, h⟩ := b2_s h
  refine XG.sn hq21 ?_ (fun z9 => x_new ns_X10_22 (cL_s hq20) dX10_init_26 z9)
  refine XG.l (fun z9 => x_dup dX10_init_29 rfl z9) ?_
  obtain ⟨I22, K23, hq24, h⟩ := b2_s h
  have hq := c_Jx4a65c_init_da8c8 d hq24
  refine XG.call hq.1 ?_ (fun z9 => z_Icall [] [.ref (kN K), .ref x0] (Or.inl (cs_X10_24 _)) (dep (show d + 0 + 3 + 1 ≤ (d + 4) from by omega) (Nat.le_of_ble_eq_true rfl)) dX10_init_30 rfl rfl (Nat.le_of_ble_eq_true rfl) hq.2 z9)
  obtain ⟨u25, hq26, h⟩ := b1_s h
  obtain ⟨K27, hq28, h⟩ := b1_s h
  refine XG.sg hq28 ?_ (fun z9 => x_putR fs_X10_25 (fun _ => rfl) (cO_s hq26).1 (cO_s hq26).2 (fun q => ⟨rfl, rfl⟩) dX10_init_33 z9)
  refine XG.l (fun z9 => x_aloadn dX10_init_36 rfl z9) ?_
  obtain ⟨u29, hq32, h⟩ := b1_s h
  obtain ⟨I30, K31, hq33, h⟩ := b2_s h
  refine XG.sn hq33 ?_ (fun z9 => x_new ns_X10_22 (cL_s hq32) dX10_init_37 z9)
  refine XG.l (fun z9 => x_dup dX10_init_40 rfl z9) ?_
  obtain ⟨I34, K35, hq36, h⟩ := b2_s h
  have hq := c_Jx4a65c_init_da8c8 d hq36
  refine XG.call hq.1 ?_ (fun z9 => z_Icall [] [.ref (kN K27), .ref x0] (Or.inl (cs_X10_24 _)) (dep (show d + 0 + 3 + 1 ≤ (d + 4) from by omega) (Nat.le_of_ble_eq_true rfl)) dX10_init_41 rfl rfl (Nat.le_of_ble_eq_true rfl) hq.2 z9)
  obtain ⟨u37, hq38, h⟩ := b1_s h
  obtain ⟨K39, hq40, h⟩ := b1_s h
  refine XG.sg hq40 ?_ (fun z9 => x_putR fs_X10_29 (fun _ => rfl) (cO_s hq38).1 (cO_s hq38).2 (fun q => ⟨rfl, rfl⟩) dX10_init_44 z9)
  refine XG.l (fun z9 => x_aloadn dX10_init_47 rfl z9) ?_
  obtain ⟨u41, hq44, h⟩ := b1_s h
  obtain ⟨I42, K43, hq45, h⟩ := b2_s h
  refine XG.sn hq45 ?_ (fun z9 => x_new ns_X10_22 (cL_s hq44) dX10_init_48 z9)
  refine XG.l (fun z9 => x_dup dX10_init_51 rfl z9) ?_
  obtain ⟨I46, K47, hq48, h⟩ := b2_s h
  have hq := c_Jx4a65c_init_da8c8 d hq48
  refine XG.call hq.1 ?_ (fun z9 => z_Icall [] [.ref (kN K39), .ref x0] (Or.inl (cs_X10_24 _)) (dep (show d + 0 + 3 + 1 ≤ (d + 4) from by omega) (Nat.le_of_ble_eq_true rfl)) dX10_init_52 rfl rfl (Nat.le_of_ble_eq_true rfl) hq.2 z9)
  obtain ⟨u49, hq50, h⟩ := b1_s h
  obtain ⟨K51, hq52, h⟩ := b1_s h
  refine XG.sg hq52 ?_ (fun z9 => x_putR fs_X10_32 (fun _ => rfl) (cO_s hq50).1 (cO_s hq50).2 (fun q => ⟨rfl, rfl⟩) dX10_init_55 z9)
  cases h
  exact XG.z (x_vret rfl dX10_init_58 ⟨rfl, rfl, rfl⟩)
noncomputable def l_X10_owned_4 (m9 : Nat) (I : Mem) (K : Kt) (x0 : Nat) (x1 : Int32) (x2 : Int32) (x3 : Int32) : Option (Int32) := match m9 with
  | 0 => none
  | m9 + 1 => b1 (cO K 8 x0) fun _ => b1 (gR K x0 9) fun r3 => b1 (cO K 11 r3) fun _ => b1 (f_Jx4a65c_size_8abf5 I K r3) fun v7 => if v7 ≤ x3 then (some (x2)) else (b1 (cO K 8 x0) fun _ => b1 (gR K x0 9) fun r11 => b1 (cO K 11 r11) fun _ => b1 (f_Jx4a65c_get_915e3 I K r11 x3) fun v15 => b1 (cO K 10 v15) fun _ => b1 (cO K 10 v15) fun _ => if (I v15 4) = x1 then (l_X10_owned_4 m9 I K x0 x1 (x2 + 1) (x3 + 1)) else (l_X10_owned_4 m9 I K x0 x1 x2 (x3 + 1)))
theorem tl_X10_owned_4 (d : Nat) (m9 : Nat) : ∀ {I : Mem} {K : Kt} {x0 : Nat} {x1 : Int32} {x2 : Int32} {x3 : Int32} {v : Int32}, l_X10_owned_4 m9 I K x0 x1 x2 x3 = some v → X (mX10_owned (d + 3)) cX10_owned 0 0 I K 4 [.ref x0, .int x1, .int x2, .int x3] [] (Ro (.inl (some (.int v))) I K) := by
  induction m9 with
  | zero =>
    intro I K x0 x1 x2 x3 v h
    cases h
  | succ m9 ih =>
    intro I K x0 x1 x2 x3 v h
    unfold l_X10_owned_4 at h
    refine x_iloadn dX10_owned_4 rfl ?_
    refine x_aloadn dX10_owned_5 rfl ?_
    obtain ⟨u1, hq2, h⟩ := b1_s h
    obtain ⟨r3, hq4, h⟩ := b1_s h
    refine x_getR fs_X10_32 (cO_s hq2).1 (cO_s hq2).2 hq4 dX10_owned_6 ?_
    obtain ⟨u5, hq6, h⟩ := b1_s h
    obtain ⟨v7, hq8, h⟩ := b1_s h
    have hq := c_Jx4a65c_size_8abf5 (d + 2) hq8
    refine X.c0 (z_Vcall [] [.int x3] (cs_X10_45 _) (ci := 11) rfl (cO_s hq6) (dep (show d + 2 + 0 + 1 ≤ (d + 3) from by omega) (Nat.le_of_ble_eq_true rfl)) dX10_owned_9 rfl rfl (Nat.le_of_ble_eq_true rfl) hq ?_)
    refine x_icmp_ge 42 dX10_owned_12 rfl (fun hc => ?_) (fun hc => ?_)
    · have h := ifT hc h
      refine x_iloadn dX10_owned_42 rfl ?_
      cases h
      exact x_iret rfl dX10_owned_43 ⟨rfl, rfl, rfl⟩
    have h := ifF hc h
    refine x_aloadn dX10_owned_15 rfl ?_
    obtain ⟨u9, hq10, h⟩ := b1_s h
    obtain ⟨r11, hq12, h⟩ := b1_s h
    refine x_getR fs_X10_32 (cO_s hq10).1 (cO_s hq10).2 hq12 dX10_owned_16 ?_
    refine x_iloadn dX10_owned_19 rfl ?_
    obtain ⟨u13, hq14, h⟩ := b1_s h
    obtain ⟨v15, hq16, h⟩ := b1_s h
    have hq := c_Jx4a65c_get_915e3 d hq16
    refine X.c0 (z_Vcall [.int x3] [] (cs_X10_49 _) (ci := 11) rfl (cO_s hq14) (dep (show d + 0 + 2 + 1 ≤ (d + 3) from by omega) (Nat.le_of_ble_eq_true rfl)) dX10_owned_20 rfl rfl (Nat.le_of_ble_eq_true rfl) hq ?_)
    obtain ⟨u17, hq18, h⟩ := b1_s h
    refine x_castC (ci := 10) rfl (show Cond.classLink RX10 69 "WishMarketLaw$Wish" ∈ wsG from inT6 193 rfl rfl) (cO_s hq18) dX10_owned_23 ?_
    obtain ⟨u19, hq20, h⟩ := b1_s h
    refine x_getIN fn_X10_74 (cO_s hq20).1 (cO_s hq20).2 dX10_owned_26 ?_
    refine x_iloadn dX10_owned_29 rfl ?_
    refine x_icmp_ne 36 dX10_owned_30 rfl (fun hc => ?_) (fun hc => ?_)
    · have h := ifF hc h
      refine z_iinc 1 (by decide) dX10_owned_36 rfl rfl rfl ?_
      refine x_goto 4 dX10_owned_39 rfl ?_
      exact (ih h)
    have h := ifT hc h
    refine z_iinc 1 (by decide) dX10_owned_33 rfl rfl rfl ?_
    refine z_iinc 1 (by decide) dX10_owned_36 rfl rfl rfl ?_
    refine x_goto 4 dX10_owned_39 rfl ?_
    exact (ih h)
noncomputable def f_X10_owned (I : Mem) (K : Kt) (x0 : Nat) (x1 : Int32) : Option (Int32) := l_X10_owned_4 FU I K x0 x1 0 0
theorem c_X10_owned (d : Nat) {K : Kt} {I : Mem} {x0 : Nat} {x1 : Int32} {v : Int32} (h : f_X10_owned I K x0 x1 = some v) : Ct (mX10_owned (d + 3)) cX10_owned 0 0 [.ref x0, .int x1] I K (Ro (.inl (some (.int v))) I K) := by
  refine Ct.of rfl pn_X10 (catR (catI cat0)) (Nat.le_of_ble_eq_true rfl) (show X (mX10_owned (d + 3)) cX10_owned 0 0 I K 0 [.ref x0, .int x1, .retAddr 0, .retAddr 0] [] (Ro (.inl (some (.int v))) I K) from ?_)
  unfold f_X10_owned at h
  refine x_iconst 0 dX10_owned_0 rfl ?_
  refine x_istoren dX10_owned_1 (Nat.le_of_ble_eq_true rfl) rfl rfl ?_
  refine x_iconst 0 dX10_owned_2 rfl ?_
  refine x_istoren dX10_owned_3 (Nat.le_of_ble_eq_true rfl) rfl rfl ?_
  exact (tl_X10_owned_4 d FU h)
noncomputable def l_X10_stock_4 (m9 : Nat) (I : Mem) (K : Kt) (x0 : Nat) (x1 : Int32) (x2 : Int32) (x3 : Int32) : Option (Int32) := match m9 with
  | 0 => none
  | m9 + 1 => b1 (cO K 8 x0) fun _ => b1 (gR K x0 9) fun r3 => b1 (cO K 11 r3) fun _ => b1 (f_Jx4a65c_size_8abf5 I K r3) fun v7 => if v7 ≤ x3 then (some (x2)) else (b1 (cO K 8 x0) fun _ => b1 (gR K x0 9) fun r11 => b1 (cO K 11 r11) fun _ => b1 (f_Jx4a65c_get_915e3 I K r11 x3) fun v15 => b1 (cO K 10 v15) fun _ => b1 (cO K 10 v15) fun _ => if (I v15 3) = x1 then (l_X10_stock_4 m9 I K x0 x1 (x2 + 1) (x3 + 1)) else (l_X10_stock_4 m9 I K x0 x1 x2 (x3 + 1)))
theorem tl_X10_stock_4 (d : Nat) (m9 : Nat) : ∀ {I : Mem} {K : Kt} {x0 : Nat} {x1 : Int32} {x2 : Int32} {x3 : Int32} {v : Int32}, l_X10_stock_4 m9 I K x0 x1 x2 x3 = some v → X (mX10_stock (d + 3)) cX10_stock 0 0 I K 4 [.ref x0, .int x1, .int x2, .int x3] [] (Ro (.inl (some (.int v))) I K) := by
  induction m9 with
  | zero =>
    intro I K x0 x1 x2 x3 v h
    cases h
  | succ m9 ih =>
    intro I K x0 x1 x2 x3 v h
    unfold l_X10_stock_4 at h
    refine x_iloadn dX10_stock_4 rfl ?_
    refine x_aloadn dX10_stock_5 rfl ?_
    obtain ⟨u1, hq2, h⟩ := b1_s h
    obtain ⟨r3, hq4, h⟩ := b1_s h
    refine x_getR fs_X10_32 (cO_s hq2).1 (cO_s hq2).2 hq4 dX10_stock_6 ?_
    obtain ⟨u5, hq6, h⟩ := b1_s h
    obtain ⟨v7, hq8, h⟩ := b1_s h
    have hq := c_Jx4a65c_size_8abf5 (d + 2) hq8
    refine X.c0 (z_Vcall [] [.int x3] (cs_X10_45 _) (ci := 11) rfl (cO_s hq6) (dep (show d + 2 + 0 + 1 ≤ (d + 3) from by omega) (Nat.le_of_ble_eq_true rfl)) dX10_stock_9 rfl rfl (Nat.le_of_ble_eq_true rfl) hq ?_)
    refine x_icmp_ge 42 dX10_stock_12 rfl (fun hc => ?_) (fun hc => ?_)
    · have h := ifT hc h
      refine x_iloadn dX10_stock_42 rfl ?_
      cases h
      exact x_iret rfl dX10_stock_43 ⟨rfl, rfl, rfl⟩
    have h := ifF hc h
    refine x_aloadn dX10_stock_15 rfl ?_
    obtain ⟨u9, hq10, h⟩ := b1_s h
    obtain ⟨r11, hq12, h⟩ := b1_s h
    refine x_getR fs_X10_32 (cO_s hq10).1 (cO_s hq10).2 hq12 dX10_stock_16 ?_
    refine x_iloadn dX10_stock_19 rfl ?_
    obtain ⟨u13, hq14, h⟩ := b1_s h
    obtain ⟨v15, hq16, h⟩ := b1_s h
    have hq := c_Jx4a65c_get_915e3 d hq16
    refine X.c0 (z_Vcall [.int x3] [] (cs_X10_49 _) (ci := 11) rfl (cO_s hq14) (dep (show d + 0 + 2 + 1 ≤ (d + 3) from by omega) (Nat.le_of_ble_eq_true rfl)) dX10_stock_20 rfl rfl (Nat.le_of_ble_eq_true rfl) hq ?_)
    obtain ⟨u17, hq18, h⟩ := b1_s h
    refine x_castC (ci := 10) rfl (show Cond.classLink RX10 69 "WishMarketLaw$Wish" ∈ wsG from inT6 193 rfl rfl) (cO_s hq18) dX10_stock_23 ?_
    obtain ⟨u19, hq20, h⟩ := b1_s h
    refine x_getIN fn_X10_77 (cO_s hq20).1 (cO_s hq20).2 dX10_stock_26 ?_
    refine x_iloadn dX10_stock_29 rfl ?_
    refine x_icmp_ne 36 dX10_stock_30 rfl (fun hc => ?_) (fun hc => ?_)
    · have h := ifF hc h
      refine z_iinc 1 (by decide) dX10_stock_36 rfl rfl rfl ?_
      refine x_goto 4 dX10_stock_39 rfl ?_
      exact (ih h)
    have h := ifT hc h
    refine z_iinc 1 (by decide) dX10_stock_33 rfl rfl rfl ?_
    refine z_iinc 1 (by decide) dX10_stock_36 rfl rfl rfl ?_
    refine x_goto 4 dX10_stock_39 rfl ?_
    exact (ih h)
noncomputable def f_X10_stock (I : Mem) (K : Kt) (x0 : Nat) (x1 : Int32) : Option (Int32) := l_X10_stock_4 FU I K x0 x1 0 0
theorem c_X10_stock (d : Nat) {K : Kt} {I : Mem} {x0 : Nat} {x1 : Int32} {v : Int32} (h : f_X10_stock I K x0 x1 = some v) : Ct (mX10_stock (d + 3)) cX10_stock 0 0 [.ref x0, .int x1] I K (Ro (.inl (some (.int v))) I K) := by
  refine Ct.of rfl pn_X10 (catR (catI cat0)) (Nat.le_of_ble_eq_true rfl) (show X (mX10_stock (d + 3)) cX10_stock 0 0 I K 0 [.ref x0, .int x1, .retAddr 0, .retAddr 0] [] (Ro (.inl (some (.int v))) I K) from ?_)
  unfold f_X10_stock at h
  refine x_iconst 0 dX10_stock_0 rfl ?_
  refine x_istoren dX10_stock_1 (Nat.le_of_ble_eq_true rfl) rfl rfl ?_
  refine x_iconst 0 dX10_stock_2 rfl ?_
  refine x_istoren dX10_stock_3 (Nat.le_of_ble_eq_true rfl) rfl rfl ?_
  exact (tl_X10_stock_4 d FU h)
noncomputable def f_X12_left (I : Mem) (K : Kt) (x0 : Nat) : Option (Int32) := b1 (cO K 10 x0) fun _ => b1 (cO K 10 x0) fun _ => some (((I x0 0) * (10 - (I x0 2))))
theorem c_X12_left (d : Nat) {K : Kt} {I : Mem} {x0 : Nat} {v : Int32} (h : f_X12_left I K x0 = some v) : Ct (mX12_left d) cX12_left 0 0 [.ref x0] I K (Ro (.inl (some (.int v))) I K) := by
  refine Ct.of rfl pn_X12 (catR cat0) (Nat.le_of_ble_eq_true rfl) (show X (mX12_left d) cX12_left 0 0 I K 0 [.ref x0] [] (Ro (.inl (some (.int v))) I K) from ?_)
  unfold f_X12_left at h
  refine x_aloadn dX12_left_0 rfl ?_
  obtain ⟨u1, hq2, h⟩ := b1_s h
  refine x_getI fs_X12_26 (cO_s hq2).1 (cO_s hq2).2 dX12_left_1 ?_
  refine x_bipush 10 dX12_left_4 (by decide) ?_
  refine x_aloadn dX12_left_6 rfl ?_
  obtain ⟨u3, hq4, h⟩ := b1_s h
  refine x_getI fs_X12_32 (cO_s hq4).1 (cO_s hq4).2 dX12_left_7 ?_
  refine x_isub dX12_left_10 ?_
  refine x_imul dX12_left_11 ?_
  cases h
  exact x_iret rfl dX12_left_12 ⟨rfl, rfl, rfl⟩
noncomputable def f_X10_price (I : Mem) (K : Kt) (x0 : Nat) (x1 : Int32) : Option (Int32) := b1 (cO K 8 x0) fun _ => b1 (gR K x0 9) fun r3 => b1 (cO K 11 r3) fun _ => b1 (f_Jx4a65c_get_915e3 I K r3 x1) fun v7 => b1 (cO K 10 v7) fun _ => b1 (cO K 8 x0) fun _ => b1 (gR K x0 8) fun r13 => b1 (cO K 10 v7) fun _ => b1 (cO K 11 r13) fun _ => b1 (f_Jx4a65c_get_915e3 I K r13 (I v7 3)) fun v19 => b1 (cA K 100 v19) fun _ => b1 (cO K 10 v7) fun _ => b1 (f_X12_left I K v7) fun v25 => b1 (cA K 100 v19) fun m28 => b1 (ix 3 m28) fun j27 => b1 (cA K 100 v19) fun m32 => b1 (ix 2 m32) fun j31 => some ((if 1 < (((v25 * (100 + (I v19 j27))) * (50 + (I v19 j31))) / 100000) then (((v25 * (100 + (I v19 j27))) * (50 + (I v19 j31))) / 100000) else 1))
theorem c_X10_price (d : Nat) {K : Kt} {I : Mem} {x0 : Nat} {x1 : Int32} {v : Int32} (h : f_X10_price I K x0 x1 = some v) : Ct (mX10_price (d + 3)) cX10_price 0 0 [.ref x0, .int x1] I K (Ro (.inl (some (.int v))) I K) := by
  refine Ct.of rfl pn_X10 (catR (catI cat0)) (Nat.le_of_ble_eq_true rfl) (show X (mX10_price (d + 3)) cX10_price 0 0 I K 0 [.ref x0, .int x1, .retAddr 0, .retAddr 0] [] (Ro (.inl (some (.int v))) I K) from ?_)
  unfold f_X10_price at h
  refine x_aloadn dX10_price_0 rfl ?_
  obtain ⟨u1, hq2, h⟩ := b1_s h
  obtain ⟨r3, hq4, h⟩ := b1_s h
  refine x_getR fs_X10_32 (cO_s hq2).1 (cO_s hq2).2 hq4 dX10_price_1 ?_
  refine x_iloadn dX10_price_4 rfl ?_
  obtain ⟨u5, hq6, h⟩ := b1_s h
  obtain ⟨v7, hq8, h⟩ := b1_s h
  have hq := c_Jx4a65c_get_915e3 d hq8
  refine X.c0 (z_Vcall [.int x1] [] (cs_X10_49 _) (ci := 11) rfl (cO_s hq6) (dep (show d + 0 + 2 + 1 ≤ (d + 3) from by omega) (Nat.le_of_ble_eq_true rfl)) dX10_price_5 rfl rfl (Nat.le_of_ble_eq_true rfl) hq ?_)
  obtain ⟨u9, hq10, h⟩ := b1_s h
  refine x_castC (ci := 10) rfl (show Cond.classLink RX10 69 "WishMarketLaw$Wish" ∈ wsG from inT6 193 rfl rfl) (cO_s hq10) dX10_price_8 ?_
  refine x_astoren dX10_price_11 (Nat.le_of_ble_eq_true rfl) rfl rfl ?_
  refine x_aloadn dX10_price_12 rfl ?_
  obtain ⟨u11, hq12, h⟩ := b1_s h
  obtain ⟨r13, hq14, h⟩ := b1_s h
  refine x_getR fs_X10_29 (cO_s hq12).1 (cO_s hq12).2 hq14 dX10_price_13 ?_
  refine x_aloadn dX10_price_16 rfl ?_
  obtain ⟨u15, hq16, h⟩ := b1_s h
  refine x_getIN fn_X10_77 (cO_s hq16).1 (cO_s hq16).2 dX10_price_17 ?_
  obtain ⟨u17, hq18, h⟩ := b1_s h
  obtain ⟨v19, hq20, h⟩ := b1_s h
  have hq := c_Jx4a65c_get_915e3 d hq20
  refine X.c0 (z_Vcall [.int (I v7 3)] [] (cs_X10_49 _) (ci := 11) rfl (cO_s hq18) (dep (show d + 0 + 2 + 1 ≤ (d + 3) from by omega) (Nat.le_of_ble_eq_true rfl)) dX10_price_20 rfl rfl (Nat.le_of_ble_eq_true rfl) hq ?_)
  obtain ⟨u21, hq22, h⟩ := b1_s h
  refine x_castI (show Cond.classLink RX10 63 "[I" ∈ wsG from inT7 161 rfl rfl) (cA_s hq22) dX10_price_23 ?_
  refine x_astoren dX10_price_26 (Nat.le_of_ble_eq_true rfl) rfl rfl ?_
  refine x_iconst 1 dX10_price_27 rfl ?_
  refine x_aloadn dX10_price_28 rfl ?_
  obtain ⟨u23, hq24, h⟩ := b1_s h
  obtain ⟨v25, hq26, h⟩ := b1_s h
  have hq := c_X12_left (d + 2) hq26
  refine X.c0 (z_Vcall [] [.int 1] (cs_X10_80 _) (ci := 10) rfl (cO_s hq24) (dep (show d + 2 + 0 + 1 ≤ (d + 3) from by omega) (Nat.le_of_ble_eq_true rfl)) dX10_price_29 rfl rfl (Nat.le_of_ble_eq_true rfl) hq ?_)
  refine x_bipush 100 dX10_price_32 (by decide) ?_
  refine x_aloadn dX10_price_34 rfl ?_
  refine x_iconst 3 dX10_price_35 rfl ?_
  obtain ⟨m28, hq29, h⟩ := b1_s h
  obtain ⟨j27, hq30, h⟩ := b1_s h
  refine z_iald (cA_s hq29) hq30 dX10_price_36 ?_
  refine x_iadd dX10_price_37 ?_
  refine x_imul dX10_price_38 ?_
  refine x_bipush 50 dX10_price_39 (by decide) ?_
  refine x_aloadn dX10_price_41 rfl ?_
  refine x_iconst 2 dX10_price_42 rfl ?_
  obtain ⟨m32, hq33, h⟩ := b1_s h
  obtain ⟨j31, hq34, h⟩ := b1_s h
  refine z_iald (cA_s hq33) hq34 dX10_price_43 ?_
  refine x_iadd dX10_price_44 ?_
  refine x_imul dX10_price_45 ?_
  refine x_ldc 100000 (show Cond.constant RX10 83 100000 ∈ wsG from inT7 163 rfl rfl) dX10_price_46 ?_
  refine x_idiv dX10_price_48 (by decide) ?_
  refine x_mmax ms_X10_84 (Nat.le_of_ble_eq_true rfl) (by show 1 ≤ (d + 3); omega) dX10_price_49 ?_
  cases h
  exact x_iret rfl dX10_price_52 ⟨rfl, rfl, rfl⟩
noncomputable def f_X10_offer (I : Mem) (K : Kt) (x0 : Nat) (x1 : Int32) (x2 : Int32) : Option (Int32) := b1 (cO K 8 x0) fun _ => b1 (gR K x0 9) fun r3 => b1 (cO K 11 r3) fun _ => b1 (f_Jx4a65c_get_915e3 I K r3 x1) fun v7 => b1 (cO K 10 v7) fun _ => b1 (cO K 10 v7) fun _ => b1 (f_X12_left I K v7) fun v13 => b1 (cO K 8 x0) fun _ => b1 (gR K x0 8) fun r17 => b1 (cO K 11 r17) fun _ => b1 (f_Jx4a65c_get_915e3 I K r17 x2) fun v21 => b1 (cA K 100 v21) fun _ => b1 (cA K 100 v21) fun m26 => b1 (ix 2 m26) fun j25 => some (((v13 * (50 + (I v21 j25))) / 1000))
theorem c_X10_offer (d : Nat) {K : Kt} {I : Mem} {x0 : Nat} {x1 : Int32} {x2 : Int32} {v : Int32} (h : f_X10_offer I K x0 x1 x2 = some v) : Ct (mX10_offer (d + 3)) cX10_offer 0 0 [.ref x0, .int x1, .int x2] I K (Ro (.inl (some (.int v))) I K) := by
  refine Ct.of rfl pn_X10 (catR (catI (catI cat0))) (Nat.le_of_ble_eq_true rfl) (show X (mX10_offer (d + 3)) cX10_offer 0 0 I K 0 [.ref x0, .int x1, .int x2] [] (Ro (.inl (some (.int v))) I K) from ?_)
  unfold f_X10_offer at h
  refine x_aloadn dX10_offer_0 rfl ?_
  obtain ⟨u1, hq2, h⟩ := b1_s h
  obtain ⟨r3, hq4, h⟩ := b1_s h
  refine x_getR fs_X10_32 (cO_s hq2).1 (cO_s hq2).2 hq4 dX10_offer_1 ?_
  refine x_iloadn dX10_offer_4 rfl ?_
  obtain ⟨u5, hq6, h⟩ := b1_s h
  obtain ⟨v7, hq8, h⟩ := b1_s h
  have hq := c_Jx4a65c_get_915e3 d hq8
  refine X.c0 (z_Vcall [.int x1] [] (cs_X10_49 _) (ci := 11) rfl (cO_s hq6) (dep (show d + 0 + 2 + 1 ≤ (d + 3) from by omega) (Nat.le_of_ble_eq_true rfl)) dX10_offer_5 rfl rfl (Nat.le_of_ble_eq_true rfl) hq ?_)
  obtain ⟨u9, hq10, h⟩ := b1_s h
  refine x_castC (ci := 10) rfl (show Cond.classLink RX10 69 "WishMarketLaw$Wish" ∈ wsG from inT6 193 rfl rfl) (cO_s hq10) dX10_offer_8 ?_
  obtain ⟨u11, hq12, h⟩ := b1_s h
  obtain ⟨v13, hq14, h⟩ := b1_s h
  have hq := c_X12_left (d + 2) hq14
  refine X.c0 (z_Vcall [] [] (cs_X10_80 _) (ci := 10) rfl (cO_s hq12) (dep (show d + 2 + 0 + 1 ≤ (d + 3) from by omega) (Nat.le_of_ble_eq_true rfl)) dX10_offer_11 rfl rfl (Nat.le_of_ble_eq_true rfl) hq ?_)
  refine x_bipush 50 dX10_offer_14 (by decide) ?_
  refine x_aloadn dX10_offer_16 rfl ?_
  obtain ⟨u15, hq16, h⟩ := b1_s h
  obtain ⟨r17, hq18, h⟩ := b1_s h
  refine x_getR fs_X10_29 (cO_s hq16).1 (cO_s hq16).2 hq18 dX10_offer_17 ?_
  refine x_iloadn dX10_offer_20 rfl ?_
  obtain ⟨u19, hq20, h⟩ := b1_s h
  obtain ⟨v21, hq22, h⟩ := b1_s h
  have hq := c_Jx4a65c_get_915e3 d hq22
  refine X.c0 (z_Vcall [.int x2] [.int 50, .int v13] (cs_X10_49 _) (ci := 11) rfl (cO_s hq20) (dep (show d + 0 + 2 + 1 ≤ (d + 3) from by omega) (Nat.le_of_ble_eq_true rfl)) dX10_offer_21 rfl rfl (Nat.le_of_ble_eq_true rfl) hq ?_)
  obtain ⟨u23, hq24, h⟩ := b1_s h
  refine x_castI (show Cond.classLink RX10 63 "[I" ∈ wsG from inT7 161 rfl rfl) (cA_s hq24) dX10_offer_24 ?_
  refine x_iconst 2 dX10_offer_27 rfl ?_
  obtain ⟨m26, hq27, h⟩ := b1_s h
  obtain ⟨j25, hq28, h⟩ := b1_s h
  refine z_iald (cA_s hq27) hq28 dX10_offer_28 ?_
  refine x_iadd dX10_offer_29 ?_
  refine x_imul dX10_offer_30 ?_
  refine x_sipush 1000 dX10_offer_31 (by decide) ?_
  refine x_idiv dX10_offer_34 (by decide) ?_
  cases h
  exact x_iret rfl dX10_offer_35 ⟨rfl, rfl, rfl⟩
noncomputable def f_X10_whyBuy (I : Mem) (K : Kt) (x0 : Nat) (x1 : Int32) (x2 : Int32) : Option (Int32) := b1 (cO K 8 x0) fun _ => b1 (gR K x0 9) fun r3 => b1 (cO K 11 r3) fun _ => b1 (f_Jx4a65c_get_915e3 I K r3 x2) fun v7 => b1 (cO K 10 v7) fun _ => b1 (cO K 10 v7) fun _ => if 0 ≤ (I v7 3) then (b1 (cO K 8 x0) fun _ => b1 (gR K x0 7) fun r15 => b1 (cO K 11 r15) fun _ => b1 (f_Jx4a65c_get_915e3 I K r15 x1) fun v19 => b1 (cO K 9 v19) fun _ => b1 (cO K 9 v19) fun _ => b1 (cO K 8 x0) fun _ => b1 (f_X10_price I K x0 x2) fun v27 => if v27 ≤ (I v19 0) then (b1 (cO K 8 x0) fun _ => b1 (f_X10_owned I K x0 x1) fun v31 => if v31 = 4 then (some (3)) else (some (0))) else (some (2))) else (some (1))
theorem c_X10_whyBuy (d : Nat) {K : Kt} {I : Mem} {x0 : Nat} {x1 : Int32} {x2 : Int32} {v : Int32} (h : f_X10_whyBuy I K x0 x1 x2 = some v) : Ct (mX10_whyBuy (d + 4)) cX10_whyBuy 0 0 [.ref x0, .int x1, .int x2] I K (Ro (.inl (some (.int v))) I K) := by
  refine Ct.of rfl pn_X10 (catR (catI (catI cat0))) (Nat.le_of_ble_eq_true rfl) (show X (mX10_whyBuy (d + 4)) cX10_whyBuy 0 0 I K 0 [.ref x0, .int x1, .int x2] [] (Ro (.inl (some (.int v))) I K) from ?_)
  unfold f_X10_whyBuy at h
  refine x_aloadn dX10_whyBuy_0 rfl ?_
  obtain ⟨u1, hq2, h⟩ := b1_s h
  obtain ⟨r3, hq4, h⟩ := b1_s h
  refine x_getR fs_X10_32 (cO_s hq2).1 (cO_s hq2).2 hq4 dX10_whyBuy_1 ?_
  refine x_iloadn dX10_whyBuy_4 rfl ?_
  obtain ⟨u5, hq6, h⟩ := b1_s h
  obtain ⟨v7, hq8, h⟩ := b1_s h
  have hq := c_Jx4a65c_get_915e3 (d + 1) hq8
  refine X.c0 (z_Vcall [.int x2] [] (cs_X10_49 _) (ci := 11) rfl (cO_s hq6) (dep (show d + 1 + 2 + 1 ≤ (d + 4) from by omega) (Nat.le_of_ble_eq_true rfl)) dX10_whyBuy_5 rfl rfl (Nat.le_of_ble_eq_true rfl) hq ?_)
  obtain ⟨u9, hq10, h⟩ := b1_s h
  refine x_castC (ci := 10) rfl (show Cond.classLink RX10 69 "WishMarketLaw$Wish" ∈ wsG from inT6 193 rfl rfl) (cO_s hq10) dX10_whyBuy_8 ?_
  obtain ⟨u11, hq12, h⟩ := b1_s h
  refine x_getIN fn_X10_77 (cO_s hq12).1 (cO_s hq12).2 dX10_whyBuy_11 ?_
  refine x_if_ge 21 dX10_whyBuy_14 rfl (fun hc => ?_) (fun hc => ?_)
  · have h := ifT hc h
    refine x_aloadn dX10_whyBuy_21 rfl ?_
    obtain ⟨u13, hq14, h⟩ := b1_s h
    obtain ⟨r15, hq16, h⟩ := b1_s h
    refine x_getR fs_X10_25 (cO_s hq14).1 (cO_s hq14).2 hq16 dX10_whyBuy_22 ?_
    refine x_iloadn dX10_whyBuy_25 rfl ?_
    obtain ⟨u17, hq18, h⟩ := b1_s h
    obtain ⟨v19, hq20, h⟩ := b1_s h
    have hq := c_Jx4a65c_get_915e3 (d + 1) hq20
    refine X.c0 (z_Vcall [.int x1] [] (cs_X10_49 _) (ci := 11) rfl (cO_s hq18) (dep (show d + 1 + 2 + 1 ≤ (d + 4) from by omega) (Nat.le_of_ble_eq_true rfl)) dX10_whyBuy_26 rfl rfl (Nat.le_of_ble_eq_true rfl) hq ?_)
    obtain ⟨u21, hq22, h⟩ := b1_s h
    refine x_castC (ci := 9) rfl (show Cond.classLink RX10 53 "WishMarketLaw$Person" ∈ wsG from inT7 124 rfl rfl) (cO_s hq22) dX10_whyBuy_29 ?_
    obtain ⟨u23, hq24, h⟩ := b1_s h
    refine x_getIN fn_X10_93 (cO_s hq24).1 (cO_s hq24).2 dX10_whyBuy_32 ?_
    refine x_aloadn dX10_whyBuy_35 rfl ?_
    refine x_iloadn dX10_whyBuy_36 rfl ?_
    obtain ⟨u25, hq26, h⟩ := b1_s h
    obtain ⟨v27, hq28, h⟩ := b1_s h
    have hq := c_X10_price d hq28
    refine X.c0 (z_Vcall [.int x2] [.int (I v19 0)] (cs_X10_96 _) (ci := 8) rfl (cO_s hq26) (dep (show d + 0 + 3 + 1 ≤ (d + 4) from by omega) (Nat.le_of_ble_eq_true rfl)) dX10_whyBuy_37 rfl rfl (Nat.le_of_ble_eq_true rfl) hq ?_)
    refine x_icmp_ge 47 dX10_whyBuy_40 rfl (fun hc => ?_) (fun hc => ?_)
    · have h := ifT hc h
      refine x_aloadn dX10_whyBuy_47 rfl ?_
      refine x_iloadn dX10_whyBuy_48 rfl ?_
      obtain ⟨u29, hq30, h⟩ := b1_s h
      obtain ⟨v31, hq32, h⟩ := b1_s h
      have hq := c_X10_owned d hq32
      refine X.c0 (z_Vcall [.int x1] [] (cs_X10_100 _) (ci := 8) rfl (cO_s hq30) (dep (show d + 0 + 3 + 1 ≤ (d + 4) from by omega) (Nat.le_of_ble_eq_true rfl)) dX10_whyBuy_49 rfl rfl (Nat.le_of_ble_eq_true rfl) hq ?_)
      refine x_iconst 4 dX10_whyBuy_52 rfl ?_
      refine x_icmp_ne 60 dX10_whyBuy_53 rfl (fun hc => ?_) (fun hc => ?_)
      · have h := ifF hc h
        refine x_iconst 0 dX10_whyBuy_60 rfl ?_
        cases h
        exact x_iret rfl dX10_whyBuy_61 ⟨rfl, rfl, rfl⟩
      have h := ifT hc h
      refine x_iconst 3 dX10_whyBuy_56 rfl ?_
      refine x_goto 61 dX10_whyBuy_57 rfl ?_
      cases h
      exact x_iret rfl dX10_whyBuy_61 ⟨rfl, rfl, rfl⟩
    have h := ifF hc h
    refine x_iconst 2 dX10_whyBuy_43 rfl ?_
    refine x_goto 61 dX10_whyBuy_44 rfl ?_
    cases h
    exact x_iret rfl dX10_whyBuy_61 ⟨rfl, rfl, rfl⟩
  have h := ifF hc h
  refine x_iconst 1 dX10_whyBuy_17 rfl ?_
  refine x_goto 61 dX10_whyBuy_18 rfl ?_
  cases h
  exact x_iret rfl dX10_whyBuy_61 ⟨rfl, rfl, rfl⟩
noncomputable def f_X10_whySell (I : Mem) (K : Kt) (x0 : Nat) (x1 : Int32) (x2 : Int32) : Option (Int32) := b1 (cO K 8 x0) fun _ => b1 (gR K x0 9) fun r3 => b1 (cO K 11 r3) fun _ => b1 (f_Jx4a65c_get_915e3 I K r3 x1) fun v7 => b1 (cO K 10 v7) fun _ => b1 (cO K 10 v7) fun _ => if 0 ≤ (I v7 4) then (b1 (cO K 8 x0) fun _ => b1 (f_X10_stock I K x0 x2) fun v15 => b1 (cO K 8 x0) fun _ => b1 (gR K x0 8) fun r19 => b1 (cO K 11 r19) fun _ => b1 (f_Jx4a65c_get_915e3 I K r19 x2) fun v23 => b1 (cA K 100 v23) fun _ => b1 (cA K 100 v23) fun m28 => b1 (ix 0 m28) fun j27 => if v15 = (I v23 j27) then (some (2)) else (b1 (cO K 8 x0) fun _ => b1 (gR K x0 8) fun r33 => b1 (cO K 11 r33) fun _ => b1 (f_Jx4a65c_get_915e3 I K r33 x2) fun v37 => b1 (cA K 100 v37) fun _ => b1 (cA K 100 v37) fun m42 => b1 (ix 1 m42) fun j41 => b1 (cO K 8 x0) fun _ => b1 (f_X10_offer I K x0 x1 x2) fun v47 => if v47 ≤ (I v37 j41) then (some (0)) else (some (3)))) else (some (1))
theorem c_X10_whySell (d : Nat) {K : Kt} {I : Mem} {x0 : Nat} {x1 : Int32} {x2 : Int32} {v : Int32} (h : f_X10_whySell I K x0 x1 x2 = some v) : Ct (mX10_whySell (d + 4)) cX10_whySell 0 0 [.ref x0, .int x1, .int x2] I K (Ro (.inl (some (.int v))) I K) := by
  refine Ct.of rfl pn_X10 (catR (catI (catI cat0))) (Nat.le_of_ble_eq_true rfl) (show X (mX10_whySell (d + 4)) cX10_whySell 0 0 I K 0 [.ref x0, .int x1, .int x2] [] (Ro (.inl (some (.int v))) I K) from ?_)
  unfold f_X10_whySell at h
  refine x_aloadn dX10_whySell_0 rfl ?_
  obtain ⟨u1, hq2, h⟩ := b1_s h
  obtain ⟨r3, hq4, h⟩ := b1_s h
  refine x_getR fs_X10_32 (cO_s hq2).1 (cO_s hq2).2 hq4 dX10_whySell_1 ?_
  refine x_iloadn dX10_whySell_4 rfl ?_
  obtain ⟨u5, hq6, h⟩ := b1_s h
  obtain ⟨v7, hq8, h⟩ := b1_s h
  have hq := c_Jx4a65c_get_915e3 (d + 1) hq8
  refine X.c0 (z_Vcall [.int x1] [] (cs_X10_49 _) (ci := 11) rfl (cO_s hq6) (dep (show d + 1 + 2 + 1 ≤ (d + 4) from by omega) (Nat.le_of_ble_eq_true rfl)) dX10_whySell_5 rfl rfl (Nat.le_of_ble_eq_true rfl) hq ?_)
  obtain ⟨u9, hq10, h⟩ := b1_s h
  refine x_castC (ci := 10) rfl (show Cond.classLink RX10 69 "WishMarketLaw$Wish" ∈ wsG from inT6 193 rfl rfl) (cO_s hq10) dX10_whySell_8 ?_
  obtain ⟨u11, hq12, h⟩ := b1_s h
  refine x_getIN fn_X10_74 (cO_s hq12).1 (cO_s hq12).2 dX10_whySell_11 ?_
  refine x_if_ge 21 dX10_whySell_14 rfl (fun hc => ?_) (fun hc => ?_)
  · have h := ifT hc h
    refine x_aloadn dX10_whySell_21 rfl ?_
    refine x_iloadn dX10_whySell_22 rfl ?_
    obtain ⟨u13, hq14, h⟩ := b1_s h
    obtain ⟨v15, hq16, h⟩ := b1_s h
    have hq := c_X10_stock d hq16
    refine X.c0 (z_Vcall [.int x2] [] (cs_X10_103 _) (ci := 8) rfl (cO_s hq14) (dep (show d + 0 + 3 + 1 ≤ (d + 4) from by omega) (Nat.le_of_ble_eq_true rfl)) dX10_whySell_23 rfl rfl (Nat.le_of_ble_eq_true rfl) hq ?_)
    refine x_aloadn dX10_whySell_26 rfl ?_
    obtain ⟨u17, hq18, h⟩ := b1_s h
    obtain ⟨r19, hq20, h⟩ := b1_s h
    refine x_getR fs_X10_29 (cO_s hq18).1 (cO_s hq18).2 hq20 dX10_whySell_27 ?_
    refine x_iloadn dX10_whySell_30 rfl ?_
    obtain ⟨u21, hq22, h⟩ := b1_s h
    obtain ⟨v23, hq24, h⟩ := b1_s h
    have hq := c_Jx4a65c_get_915e3 (d + 1) hq24
    refine X.c0 (z_Vcall [.int x2] [.int v15] (cs_X10_49 _) (ci := 11) rfl (cO_s hq22) (dep (show d + 1 + 2 + 1 ≤ (d + 4) from by omega) (Nat.le_of_ble_eq_true rfl)) dX10_whySell_31 rfl rfl (Nat.le_of_ble_eq_true rfl) hq ?_)
    obtain ⟨u25, hq26, h⟩ := b1_s h
    refine x_castI (show Cond.classLink RX10 63 "[I" ∈ wsG from inT7 161 rfl rfl) (cA_s hq26) dX10_whySell_34 ?_
    refine x_iconst 0 dX10_whySell_37 rfl ?_
    obtain ⟨m28, hq29, h⟩ := b1_s h
    obtain ⟨j27, hq30, h⟩ := b1_s h
    refine z_iald (cA_s hq29) hq30 dX10_whySell_38 ?_
    refine x_icmp_ne 46 dX10_whySell_39 rfl (fun hc => ?_) (fun hc => ?_)
    · have h := ifF hc h
      refine x_aloadn dX10_whySell_46 rfl ?_
      obtain ⟨u31, hq32, h⟩ := b1_s h
      obtain ⟨r33, hq34, h⟩ := b1_s h
      refine x_getR fs_X10_29 (cO_s hq32).1 (cO_s hq32).2 hq34 dX10_whySell_47 ?_
      refine x_iloadn dX10_whySell_50 rfl ?_
      obtain ⟨u35, hq36, h⟩ := b1_s h
      obtain ⟨v37, hq38, h⟩ := b1_s h
      have hq := c_Jx4a65c_get_915e3 (d + 1) hq38
      refine X.c0 (z_Vcall [.int x2] [] (cs_X10_49 _) (ci := 11) rfl (cO_s hq36) (dep (show d + 1 + 2 + 1 ≤ (d + 4) from by omega) (Nat.le_of_ble_eq_true rfl)) dX10_whySell_51 rfl rfl (Nat.le_of_ble_eq_true rfl) hq ?_)
      obtain ⟨u39, hq40, h⟩ := b1_s h
      refine x_castI (show Cond.classLink RX10 63 "[I" ∈ wsG from inT7 161 rfl rfl) (cA_s hq40) dX10_whySell_54 ?_
      refine x_iconst 1 dX10_whySell_57 rfl ?_
      obtain ⟨m42, hq43, h⟩ := b1_s h
      obtain ⟨j41, hq44, h⟩ := b1_s h
      refine z_iald (cA_s hq43) hq44 dX10_whySell_58 ?_
      refine x_aloadn dX10_whySell_59 rfl ?_
      refine x_iloadn dX10_whySell_60 rfl ?_
      refine x_iloadn dX10_whySell_61 rfl ?_
      obtain ⟨u45, hq46, h⟩ := b1_s h
      obtain ⟨v47, hq48, h⟩ := b1_s h
      have hq := c_X10_offer d hq48
      refine X.c0 (z_Vcall [.int x1, .int x2] [.int (I v37 j41)] (cs_X10_106 _) (ci := 8) rfl (cO_s hq46) (dep (show d + 0 + 3 + 1 ≤ (d + 4) from by omega) (Nat.le_of_ble_eq_true rfl)) dX10_whySell_62 rfl rfl (Nat.le_of_ble_eq_true rfl) hq ?_)
      refine x_icmp_ge 72 dX10_whySell_65 rfl (fun hc => ?_) (fun hc => ?_)
      · have h := ifT hc h
        refine x_iconst 0 dX10_whySell_72 rfl ?_
        cases h
        exact x_iret rfl dX10_whySell_73 ⟨rfl, rfl, rfl⟩
      have h := ifF hc h
      refine x_iconst 3 dX10_whySell_68 rfl ?_
      refine x_goto 73 dX10_whySell_69 rfl ?_
      cases h
      exact x_iret rfl dX10_whySell_73 ⟨rfl, rfl, rfl⟩
    have h := ifT hc h
    refine x_iconst 2 dX10_whySell_42 rfl ?_
    refine x_goto 73 dX10_whySell_43 rfl ?_
    cases h
    exact x_iret rfl dX10_whySell_73 ⟨rfl, rfl, rfl⟩
  have h := ifF hc h
  refine x_iconst 1 dX10_whySell_17 rfl ?_
  refine x_goto 73 dX10_whySell_18 rfl ?_
  cases h
  exact x_iret rfl dX10_whySell_73 ⟨rfl, rfl, rfl⟩
noncomputable def f_X10_whyGrant (I : Mem) (K : Kt) (x0 : Nat) (x1 : Int32) : Option (Int32) := b1 (cO K 8 x0) fun _ => b1 (gR K x0 9) fun r3 => b1 (cO K 11 r3) fun _ => b1 (f_Jx4a65c_get_915e3 I K r3 x1) fun v7 => b1 (cO K 10 v7) fun _ => b1 (cO K 10 v7) fun _ => if 0 ≤ (I v7 4) then (b1 (cO K 8 x0) fun _ => b1 (gR K x0 7) fun r15 => b1 (cO K 10 v7) fun _ => b1 (cO K 11 r15) fun _ => b1 (f_Jx4a65c_get_915e3 I K r15 (I v7 4)) fun v21 => b1 (cO K 9 v21) fun _ => b1 (cO K 9 v21) fun _ => b1 (cO K 8 x0) fun _ => b1 (cO K 8 x0) fun _ => b1 (nz (I x0 0)) fun _ => if (I v21 1) = ((I x0 1) - (I x0 1) / (I x0 0) * (I x0 0)) then (b1 (cO K 9 v21) fun _ => b1 (cO K 10 v7) fun _ => if (I v7 1) ≤ (I v21 2) then (some (0)) else (some (3))) else (some (2))) else (some (1))
theorem c_X10_whyGrant (d : Nat) {K : Kt} {I : Mem} {x0 : Nat} {x1 : Int32} {v : Int32} (h : f_X10_whyGrant I K x0 x1 = some v) : Ct (mX10_whyGrant (d + 3)) cX10_whyGrant 0 0 [.ref x0, .int x1] I K (Ro (.inl (some (.int v))) I K) := by
  refine Ct.of rfl pn_X10 (catR (catI cat0)) (Nat.le_of_ble_eq_true rfl) (show X (mX10_whyGrant (d + 3)) cX10_whyGrant 0 0 I K 0 [.ref x0, .int x1, .retAddr 0, .retAddr 0] [] (Ro (.inl (some (.int v))) I K) from ?_)
  unfold f_X10_whyGrant at h
  refine x_aloadn dX10_whyGrant_0 rfl ?_
  obtain ⟨u1, hq2, h⟩ := b1_s h
  obtain ⟨r3, hq4, h⟩ := b1_s h
  refine x_getR fs_X10_32 (cO_s hq2).1 (cO_s hq2).2 hq4 dX10_whyGrant_1 ?_
  refine x_iloadn dX10_whyGrant_4 rfl ?_
  obtain ⟨u5, hq6, h⟩ := b1_s h
  obtain ⟨v7, hq8, h⟩ := b1_s h
  have hq := c_Jx4a65c_get_915e3 d hq8
  refine X.c0 (z_Vcall [.int x1] [] (cs_X10_49 _) (ci := 11) rfl (cO_s hq6) (dep (show d + 0 + 2 + 1 ≤ (d + 3) from by omega) (Nat.le_of_ble_eq_true rfl)) dX10_whyGrant_5 rfl rfl (Nat.le_of_ble_eq_true rfl) hq ?_)
  obtain ⟨u9, hq10, h⟩ := b1_s h
  refine x_castC (ci := 10) rfl (show Cond.classLink RX10 69 "WishMarketLaw$Wish" ∈ wsG from inT6 193 rfl rfl) (cO_s hq10) dX10_whyGrant_8 ?_
  refine x_astoren dX10_whyGrant_11 (Nat.le_of_ble_eq_true rfl) rfl rfl ?_
  refine x_aloadn dX10_whyGrant_12 rfl ?_
  obtain ⟨u11, hq12, h⟩ := b1_s h
  refine x_getIN fn_X10_74 (cO_s hq12).1 (cO_s hq12).2 dX10_whyGrant_13 ?_
  refine x_if_ge 21 dX10_whyGrant_16 rfl (fun hc => ?_) (fun hc => ?_)
  · have h := ifT hc h
    refine x_aloadn dX10_whyGrant_21 rfl ?_
    obtain ⟨u13, hq14, h⟩ := b1_s h
    obtain ⟨r15, hq16, h⟩ := b1_s h
    refine x_getR fs_X10_25 (cO_s hq14).1 (cO_s hq14).2 hq16 dX10_whyGrant_22 ?_
    refine x_aloadn dX10_whyGrant_25 rfl ?_
    obtain ⟨u17, hq18, h⟩ := b1_s h
    refine x_getIN fn_X10_74 (cO_s hq18).1 (cO_s hq18).2 dX10_whyGrant_26 ?_
    obtain ⟨u19, hq20, h⟩ := b1_s h
    obtain ⟨v21, hq22, h⟩ := b1_s h
    have hq := c_Jx4a65c_get_915e3 d hq22
    refine X.c0 (z_Vcall [.int (I v7 4)] [] (cs_X10_49 _) (ci := 11) rfl (cO_s hq20) (dep (show d + 0 + 2 + 1 ≤ (d + 3) from by omega) (Nat.le_of_ble_eq_true rfl)) dX10_whyGrant_29 rfl rfl (Nat.le_of_ble_eq_true rfl) hq ?_)
    obtain ⟨u23, hq24, h⟩ := b1_s h
    refine x_castC (ci := 9) rfl (show Cond.classLink RX10 53 "WishMarketLaw$Person" ∈ wsG from inT7 124 rfl rfl) (cO_s hq24) dX10_whyGrant_32 ?_
    refine x_astoren dX10_whyGrant_35 (Nat.le_of_ble_eq_true rfl) rfl rfl ?_
    refine x_aloadn dX10_whyGrant_36 rfl ?_
    obtain ⟨u25, hq26, h⟩ := b1_s h
    refine x_getIN fn_X10_116 (cO_s hq26).1 (cO_s hq26).2 dX10_whyGrant_37 ?_
    refine x_aloadn dX10_whyGrant_40 rfl ?_
    obtain ⟨u27, hq28, h⟩ := b1_s h
    refine x_getI fs_X10_39 (cO_s hq28).1 (cO_s hq28).2 dX10_whyGrant_41 ?_
    refine x_aloadn dX10_whyGrant_44 rfl ?_
    obtain ⟨u29, hq30, h⟩ := b1_s h
    refine x_getI fs_X10_36 (cO_s hq30).1 (cO_s hq30).2 dX10_whyGrant_45 ?_
    obtain ⟨u31, hq32, h⟩ := b1_s h
    refine x_irem dX10_whyGrant_48 (nz_s hq32) ?_
    refine x_icmp_eq 56 dX10_whyGrant_49 rfl (fun hc => ?_) (fun hc => ?_)
    · have h := ifT hc h
      refine x_aloadn dX10_whyGrant_56 rfl ?_
      obtain ⟨u33, hq34, h⟩ := b1_s h
      refine x_getIN fn_X10_119 (cO_s hq34).1 (cO_s hq34).2 dX10_whyGrant_57 ?_
      refine x_aloadn dX10_whyGrant_60 rfl ?_
      obtain ⟨u35, hq36, h⟩ := b1_s h
      refine x_getIN fn_X10_122 (cO_s hq36).1 (cO_s hq36).2 dX10_whyGrant_61 ?_
      refine x_icmp_ge 71 dX10_whyGrant_64 rfl (fun hc => ?_) (fun hc => ?_)
      · have h := ifT hc h
        refine x_iconst 0 dX10_whyGrant_71 rfl ?_
        cases h
        exact x_iret rfl dX10_whyGrant_72 ⟨rfl, rfl, rfl⟩
      have h := ifF hc h
      refine x_iconst 3 dX10_whyGrant_67 rfl ?_
      refine x_goto 72 dX10_whyGrant_68 rfl ?_
      cases h
      exact x_iret rfl dX10_whyGrant_72 ⟨rfl, rfl, rfl⟩
    have h := ifF hc h
    refine x_iconst 2 dX10_whyGrant_52 rfl ?_
    refine x_goto 72 dX10_whyGrant_53 rfl ?_
    cases h
    exact x_iret rfl dX10_whyGrant_72 ⟨rfl, rfl, rfl⟩
  have h := ifF hc h
  refine x_iconst 1 dX10_whyGrant_19 rfl ?_
  cases h
  exact x_iret rfl dX10_whyGrant_20 ⟨rfl, rfl, rfl⟩
noncomputable def f_X12_place (I : Mem) (K : Kt) (x0 : Nat) (x1 : Int32) (x2 : Int32) : Option (Mem) := b1 (cO K 10 x0) fun _ => b1 (pu I x0 3 x1) fun I3 => b1 (cO K 10 x0) fun _ => b1 (pu I3 x0 4 x2) fun I7 => b1 (cO K 10 x0) fun _ => b1 (pu I7 x0 5 (-1)) fun I11 => b1 (cO K 10 x0) fun _ => b1 (pu I11 x0 6 (-1)) fun I15 => b1 (cO K 10 x0) fun _ => b1 (pu I15 x0 7 (-1)) fun I19 => some (I19)
theorem c_X12_place (d : Nat) {K : Kt} {I : Mem} {x0 : Nat} {x1 : Int32} {x2 : Int32} {I9 : Mem} (h : f_X12_place I K x0 x1 x2 = some I9) : Ct (mX12_place d) cX12_place 0 0 [.ref x0, .int x1, .int x2] I K (Ro (.inl none) I9 K) := by
  refine Ct.of rfl pn_X12 (catR (catI (catI cat0))) (Nat.le_of_ble_eq_true rfl) (show X (mX12_place d) cX12_place 0 0 I K 0 [.ref x0, .int x1, .int x2] [] (Ro (.inl none) I9 K) from ?_)
  unfold f_X12_place at h
  refine x_aloadn dX12_place_0 rfl ?_
  refine x_iloadn dX12_place_1 rfl ?_
  obtain ⟨u1, hq2, h⟩ := b1_s h
  obtain ⟨I3, hq4, h⟩ := b1_s h
  refine z_putA fs_X12_7 (cO_s hq2) ⟨rfl, rfl⟩ hq4 dX12_place_2 ?_
  refine x_aloadn dX12_place_5 rfl ?_
  refine x_iloadn dX12_place_6 rfl ?_
  obtain ⟨u5, hq6, h⟩ := b1_s h
  obtain ⟨I7, hq8, h⟩ := b1_s h
  refine z_putA fs_X12_13 (cO_s hq6) ⟨rfl, rfl⟩ hq8 dX12_place_7 ?_
  refine x_aloadn dX12_place_10 rfl ?_
  refine x_iconst (-1) dX12_place_11 rfl ?_
  obtain ⟨u9, hq10, h⟩ := b1_s h
  obtain ⟨I11, hq12, h⟩ := b1_s h
  refine z_putA fs_X12_16 (cO_s hq10) ⟨rfl, rfl⟩ hq12 dX12_place_12 ?_
  refine x_aloadn dX12_place_15 rfl ?_
  refine x_iconst (-1) dX12_place_16 rfl ?_
  obtain ⟨u13, hq14, h⟩ := b1_s h
  obtain ⟨I15, hq16, h⟩ := b1_s h
  refine z_putA fs_X12_19 (cO_s hq14) ⟨rfl, rfl⟩ hq16 dX12_place_17 ?_
  refine x_aloadn dX12_place_20 rfl ?_
  refine x_iconst (-1) dX12_place_21 rfl ?_
  obtain ⟨u17, hq18, h⟩ := b1_s h
  obtain ⟨I19, hq20, h⟩ := b1_s h
  refine z_putA fs_X12_22 (cO_s hq18) ⟨rfl, rfl⟩ hq20 dX12_place_22 ?_
  cases h
  exact x_vret rfl dX12_place_25 ⟨rfl, rfl, rfl⟩
noncomputable def f_X10_take (I : Mem) (K : Kt) (x0 : Nat) (x1 : Int32) (x2 : Int32) (x3 : Int32) : Option (Mem) := b1 (cO K 8 x0) fun _ => b1 (gR K x0 9) fun r3 => b1 (cO K 11 r3) fun _ => b1 (f_Jx4a65c_get_915e3 I K r3 x2) fun v7 => b1 (cO K 10 v7) fun _ => b1 (cO K 10 v7) fun _ => b1 (cO K 8 x0) fun _ => b1 (gR K x0 7) fun r15 => b1 (cO K 11 r15) fun _ => b1 (f_Jx4a65c_get_915e3 I K r15 x1) fun v19 => b1 (cO K 9 v19) fun _ => b1 (cO K 9 v19) fun _ => b1 (cO K 9 v19) fun _ => b1 (pu I v19 0 ((I v19 0) - x3)) fun I27 => b1 (cO K 8 x0) fun _ => b1 (gR K x0 8) fun r31 => b1 (cO K 11 r31) fun _ => b1 (f_Jx4a65c_get_915e3 I27 K r31 (I v7 3)) fun v35 => b1 (cA K 100 v35) fun _ => b1 (cA K 100 v35) fun m40 => b1 (ix 1 m40) fun j39 => b1 (cA K 100 v35) fun m44 => b1 (ix 1 m44) fun j43 => b1 (pu I27 v35 j43 ((I27 v35 j39) + x3)) fun I47 => b1 (cO K 10 v7) fun _ => b1 (f_X12_place I47 K v7 (-1) x1) fun I51 => b1 (cO K 8 x0) fun _ => b1 (cO K 10 v7) fun _ => b1 (pu I51 v7 5 (I51 x0 1)) fun I57 => b1 (cO K 10 v7) fun _ => b1 (pu I57 v7 6 x3) fun I61 => b1 (cO K 10 v7) fun _ => b1 (pu I61 v7 7 (I v7 3)) fun I65 => some (I65)
theorem c_X10_take (d : Nat) {K : Kt} {I : Mem} {x0 : Nat} {x1 : Int32} {x2 : Int32} {x3 : Int32} {I9 : Mem} (h : f_X10_take I K x0 x1 x2 x3 = some I9) : Ct (mX10_take (d + 3)) cX10_take 0 0 [.ref x0, .int x1, .int x2, .int x3] I K (Ro (.inl none) I9 K) := by
  refine Ct.of rfl pn_X10 (catR (catI (catI (catI cat0)))) (Nat.le_of_ble_eq_true rfl) (show X (mX10_take (d + 3)) cX10_take 0 0 I K 0 [.ref x0, .int x1, .int x2, .int x3, .retAddr 0, .retAddr 0] [] (Ro (.inl none) I9 K) from ?_)
  unfold f_X10_take at h
  refine x_aloadn dX10_take_0 rfl ?_
  obtain ⟨u1, hq2, h⟩ := b1_s h
  obtain ⟨r3, hq4, h⟩ := b1_s h
  refine x_getR fs_X10_32 (cO_s hq2).1 (cO_s hq2).2 hq4 dX10_take_1 ?_
  refine x_iloadn dX10_take_4 rfl ?_
  obtain ⟨u5, hq6, h⟩ := b1_s h
  obtain ⟨v7, hq8, h⟩ := b1_s h
  have hq := c_Jx4a65c_get_915e3 d hq8
  refine X.c0 (z_Vcall [.int x2] [] (cs_X10_49 _) (ci := 11) rfl (cO_s hq6) (dep (show d + 0 + 2 + 1 ≤ (d + 3) from by omega) (Nat.le_of_ble_eq_true rfl)) dX10_take_5 rfl rfl (Nat.le_of_ble_eq_true rfl) hq ?_)
  obtain ⟨u9, hq10, h⟩ := b1_s h
  refine x_castC (ci := 10) rfl (show Cond.classLink RX10 69 "WishMarketLaw$Wish" ∈ wsG from inT6 193 rfl rfl) (cO_s hq10) dX10_take_8 ?_
  refine x_astore dX10_take_11 (Nat.le_of_ble_eq_true rfl) rfl rfl ?_
  refine x_aload dX10_take_13 rfl ?_
  obtain ⟨u11, hq12, h⟩ := b1_s h
  refine x_getIN fn_X10_77 (cO_s hq12).1 (cO_s hq12).2 dX10_take_15 ?_
  refine x_istore dX10_take_18 (Nat.le_of_ble_eq_true rfl) rfl rfl ?_
  refine x_aloadn dX10_take_20 rfl ?_
  obtain ⟨u13, hq14, h⟩ := b1_s h
  obtain ⟨r15, hq16, h⟩ := b1_s h
  refine x_getR fs_X10_25 (cO_s hq14).1 (cO_s hq14).2 hq16 dX10_take_21 ?_
  refine x_iloadn dX10_take_24 rfl ?_
  obtain ⟨u17, hq18, h⟩ := b1_s h
  obtain ⟨v19, hq20, h⟩ := b1_s h
  have hq := c_Jx4a65c_get_915e3 d hq20
  refine X.c0 (z_Vcall [.int x1] [] (cs_X10_49 _) (ci := 11) rfl (cO_s hq18) (dep (show d + 0 + 2 + 1 ≤ (d + 3) from by omega) (Nat.le_of_ble_eq_true rfl)) dX10_take_25 rfl rfl (Nat.le_of_ble_eq_true rfl) hq ?_)
  obtain ⟨u21, hq22, h⟩ := b1_s h
  refine x_castC (ci := 9) rfl (show Cond.classLink RX10 53 "WishMarketLaw$Person" ∈ wsG from inT7 124 rfl rfl) (cO_s hq22) dX10_take_28 ?_
  refine x_dup dX10_take_31 rfl ?_
  obtain ⟨u23, hq24, h⟩ := b1_s h
  refine x_getIN fn_X10_93 (cO_s hq24).1 (cO_s hq24).2 dX10_take_32 ?_
  refine x_iloadn dX10_take_35 rfl ?_
  refine x_isub dX10_take_36 ?_
  obtain ⟨u25, hq26, h⟩ := b1_s h
  obtain ⟨I27, hq28, h⟩ := b1_s h
  refine z_putAN fn_X10_93 (cO_s hq26) ⟨rfl, rfl⟩ hq28 dX10_take_37 ?_
  refine x_aloadn dX10_take_40 rfl ?_
  obtain ⟨u29, hq30, h⟩ := b1_s h
  obtain ⟨r31, hq32, h⟩ := b1_s h
  refine x_getR fs_X10_29 (cO_s hq30).1 (cO_s hq30).2 hq32 dX10_take_41 ?_
  refine x_iload dX10_take_44 rfl ?_
  obtain ⟨u33, hq34, h⟩ := b1_s h
  obtain ⟨v35, hq36, h⟩ := b1_s h
  have hq := c_Jx4a65c_get_915e3 d hq36
  refine X.c0 (z_Vcall [.int (I v7 3)] [] (cs_X10_49 _) (ci := 11) rfl (cO_s hq34) (dep (show d + 0 + 2 + 1 ≤ (d + 3) from by omega) (Nat.le_of_ble_eq_true rfl)) dX10_take_46 rfl rfl (Nat.le_of_ble_eq_true rfl) hq ?_)
  obtain ⟨u37, hq38, h⟩ := b1_s h
  refine x_castI (show Cond.classLink RX10 63 "[I" ∈ wsG from inT7 161 rfl rfl) (cA_s hq38) dX10_take_49 ?_
  refine x_iconst 1 dX10_take_52 rfl ?_
  refine x_dup2 dX10_take_53 rfl rfl ?_
  obtain ⟨m40, hq41, h⟩ := b1_s h
  obtain ⟨j39, hq42, h⟩ := b1_s h
  refine z_iald (cA_s hq41) hq42 dX10_take_54 ?_
  refine x_iloadn dX10_take_55 rfl ?_
  refine x_iadd dX10_take_56 ?_
  obtain ⟨m44, hq45, h⟩ := b1_s h
  obtain ⟨j43, hq46, h⟩ := b1_s h
  obtain ⟨I47, hq48, h⟩ := b1_s h
  refine z_iast (cA_s hq45) hq46 hq48 dX10_take_57 ?_
  refine x_aload dX10_take_58 rfl ?_
  refine x_iconst (-1) dX10_take_60 rfl ?_
  refine x_iloadn dX10_take_61 rfl ?_
  obtain ⟨u49, hq50, h⟩ := b1_s h
  obtain ⟨I51, hq52, h⟩ := b1_s h
  have hq := c_X12_place (d + 2) hq52
  refine X.c0 (z_Vcall [.int (-1), .int x1] [] (cs_X10_125 _) (ci := 10) rfl (cO_s hq50) (dep (show d + 2 + 0 + 1 ≤ (d + 3) from by omega) (Nat.le_of_ble_eq_true rfl)) dX10_take_62 rfl rfl (Nat.le_of_ble_eq_true rfl) hq ?_)
  refine x_aload dX10_take_65 rfl ?_
  refine x_aloadn dX10_take_67 rfl ?_
  obtain ⟨u53, hq54, h⟩ := b1_s h
  refine x_getI fs_X10_39 (cO_s hq54).1 (cO_s hq54).2 dX10_take_68 ?_
  obtain ⟨u55, hq56, h⟩ := b1_s h
  obtain ⟨I57, hq58, h⟩ := b1_s h
  refine z_putAN fn_X10_109 (cO_s hq56) ⟨rfl, rfl⟩ hq58 dX10_take_71 ?_
  refine x_aload dX10_take_74 rfl ?_
  refine x_iloadn dX10_take_76 rfl ?_
  obtain ⟨u59, hq60, h⟩ := b1_s h
  obtain ⟨I61, hq62, h⟩ := b1_s h
  refine z_putAN fn_X10_90 (cO_s hq60) ⟨rfl, rfl⟩ hq62 dX10_take_77 ?_
  refine x_aload dX10_take_80 rfl ?_
  refine x_iload dX10_take_82 rfl ?_
  obtain ⟨u63, hq64, h⟩ := b1_s h
  obtain ⟨I65, hq66, h⟩ := b1_s h
  refine z_putAN fn_X10_110 (cO_s hq64) ⟨rfl, rfl⟩ hq66 dX10_take_84 ?_
  cases h
  exact x_vret rfl dX10_take_87 ⟨rfl, rfl, rfl⟩
noncomputable def f_X10_buy (I : Mem) (K : Kt) (x0 : Nat) (x1 : Int32) (x2 : Int32) : Option (Int32 × Mem) := b1 (cO K 8 x0) fun _ => b1 (f_X10_price I K x0 x2) fun v3 => b1 (cO K 8 x0) fun _ => b1 (gR K x0 8) fun r7 => b1 (cO K 8 x0) fun _ => b1 (gR K x0 9) fun r11 => b1 (cO K 11 r11) fun _ => b1 (f_Jx4a65c_get_915e3 I K r11 x2) fun v15 => b1 (cO K 10 v15) fun _ => b1 (cO K 10 v15) fun _ => b1 (cO K 11 r7) fun _ => b1 (f_Jx4a65c_get_915e3 I K r7 (I v15 3)) fun v23 => b1 (cA K 100 v23) fun _ => b1 (cO K 8 x0) fun _ => b1 (f_X10_take I K x0 x1 x2 v3) fun I29 => b1 (cA K 100 v23) fun m32 => b1 (ix 2 m32) fun j31 => b1 (cA K 100 v23) fun m36 => b1 (ix 2 m36) fun j35 => b1 (pu I29 v23 j35 (if ((I29 v23 j31) + 1) < 50 then ((I29 v23 j31) + 1) else 50)) fun I39 => some (v3, I39)
theorem c_X10_buy (d : Nat) {K : Kt} {I : Mem} {x0 : Nat} {x1 : Int32} {x2 : Int32} {v : Int32} {I9 : Mem} (h : f_X10_buy I K x0 x1 x2 = some (v, I9)) : Ct (mX10_buy (d + 4)) cX10_buy 0 0 [.ref x0, .int x1, .int x2] I K (Ro (.inl (some (.int v))) I9 K) := by
  refine Ct.of rfl pn_X10 (catR (catI (catI cat0))) (Nat.le_of_ble_eq_true rfl) (show X (mX10_buy (d + 4)) cX10_buy 0 0 I K 0 [.ref x0, .int x1, .int x2, .retAddr 0, .retAddr 0] [] (Ro (.inl (some (.int v))) I9 K) from ?_)
  unfold f_X10_buy at h
  refine x_aloadn dX10_buy_0 rfl ?_
  refine x_iloadn dX10_buy_1 rfl ?_
  obtain ⟨u1, hq2, h⟩ := b1_s h
  obtain ⟨v3, hq4, h⟩ := b1_s h
  have hq := c_X10_price d hq4
  refine X.c0 (z_Vcall [.int x2] [] (cs_X10_96 _) (ci := 8) rfl (cO_s hq2) (dep (show d + 0 + 3 + 1 ≤ (d + 4) from by omega) (Nat.le_of_ble_eq_true rfl)) dX10_buy_2 rfl rfl (Nat.le_of_ble_eq_true rfl) hq ?_)
  refine x_istoren dX10_buy_5 (Nat.le_of_ble_eq_true rfl) rfl rfl ?_
  refine x_aloadn dX10_buy_6 rfl ?_
  obtain ⟨u5, hq6, h⟩ := b1_s h
  obtain ⟨r7, hq8, h⟩ := b1_s h
  refine x_getR fs_X10_29 (cO_s hq6).1 (cO_s hq6).2 hq8 dX10_buy_7 ?_
  refine x_aloadn dX10_buy_10 rfl ?_
  obtain ⟨u9, hq10, h⟩ := b1_s h
  obtain ⟨r11, hq12, h⟩ := b1_s h
  refine x_getR fs_X10_32 (cO_s hq10).1 (cO_s hq10).2 hq12 dX10_buy_11 ?_
  refine x_iloadn dX10_buy_14 rfl ?_
  obtain ⟨u13, hq14, h⟩ := b1_s h
  obtain ⟨v15, hq16, h⟩ := b1_s h
  have hq := c_Jx4a65c_get_915e3 (d + 1) hq16
  refine X.c0 (z_Vcall [.int x2] [.ref r7] (cs_X10_49 _) (ci := 11) rfl (cO_s hq14) (dep (show d + 1 + 2 + 1 ≤ (d + 4) from by omega) (Nat.le_of_ble_eq_true rfl)) dX10_buy_15 rfl rfl (Nat.le_of_ble_eq_true rfl) hq ?_)
  obtain ⟨u17, hq18, h⟩ := b1_s h
  refine x_castC (ci := 10) rfl (show Cond.classLink RX10 69 "WishMarketLaw$Wish" ∈ wsG from inT6 193 rfl rfl) (cO_s hq18) dX10_buy_18 ?_
  obtain ⟨u19, hq20, h⟩ := b1_s h
  refine x_getIN fn_X10_77 (cO_s hq20).1 (cO_s hq20).2 dX10_buy_21 ?_
  obtain ⟨u21, hq22, h⟩ := b1_s h
  obtain ⟨v23, hq24, h⟩ := b1_s h
  have hq := c_Jx4a65c_get_915e3 (d + 1) hq24
  refine X.c0 (z_Vcall [.int (I v15 3)] [] (cs_X10_49 _) (ci := 11) rfl (cO_s hq22) (dep (show d + 1 + 2 + 1 ≤ (d + 4) from by omega) (Nat.le_of_ble_eq_true rfl)) dX10_buy_24 rfl rfl (Nat.le_of_ble_eq_true rfl) hq ?_)
  obtain ⟨u25, hq26, h⟩ := b1_s h
  refine x_castI (show Cond.classLink RX10 63 "[I" ∈ wsG from inT7 161 rfl rfl) (cA_s hq26) dX10_buy_27 ?_
  refine x_astore dX10_buy_30 (Nat.le_of_ble_eq_true rfl) rfl rfl ?_
  refine x_aloadn dX10_buy_32 rfl ?_
  refine x_iloadn dX10_buy_33 rfl ?_
  refine x_iloadn dX10_buy_34 rfl ?_
  refine x_iloadn dX10_buy_35 rfl ?_
  obtain ⟨u27, hq28, h⟩ := b1_s h
  obtain ⟨I29, hq30, h⟩ := b1_s h
  have hq := c_X10_take d hq30
  refine X.c0 (z_Vcall [.int x1, .int x2, .int v3] [] (cs_X10_129 _) (ci := 8) rfl (cO_s hq28) (dep (show d + 0 + 3 + 1 ≤ (d + 4) from by omega) (Nat.le_of_ble_eq_true rfl)) dX10_buy_36 rfl rfl (Nat.le_of_ble_eq_true rfl) hq ?_)
  refine x_aload dX10_buy_39 rfl ?_
  refine x_iconst 2 dX10_buy_41 rfl ?_
  refine x_bipush 50 dX10_buy_42 (by decide) ?_
  refine x_aload dX10_buy_44 rfl ?_
  refine x_iconst 2 dX10_buy_46 rfl ?_
  obtain ⟨m32, hq33, h⟩ := b1_s h
  obtain ⟨j31, hq34, h⟩ := b1_s h
  refine z_iald (cA_s hq33) hq34 dX10_buy_47 ?_
  refine x_iconst 1 dX10_buy_48 rfl ?_
  refine x_iadd dX10_buy_49 ?_
  refine x_mmin ms_X10_133 (Nat.le_of_ble_eq_true rfl) (by show 1 ≤ (d + 4); omega) dX10_buy_50 ?_
  obtain ⟨m36, hq37, h⟩ := b1_s h
  obtain ⟨j35, hq38, h⟩ := b1_s h
  obtain ⟨I39, hq40, h⟩ := b1_s h
  refine z_iast (cA_s hq37) hq38 hq40 dX10_buy_53 ?_
  refine x_iloadn dX10_buy_54 rfl ?_
  cases h
  exact x_iret rfl dX10_buy_55 ⟨rfl, rfl, rfl⟩
noncomputable def f_X10_give (I : Mem) (K : Kt) (x0 : Nat) (x1 : Int32) (x2 : Int32) (x3 : Int32) : Option (Int32 × Mem) := b1 (cO K 8 x0) fun _ => b1 (gR K x0 9) fun r3 => b1 (cO K 11 r3) fun _ => b1 (f_Jx4a65c_get_915e3 I K r3 x1) fun v7 => b1 (cO K 10 v7) fun _ => b1 (cO K 8 x0) fun _ => b1 (gR K x0 7) fun r13 => b1 (cO K 10 v7) fun _ => b1 (cO K 11 r13) fun _ => b1 (f_Jx4a65c_get_915e3 I K r13 (I v7 4)) fun v19 => b1 (cO K 9 v19) fun _ => b1 (cO K 9 v19) fun _ => b1 (cO K 9 v19) fun _ => b1 (pu I v19 0 ((I v19 0) + x3)) fun I27 => b1 (cO K 8 x0) fun _ => b1 (gR K x0 8) fun r31 => b1 (cO K 11 r31) fun _ => b1 (f_Jx4a65c_get_915e3 I27 K r31 x2) fun v35 => b1 (cA K 100 v35) fun _ => b1 (cA K 100 v35) fun m40 => b1 (ix 1 m40) fun j39 => b1 (cA K 100 v35) fun m44 => b1 (ix 1 m44) fun j43 => b1 (pu I27 v35 j43 ((I27 v35 j39) - x3)) fun I47 => b1 (cO K 10 v7) fun _ => b1 (f_X12_place I47 K v7 x2 (-1)) fun I51 => some (x3, I51)
theorem c_X10_give (d : Nat) {K : Kt} {I : Mem} {x0 : Nat} {x1 : Int32} {x2 : Int32} {x3 : Int32} {v : Int32} {I9 : Mem} (h : f_X10_give I K x0 x1 x2 x3 = some (v, I9)) : Ct (mX10_give (d + 3)) cX10_give 0 0 [.ref x0, .int x1, .int x2, .int x3] I K (Ro (.inl (some (.int v))) I9 K) := by
  refine Ct.of rfl pn_X10 (catR (catI (catI (catI cat0)))) (Nat.le_of_ble_eq_true rfl) (show X (mX10_give (d + 3)) cX10_give 0 0 I K 0 [.ref x0, .int x1, .int x2, .int x3, .retAddr 0] [] (Ro (.inl (some (.int v))) I9 K) from ?_)
  unfold f_X10_give at h
  refine x_aloadn dX10_give_0 rfl ?_
  obtain ⟨u1, hq2, h⟩ := b1_s h
  obtain ⟨r3, hq4, h⟩ := b1_s h
  refine x_getR fs_X10_32 (cO_s hq2).1 (cO_s hq2).2 hq4 dX10_give_1 ?_
  refine x_iloadn dX10_give_4 rfl ?_
  obtain ⟨u5, hq6, h⟩ := b1_s h
  obtain ⟨v7, hq8, h⟩ := b1_s h
  have hq := c_Jx4a65c_get_915e3 d hq8
  refine X.c0 (z_Vcall [.int x1] [] (cs_X10_49 _) (ci := 11) rfl (cO_s hq6) (dep (show d + 0 + 2 + 1 ≤ (d + 3) from by omega) (Nat.le_of_ble_eq_true rfl)) dX10_give_5 rfl rfl (Nat.le_of_ble_eq_true rfl) hq ?_)
  obtain ⟨u9, hq10, h⟩ := b1_s h
  refine x_castC (ci := 10) rfl (show Cond.classLink RX10 69 "WishMarketLaw$Wish" ∈ wsG from inT6 193 rfl rfl) (cO_s hq10) dX10_give_8 ?_
  refine x_astore dX10_give_11 (Nat.le_of_ble_eq_true rfl) rfl rfl ?_
  refine x_aloadn dX10_give_13 rfl ?_
  obtain ⟨u11, hq12, h⟩ := b1_s h
  obtain ⟨r13, hq14, h⟩ := b1_s h
  refine x_getR fs_X10_25 (cO_s hq12).1 (cO_s hq12).2 hq14 dX10_give_14 ?_
  refine x_aload dX10_give_17 rfl ?_
  obtain ⟨u15, hq16, h⟩ := b1_s h
  refine x_getIN fn_X10_74 (cO_s hq16).1 (cO_s hq16).2 dX10_give_19 ?_
  obtain ⟨u17, hq18, h⟩ := b1_s h
  obtain ⟨v19, hq20, h⟩ := b1_s h
  have hq := c_Jx4a65c_get_915e3 d hq20
  refine X.c0 (z_Vcall [.int (I v7 4)] [] (cs_X10_49 _) (ci := 11) rfl (cO_s hq18) (dep (show d + 0 + 2 + 1 ≤ (d + 3) from by omega) (Nat.le_of_ble_eq_true rfl)) dX10_give_22 rfl rfl (Nat.le_of_ble_eq_true rfl) hq ?_)
  obtain ⟨u21, hq22, h⟩ := b1_s h
  refine x_castC (ci := 9) rfl (show Cond.classLink RX10 53 "WishMarketLaw$Person" ∈ wsG from inT7 124 rfl rfl) (cO_s hq22) dX10_give_25 ?_
  refine x_dup dX10_give_28 rfl ?_
  obtain ⟨u23, hq24, h⟩ := b1_s h
  refine x_getIN fn_X10_93 (cO_s hq24).1 (cO_s hq24).2 dX10_give_29 ?_
  refine x_iloadn dX10_give_32 rfl ?_
  refine x_iadd dX10_give_33 ?_
  obtain ⟨u25, hq26, h⟩ := b1_s h
  obtain ⟨I27, hq28, h⟩ := b1_s h
  refine z_putAN fn_X10_93 (cO_s hq26) ⟨rfl, rfl⟩ hq28 dX10_give_34 ?_
  refine x_aloadn dX10_give_37 rfl ?_
  obtain ⟨u29, hq30, h⟩ := b1_s h
  obtain ⟨r31, hq32, h⟩ := b1_s h
  refine x_getR fs_X10_29 (cO_s hq30).1 (cO_s hq30).2 hq32 dX10_give_38 ?_
  refine x_iloadn dX10_give_41 rfl ?_
  obtain ⟨u33, hq34, h⟩ := b1_s h
  obtain ⟨v35, hq36, h⟩ := b1_s h
  have hq := c_Jx4a65c_get_915e3 d hq36
  refine X.c0 (z_Vcall [.int x2] [] (cs_X10_49 _) (ci := 11) rfl (cO_s hq34) (dep (show d + 0 + 2 + 1 ≤ (d + 3) from by omega) (Nat.le_of_ble_eq_true rfl)) dX10_give_42 rfl rfl (Nat.le_of_ble_eq_true rfl) hq ?_)
  obtain ⟨u37, hq38, h⟩ := b1_s h
  refine x_castI (show Cond.classLink RX10 63 "[I" ∈ wsG from inT7 161 rfl rfl) (cA_s hq38) dX10_give_45 ?_
  refine x_iconst 1 dX10_give_48 rfl ?_
  refine x_dup2 dX10_give_49 rfl rfl ?_
  obtain ⟨m40, hq41, h⟩ := b1_s h
  obtain ⟨j39, hq42, h⟩ := b1_s h
  refine z_iald (cA_s hq41) hq42 dX10_give_50 ?_
  refine x_iloadn dX10_give_51 rfl ?_
  refine x_isub dX10_give_52 ?_
  obtain ⟨m44, hq45, h⟩ := b1_s h
  obtain ⟨j43, hq46, h⟩ := b1_s h
  obtain ⟨I47, hq48, h⟩ := b1_s h
  refine z_iast (cA_s hq45) hq46 hq48 dX10_give_53 ?_
  refine x_aload dX10_give_54 rfl ?_
  refine x_iloadn dX10_give_56 rfl ?_
  refine x_iconst (-1) dX10_give_57 rfl ?_
  obtain ⟨u49, hq50, h⟩ := b1_s h
  obtain ⟨I51, hq52, h⟩ := b1_s h
  have hq := c_X12_place (d + 2) hq52
  refine X.c0 (z_Vcall [.int x2, .int (-1)] [] (cs_X10_125 _) (ci := 10) rfl (cO_s hq50) (dep (show d + 2 + 0 + 1 ≤ (d + 3) from by omega) (Nat.le_of_ble_eq_true rfl)) dX10_give_58 rfl rfl (Nat.le_of_ble_eq_true rfl) hq ?_)
  refine x_iloadn dX10_give_61 rfl ?_
  cases h
  exact x_iret rfl dX10_give_62 ⟨rfl, rfl, rfl⟩
noncomputable def f_X10_sell (I : Mem) (K : Kt) (x0 : Nat) (x1 : Int32) (x2 : Int32) : Option (Int32 × Mem) := b1 (cO K 8 x0) fun _ => b1 (f_X10_offer I K x0 x1 x2) fun v3 => b1 (cO K 8 x0) fun _ => b2 (f_X10_give I K x0 x1 x2 v3) fun v7 I8 => some (v7, I8)
theorem c_X10_sell (d : Nat) {K : Kt} {I : Mem} {x0 : Nat} {x1 : Int32} {x2 : Int32} {v : Int32} {I9 : Mem} (h : f_X10_sell I K x0 x1 x2 = some (v, I9)) : Ct (mX10_sell (d + 4)) cX10_sell 0 0 [.ref x0, .int x1, .int x2] I K (Ro (.inl (some (.int v))) I9 K) := by
  refine Ct.of rfl pn_X10 (catR (catI (catI cat0))) (Nat.le_of_ble_eq_true rfl) (show X (mX10_sell (d + 4)) cX10_sell 0 0 I K 0 [.ref x0, .int x1, .int x2] [] (Ro (.inl (some (.int v))) I9 K) from ?_)
  unfold f_X10_sell at h
  refine x_aloadn dX10_sell_0 rfl ?_
  refine x_iloadn dX10_sell_1 rfl ?_
  refine x_iloadn dX10_sell_2 rfl ?_
  refine x_aloadn dX10_sell_3 rfl ?_
  refine x_iloadn dX10_sell_4 rfl ?_
  refine x_iloadn dX10_sell_5 rfl ?_
  obtain ⟨u1, hq2, h⟩ := b1_s h
  obtain ⟨v3, hq4, h⟩ := b1_s h
  have hq := c_X10_offer d hq4
  refine X.c0 (z_Vcall [.int x1, .int x2] [.int x2, .int x1, .ref x0] (cs_X10_106 _) (ci := 8) rfl (cO_s hq2) (dep (show d + 0 + 3 + 1 ≤ (d + 4) from by omega) (Nat.le_of_ble_eq_true rfl)) dX10_sell_6 rfl rfl (Nat.le_of_ble_eq_true rfl) hq ?_)
  obtain ⟨u5, hq6, h⟩ := b1_s h
  obtain ⟨v7, I8, hq9, h⟩ := b2_s h
  have hq := c_X10_give d hq9
  refine X.c0 (z_Vcall [.int x1, .int x2, .int v3] [] (cs_X10_136 _) (ci := 8) rfl (cO_s hq6) (dep (show d + 0 + 3 + 1 ≤ (d + 4) from by omega) (Nat.le_of_ble_eq_true rfl)) dX10_sell_9 rfl rfl (Nat.le_of_ble_eq_true rfl) hq ?_)
  cases h
  exact x_iret rfl dX10_sell_12 ⟨rfl, rfl, rfl⟩
noncomputable def f_X12_value (I : Mem) (K : Kt) (x0 : Nat) : Option (Int32) := b1 (cO K 10 x0) fun _ => b1 (f_X12_left I K x0) fun v3 => some ((v3 / 10))
theorem c_X12_value (d : Nat) {K : Kt} {I : Mem} {x0 : Nat} {v : Int32} (h : f_X12_value I K x0 = some v) : Ct (mX12_value (d + 1)) cX12_value 0 0 [.ref x0] I K (Ro (.inl (some (.int v))) I K) := by
  refine Ct.of rfl pn_X12 (catR cat0) (Nat.le_of_ble_eq_true rfl) (show X (mX12_value (d + 1)) cX12_value 0 0 I K 0 [.ref x0] [] (Ro (.inl (some (.int v))) I K) from ?_)
  unfold f_X12_value at h
  refine x_aloadn dX12_value_0 rfl ?_
  obtain ⟨u1, hq2, h⟩ := b1_s h
  obtain ⟨v3, hq4, h⟩ := b1_s h
  have hq := c_X12_left d hq4
  refine X.c0 (z_Vcall [] [] (cs_X12_42 _) (ci := 10) rfl (cO_s hq2) (dep (show d + 0 + 0 + 1 ≤ (d + 1) from by omega) (Nat.le_of_ble_eq_true rfl)) dX12_value_1 rfl rfl (Nat.le_of_ble_eq_true rfl) hq ?_)
  refine x_bipush 10 dX12_value_4 (by decide) ?_
  refine x_idiv dX12_value_6 (by decide) ?_
  cases h
  exact x_iret rfl dX12_value_7 ⟨rfl, rfl, rfl⟩
noncomputable def f_X10_grant (I : Mem) (K : Kt) (x0 : Nat) (x1 : Int32) : Option (Int32 × Mem) := b1 (cO K 8 x0) fun _ => b1 (gR K x0 9) fun r3 => b1 (cO K 11 r3) fun _ => b1 (f_Jx4a65c_get_915e3 I K r3 x1) fun v7 => b1 (cO K 10 v7) fun _ => b1 (cO K 8 x0) fun _ => b1 (gR K x0 7) fun r13 => b1 (cO K 10 v7) fun _ => b1 (cO K 11 r13) fun _ => b1 (f_Jx4a65c_get_915e3 I K r13 (I v7 4)) fun v19 => b1 (cO K 9 v19) fun _ => b1 (cO K 9 v19) fun _ => b1 (cO K 10 v7) fun _ => b1 (f_X12_value I K v7) fun v27 => b1 (cO K 9 v19) fun _ => b1 (pu I v19 3 ((I v19 3) + v27)) fun I31 => b1 (cO K 10 v7) fun _ => b1 (f_X12_place I31 K v7 (-1) (-1)) fun I35 => b1 (cO K 10 v7) fun _ => b1 (cF .boolean 1) fun _ => b1 (pu I35 v7 8 1) fun I39 => b1 (cO K 9 v19) fun _ => some ((I39 v19 3), I39)
theorem c_X10_grant (d : Nat) {K : Kt} {I : Mem} {x0 : Nat} {x1 : Int32} {v : Int32} {I9 : Mem} (h : f_X10_grant I K x0 x1 = some (v, I9)) : Ct (mX10_grant (d + 3)) cX10_grant 0 0 [.ref x0, .int x1] I K (Ro (.inl (some (.int v))) I9 K) := by
  refine Ct.of rfl pn_X10 (catR (catI cat0)) (Nat.le_of_ble_eq_true rfl) (show X (mX10_grant (d + 3)) cX10_grant 0 0 I K 0 [.ref x0, .int x1, .retAddr 0, .retAddr 0] [] (Ro (.inl (some (.int v))) I9 K) from ?_)
  unfold f_X10_grant at h
  refine x_aloadn dX10_grant_0 rfl ?_
  obtain ⟨u1, hq2, h⟩ := b1_s h
  obtain ⟨r3, hq4, h⟩ := b1_s h
  refine x_getR fs_X10_32 (cO_s hq2).1 (cO_s hq2).2 hq4 dX10_grant_1 ?_
  refine x_iloadn dX10_grant_4 rfl ?_
  obtain ⟨u5, hq6, h⟩ := b1_s h
  obtain ⟨v7, hq8, h⟩ := b1_s h
  have hq := c_Jx4a65c_get_915e3 d hq8
  refine X.c0 (z_Vcall [.int x1] [] (cs_X10_49 _) (ci := 11) rfl (cO_s hq6) (dep (show d + 0 + 2 + 1 ≤ (d + 3) from by omega) (Nat.le_of_ble_eq_true rfl)) dX10_grant_5 rfl rfl (Nat.le_of_ble_eq_true rfl) hq ?_)
  obtain ⟨u9, hq10, h⟩ := b1_s h
  refine x_castC (ci := 10) rfl (show Cond.classLink RX10 69 "WishMarketLaw$Wish" ∈ wsG from inT6 193 rfl rfl) (cO_s hq10) dX10_grant_8 ?_
  refine x_astoren dX10_grant_11 (Nat.le_of_ble_eq_true rfl) rfl rfl ?_
  refine x_aloadn dX10_grant_12 rfl ?_
  obtain ⟨u11, hq12, h⟩ := b1_s h
  obtain ⟨r13, hq14, h⟩ := b1_s h
  refine x_getR fs_X10_25 (cO_s hq12).1 (cO_s hq12).2 hq14 dX10_grant_13 ?_
  refine x_aloadn dX10_grant_16 rfl ?_
  obtain ⟨u15, hq16, h⟩ := b1_s h
  refine x_getIN fn_X10_74 (cO_s hq16).1 (cO_s hq16).2 dX10_grant_17 ?_
  obtain ⟨u17, hq18, h⟩ := b1_s h
  obtain ⟨v19, hq20, h⟩ := b1_s h
  have hq := c_Jx4a65c_get_915e3 d hq20
  refine X.c0 (z_Vcall [.int (I v7 4)] [] (cs_X10_49 _) (ci := 11) rfl (cO_s hq18) (dep (show d + 0 + 2 + 1 ≤ (d + 3) from by omega) (Nat.le_of_ble_eq_true rfl)) dX10_grant_20 rfl rfl (Nat.le_of_ble_eq_true rfl) hq ?_)
  obtain ⟨u21, hq22, h⟩ := b1_s h
  refine x_castC (ci := 9) rfl (show Cond.classLink RX10 53 "WishMarketLaw$Person" ∈ wsG from inT7 124 rfl rfl) (cO_s hq22) dX10_grant_23 ?_
  refine x_astoren dX10_grant_26 (Nat.le_of_ble_eq_true rfl) rfl rfl ?_
  refine x_aloadn dX10_grant_27 rfl ?_
  refine x_dup dX10_grant_28 rfl ?_
  obtain ⟨u23, hq24, h⟩ := b1_s h
  refine x_getIN fn_X10_140 (cO_s hq24).1 (cO_s hq24).2 dX10_grant_29 ?_
  refine x_aloadn dX10_grant_32 rfl ?_
  obtain ⟨u25, hq26, h⟩ := b1_s h
  obtain ⟨v27, hq28, h⟩ := b1_s h
  have hq := c_X12_value (d + 1) hq28
  refine X.c0 (z_Vcall [] [.int (I v19 3), .ref v19] (cs_X10_143 _) (ci := 10) rfl (cO_s hq26) (dep (show d + 1 + 1 + 1 ≤ (d + 3) from by omega) (Nat.le_of_ble_eq_true rfl)) dX10_grant_33 rfl rfl (Nat.le_of_ble_eq_true rfl) hq ?_)
  refine x_iadd dX10_grant_36 ?_
  obtain ⟨u29, hq30, h⟩ := b1_s h
  obtain ⟨I31, hq32, h⟩ := b1_s h
  refine z_putAN fn_X10_140 (cO_s hq30) ⟨rfl, rfl⟩ hq32 dX10_grant_37 ?_
  refine x_aloadn dX10_grant_40 rfl ?_
  refine x_iconst (-1) dX10_grant_41 rfl ?_
  refine x_iconst (-1) dX10_grant_42 rfl ?_
  obtain ⟨u33, hq34, h⟩ := b1_s h
  obtain ⟨I35, hq36, h⟩ := b1_s h
  have hq := c_X12_place (d + 2) hq36
  refine X.c0 (z_Vcall [.int (-1), .int (-1)] [] (cs_X10_125 _) (ci := 10) rfl (cO_s hq34) (dep (show d + 2 + 0 + 1 ≤ (d + 3) from by omega) (Nat.le_of_ble_eq_true rfl)) dX10_grant_43 rfl rfl (Nat.le_of_ble_eq_true rfl) hq ?_)
  refine x_aloadn dX10_grant_46 rfl ?_
  refine x_iconst 1 dX10_grant_47 rfl ?_
  obtain ⟨u37, hq38, h⟩ := b1_s h
  obtain ⟨u40, hq41, h⟩ := b1_s h
  obtain ⟨I39, hq42, h⟩ := b1_s h
  refine z_putAN fn_X10_146 (cO_s hq38) (cF_s hq41) hq42 dX10_grant_48 ?_
  refine x_aloadn dX10_grant_51 rfl ?_
  obtain ⟨u43, hq44, h⟩ := b1_s h
  refine x_getIN fn_X10_140 (cO_s hq44).1 (cO_s hq44).2 dX10_grant_52 ?_
  cases h
  exact x_iret rfl dX10_grant_55 ⟨rfl, rfl, rfl⟩
noncomputable def l_X10_cheapest_5 (m9 : Nat) (I : Mem) (K : Kt) (x0 : Nat) (x1 : Int32) (x2 : Int32) (x3 : Int32) (x4 : Int32) : Option (Int32) := match m9 with
  | 0 => none
  | m9 + 1 => b1 (cO K 8 x0) fun _ => b1 (gR K x0 9) fun r3 => b1 (cO K 11 r3) fun _ => b1 (f_Jx4a65c_size_8abf5 I K r3) fun v7 => if v7 ≤ x4 then (some (x3)) else (b1 (cO K 8 x0) fun _ => b1 (f_X10_whyBuy I K x0 x1 x4) fun v11 => if v11 = 0 then (b1 (cO K 8 x0) fun _ => b1 (f_X10_price I K x0 x4) fun v15 => if x2 < v15 then (l_X10_cheapest_5 m9 I K x0 x1 x2 x3 (x4 + 1)) else (if x3 < 0 then (l_X10_cheapest_5 m9 I K x0 x1 x2 x4 (x4 + 1)) else (b1 (cO K 8 x0) fun _ => b1 (f_X10_price I K x0 x4) fun v19 => b1 (cO K 8 x0) fun _ => b1 (f_X10_price I K x0 x3) fun v23 => if v23 ≤ v19 then (l_X10_cheapest_5 m9 I K x0 x1 x2 x3 (x4 + 1)) else (l_X10_cheapest_5 m9 I K x0 x1 x2 x4 (x4 + 1))))) else (l_X10_cheapest_5 m9 I K x0 x1 x2 x3 (x4 + 1)))
theorem tl_X10_cheapest_5 (d : Nat) (m9 : Nat) : ∀ {I : Mem} {K : Kt} {x0 : Nat} {x1 : Int32} {x2 : Int32} {x3 : Int32} {x4 : Int32} {v : Int32}, l_X10_cheapest_5 m9 I K x0 x1 x2 x3 x4 = some v → X (mX10_cheapest (d + 5)) cX10_cheapest 0 0 I K 5 [.ref x0, .int x1, .int x2, .int x3, .int x4] [] (Ro (.inl (some (.int v))) I K) := by
  induction m9 with
  | zero =>
    intro I K x0 x1 x2 x3 x4 v h
    cases h
  | succ m9 ih =>
    intro I K x0 x1 x2 x3 x4 v h
    unfold l_X10_cheapest_5 at h
    refine x_iload dX10_cheapest_5 rfl ?_
    refine x_aloadn dX10_cheapest_7 rfl ?_
    obtain ⟨u1, hq2, h⟩ := b1_s h
    obtain ⟨r3, hq4, h⟩ := b1_s h
    refine x_getR fs_X10_32 (cO_s hq2).1 (cO_s hq2).2 hq4 dX10_cheapest_8 ?_
    obtain ⟨u5, hq6, h⟩ := b1_s h
    obtain ⟨v7, hq8, h⟩ := b1_s h
    have hq := c_Jx4a65c_size_8abf5 (d + 4) hq8
    refine X.c0 (z_Vcall [] [.int x4] (cs_X10_45 _) (ci := 11) rfl (cO_s hq6) (dep (show d + 4 + 0 + 1 ≤ (d + 5) from by omega) (Nat.le_of_ble_eq_true rfl)) dX10_cheapest_11 rfl rfl (Nat.le_of_ble_eq_true rfl) hq ?_)
    refine x_icmp_ge 64 dX10_cheapest_14 rfl (fun hc => ?_) (fun hc => ?_)
    · have h := ifT hc h
      refine x_iloadn dX10_cheapest_64 rfl ?_
      cases h
      exact x_iret rfl dX10_cheapest_65 ⟨rfl, rfl, rfl⟩
    have h := ifF hc h
    refine x_aloadn dX10_cheapest_17 rfl ?_
    refine x_iloadn dX10_cheapest_18 rfl ?_
    refine x_iload dX10_cheapest_19 rfl ?_
    obtain ⟨u9, hq10, h⟩ := b1_s h
    obtain ⟨v11, hq12, h⟩ := b1_s h
    have hq := c_X10_whyBuy d hq12
    refine X.c0 (z_Vcall [.int x1, .int x4] [] (cs_X10_150 _) (ci := 8) rfl (cO_s hq10) (dep (show d + 0 + 4 + 1 ≤ (d + 5) from by omega) (Nat.le_of_ble_eq_true rfl)) dX10_cheapest_21 rfl rfl (Nat.le_of_ble_eq_true rfl) hq ?_)
    refine x_if_ne 58 dX10_cheapest_24 rfl (fun hc => ?_) (fun hc => ?_)
    · have h := ifF hc h
      refine z_iinc 1 (by decide) dX10_cheapest_58 rfl rfl rfl ?_
      refine x_goto 5 dX10_cheapest_61 rfl ?_
      exact (ih h)
    have h := ifT hc h
    refine x_aloadn dX10_cheapest_27 rfl ?_
    refine x_iload dX10_cheapest_28 rfl ?_
    obtain ⟨u13, hq14, h⟩ := b1_s h
    obtain ⟨v15, hq16, h⟩ := b1_s h
    have hq := c_X10_price (d + 1) hq16
    refine X.c0 (z_Vcall [.int x4] [] (cs_X10_96 _) (ci := 8) rfl (cO_s hq14) (dep (show d + 1 + 3 + 1 ≤ (d + 5) from by omega) (Nat.le_of_ble_eq_true rfl)) dX10_cheapest_30 rfl rfl (Nat.le_of_ble_eq_true rfl) hq ?_)
    refine x_iloadn dX10_cheapest_33 rfl ?_
    refine x_icmp_gt 58 dX10_cheapest_34 rfl (fun hc => ?_) (fun hc => ?_)
    · have h := ifT hc h
      refine z_iinc 1 (by decide) dX10_cheapest_58 rfl rfl rfl ?_
      refine x_goto 5 dX10_cheapest_61 rfl ?_
      exact (ih h)
    have h := ifF hc h
    refine x_iloadn dX10_cheapest_37 rfl ?_
    refine x_if_lt 55 dX10_cheapest_38 rfl (fun hc => ?_) (fun hc => ?_)
    · have h := ifT hc h
      refine x_iload dX10_cheapest_55 rfl ?_
      refine x_istoren dX10_cheapest_57 (Nat.le_of_ble_eq_true rfl) rfl rfl ?_
      refine z_iinc 1 (by decide) dX10_cheapest_58 rfl rfl rfl ?_
      refine x_goto 5 dX10_cheapest_61 rfl ?_
      exact (ih h)
    have h := ifF hc h
    refine x_aloadn dX10_cheapest_41 rfl ?_
    refine x_iload dX10_cheapest_42 rfl ?_
    obtain ⟨u17, hq18, h⟩ := b1_s h
    obtain ⟨v19, hq20, h⟩ := b1_s h
    have hq := c_X10_price (d + 1) hq20
    refine X.c0 (z_Vcall [.int x4] [] (cs_X10_96 _) (ci := 8) rfl (cO_s hq18) (dep (show d + 1 + 3 + 1 ≤ (d + 5) from by omega) (Nat.le_of_ble_eq_true rfl)) dX10_cheapest_44 rfl rfl (Nat.le_of_ble_eq_true rfl) hq ?_)
    refine x_aloadn dX10_cheapest_47 rfl ?_
    refine x_iloadn dX10_cheapest_48 rfl ?_
    obtain ⟨u21, hq22, h⟩ := b1_s h
    obtain ⟨v23, hq24, h⟩ := b1_s h
    have hq := c_X10_price (d + 1) hq24
    refine X.c0 (z_Vcall [.int x3] [.int v19] (cs_X10_96 _) (ci := 8) rfl (cO_s hq22) (dep (show d + 1 + 3 + 1 ≤ (d + 5) from by omega) (Nat.le_of_ble_eq_true rfl)) dX10_cheapest_49 rfl rfl (Nat.le_of_ble_eq_true rfl) hq ?_)
    refine x_icmp_ge 58 dX10_cheapest_52 rfl (fun hc => ?_) (fun hc => ?_)
    · have h := ifT hc h
      refine z_iinc 1 (by decide) dX10_cheapest_58 rfl rfl rfl ?_
      refine x_goto 5 dX10_cheapest_61 rfl ?_
      exact (ih h)
    have h := ifF hc h
    refine x_iload dX10_cheapest_55 rfl ?_
    refine x_istoren dX10_cheapest_57 (Nat.le_of_ble_eq_true rfl) rfl rfl ?_
    refine z_iinc 1 (by decide) dX10_cheapest_58 rfl rfl rfl ?_
    refine x_goto 5 dX10_cheapest_61 rfl ?_
    exact (ih h)
noncomputable def f_X10_cheapest (I : Mem) (K : Kt) (x0 : Nat) (x1 : Int32) (x2 : Int32) : Option (Int32) := l_X10_cheapest_5 FU I K x0 x1 x2 (-1) 0
theorem c_X10_cheapest (d : Nat) {K : Kt} {I : Mem} {x0 : Nat} {x1 : Int32} {x2 : Int32} {v : Int32} (h : f_X10_cheapest I K x0 x1 x2 = some v) : Ct (mX10_cheapest (d + 5)) cX10_cheapest 0 0 [.ref x0, .int x1, .int x2] I K (Ro (.inl (some (.int v))) I K) := by
  refine Ct.of rfl pn_X10 (catR (catI (catI cat0))) (Nat.le_of_ble_eq_true rfl) (show X (mX10_cheapest (d + 5)) cX10_cheapest 0 0 I K 0 [.ref x0, .int x1, .int x2, .retAddr 0, .retAddr 0] [] (Ro (.inl (some (.int v))) I K) from ?_)
  unfold f_X10_cheapest at h
  refine x_iconst (-1) dX10_cheapest_0 rfl ?_
  refine x_istoren dX10_cheapest_1 (Nat.le_of_ble_eq_true rfl) rfl rfl ?_
  refine x_iconst 0 dX10_cheapest_2 rfl ?_
  refine x_istore dX10_cheapest_3 (Nat.le_of_ble_eq_true rfl) rfl rfl ?_
  exact (tl_X10_cheapest_5 d FU h)
noncomputable def l_X10_bestGrant_4 (m9 : Nat) (I : Mem) (K : Kt) (x0 : Nat) (x1 : Int32) (x2 : Int32) (x3 : Int32) : Option (Int32) := match m9 with
  | 0 => none
  | m9 + 1 => b1 (cO K 8 x0) fun _ => b1 (gR K x0 9) fun r3 => b1 (cO K 11 r3) fun _ => b1 (f_Jx4a65c_size_8abf5 I K r3) fun v7 => if v7 ≤ x3 then (some (x2)) else (b1 (cO K 8 x0) fun _ => b1 (gR K x0 9) fun r11 => b1 (cO K 11 r11) fun _ => b1 (f_Jx4a65c_get_915e3 I K r11 x3) fun v15 => b1 (cO K 10 v15) fun _ => b1 (cO K 10 v15) fun _ => if (I v15 4) = x1 then (b1 (cO K 8 x0) fun _ => b1 (f_X10_whyGrant I K x0 x3) fun v23 => if v23 = 0 then (if x2 < 0 then (l_X10_bestGrant_4 m9 I K x0 x1 x3 (x3 + 1)) else (b1 (cO K 8 x0) fun _ => b1 (gR K x0 9) fun r27 => b1 (cO K 11 r27) fun _ => b1 (f_Jx4a65c_get_915e3 I K r27 x3) fun v31 => b1 (cO K 10 v31) fun _ => b1 (cO K 10 v31) fun _ => b1 (f_X12_value I K v31) fun v37 => b1 (cO K 8 x0) fun _ => b1 (gR K x0 9) fun r41 => b1 (cO K 11 r41) fun _ => b1 (f_Jx4a65c_get_915e3 I K r41 x2) fun v45 => b1 (cO K 10 v45) fun _ => b1 (cO K 10 v45) fun _ => b1 (f_X12_value I K v45) fun v51 => if v37 ≤ v51 then (l_X10_bestGrant_4 m9 I K x0 x1 x2 (x3 + 1)) else (l_X10_bestGrant_4 m9 I K x0 x1 x3 (x3 + 1)))) else (l_X10_bestGrant_4 m9 I K x0 x1 x2 (x3 + 1))) else (l_X10_bestGrant_4 m9 I K x0 x1 x2 (x3 + 1)))
theorem tl_X10_bestGrant_4 (d : Nat) (m9 : Nat) : ∀ {I : Mem} {K : Kt} {x0 : Nat} {x1 : Int32} {x2 : Int32} {x3 : Int32} {v : Int32}, l_X10_bestGrant_4 m9 I K x0 x1 x2 x3 = some v → X (mX10_bestGrant (d + 4)) cX10_bestGrant 0 0 I K 4 [.ref x0, .int x1, .int x2, .int x3] [] (Ro (.inl (some (.int v))) I K) := by
  induction m9 with
  | zero =>
    intro I K x0 x1 x2 x3 v h
    cases h
  | succ m9 ih =>
    intro I K x0 x1 x2 x3 v h
    unfold l_X10_bestGrant_4 at h
    refine x_iloadn dX10_bestGrant_4 rfl ?_
    refine x_aloadn dX10_bestGrant_5 rfl ?_
    obtain ⟨u1, hq2, h⟩ := b1_s h
    obtain ⟨r3, hq4, h⟩ := b1_s h
    refine x_getR fs_X10_32 (cO_s hq2).1 (cO_s hq2).2 hq4 dX10_bestGrant_6 ?_
    obtain ⟨u5, hq6, h⟩ := b1_s h
    obtain ⟨v7, hq8, h⟩ := b1_s h
    have hq := c_Jx4a65c_size_8abf5 (d + 3) hq8
    refine X.c0 (z_Vcall [] [.int x3] (cs_X10_45 _) (ci := 11) rfl (cO_s hq6) (dep (show d + 3 + 0 + 1 ≤ (d + 4) from by omega) (Nat.le_of_ble_eq_true rfl)) dX10_bestGrant_9 rfl rfl (Nat.le_of_ble_eq_true rfl) hq ?_)
    refine x_icmp_ge 84 dX10_bestGrant_12 rfl (fun hc => ?_) (fun hc => ?_)
    · have h := ifT hc h
      refine x_iloadn dX10_bestGrant_84 rfl ?_
      cases h
      exact x_iret rfl dX10_bestGrant_85 ⟨rfl, rfl, rfl⟩
    have h := ifF hc h
    refine x_aloadn dX10_bestGrant_15 rfl ?_
    obtain ⟨u9, hq10, h⟩ := b1_s h
    obtain ⟨r11, hq12, h⟩ := b1_s h
    refine x_getR fs_X10_32 (cO_s hq10).1 (cO_s hq10).2 hq12 dX10_bestGrant_16 ?_
    refine x_iloadn dX10_bestGrant_19 rfl ?_
    obtain ⟨u13, hq14, h⟩ := b1_s h
    obtain ⟨v15, hq16, h⟩ := b1_s h
    have hq := c_Jx4a65c_get_915e3 (d + 1) hq16
    refine X.c0 (z_Vcall [.int x3] [] (cs_X10_49 _) (ci := 11) rfl (cO_s hq14) (dep (show d + 1 + 2 + 1 ≤ (d + 4) from by omega) (Nat.le_of_ble_eq_true rfl)) dX10_bestGrant_20 rfl rfl (Nat.le_of_ble_eq_true rfl) hq ?_)
    obtain ⟨u17, hq18, h⟩ := b1_s h
    refine x_castC (ci := 10) rfl (show Cond.classLink RX10 69 "WishMarketLaw$Wish" ∈ wsG from inT6 193 rfl rfl) (cO_s hq18) dX10_bestGrant_23 ?_
    obtain ⟨u19, hq20, h⟩ := b1_s h
    refine x_getIN fn_X10_74 (cO_s hq20).1 (cO_s hq20).2 dX10_bestGrant_26 ?_
    refine x_iloadn dX10_bestGrant_29 rfl ?_
    refine x_icmp_ne 78 dX10_bestGrant_30 rfl (fun hc => ?_) (fun hc => ?_)
    · have h := ifF hc h
      refine z_iinc 1 (by decide) dX10_bestGrant_78 rfl rfl rfl ?_
      refine x_goto 4 dX10_bestGrant_81 rfl ?_
      exact (ih h)
    have h := ifT hc h
    refine x_aloadn dX10_bestGrant_33 rfl ?_
    refine x_iloadn dX10_bestGrant_34 rfl ?_
    obtain ⟨u21, hq22, h⟩ := b1_s h
    obtain ⟨v23, hq24, h⟩ := b1_s h
    have hq := c_X10_whyGrant d hq24
    refine X.c0 (z_Vcall [.int x3] [] (cs_X10_153 _) (ci := 8) rfl (cO_s hq22) (dep (show d + 0 + 3 + 1 ≤ (d + 4) from by omega) (Nat.le_of_ble_eq_true rfl)) dX10_bestGrant_35 rfl rfl (Nat.le_of_ble_eq_true rfl) hq ?_)
    refine x_if_ne 78 dX10_bestGrant_38 rfl (fun hc => ?_) (fun hc => ?_)
    · have h := ifF hc h
      refine z_iinc 1 (by decide) dX10_bestGrant_78 rfl rfl rfl ?_
      refine x_goto 4 dX10_bestGrant_81 rfl ?_
      exact (ih h)
    have h := ifT hc h
    refine x_iloadn dX10_bestGrant_41 rfl ?_
    refine x_if_lt 76 dX10_bestGrant_42 rfl (fun hc => ?_) (fun hc => ?_)
    · have h := ifT hc h
      refine x_iloadn dX10_bestGrant_76 rfl ?_
      refine x_istoren dX10_bestGrant_77 (Nat.le_of_ble_eq_true rfl) rfl rfl ?_
      refine z_iinc 1 (by decide) dX10_bestGrant_78 rfl rfl rfl ?_
      refine x_goto 4 dX10_bestGrant_81 rfl ?_
      exact (ih h)
    have h := ifF hc h
    refine x_aloadn dX10_bestGrant_45 rfl ?_
    obtain ⟨u25, hq26, h⟩ := b1_s h
    obtain ⟨r27, hq28, h⟩ := b1_s h
    refine x_getR fs_X10_32 (cO_s hq26).1 (cO_s hq26).2 hq28 dX10_bestGrant_46 ?_
    refine x_iloadn dX10_bestGrant_49 rfl ?_
    obtain ⟨u29, hq30, h⟩ := b1_s h
    obtain ⟨v31, hq32, h⟩ := b1_s h
    have hq := c_Jx4a65c_get_915e3 (d + 1) hq32
    refine X.c0 (z_Vcall [.int x3] [] (cs_X10_49 _) (ci := 11) rfl (cO_s hq30) (dep (show d + 1 + 2 + 1 ≤ (d + 4) from by omega) (Nat.le_of_ble_eq_true rfl)) dX10_bestGrant_50 rfl rfl (Nat.le_of_ble_eq_true rfl) hq ?_)
    obtain ⟨u33, hq34, h⟩ := b1_s h
    refine x_castC (ci := 10) rfl (show Cond.classLink RX10 69 "WishMarketLaw$Wish" ∈ wsG from inT6 193 rfl rfl) (cO_s hq34) dX10_bestGrant_53 ?_
    obtain ⟨u35, hq36, h⟩ := b1_s h
    obtain ⟨v37, hq38, h⟩ := b1_s h
    have hq := c_X12_value (d + 2) hq38
    refine X.c0 (z_Vcall [] [] (cs_X10_143 _) (ci := 10) rfl (cO_s hq36) (dep (show d + 2 + 1 + 1 ≤ (d + 4) from by omega) (Nat.le_of_ble_eq_true rfl)) dX10_bestGrant_56 rfl rfl (Nat.le_of_ble_eq_true rfl) hq ?_)
    refine x_aloadn dX10_bestGrant_59 rfl ?_
    obtain ⟨u39, hq40, h⟩ := b1_s h
    obtain ⟨r41, hq42, h⟩ := b1_s h
    refine x_getR fs_X10_32 (cO_s hq40).1 (cO_s hq40).2 hq42 dX10_bestGrant_60 ?_
    refine x_iloadn dX10_bestGrant_63 rfl ?_
    obtain ⟨u43, hq44, h⟩ := b1_s h
    obtain ⟨v45, hq46, h⟩ := b1_s h
    have hq := c_Jx4a65c_get_915e3 (d + 1) hq46
    refine X.c0 (z_Vcall [.int x2] [.int v37] (cs_X10_49 _) (ci := 11) rfl (cO_s hq44) (dep (show d + 1 + 2 + 1 ≤ (d + 4) from by omega) (Nat.le_of_ble_eq_true rfl)) dX10_bestGrant_64 rfl rfl (Nat.le_of_ble_eq_true rfl) hq ?_)
    obtain ⟨u47, hq48, h⟩ := b1_s h
    refine x_castC (ci := 10) rfl (show Cond.classLink RX10 69 "WishMarketLaw$Wish" ∈ wsG from inT6 193 rfl rfl) (cO_s hq48) dX10_bestGrant_67 ?_
    obtain ⟨u49, hq50, h⟩ := b1_s h
    obtain ⟨v51, hq52, h⟩ := b1_s h
    have hq := c_X12_value (d + 2) hq52
    refine X.c0 (z_Vcall [] [.int v37] (cs_X10_143 _) (ci := 10) rfl (cO_s hq50) (dep (show d + 2 + 1 + 1 ≤ (d + 4) from by omega) (Nat.le_of_ble_eq_true rfl)) dX10_bestGrant_70 rfl rfl (Nat.le_of_ble_eq_true rfl) hq ?_)
    refine x_icmp_le 78 dX10_bestGrant_73 rfl (fun hc => ?_) (fun hc => ?_)
    · have h := ifT hc h
      refine z_iinc 1 (by decide) dX10_bestGrant_78 rfl rfl rfl ?_
      refine x_goto 4 dX10_bestGrant_81 rfl ?_
      exact (ih h)
    have h := ifF hc h
    refine x_iloadn dX10_bestGrant_76 rfl ?_
    refine x_istoren dX10_bestGrant_77 (Nat.le_of_ble_eq_true rfl) rfl rfl ?_
    refine z_iinc 1 (by decide) dX10_bestGrant_78 rfl rfl rfl ?_
    refine x_goto 4 dX10_bestGrant_81 rfl ?_
    exact (ih h)
noncomputable def f_X10_bestGrant (I : Mem) (K : Kt) (x0 : Nat) (x1 : Int32) : Option (Int32) := l_X10_bestGrant_4 FU I K x0 x1 (-1) 0
theorem c_X10_bestGrant (d : Nat) {K : Kt} {I : Mem} {x0 : Nat} {x1 : Int32} {v : Int32} (h : f_X10_bestGrant I K x0 x1 = some v) : Ct (mX10_bestGrant (d + 4)) cX10_bestGrant 0 0 [.ref x0, .int x1] I K (Ro (.inl (some (.int v))) I K) := by
  refine Ct.of rfl pn_X10 (catR (catI cat0)) (Nat.le_of_ble_eq_true rfl) (show X (mX10_bestGrant (d + 4)) cX10_bestGrant 0 0 I K 0 [.ref x0, .int x1, .retAddr 0, .retAddr 0] [] (Ro (.inl (some (.int v))) I K) from ?_)
  unfold f_X10_bestGrant at h
  refine x_iconst (-1) dX10_bestGrant_0 rfl ?_
  refine x_istoren dX10_bestGrant_1 (Nat.le_of_ble_eq_true rfl) rfl rfl ?_
  refine x_iconst 0 dX10_bestGrant_2 rfl ?_
  refine x_istoren dX10_bestGrant_3 (Nat.le_of_ble_eq_true rfl) rfl rfl ?_
  exact (tl_X10_bestGrant_4 d FU h)
noncomputable def l_X10_bestOffer_4 (m9 : Nat) (I : Mem) (K : Kt) (x0 : Nat) (x1 : Int32) (x2 : Int32) (x3 : Int32) : Option (Int32) := match m9 with
  | 0 => none
  | m9 + 1 => b1 (cO K 8 x0) fun _ => b1 (gR K x0 8) fun r3 => b1 (cO K 11 r3) fun _ => b1 (f_Jx4a65c_size_8abf5 I K r3) fun v7 => if v7 ≤ x3 then (some (x2)) else (b1 (cO K 8 x0) fun _ => b1 (f_X10_whySell I K x0 x1 x3) fun v11 => if v11 = 0 then (if x2 < 0 then (l_X10_bestOffer_4 m9 I K x0 x1 x3 (x3 + 1)) else (b1 (cO K 8 x0) fun _ => b1 (f_X10_offer I K x0 x1 x3) fun v15 => b1 (cO K 8 x0) fun _ => b1 (f_X10_offer I K x0 x1 x2) fun v19 => if v15 ≤ v19 then (l_X10_bestOffer_4 m9 I K x0 x1 x2 (x3 + 1)) else (l_X10_bestOffer_4 m9 I K x0 x1 x3 (x3 + 1)))) else (l_X10_bestOffer_4 m9 I K x0 x1 x2 (x3 + 1)))
theorem tl_X10_bestOffer_4 (d : Nat) (m9 : Nat) : ∀ {I : Mem} {K : Kt} {x0 : Nat} {x1 : Int32} {x2 : Int32} {x3 : Int32} {v : Int32}, l_X10_bestOffer_4 m9 I K x0 x1 x2 x3 = some v → X (mX10_bestOffer (d + 5)) cX10_bestOffer 0 0 I K 4 [.ref x0, .int x1, .int x2, .int x3] [] (Ro (.inl (some (.int v))) I K) := by
  induction m9 with
  | zero =>
    intro I K x0 x1 x2 x3 v h
    cases h
  | succ m9 ih =>
    intro I K x0 x1 x2 x3 v h
    unfold l_X10_bestOffer_4 at h
    refine x_iloadn dX10_bestOffer_4 rfl ?_
    refine x_aloadn dX10_bestOffer_5 rfl ?_
    obtain ⟨u1, hq2, h⟩ := b1_s h
    obtain ⟨r3, hq4, h⟩ := b1_s h
    refine x_getR fs_X10_29 (cO_s hq2).1 (cO_s hq2).2 hq4 dX10_bestOffer_6 ?_
    obtain ⟨u5, hq6, h⟩ := b1_s h
    obtain ⟨v7, hq8, h⟩ := b1_s h
    have hq := c_Jx4a65c_size_8abf5 (d + 4) hq8
    refine X.c0 (z_Vcall [] [.int x3] (cs_X10_45 _) (ci := 11) rfl (cO_s hq6) (dep (show d + 4 + 0 + 1 ≤ (d + 5) from by omega) (Nat.le_of_ble_eq_true rfl)) dX10_bestOffer_9 rfl rfl (Nat.le_of_ble_eq_true rfl) hq ?_)
    refine x_icmp_ge 51 dX10_bestOffer_12 rfl (fun hc => ?_) (fun hc => ?_)
    · have h := ifT hc h
      refine x_iloadn dX10_bestOffer_51 rfl ?_
      cases h
      exact x_iret rfl dX10_bestOffer_52 ⟨rfl, rfl, rfl⟩
    have h := ifF hc h
    refine x_aloadn dX10_bestOffer_15 rfl ?_
    refine x_iloadn dX10_bestOffer_16 rfl ?_
    refine x_iloadn dX10_bestOffer_17 rfl ?_
    obtain ⟨u9, hq10, h⟩ := b1_s h
    obtain ⟨v11, hq12, h⟩ := b1_s h
    have hq := c_X10_whySell d hq12
    refine X.c0 (z_Vcall [.int x1, .int x3] [] (cs_X10_156 _) (ci := 8) rfl (cO_s hq10) (dep (show d + 0 + 4 + 1 ≤ (d + 5) from by omega) (Nat.le_of_ble_eq_true rfl)) dX10_bestOffer_18 rfl rfl (Nat.le_of_ble_eq_true rfl) hq ?_)
    refine x_if_ne 45 dX10_bestOffer_21 rfl (fun hc => ?_) (fun hc => ?_)
    · have h := ifF hc h
      refine z_iinc 1 (by decide) dX10_bestOffer_45 rfl rfl rfl ?_
      refine x_goto 4 dX10_bestOffer_48 rfl ?_
      exact (ih h)
    have h := ifT hc h
    refine x_iloadn dX10_bestOffer_24 rfl ?_
    refine x_if_lt 43 dX10_bestOffer_25 rfl (fun hc => ?_) (fun hc => ?_)
    · have h := ifT hc h
      refine x_iloadn dX10_bestOffer_43 rfl ?_
      refine x_istoren dX10_bestOffer_44 (Nat.le_of_ble_eq_true rfl) rfl rfl ?_
      refine z_iinc 1 (by decide) dX10_bestOffer_45 rfl rfl rfl ?_
      refine x_goto 4 dX10_bestOffer_48 rfl ?_
      exact (ih h)
    have h := ifF hc h
    refine x_aloadn dX10_bestOffer_28 rfl ?_
    refine x_iloadn dX10_bestOffer_29 rfl ?_
    refine x_iloadn dX10_bestOffer_30 rfl ?_
    obtain ⟨u13, hq14, h⟩ := b1_s h
    obtain ⟨v15, hq16, h⟩ := b1_s h
    have hq := c_X10_offer (d + 1) hq16
    refine X.c0 (z_Vcall [.int x1, .int x3] [] (cs_X10_106 _) (ci := 8) rfl (cO_s hq14) (dep (show d + 1 + 3 + 1 ≤ (d + 5) from by omega) (Nat.le_of_ble_eq_true rfl)) dX10_bestOffer_31 rfl rfl (Nat.le_of_ble_eq_true rfl) hq ?_)
    refine x_aloadn dX10_bestOffer_34 rfl ?_
    refine x_iloadn dX10_bestOffer_35 rfl ?_
    refine x_iloadn dX10_bestOffer_36 rfl ?_
    obtain ⟨u17, hq18, h⟩ := b1_s h
    obtain ⟨v19, hq20, h⟩ := b1_s h
    have hq := c_X10_offer (d + 1) hq20
    refine X.c0 (z_Vcall [.int x1, .int x2] [.int v15] (cs_X10_106 _) (ci := 8) rfl (cO_s hq18) (dep (show d + 1 + 3 + 1 ≤ (d + 5) from by omega) (Nat.le_of_ble_eq_true rfl)) dX10_bestOffer_37 rfl rfl (Nat.le_of_ble_eq_true rfl) hq ?_)
    refine x_icmp_le 45 dX10_bestOffer_40 rfl (fun hc => ?_) (fun hc => ?_)
    · have h := ifT hc h
      refine z_iinc 1 (by decide) dX10_bestOffer_45 rfl rfl rfl ?_
      refine x_goto 4 dX10_bestOffer_48 rfl ?_
      exact (ih h)
    have h := ifF hc h
    refine x_iloadn dX10_bestOffer_43 rfl ?_
    refine x_istoren dX10_bestOffer_44 (Nat.le_of_ble_eq_true rfl) rfl rfl ?_
    refine z_iinc 1 (by decide) dX10_bestOffer_45 rfl rfl rfl ?_
    refine x_goto 4 dX10_bestOffer_48 rfl ?_
    exact (ih h)
noncomputable def f_X10_bestOffer (I : Mem) (K : Kt) (x0 : Nat) (x1 : Int32) : Option (Int32) := l_X10_bestOffer_4 FU I K x0 x1 (-1) 0
theorem c_X10_bestOffer (d : Nat) {K : Kt} {I : Mem} {x0 : Nat} {x1 : Int32} {v : Int32} (h : f_X10_bestOffer I K x0 x1 = some v) : Ct (mX10_bestOffer (d + 5)) cX10_bestOffer 0 0 [.ref x0, .int x1] I K (Ro (.inl (some (.int v))) I K) := by
  refine Ct.of rfl pn_X10 (catR (catI cat0)) (Nat.le_of_ble_eq_true rfl) (show X (mX10_bestOffer (d + 5)) cX10_bestOffer 0 0 I K 0 [.ref x0, .int x1, .retAddr 0, .retAddr 0] [] (Ro (.inl (some (.int v))) I K) from ?_)
  unfold f_X10_bestOffer at h
  refine x_iconst (-1) dX10_bestOffer_0 rfl ?_
  refine x_istoren dX10_bestOffer_1 (Nat.le_of_ble_eq_true rfl) rfl rfl ?_
  refine x_iconst 0 dX10_bestOffer_2 rfl ?_
  refine x_istoren dX10_bestOffer_3 (Nat.le_of_ble_eq_true rfl) rfl rfl ?_
  exact (tl_X10_bestOffer_4 d FU h)
noncomputable def l_X10_bargain_73 (c2 : Mem → Kt → Nat → Int32 → Int32 → Option (Mem)) (I : Mem) (K : Kt) (x0 : Nat) (x1 : Int32) (x2 : Int32) (x4 : Int32) (y0 : Int32) (y1 : Int32) : Option (Mem) := if y0 < y1 then (b1 (cO K 8 x0) fun _ => b2 (f_X10_sell I K x0 x2 x4) fun v35 I36 => some (I36)) else (c2 I K x0 x1 (x2 + 1))
theorem tl_X10_bargain_73 (d : Nat) {c2 : Mem → Kt → Nat → Int32 → Int32 → Option (Mem)} (hc2 : ∀ {I : Mem} {K : Kt} {x0 : Nat} {x1 : Int32} {x2 : Int32} {I9 : Mem}, c2 I K x0 x1 x2 = some I9 → X (mX10_bargain (d + 6)) cX10_bargain 0 0 I K 2 [.ref x0, .int x1, .int x2, .retAddr 0, .retAddr 0, .retAddr 0] [] (Ro (.inl none) I9 K)) : ∀ {I : Mem} {K : Kt} {x0 : Nat} {x1 : Int32} {x2 : Int32} {x4 : Int32} {y0 : Int32} {y1 : Int32} {I9 : Mem}, l_X10_bargain_73 c2 I K x0 x1 x2 x4 y0 y1 = some I9 → X (mX10_bargain (d + 6)) cX10_bargain 0 0 I K 73 [.ref x0, .int x1, .int x2, .retAddr 0, .int x4, .retAddr 0] [.int y0, .int y1] (Ro (.inl none) I9 K) := by
  intro I K x0 x1 x2 x4 y0 y1 I9 h
  unfold l_X10_bargain_73 at h
  refine x_icmp_gt 79 dX10_bargain_73 rfl (fun hc => ?_) (fun hc => ?_)
  · have h := ifT hc h
    refine x_aloadn dX10_bargain_79 rfl ?_
    refine x_iloadn dX10_bargain_80 rfl ?_
    refine x_iload dX10_bargain_81 rfl ?_
    obtain ⟨u33, hq34, h⟩ := b1_s h
    obtain ⟨v35, I36, hq37, h⟩ := b2_s h
    have hq := c_X10_sell (d + 1) hq37
    refine X.c0 (z_Vcall [.int x2, .int x4] [] (cs_X10_162 _) (ci := 8) rfl (cO_s hq34) (dep (show d + 1 + 4 + 1 ≤ (d + 6) from by omega) (Nat.le_of_ble_eq_true rfl)) dX10_bargain_83 rfl rfl (Nat.le_of_ble_eq_true rfl) hq ?_)
    refine x_istore dX10_bargain_86 (Nat.le_of_ble_eq_true rfl) rfl rfl ?_
    cases h
    exact x_vret rfl dX10_bargain_88 ⟨rfl, rfl, rfl⟩
  have h := ifF hc h
  refine x_goto 89 dX10_bargain_76 rfl ?_
  refine z_iinc 1 (by decide) dX10_bargain_89 rfl rfl rfl ?_
  refine x_goto 2 dX10_bargain_92 rfl ?_
  exact X.forget (L' := [.ref x0, .int x1, .int (x2 + 1), .retAddr 0, .retAddr 0, .retAddr 0]) ⟨Or.inl rfl, ⟨Or.inl rfl, ⟨Or.inl rfl, ⟨Or.inl rfl, ⟨Or.inr rfl, ⟨Or.inl rfl, trivial⟩⟩⟩⟩⟩⟩ (hc2 h)
noncomputable def l_X10_bargain_2 (m9 : Nat) (I : Mem) (K : Kt) (x0 : Nat) (x1 : Int32) (x2 : Int32) : Option (Mem) := match m9 with
  | 0 => none
  | m9 + 1 => b1 (cO K 8 x0) fun _ => b1 (gR K x0 9) fun r3 => b1 (cO K 11 r3) fun _ => b1 (f_Jx4a65c_size_8abf5 I K r3) fun v7 => if v7 ≤ x2 then (some (I)) else (b1 (cO K 8 x0) fun _ => b1 (gR K x0 9) fun r11 => b1 (cO K 11 r11) fun _ => b1 (f_Jx4a65c_get_915e3 I K r11 x2) fun v15 => b1 (cO K 10 v15) fun _ => b1 (cO K 10 v15) fun _ => if (I v15 4) = x1 then (b1 (cO K 8 x0) fun _ => b1 (f_X10_bestOffer I K x0 x2) fun v23 => if v23 < 0 then (l_X10_bargain_2 m9 I K x0 x1 (x2 + 1)) else (b1 (cO K 8 x0) fun _ => b1 (f_X10_offer I K x0 x2 v23) fun v27 => b1 (cO K 10 v15) fun _ => if 0 ≤ (I v15 5) then (b1 (cO K 10 v15) fun _ => l_X10_bargain_73 (l_X10_bargain_2 m9) I K x0 x1 x2 v23 (I v15 6) v27) else (b1 (cO K 10 v15) fun _ => b1 (f_X12_value I K v15) fun v40 => l_X10_bargain_73 (l_X10_bargain_2 m9) I K x0 x1 x2 v23 v40 v27))) else (l_X10_bargain_2 m9 I K x0 x1 (x2 + 1)))
theorem tl_X10_bargain_2 (d : Nat) (m9 : Nat) : ∀ {I : Mem} {K : Kt} {x0 : Nat} {x1 : Int32} {x2 : Int32} {I9 : Mem}, l_X10_bargain_2 m9 I K x0 x1 x2 = some I9 → X (mX10_bargain (d + 6)) cX10_bargain 0 0 I K 2 [.ref x0, .int x1, .int x2, .retAddr 0, .retAddr 0, .retAddr 0] [] (Ro (.inl none) I9 K) := by
  induction m9 with
  | zero =>
    intro I K x0 x1 x2 I9 h
    cases h
  | succ m9 ih =>
    intro I K x0 x1 x2 I9 h
    unfold l_X10_bargain_2 at h
    refine x_iloadn dX10_bargain_2 rfl ?_
    refine x_aloadn dX10_bargain_3 rfl ?_
    obtain ⟨u1, hq2, h⟩ := b1_s h
    obtain ⟨r3, hq4, h⟩ := b1_s h
    refine x_getR fs_X10_32 (cO_s hq2).1 (cO_s hq2).2 hq4 dX10_bargain_4 ?_
    obtain ⟨u5, hq6, h⟩ := b1_s h
    obtain ⟨v7, hq8, h⟩ := b1_s h
    have hq := c_Jx4a65c_size_8abf5 (d + 5) hq8
    refine X.c0 (z_Vcall [] [.int x2] (cs_X10_45 _) (ci := 11) rfl (cO_s hq6) (dep (show d + 5 + 0 + 1 ≤ (d + 6) from by omega) (Nat.le_of_ble_eq_true rfl)) dX10_bargain_7 rfl rfl (Nat.le_of_ble_eq_true rfl) hq ?_)
    refine x_icmp_ge 95 dX10_bargain_10 rfl (fun hc => ?_) (fun hc => ?_)
    · have h := ifT hc h
      cases h
      exact x_vret rfl dX10_bargain_95 ⟨rfl, rfl, rfl⟩
    have h := ifF hc h
    refine x_aloadn dX10_bargain_13 rfl ?_
    obtain ⟨u9, hq10, h⟩ := b1_s h
    obtain ⟨r11, hq12, h⟩ := b1_s h
    refine x_getR fs_X10_32 (cO_s hq10).1 (cO_s hq10).2 hq12 dX10_bargain_14 ?_
    refine x_iloadn dX10_bargain_17 rfl ?_
    obtain ⟨u13, hq14, h⟩ := b1_s h
    obtain ⟨v15, hq16, h⟩ := b1_s h
    have hq := c_Jx4a65c_get_915e3 (d + 3) hq16
    refine X.c0 (z_Vcall [.int x2] [] (cs_X10_49 _) (ci := 11) rfl (cO_s hq14) (dep (show d + 3 + 2 + 1 ≤ (d + 6) from by omega) (Nat.le_of_ble_eq_true rfl)) dX10_bargain_18 rfl rfl (Nat.le_of_ble_eq_true rfl) hq ?_)
    obtain ⟨u17, hq18, h⟩ := b1_s h
    refine x_castC (ci := 10) rfl (show Cond.classLink RX10 69 "WishMarketLaw$Wish" ∈ wsG from inT6 193 rfl rfl) (cO_s hq18) dX10_bargain_21 ?_
    refine x_astoren dX10_bargain_24 (Nat.le_of_ble_eq_true rfl) rfl rfl ?_
    refine x_aloadn dX10_bargain_25 rfl ?_
    obtain ⟨u19, hq20, h⟩ := b1_s h
    refine x_getIN fn_X10_74 (cO_s hq20).1 (cO_s hq20).2 dX10_bargain_26 ?_
    refine x_iloadn dX10_bargain_29 rfl ?_
    refine x_icmp_eq 36 dX10_bargain_30 rfl (fun hc => ?_) (fun hc => ?_)
    · have h := ifT hc h
      refine x_aloadn dX10_bargain_36 rfl ?_
      refine x_iloadn dX10_bargain_37 rfl ?_
      obtain ⟨u21, hq22, h⟩ := b1_s h
      obtain ⟨v23, hq24, h⟩ := b1_s h
      have hq := c_X10_bestOffer d hq24
      refine X.c0 (z_Vcall [.int x2] [] (cs_X10_159 _) (ci := 8) rfl (cO_s hq22) (dep (show d + 0 + 5 + 1 ≤ (d + 6) from by omega) (Nat.le_of_ble_eq_true rfl)) dX10_bargain_38 rfl rfl (Nat.le_of_ble_eq_true rfl) hq ?_)
      refine x_istore dX10_bargain_41 (Nat.le_of_ble_eq_true rfl) rfl rfl ?_
      refine x_iload dX10_bargain_43 rfl ?_
      refine x_if_lt 89 dX10_bargain_45 rfl (fun hc => ?_) (fun hc => ?_)
      · have h := ifT hc h
        refine z_iinc 1 (by decide) dX10_bargain_89 rfl rfl rfl ?_
        refine x_goto 2 dX10_bargain_92 rfl ?_
        exact X.forget (L' := [.ref x0, .int x1, .int (x2 + 1), .retAddr 0, .retAddr 0, .retAddr 0]) ⟨Or.inl rfl, ⟨Or.inl rfl, ⟨Or.inl rfl, ⟨Or.inr rfl, ⟨Or.inr rfl, ⟨Or.inl rfl, trivial⟩⟩⟩⟩⟩⟩ (ih h)
      have h := ifF hc h
      refine x_aloadn dX10_bargain_48 rfl ?_
      refine x_iloadn dX10_bargain_49 rfl ?_
      refine x_iload dX10_bargain_50 rfl ?_
      obtain ⟨u25, hq26, h⟩ := b1_s h
      obtain ⟨v27, hq28, h⟩ := b1_s h
      have hq := c_X10_offer (d + 2) hq28
      refine X.c0 (z_Vcall [.int x2, .int v23] [] (cs_X10_106 _) (ci := 8) rfl (cO_s hq26) (dep (show d + 2 + 3 + 1 ≤ (d + 6) from by omega) (Nat.le_of_ble_eq_true rfl)) dX10_bargain_52 rfl rfl (Nat.le_of_ble_eq_true rfl) hq ?_)
      refine x_aloadn dX10_bargain_55 rfl ?_
      obtain ⟨u29, hq30, h⟩ := b1_s h
      refine x_getIN fn_X10_109 (cO_s hq30).1 (cO_s hq30).2 dX10_bargain_56 ?_
      refine x_if_ge 69 dX10_bargain_59 rfl (fun hc => ?_) (fun hc => ?_)
      · have h := ifT hc h
        refine x_aloadn dX10_bargain_69 rfl ?_
        obtain ⟨u31, hq32, h⟩ := b1_s h
        refine x_getIN fn_X10_90 (cO_s hq32).1 (cO_s hq32).2 dX10_bargain_70 ?_
        exact X.forget (L' := [.ref x0, .int x1, .int x2, .retAddr 0, .int v23, .retAddr 0]) ⟨Or.inl rfl, ⟨Or.inl rfl, ⟨Or.inl rfl, ⟨Or.inr rfl, ⟨Or.inl rfl, ⟨Or.inl rfl, trivial⟩⟩⟩⟩⟩⟩ (tl_X10_bargain_73 d ih h)
      have h := ifF hc h
      refine x_aloadn dX10_bargain_62 rfl ?_
      obtain ⟨u38, hq39, h⟩ := b1_s h
      obtain ⟨v40, hq41, h⟩ := b1_s h
      have hq := c_X12_value (d + 4) hq41
      refine X.c0 (z_Vcall [] [.int v27] (cs_X10_143 _) (ci := 10) rfl (cO_s hq39) (dep (show d + 4 + 1 + 1 ≤ (d + 6) from by omega) (Nat.le_of_ble_eq_true rfl)) dX10_bargain_63 rfl rfl (Nat.le_of_ble_eq_true rfl) hq ?_)
      refine x_goto 73 dX10_bargain_66 rfl ?_
      exact X.forget (L' := [.ref x0, .int x1, .int x2, .retAddr 0, .int v23, .retAddr 0]) ⟨Or.inl rfl, ⟨Or.inl rfl, ⟨Or.inl rfl, ⟨Or.inr rfl, ⟨Or.inl rfl, ⟨Or.inl rfl, trivial⟩⟩⟩⟩⟩⟩ (tl_X10_bargain_73 d ih h)
    have h := ifF hc h
    refine x_goto 89 dX10_bargain_33 rfl ?_
    refine z_iinc 1 (by decide) dX10_bargain_89 rfl rfl rfl ?_
    refine x_goto 2 dX10_bargain_92 rfl ?_
    exact X.forget (L' := [.ref x0, .int x1, .int (x2 + 1), .retAddr 0, .retAddr 0, .retAddr 0]) ⟨Or.inl rfl, ⟨Or.inl rfl, ⟨Or.inl rfl, ⟨Or.inr rfl, ⟨Or.inl rfl, ⟨Or.inl rfl, trivial⟩⟩⟩⟩⟩⟩ (ih h)
noncomputable def f_X10_bargain (I : Mem) (K : Kt) (x0 : Nat) (x1 : Int32) : Option (Mem) := l_X10_bargain_2 FU I K x0 x1 0
theorem c_X10_bargain (d : Nat) {K : Kt} {I : Mem} {x0 : Nat} {x1 : Int32} {I9 : Mem} (h : f_X10_bargain I K x0 x1 = some I9) : Ct (mX10_bargain (d + 6)) cX10_bargain 0 0 [.ref x0, .int x1] I K (Ro (.inl none) I9 K) := by
  refine Ct.of rfl pn_X10 (catR (catI cat0)) (Nat.le_of_ble_eq_true rfl) (show X (mX10_bargain (d + 6)) cX10_bargain 0 0 I K 0 [.ref x0, .int x1, .retAddr 0, .retAddr 0, .retAddr 0, .retAddr 0] [] (Ro (.inl none) I9 K) from ?_)
  unfold f_X10_bargain at h
  refine x_iconst 0 dX10_bargain_0 rfl ?_
  refine x_istoren dX10_bargain_1 (Nat.le_of_ble_eq_true rfl) rfl rfl ?_
  exact (tl_X10_bargain_2 d FU h)
noncomputable def f_X10_bid (I : Mem) (K : Kt) (x0 : Nat) (x1 : Int32) (x2 : Int32) : Option (Int32) := b1 (cO K 8 x0) fun _ => b1 (gR K x0 7) fun r3 => b1 (cO K 11 r3) fun _ => b1 (f_Jx4a65c_get_915e3 I K r3 x1) fun v7 => b1 (cO K 9 v7) fun _ => b1 (cO K 9 v7) fun _ => b1 (cO K 8 x0) fun _ => b1 (gR K x0 9) fun r15 => b1 (cO K 11 r15) fun _ => b1 (f_Jx4a65c_get_915e3 I K r15 x2) fun v19 => b1 (cO K 10 v19) fun _ => b1 (cO K 10 v19) fun _ => b1 (f_X12_value I K v19) fun v25 => some ((if v25 < ((I v7 0) / 2) then v25 else ((I v7 0) / 2)))
theorem c_X10_bid (d : Nat) {K : Kt} {I : Mem} {x0 : Nat} {x1 : Int32} {x2 : Int32} {v : Int32} (h : f_X10_bid I K x0 x1 x2 = some v) : Ct (mX10_bid (d + 3)) cX10_bid 0 0 [.ref x0, .int x1, .int x2] I K (Ro (.inl (some (.int v))) I K) := by
  refine Ct.of rfl pn_X10 (catR (catI (catI cat0))) (Nat.le_of_ble_eq_true rfl) (show X (mX10_bid (d + 3)) cX10_bid 0 0 I K 0 [.ref x0, .int x1, .int x2] [] (Ro (.inl (some (.int v))) I K) from ?_)
  unfold f_X10_bid at h
  refine x_aloadn dX10_bid_0 rfl ?_
  obtain ⟨u1, hq2, h⟩ := b1_s h
  obtain ⟨r3, hq4, h⟩ := b1_s h
  refine x_getR fs_X10_25 (cO_s hq2).1 (cO_s hq2).2 hq4 dX10_bid_1 ?_
  refine x_iloadn dX10_bid_4 rfl ?_
  obtain ⟨u5, hq6, h⟩ := b1_s h
  obtain ⟨v7, hq8, h⟩ := b1_s h
  have hq := c_Jx4a65c_get_915e3 d hq8
  refine X.c0 (z_Vcall [.int x1] [] (cs_X10_49 _) (ci := 11) rfl (cO_s hq6) (dep (show d + 0 + 2 + 1 ≤ (d + 3) from by omega) (Nat.le_of_ble_eq_true rfl)) dX10_bid_5 rfl rfl (Nat.le_of_ble_eq_true rfl) hq ?_)
  obtain ⟨u9, hq10, h⟩ := b1_s h
  refine x_castC (ci := 9) rfl (show Cond.classLink RX10 53 "WishMarketLaw$Person" ∈ wsG from inT7 124 rfl rfl) (cO_s hq10) dX10_bid_8 ?_
  obtain ⟨u11, hq12, h⟩ := b1_s h
  refine x_getIN fn_X10_93 (cO_s hq12).1 (cO_s hq12).2 dX10_bid_11 ?_
  refine x_iconst 2 dX10_bid_14 rfl ?_
  refine x_idiv dX10_bid_15 (by decide) ?_
  refine x_aloadn dX10_bid_16 rfl ?_
  obtain ⟨u13, hq14, h⟩ := b1_s h
  obtain ⟨r15, hq16, h⟩ := b1_s h
  refine x_getR fs_X10_32 (cO_s hq14).1 (cO_s hq14).2 hq16 dX10_bid_17 ?_
  refine x_iloadn dX10_bid_20 rfl ?_
  obtain ⟨u17, hq18, h⟩ := b1_s h
  obtain ⟨v19, hq20, h⟩ := b1_s h
  have hq := c_Jx4a65c_get_915e3 d hq20
  refine X.c0 (z_Vcall [.int x2] [.int ((I v7 0) / 2)] (cs_X10_49 _) (ci := 11) rfl (cO_s hq18) (dep (show d + 0 + 2 + 1 ≤ (d + 3) from by omega) (Nat.le_of_ble_eq_true rfl)) dX10_bid_21 rfl rfl (Nat.le_of_ble_eq_true rfl) hq ?_)
  obtain ⟨u21, hq22, h⟩ := b1_s h
  refine x_castC (ci := 10) rfl (show Cond.classLink RX10 69 "WishMarketLaw$Wish" ∈ wsG from inT6 193 rfl rfl) (cO_s hq22) dX10_bid_24 ?_
  obtain ⟨u23, hq24, h⟩ := b1_s h
  obtain ⟨v25, hq26, h⟩ := b1_s h
  have hq := c_X12_value (d + 1) hq26
  refine X.c0 (z_Vcall [] [.int ((I v7 0) / 2)] (cs_X10_143 _) (ci := 10) rfl (cO_s hq24) (dep (show d + 1 + 1 + 1 ≤ (d + 3) from by omega) (Nat.le_of_ble_eq_true rfl)) dX10_bid_27 rfl rfl (Nat.le_of_ble_eq_true rfl) hq ?_)
  refine x_mmin ms_X10_133 (Nat.le_of_ble_eq_true rfl) (by show 1 ≤ (d + 3); omega) dX10_bid_30 ?_
  cases h
  exact x_iret rfl dX10_bid_33 ⟨rfl, rfl, rfl⟩
noncomputable def l_X10_hammer_86 (m9 : Nat) (I : Mem) (K : Kt) (x0 : Nat) (x2 : Int32) (x3 : Int32) (x4 : Int32) : Option (Mem) := match m9 with
  | 0 => none
  | m9 + 1 => b1 (cO K 8 x0) fun _ => b1 (gR K x0 7) fun r11 => b1 (cO K 11 r11) fun _ => b1 (f_Jx4a65c_size_8abf5 I K r11) fun v15 => if v15 ≤ x4 then (if x3 < 0 then (some (I)) else (b1 (cO K 8 x0) fun _ => b1 (f_X10_bid I K x0 x3 x2) fun v19 => if v19 < 1 then (some (I)) else (b1 (cO K 8 x0) fun _ => b1 (f_X10_bid I K x0 x3 x2) fun v23 => b1 (cO K 8 x0) fun _ => b1 (gR K x0 9) fun r27 => b1 (cO K 11 r27) fun _ => b1 (f_Jx4a65c_get_915e3 I K r27 x2) fun v31 => b1 (cO K 10 v31) fun _ => b1 (cO K 10 v31) fun _ => b1 (f_X12_value I K v31) fun v37 => if v23 < (v37 / 2) then (some (I)) else (b1 (cO K 8 x0) fun _ => b1 (f_X10_bid I K x0 x3 x2) fun v41 => b1 (cO K 8 x0) fun _ => b1 (f_X10_take I K x0 x3 x2 v41) fun I45 => some (I45))))) else (b1 (cO K 8 x0) fun _ => b1 (f_X10_owned I K x0 x4) fun v49 => if 4 ≤ v49 then (l_X10_hammer_86 m9 I K x0 x2 x3 (x4 + 1)) else (if x3 < 0 then (l_X10_hammer_86 m9 I K x0 x2 x4 (x4 + 1)) else (b1 (cO K 8 x0) fun _ => b1 (f_X10_bid I K x0 x4 x2) fun v53 => b1 (cO K 8 x0) fun _ => b1 (f_X10_bid I K x0 x3 x2) fun v57 => if v53 ≤ v57 then (l_X10_hammer_86 m9 I K x0 x2 x3 (x4 + 1)) else (l_X10_hammer_86 m9 I K x0 x2 x4 (x4 + 1)))))
theorem tl_X10_hammer_86 (d : Nat) (m9 : Nat) : ∀ {I : Mem} {K : Kt} {x0 : Nat} {x2 : Int32} {x3 : Int32} {x4 : Int32} {I9 : Mem}, l_X10_hammer_86 m9 I K x0 x2 x3 x4 = some I9 → X (mX10_hammer (d + 4)) cX10_hammer 0 0 I K 86 [.ref x0, .retAddr 0, .int x2, .int x3, .int x4] [] (Ro (.inl none) I9 K) := by
  induction m9 with
  | zero =>
    intro I K x0 x2 x3 x4 I9 h
    cases h
  | succ m9 ih =>
    intro I K x0 x2 x3 x4 I9 h
    unfold l_X10_hammer_86 at h
    refine x_iload dX10_hammer_86 rfl ?_
    refine x_aloadn dX10_hammer_88 rfl ?_
    obtain ⟨u9, hq10, h⟩ := b1_s h
    obtain ⟨r11, hq12, h⟩ := b1_s h
    refine x_getR fs_X10_25 (cO_s hq10).1 (cO_s hq10).2 hq12 dX10_hammer_89 ?_
    obtain ⟨u13, hq14, h⟩ := b1_s h
    obtain ⟨v15, hq16, h⟩ := b1_s h
    have hq := c_Jx4a65c_size_8abf5 (d + 3) hq16
    refine X.c0 (z_Vcall [] [.int x4] (cs_X10_45 _) (ci := 11) rfl (cO_s hq14) (dep (show d + 3 + 0 + 1 ≤ (d + 4) from by omega) (Nat.le_of_ble_eq_true rfl)) dX10_hammer_92 rfl rfl (Nat.le_of_ble_eq_true rfl) hq ?_)
    refine x_icmp_ge 137 dX10_hammer_95 rfl (fun hc => ?_) (fun hc => ?_)
    · have h := ifT hc h
      refine x_iloadn dX10_hammer_137 rfl ?_
      refine x_if_lt 188 dX10_hammer_138 rfl (fun hc => ?_) (fun hc => ?_)
      · have h := ifT hc h
        cases h
        exact x_vret rfl dX10_hammer_188 ⟨rfl, rfl, rfl⟩
      have h := ifF hc h
      refine x_aloadn dX10_hammer_141 rfl ?_
      refine x_iloadn dX10_hammer_142 rfl ?_
      refine x_iloadn dX10_hammer_143 rfl ?_
      obtain ⟨u17, hq18, h⟩ := b1_s h
      obtain ⟨v19, hq20, h⟩ := b1_s h
      have hq := c_X10_bid d hq20
      refine X.c0 (z_Vcall [.int x3, .int x2] [] (cs_X10_165 _) (ci := 8) rfl (cO_s hq18) (dep (show d + 0 + 3 + 1 ≤ (d + 4) from by omega) (Nat.le_of_ble_eq_true rfl)) dX10_hammer_144 rfl rfl (Nat.le_of_ble_eq_true rfl) hq ?_)
      refine x_iconst 1 dX10_hammer_147 rfl ?_
      refine x_icmp_lt 188 dX10_hammer_148 rfl (fun hc => ?_) (fun hc => ?_)
      · have h := ifT hc h
        cases h
        exact x_vret rfl dX10_hammer_188 ⟨rfl, rfl, rfl⟩
      have h := ifF hc h
      refine x_aloadn dX10_hammer_151 rfl ?_
      refine x_iloadn dX10_hammer_152 rfl ?_
      refine x_iloadn dX10_hammer_153 rfl ?_
      obtain ⟨u21, hq22, h⟩ := b1_s h
      obtain ⟨v23, hq24, h⟩ := b1_s h
      have hq := c_X10_bid d hq24
      refine X.c0 (z_Vcall [.int x3, .int x2] [] (cs_X10_165 _) (ci := 8) rfl (cO_s hq22) (dep (show d + 0 + 3 + 1 ≤ (d + 4) from by omega) (Nat.le_of_ble_eq_true rfl)) dX10_hammer_154 rfl rfl (Nat.le_of_ble_eq_true rfl) hq ?_)
      refine x_aloadn dX10_hammer_157 rfl ?_
      obtain ⟨u25, hq26, h⟩ := b1_s h
      obtain ⟨r27, hq28, h⟩ := b1_s h
      refine x_getR fs_X10_32 (cO_s hq26).1 (cO_s hq26).2 hq28 dX10_hammer_158 ?_
      refine x_iloadn dX10_hammer_161 rfl ?_
      obtain ⟨u29, hq30, h⟩ := b1_s h
      obtain ⟨v31, hq32, h⟩ := b1_s h
      have hq := c_Jx4a65c_get_915e3 (d + 1) hq32
      refine X.c0 (z_Vcall [.int x2] [.int v23] (cs_X10_49 _) (ci := 11) rfl (cO_s hq30) (dep (show d + 1 + 2 + 1 ≤ (d + 4) from by omega) (Nat.le_of_ble_eq_true rfl)) dX10_hammer_162 rfl rfl (Nat.le_of_ble_eq_true rfl) hq ?_)
      obtain ⟨u33, hq34, h⟩ := b1_s h
      refine x_castC (ci := 10) rfl (show Cond.classLink RX10 69 "WishMarketLaw$Wish" ∈ wsG from inT6 193 rfl rfl) (cO_s hq34) dX10_hammer_165 ?_
      obtain ⟨u35, hq36, h⟩ := b1_s h
      obtain ⟨v37, hq38, h⟩ := b1_s h
      have hq := c_X12_value (d + 2) hq38
      refine X.c0 (z_Vcall [] [.int v23] (cs_X10_143 _) (ci := 10) rfl (cO_s hq36) (dep (show d + 2 + 1 + 1 ≤ (d + 4) from by omega) (Nat.le_of_ble_eq_true rfl)) dX10_hammer_168 rfl rfl (Nat.le_of_ble_eq_true rfl) hq ?_)
      refine x_iconst 2 dX10_hammer_171 rfl ?_
      refine x_idiv dX10_hammer_172 (by decide) ?_
      refine x_icmp_lt 188 dX10_hammer_173 rfl (fun hc => ?_) (fun hc => ?_)
      · have h := ifT hc h
        cases h
        exact x_vret rfl dX10_hammer_188 ⟨rfl, rfl, rfl⟩
      have h := ifF hc h
      refine x_aloadn dX10_hammer_176 rfl ?_
      refine x_iloadn dX10_hammer_177 rfl ?_
      refine x_iloadn dX10_hammer_178 rfl ?_
      refine x_aloadn dX10_hammer_179 rfl ?_
      refine x_iloadn dX10_hammer_180 rfl ?_
      refine x_iloadn dX10_hammer_181 rfl ?_
      obtain ⟨u39, hq40, h⟩ := b1_s h
      obtain ⟨v41, hq42, h⟩ := b1_s h
      have hq := c_X10_bid d hq42
      refine X.c0 (z_Vcall [.int x3, .int x2] [.int x2, .int x3, .ref x0] (cs_X10_165 _) (ci := 8) rfl (cO_s hq40) (dep (show d + 0 + 3 + 1 ≤ (d + 4) from by omega) (Nat.le_of_ble_eq_true rfl)) dX10_hammer_182 rfl rfl (Nat.le_of_ble_eq_true rfl) hq ?_)
      obtain ⟨u43, hq44, h⟩ := b1_s h
      obtain ⟨I45, hq46, h⟩ := b1_s h
      have hq := c_X10_take d hq46
      refine X.c0 (z_Vcall [.int x3, .int x2, .int v41] [] (cs_X10_129 _) (ci := 8) rfl (cO_s hq44) (dep (show d + 0 + 3 + 1 ≤ (d + 4) from by omega) (Nat.le_of_ble_eq_true rfl)) dX10_hammer_185 rfl rfl (Nat.le_of_ble_eq_true rfl) hq ?_)
      cases h
      exact x_vret rfl dX10_hammer_188 ⟨rfl, rfl, rfl⟩
    have h := ifF hc h
    refine x_aloadn dX10_hammer_98 rfl ?_
    refine x_iload dX10_hammer_99 rfl ?_
    obtain ⟨u47, hq48, h⟩ := b1_s h
    obtain ⟨v49, hq50, h⟩ := b1_s h
    have hq := c_X10_owned d hq50
    refine X.c0 (z_Vcall [.int x4] [] (cs_X10_100 _) (ci := 8) rfl (cO_s hq48) (dep (show d + 0 + 3 + 1 ≤ (d + 4) from by omega) (Nat.le_of_ble_eq_true rfl)) dX10_hammer_101 rfl rfl (Nat.le_of_ble_eq_true rfl) hq ?_)
    refine x_iconst 4 dX10_hammer_104 rfl ?_
    refine x_icmp_ge 131 dX10_hammer_105 rfl (fun hc => ?_) (fun hc => ?_)
    · have h := ifT hc h
      refine z_iinc 1 (by decide) dX10_hammer_131 rfl rfl rfl ?_
      refine x_goto 86 dX10_hammer_134 rfl ?_
      exact (ih h)
    have h := ifF hc h
    refine x_iloadn dX10_hammer_108 rfl ?_
    refine x_if_lt 128 dX10_hammer_109 rfl (fun hc => ?_) (fun hc => ?_)
    · have h := ifT hc h
      refine x_iload dX10_hammer_128 rfl ?_
      refine x_istoren dX10_hammer_130 (Nat.le_of_ble_eq_true rfl) rfl rfl ?_
      refine z_iinc 1 (by decide) dX10_hammer_131 rfl rfl rfl ?_
      refine x_goto 86 dX10_hammer_134 rfl ?_
      exact (ih h)
    have h := ifF hc h
    refine x_aloadn dX10_hammer_112 rfl ?_
    refine x_iload dX10_hammer_113 rfl ?_
    refine x_iloadn dX10_hammer_115 rfl ?_
    obtain ⟨u51, hq52, h⟩ := b1_s h
    obtain ⟨v53, hq54, h⟩ := b1_s h
    have hq := c_X10_bid d hq54
    refine X.c0 (z_Vcall [.int x4, .int x2] [] (cs_X10_165 _) (ci := 8) rfl (cO_s hq52) (dep (show d + 0 + 3 + 1 ≤ (d + 4) from by omega) (Nat.le_of_ble_eq_true rfl)) dX10_hammer_116 rfl rfl (Nat.le_of_ble_eq_true rfl) hq ?_)
    refine x_aloadn dX10_hammer_119 rfl ?_
    refine x_iloadn dX10_hammer_120 rfl ?_
    refine x_iloadn dX10_hammer_121 rfl ?_
    obtain ⟨u55, hq56, h⟩ := b1_s h
    obtain ⟨v57, hq58, h⟩ := b1_s h
    have hq := c_X10_bid d hq58
    refine X.c0 (z_Vcall [.int x3, .int x2] [.int v53] (cs_X10_165 _) (ci := 8) rfl (cO_s hq56) (dep (show d + 0 + 3 + 1 ≤ (d + 4) from by omega) (Nat.le_of_ble_eq_true rfl)) dX10_hammer_122 rfl rfl (Nat.le_of_ble_eq_true rfl) hq ?_)
    refine x_icmp_le 131 dX10_hammer_125 rfl (fun hc => ?_) (fun hc => ?_)
    · have h := ifT hc h
      refine z_iinc 1 (by decide) dX10_hammer_131 rfl rfl rfl ?_
      refine x_goto 86 dX10_hammer_134 rfl ?_
      exact (ih h)
    have h := ifF hc h
    refine x_iload dX10_hammer_128 rfl ?_
    refine x_istoren dX10_hammer_130 (Nat.le_of_ble_eq_true rfl) rfl rfl ?_
    refine z_iinc 1 (by decide) dX10_hammer_131 rfl rfl rfl ?_
    refine x_goto 86 dX10_hammer_134 rfl ?_
    exact (ih h)
noncomputable def l_X10_hammer_4 (m9 : Nat) (I : Mem) (K : Kt) (x0 : Nat) (x1 : Int32) (x2 : Int32) (x3 : Int32) : Option (Mem) := match m9 with
  | 0 => none
  | m9 + 1 => b1 (cO K 8 x0) fun _ => b1 (gR K x0 9) fun r3 => b1 (cO K 11 r3) fun _ => b1 (f_Jx4a65c_size_8abf5 I K r3) fun v7 => if v7 ≤ x3 then (if 0 ≤ x2 then (l_X10_hammer_86 FU I K x0 x2 (-1) 0) else (some (I))) else (b1 (cO K 8 x0) fun _ => b1 (gR K x0 9) fun r61 => b1 (cO K 11 r61) fun _ => b1 (f_Jx4a65c_get_915e3 I K r61 x3) fun v65 => b1 (cO K 10 v65) fun _ => b1 (cO K 10 v65) fun _ => if (I v65 3) = x1 then (if x2 < 0 then (l_X10_hammer_4 m9 I K x0 x1 x3 (x3 + 1)) else (b1 (cO K 8 x0) fun _ => b1 (gR K x0 9) fun r73 => b1 (cO K 11 r73) fun _ => b1 (f_Jx4a65c_get_915e3 I K r73 x3) fun v77 => b1 (cO K 10 v77) fun _ => b1 (cO K 10 v77) fun _ => b1 (f_X12_value I K v77) fun v83 => b1 (cO K 8 x0) fun _ => b1 (gR K x0 9) fun r87 => b1 (cO K 11 r87) fun _ => b1 (f_Jx4a65c_get_915e3 I K r87 x2) fun v91 => b1 (cO K 10 v91) fun _ => b1 (cO K 10 v91) fun _ => b1 (f_X12_value I K v91) fun v97 => if v83 ≤ v97 then (l_X10_hammer_4 m9 I K x0 x1 x2 (x3 + 1)) else (l_X10_hammer_4 m9 I K x0 x1 x3 (x3 + 1)))) else (l_X10_hammer_4 m9 I K x0 x1 x2 (x3 + 1)))
theorem tl_X10_hammer_4 (d : Nat) (m9 : Nat) : ∀ {I : Mem} {K : Kt} {x0 : Nat} {x1 : Int32} {x2 : Int32} {x3 : Int32} {I9 : Mem}, l_X10_hammer_4 m9 I K x0 x1 x2 x3 = some I9 → X (mX10_hammer (d + 4)) cX10_hammer 0 0 I K 4 [.ref x0, .int x1, .int x2, .int x3, .retAddr 0] [] (Ro (.inl none) I9 K) := by
  induction m9 with
  | zero =>
    intro I K x0 x1 x2 x3 I9 h
    cases h
  | succ m9 ih =>
    intro I K x0 x1 x2 x3 I9 h
    unfold l_X10_hammer_4 at h
    refine x_iloadn dX10_hammer_4 rfl ?_
    refine x_aloadn dX10_hammer_5 rfl ?_
    obtain ⟨u1, hq2, h⟩ := b1_s h
    obtain ⟨r3, hq4, h⟩ := b1_s h
    refine x_getR fs_X10_32 (cO_s hq2).1 (cO_s hq2).2 hq4 dX10_hammer_6 ?_
    obtain ⟨u5, hq6, h⟩ := b1_s h
    obtain ⟨v7, hq8, h⟩ := b1_s h
    have hq := c_Jx4a65c_size_8abf5 (d + 3) hq8
    refine X.c0 (z_Vcall [] [.int x3] (cs_X10_45 _) (ci := 11) rfl (cO_s hq6) (dep (show d + 3 + 0 + 1 ≤ (d + 4) from by omega) (Nat.le_of_ble_eq_true rfl)) dX10_hammer_9 rfl rfl (Nat.le_of_ble_eq_true rfl) hq ?_)
    refine x_icmp_ge 76 dX10_hammer_12 rfl (fun hc => ?_) (fun hc => ?_)
    · have h := ifT hc h
      refine x_iloadn dX10_hammer_76 rfl ?_
      refine x_if_ge 81 dX10_hammer_77 rfl (fun hc => ?_) (fun hc => ?_)
      · have h := ifT hc h
        refine x_iconst (-1) dX10_hammer_81 rfl ?_
        refine x_istoren dX10_hammer_82 (Nat.le_of_ble_eq_true rfl) rfl rfl ?_
        refine x_iconst 0 dX10_hammer_83 rfl ?_
        refine x_istore dX10_hammer_84 (Nat.le_of_ble_eq_true rfl) rfl rfl ?_
        exact X.forget (L' := [.ref x0, .retAddr 0, .int x2, .int (-1), .int 0]) ⟨Or.inl rfl, ⟨Or.inr rfl, ⟨Or.inl rfl, ⟨Or.inl rfl, ⟨Or.inl rfl, trivial⟩⟩⟩⟩⟩ (tl_X10_hammer_86 d FU h)
      have h := ifF hc h
      cases h
      exact x_vret rfl dX10_hammer_80 ⟨rfl, rfl, rfl⟩
    have h := ifF hc h
    refine x_aloadn dX10_hammer_15 rfl ?_
    obtain ⟨u59, hq60, h⟩ := b1_s h
    obtain ⟨r61, hq62, h⟩ := b1_s h
    refine x_getR fs_X10_32 (cO_s hq60).1 (cO_s hq60).2 hq62 dX10_hammer_16 ?_
    refine x_iloadn dX10_hammer_19 rfl ?_
    obtain ⟨u63, hq64, h⟩ := b1_s h
    obtain ⟨v65, hq66, h⟩ := b1_s h
    have hq := c_Jx4a65c_get_915e3 (d + 1) hq66
    refine X.c0 (z_Vcall [.int x3] [] (cs_X10_49 _) (ci := 11) rfl (cO_s hq64) (dep (show d + 1 + 2 + 1 ≤ (d + 4) from by omega) (Nat.le_of_ble_eq_true rfl)) dX10_hammer_20 rfl rfl (Nat.le_of_ble_eq_true rfl) hq ?_)
    obtain ⟨u67, hq68, h⟩ := b1_s h
    refine x_castC (ci := 10) rfl (show Cond.classLink RX10 69 "WishMarketLaw$Wish" ∈ wsG from inT6 193 rfl rfl) (cO_s hq68) dX10_hammer_23 ?_
    obtain ⟨u69, hq70, h⟩ := b1_s h
    refine x_getIN fn_X10_77 (cO_s hq70).1 (cO_s hq70).2 dX10_hammer_26 ?_
    refine x_iloadn dX10_hammer_29 rfl ?_
    refine x_icmp_ne 70 dX10_hammer_30 rfl (fun hc => ?_) (fun hc => ?_)
    · have h := ifF hc h
      refine z_iinc 1 (by decide) dX10_hammer_70 rfl rfl rfl ?_
      refine x_goto 4 dX10_hammer_73 rfl ?_
      exact (ih h)
    have h := ifT hc h
    refine x_iloadn dX10_hammer_33 rfl ?_
    refine x_if_lt 68 dX10_hammer_34 rfl (fun hc => ?_) (fun hc => ?_)
    · have h := ifT hc h
      refine x_iloadn dX10_hammer_68 rfl ?_
      refine x_istoren dX10_hammer_69 (Nat.le_of_ble_eq_true rfl) rfl rfl ?_
      refine z_iinc 1 (by decide) dX10_hammer_70 rfl rfl rfl ?_
      refine x_goto 4 dX10_hammer_73 rfl ?_
      exact (ih h)
    have h := ifF hc h
    refine x_aloadn dX10_hammer_37 rfl ?_
    obtain ⟨u71, hq72, h⟩ := b1_s h
    obtain ⟨r73, hq74, h⟩ := b1_s h
    refine x_getR fs_X10_32 (cO_s hq72).1 (cO_s hq72).2 hq74 dX10_hammer_38 ?_
    refine x_iloadn dX10_hammer_41 rfl ?_
    obtain ⟨u75, hq76, h⟩ := b1_s h
    obtain ⟨v77, hq78, h⟩ := b1_s h
    have hq := c_Jx4a65c_get_915e3 (d + 1) hq78
    refine X.c0 (z_Vcall [.int x3] [] (cs_X10_49 _) (ci := 11) rfl (cO_s hq76) (dep (show d + 1 + 2 + 1 ≤ (d + 4) from by omega) (Nat.le_of_ble_eq_true rfl)) dX10_hammer_42 rfl rfl (Nat.le_of_ble_eq_true rfl) hq ?_)
    obtain ⟨u79, hq80, h⟩ := b1_s h
    refine x_castC (ci := 10) rfl (show Cond.classLink RX10 69 "WishMarketLaw$Wish" ∈ wsG from inT6 193 rfl rfl) (cO_s hq80) dX10_hammer_45 ?_
    obtain ⟨u81, hq82, h⟩ := b1_s h
    obtain ⟨v83, hq84, h⟩ := b1_s h
    have hq := c_X12_value (d + 2) hq84
    refine X.c0 (z_Vcall [] [] (cs_X10_143 _) (ci := 10) rfl (cO_s hq82) (dep (show d + 2 + 1 + 1 ≤ (d + 4) from by omega) (Nat.le_of_ble_eq_true rfl)) dX10_hammer_48 rfl rfl (Nat.le_of_ble_eq_true rfl) hq ?_)
    refine x_aloadn dX10_hammer_51 rfl ?_
    obtain ⟨u85, hq86, h⟩ := b1_s h
    obtain ⟨r87, hq88, h⟩ := b1_s h
    refine x_getR fs_X10_32 (cO_s hq86).1 (cO_s hq86).2 hq88 dX10_hammer_52 ?_
    refine x_iloadn dX10_hammer_55 rfl ?_
    obtain ⟨u89, hq90, h⟩ := b1_s h
    obtain ⟨v91, hq92, h⟩ := b1_s h
    have hq := c_Jx4a65c_get_915e3 (d + 1) hq92
    refine X.c0 (z_Vcall [.int x2] [.int v83] (cs_X10_49 _) (ci := 11) rfl (cO_s hq90) (dep (show d + 1 + 2 + 1 ≤ (d + 4) from by omega) (Nat.le_of_ble_eq_true rfl)) dX10_hammer_56 rfl rfl (Nat.le_of_ble_eq_true rfl) hq ?_)
    obtain ⟨u93, hq94, h⟩ := b1_s h
    refine x_castC (ci := 10) rfl (show Cond.classLink RX10 69 "WishMarketLaw$Wish" ∈ wsG from inT6 193 rfl rfl) (cO_s hq94) dX10_hammer_59 ?_
    obtain ⟨u95, hq96, h⟩ := b1_s h
    obtain ⟨v97, hq98, h⟩ := b1_s h
    have hq := c_X12_value (d + 2) hq98
    refine X.c0 (z_Vcall [] [.int v83] (cs_X10_143 _) (ci := 10) rfl (cO_s hq96) (dep (show d + 2 + 1 + 1 ≤ (d + 4) from by omega) (Nat.le_of_ble_eq_true rfl)) dX10_hammer_62 rfl rfl (Nat.le_of_ble_eq_true rfl) hq ?_)
    refine x_icmp_le 70 dX10_hammer_65 rfl (fun hc => ?_) (fun hc => ?_)
    · have h := ifT hc h
      refine z_iinc 1 (by decide) dX10_hammer_70 rfl rfl rfl ?_
      refine x_goto 4 dX10_hammer_73 rfl ?_
      exact (ih h)
    have h := ifF hc h
    refine x_iloadn dX10_hammer_68 rfl ?_
    refine x_istoren dX10_hammer_69 (Nat.le_of_ble_eq_true rfl) rfl rfl ?_
    refine z_iinc 1 (by decide) dX10_hammer_70 rfl rfl rfl ?_
    refine x_goto 4 dX10_hammer_73 rfl ?_
    exact (ih h)
noncomputable def f_X10_hammer (I : Mem) (K : Kt) (x0 : Nat) (x1 : Int32) : Option (Mem) := l_X10_hammer_4 FU I K x0 x1 (-1) 0
theorem c_X10_hammer (d : Nat) {K : Kt} {I : Mem} {x0 : Nat} {x1 : Int32} {I9 : Mem} (h : f_X10_hammer I K x0 x1 = some I9) : Ct (mX10_hammer (d + 4)) cX10_hammer 0 0 [.ref x0, .int x1] I K (Ro (.inl none) I9 K) := by
  refine Ct.of rfl pn_X10 (catR (catI cat0)) (Nat.le_of_ble_eq_true rfl) (show X (mX10_hammer (d + 4)) cX10_hammer 0 0 I K 0 [.ref x0, .int x1, .retAddr 0, .retAddr 0, .retAddr 0] [] (Ro (.inl none) I9 K) from ?_)
  unfold f_X10_hammer at h
  refine x_iconst (-1) dX10_hammer_0 rfl ?_
  refine x_istoren dX10_hammer_1 (Nat.le_of_ble_eq_true rfl) rfl rfl ?_
  refine x_iconst 0 dX10_hammer_2 rfl ?_
  refine x_istoren dX10_hammer_3 (Nat.le_of_ble_eq_true rfl) rfl rfl ?_
  exact (tl_X10_hammer_4 d FU h)
noncomputable def l_X10_tax_4 (m9 : Nat) (I : Mem) (K : Kt) (x0 : Nat) (x1 : Int32) (x2 : Int32) (x3 : Int32) : Option (Mem) := match m9 with
  | 0 => none
  | m9 + 1 => b1 (cO K 8 x0) fun _ => b1 (gR K x0 8) fun r3 => b1 (cO K 11 r3) fun _ => b1 (f_Jx4a65c_size_8abf5 I K r3) fun v7 => if v7 ≤ x3 then (b1 (cO K 8 x0) fun _ => b1 (gR K x0 7) fun r11 => b1 (cO K 11 r11) fun _ => b1 (f_Jx4a65c_get_915e3 I K r11 x1) fun v15 => b1 (cO K 9 v15) fun _ => b1 (cO K 9 v15) fun _ => b1 (cO K 8 x0) fun _ => b1 (cO K 8 x0) fun _ => b1 (gR K x0 7) fun r25 => b1 (cO K 11 r25) fun _ => b1 (f_Jx4a65c_get_915e3 I K r25 x1) fun v29 => b1 (cO K 9 v29) fun _ => b1 (cO K 9 v29) fun _ => b1 (cO K 9 v29) fun _ => b1 (pu I v29 0 ((I v29 0) - (((I v15 0) * (I x0 6)) / 100))) fun I37 => b1 (cO K 8 x0) fun _ => b1 (gR K x0 8) fun r41 => b1 (cO K 11 r41) fun _ => b1 (f_Jx4a65c_get_915e3 I37 K r41 x2) fun v45 => b1 (cA K 100 v45) fun _ => b1 (cA K 100 v45) fun m50 => b1 (ix 1 m50) fun j49 => b1 (cA K 100 v45) fun m54 => b1 (ix 1 m54) fun j53 => b1 (pu I37 v45 j53 ((I37 v45 j49) + (((I v15 0) * (I x0 6)) / 100))) fun I57 => some (I57)) else (b1 (cO K 8 x0) fun _ => b1 (gR K x0 8) fun r61 => b1 (cO K 11 r61) fun _ => b1 (f_Jx4a65c_get_915e3 I K r61 x3) fun v65 => b1 (cA K 100 v65) fun _ => b1 (cA K 100 v65) fun m70 => b1 (ix 1 m70) fun j69 => b1 (cO K 8 x0) fun _ => b1 (gR K x0 8) fun r75 => b1 (cO K 11 r75) fun _ => b1 (f_Jx4a65c_get_915e3 I K r75 x2) fun v79 => b1 (cA K 100 v79) fun _ => b1 (cA K 100 v79) fun m84 => b1 (ix 1 m84) fun j83 => if (I v79 j83) ≤ (I v65 j69) then (l_X10_tax_4 m9 I K x0 x1 x2 (x3 + 1)) else (l_X10_tax_4 m9 I K x0 x1 x3 (x3 + 1)))
theorem tl_X10_tax_4 (d : Nat) (m9 : Nat) : ∀ {I : Mem} {K : Kt} {x0 : Nat} {x1 : Int32} {x2 : Int32} {x3 : Int32} {I9 : Mem}, l_X10_tax_4 m9 I K x0 x1 x2 x3 = some I9 → X (mX10_tax (d + 3)) cX10_tax 0 0 I K 4 [.ref x0, .int x1, .int x2, .int x3] [] (Ro (.inl none) I9 K) := by
  induction m9 with
  | zero =>
    intro I K x0 x1 x2 x3 I9 h
    cases h
  | succ m9 ih =>
    intro I K x0 x1 x2 x3 I9 h
    unfold l_X10_tax_4 at h
    refine x_iloadn dX10_tax_4 rfl ?_
    refine x_aloadn dX10_tax_5 rfl ?_
    obtain ⟨u1, hq2, h⟩ := b1_s h
    obtain ⟨r3, hq4, h⟩ := b1_s h
    refine x_getR fs_X10_29 (cO_s hq2).1 (cO_s hq2).2 hq4 dX10_tax_6 ?_
    obtain ⟨u5, hq6, h⟩ := b1_s h
    obtain ⟨v7, hq8, h⟩ := b1_s h
    have hq := c_Jx4a65c_size_8abf5 (d + 2) hq8
    refine X.c0 (z_Vcall [] [.int x3] (cs_X10_45 _) (ci := 11) rfl (cO_s hq6) (dep (show d + 2 + 0 + 1 ≤ (d + 3) from by omega) (Nat.le_of_ble_eq_true rfl)) dX10_tax_9 rfl rfl (Nat.le_of_ble_eq_true rfl) hq ?_)
    refine x_icmp_ge 52 dX10_tax_12 rfl (fun hc => ?_) (fun hc => ?_)
    · have h := ifT hc h
      refine x_aloadn dX10_tax_52 rfl ?_
      obtain ⟨u9, hq10, h⟩ := b1_s h
      obtain ⟨r11, hq12, h⟩ := b1_s h
      refine x_getR fs_X10_25 (cO_s hq10).1 (cO_s hq10).2 hq12 dX10_tax_53 ?_
      refine x_iloadn dX10_tax_56 rfl ?_
      obtain ⟨u13, hq14, h⟩ := b1_s h
      obtain ⟨v15, hq16, h⟩ := b1_s h
      have hq := c_Jx4a65c_get_915e3 d hq16
      refine X.c0 (z_Vcall [.int x1] [] (cs_X10_49 _) (ci := 11) rfl (cO_s hq14) (dep (show d + 0 + 2 + 1 ≤ (d + 3) from by omega) (Nat.le_of_ble_eq_true rfl)) dX10_tax_57 rfl rfl (Nat.le_of_ble_eq_true rfl) hq ?_)
      obtain ⟨u17, hq18, h⟩ := b1_s h
      refine x_castC (ci := 9) rfl (show Cond.classLink RX10 53 "WishMarketLaw$Person" ∈ wsG from inT7 124 rfl rfl) (cO_s hq18) dX10_tax_60 ?_
      obtain ⟨u19, hq20, h⟩ := b1_s h
      refine x_getIN fn_X10_93 (cO_s hq20).1 (cO_s hq20).2 dX10_tax_63 ?_
      refine x_aloadn dX10_tax_66 rfl ?_
      obtain ⟨u21, hq22, h⟩ := b1_s h
      refine x_getI fs_X10_42 (cO_s hq22).1 (cO_s hq22).2 dX10_tax_67 ?_
      refine x_imul dX10_tax_70 ?_
      refine x_bipush 100 dX10_tax_71 (by decide) ?_
      refine x_idiv dX10_tax_73 (by decide) ?_
      refine x_istoren dX10_tax_74 (Nat.le_of_ble_eq_true rfl) rfl rfl ?_
      refine x_aloadn dX10_tax_75 rfl ?_
      obtain ⟨u23, hq24, h⟩ := b1_s h
      obtain ⟨r25, hq26, h⟩ := b1_s h
      refine x_getR fs_X10_25 (cO_s hq24).1 (cO_s hq24).2 hq26 dX10_tax_76 ?_
      refine x_iloadn dX10_tax_79 rfl ?_
      obtain ⟨u27, hq28, h⟩ := b1_s h
      obtain ⟨v29, hq30, h⟩ := b1_s h
      have hq := c_Jx4a65c_get_915e3 d hq30
      refine X.c0 (z_Vcall [.int x1] [] (cs_X10_49 _) (ci := 11) rfl (cO_s hq28) (dep (show d + 0 + 2 + 1 ≤ (d + 3) from by omega) (Nat.le_of_ble_eq_true rfl)) dX10_tax_80 rfl rfl (Nat.le_of_ble_eq_true rfl) hq ?_)
      obtain ⟨u31, hq32, h⟩ := b1_s h
      refine x_castC (ci := 9) rfl (show Cond.classLink RX10 53 "WishMarketLaw$Person" ∈ wsG from inT7 124 rfl rfl) (cO_s hq32) dX10_tax_83 ?_
      refine x_dup dX10_tax_86 rfl ?_
      obtain ⟨u33, hq34, h⟩ := b1_s h
      refine x_getIN fn_X10_93 (cO_s hq34).1 (cO_s hq34).2 dX10_tax_87 ?_
      refine x_iloadn dX10_tax_90 rfl ?_
      refine x_isub dX10_tax_91 ?_
      obtain ⟨u35, hq36, h⟩ := b1_s h
      obtain ⟨I37, hq38, h⟩ := b1_s h
      refine z_putAN fn_X10_93 (cO_s hq36) ⟨rfl, rfl⟩ hq38 dX10_tax_92 ?_
      refine x_aloadn dX10_tax_95 rfl ?_
      obtain ⟨u39, hq40, h⟩ := b1_s h
      obtain ⟨r41, hq42, h⟩ := b1_s h
      refine x_getR fs_X10_29 (cO_s hq40).1 (cO_s hq40).2 hq42 dX10_tax_96 ?_
      refine x_iloadn dX10_tax_99 rfl ?_
      obtain ⟨u43, hq44, h⟩ := b1_s h
      obtain ⟨v45, hq46, h⟩ := b1_s h
      have hq := c_Jx4a65c_get_915e3 d hq46
      refine X.c0 (z_Vcall [.int x2] [] (cs_X10_49 _) (ci := 11) rfl (cO_s hq44) (dep (show d + 0 + 2 + 1 ≤ (d + 3) from by omega) (Nat.le_of_ble_eq_true rfl)) dX10_tax_100 rfl rfl (Nat.le_of_ble_eq_true rfl) hq ?_)
      obtain ⟨u47, hq48, h⟩ := b1_s h
      refine x_castI (show Cond.classLink RX10 63 "[I" ∈ wsG from inT7 161 rfl rfl) (cA_s hq48) dX10_tax_103 ?_
      refine x_iconst 1 dX10_tax_106 rfl ?_
      refine x_dup2 dX10_tax_107 rfl rfl ?_
      obtain ⟨m50, hq51, h⟩ := b1_s h
      obtain ⟨j49, hq52, h⟩ := b1_s h
      refine z_iald (cA_s hq51) hq52 dX10_tax_108 ?_
      refine x_iloadn dX10_tax_109 rfl ?_
      refine x_iadd dX10_tax_110 ?_
      obtain ⟨m54, hq55, h⟩ := b1_s h
      obtain ⟨j53, hq56, h⟩ := b1_s h
      obtain ⟨I57, hq58, h⟩ := b1_s h
      refine z_iast (cA_s hq55) hq56 hq58 dX10_tax_111 ?_
      cases h
      exact x_vret rfl dX10_tax_112 ⟨rfl, rfl, rfl⟩
    have h := ifF hc h
    refine x_aloadn dX10_tax_15 rfl ?_
    obtain ⟨u59, hq60, h⟩ := b1_s h
    obtain ⟨r61, hq62, h⟩ := b1_s h
    refine x_getR fs_X10_29 (cO_s hq60).1 (cO_s hq60).2 hq62 dX10_tax_16 ?_
    refine x_iloadn dX10_tax_19 rfl ?_
    obtain ⟨u63, hq64, h⟩ := b1_s h
    obtain ⟨v65, hq66, h⟩ := b1_s h
    have hq := c_Jx4a65c_get_915e3 d hq66
    refine X.c0 (z_Vcall [.int x3] [] (cs_X10_49 _) (ci := 11) rfl (cO_s hq64) (dep (show d + 0 + 2 + 1 ≤ (d + 3) from by omega) (Nat.le_of_ble_eq_true rfl)) dX10_tax_20 rfl rfl (Nat.le_of_ble_eq_true rfl) hq ?_)
    obtain ⟨u67, hq68, h⟩ := b1_s h
    refine x_castI (show Cond.classLink RX10 63 "[I" ∈ wsG from inT7 161 rfl rfl) (cA_s hq68) dX10_tax_23 ?_
    refine x_iconst 1 dX10_tax_26 rfl ?_
    obtain ⟨m70, hq71, h⟩ := b1_s h
    obtain ⟨j69, hq72, h⟩ := b1_s h
    refine z_iald (cA_s hq71) hq72 dX10_tax_27 ?_
    refine x_aloadn dX10_tax_28 rfl ?_
    obtain ⟨u73, hq74, h⟩ := b1_s h
    obtain ⟨r75, hq76, h⟩ := b1_s h
    refine x_getR fs_X10_29 (cO_s hq74).1 (cO_s hq74).2 hq76 dX10_tax_29 ?_
    refine x_iloadn dX10_tax_32 rfl ?_
    obtain ⟨u77, hq78, h⟩ := b1_s h
    obtain ⟨v79, hq80, h⟩ := b1_s h
    have hq := c_Jx4a65c_get_915e3 d hq80
    refine X.c0 (z_Vcall [.int x2] [.int (I v65 j69)] (cs_X10_49 _) (ci := 11) rfl (cO_s hq78) (dep (show d + 0 + 2 + 1 ≤ (d + 3) from by omega) (Nat.le_of_ble_eq_true rfl)) dX10_tax_33 rfl rfl (Nat.le_of_ble_eq_true rfl) hq ?_)
    obtain ⟨u81, hq82, h⟩ := b1_s h
    refine x_castI (show Cond.classLink RX10 63 "[I" ∈ wsG from inT7 161 rfl rfl) (cA_s hq82) dX10_tax_36 ?_
    refine x_iconst 1 dX10_tax_39 rfl ?_
    obtain ⟨m84, hq85, h⟩ := b1_s h
    obtain ⟨j83, hq86, h⟩ := b1_s h
    refine z_iald (cA_s hq85) hq86 dX10_tax_40 ?_
    refine x_icmp_ge 46 dX10_tax_41 rfl (fun hc => ?_) (fun hc => ?_)
    · have h := ifT hc h
      refine z_iinc 1 (by decide) dX10_tax_46 rfl rfl rfl ?_
      refine x_goto 4 dX10_tax_49 rfl ?_
      exact (ih h)
    have h := ifF hc h
    refine x_iloadn dX10_tax_44 rfl ?_
    refine x_istoren dX10_tax_45 (Nat.le_of_ble_eq_true rfl) rfl rfl ?_
    refine z_iinc 1 (by decide) dX10_tax_46 rfl rfl rfl ?_
    refine x_goto 4 dX10_tax_49 rfl ?_
    exact (ih h)
noncomputable def f_X10_tax (I : Mem) (K : Kt) (x0 : Nat) (x1 : Int32) : Option (Mem) := l_X10_tax_4 FU I K x0 x1 0 0
theorem c_X10_tax (d : Nat) {K : Kt} {I : Mem} {x0 : Nat} {x1 : Int32} {I9 : Mem} (h : f_X10_tax I K x0 x1 = some I9) : Ct (mX10_tax (d + 3)) cX10_tax 0 0 [.ref x0, .int x1] I K (Ro (.inl none) I9 K) := by
  refine Ct.of rfl pn_X10 (catR (catI cat0)) (Nat.le_of_ble_eq_true rfl) (show X (mX10_tax (d + 3)) cX10_tax 0 0 I K 0 [.ref x0, .int x1, .retAddr 0, .retAddr 0] [] (Ro (.inl none) I9 K) from ?_)
  unfold f_X10_tax at h
  refine x_iconst 0 dX10_tax_0 rfl ?_
  refine x_istoren dX10_tax_1 (Nat.le_of_ble_eq_true rfl) rfl rfl ?_
  refine x_iconst 0 dX10_tax_2 rfl ?_
  refine x_istoren dX10_tax_3 (Nat.le_of_ble_eq_true rfl) rfl rfl ?_
  exact (tl_X10_tax_4 d FU h)
noncomputable def l_X10_granted_4 (m9 : Nat) (I : Mem) (K : Kt) (x0 : Nat) (x1 : Int32) (x2 : Int32) : Option (Int32) := match m9 with
  | 0 => none
  | m9 + 1 => b1 (cO K 8 x0) fun _ => b1 (gR K x0 9) fun r3 => b1 (cO K 11 r3) fun _ => b1 (f_Jx4a65c_size_8abf5 I K r3) fun v7 => if v7 ≤ x2 then (some (x1)) else (b1 (cO K 8 x0) fun _ => b1 (gR K x0 9) fun r11 => b1 (cO K 11 r11) fun _ => b1 (f_Jx4a65c_get_915e3 I K r11 x2) fun v15 => b1 (cO K 10 v15) fun _ => b1 (cO K 10 v15) fun _ => if (I v15 8) = 0 then (l_X10_granted_4 m9 I K x0 x1 (x2 + 1)) else (l_X10_granted_4 m9 I K x0 (x1 + 1) (x2 + 1)))
theorem tl_X10_granted_4 (d : Nat) (m9 : Nat) : ∀ {I : Mem} {K : Kt} {x0 : Nat} {x1 : Int32} {x2 : Int32} {v : Int32}, l_X10_granted_4 m9 I K x0 x1 x2 = some v → X (mX10_granted (d + 3)) cX10_granted 0 0 I K 4 [.ref x0, .int x1, .int x2] [] (Ro (.inl (some (.int v))) I K) := by
  induction m9 with
  | zero =>
    intro I K x0 x1 x2 v h
    cases h
  | succ m9 ih =>
    intro I K x0 x1 x2 v h
    unfold l_X10_granted_4 at h
    refine x_iloadn dX10_granted_4 rfl ?_
    refine x_aloadn dX10_granted_5 rfl ?_
    obtain ⟨u1, hq2, h⟩ := b1_s h
    obtain ⟨r3, hq4, h⟩ := b1_s h
    refine x_getR fs_X10_32 (cO_s hq2).1 (cO_s hq2).2 hq4 dX10_granted_6 ?_
    obtain ⟨u5, hq6, h⟩ := b1_s h
    obtain ⟨v7, hq8, h⟩ := b1_s h
    have hq := c_Jx4a65c_size_8abf5 (d + 2) hq8
    refine X.c0 (z_Vcall [] [.int x2] (cs_X10_45 _) (ci := 11) rfl (cO_s hq6) (dep (show d + 2 + 0 + 1 ≤ (d + 3) from by omega) (Nat.le_of_ble_eq_true rfl)) dX10_granted_9 rfl rfl (Nat.le_of_ble_eq_true rfl) hq ?_)
    refine x_icmp_ge 41 dX10_granted_12 rfl (fun hc => ?_) (fun hc => ?_)
    · have h := ifT hc h
      refine x_iloadn dX10_granted_41 rfl ?_
      cases h
      exact x_iret rfl dX10_granted_42 ⟨rfl, rfl, rfl⟩
    have h := ifF hc h
    refine x_aloadn dX10_granted_15 rfl ?_
    obtain ⟨u9, hq10, h⟩ := b1_s h
    obtain ⟨r11, hq12, h⟩ := b1_s h
    refine x_getR fs_X10_32 (cO_s hq10).1 (cO_s hq10).2 hq12 dX10_granted_16 ?_
    refine x_iloadn dX10_granted_19 rfl ?_
    obtain ⟨u13, hq14, h⟩ := b1_s h
    obtain ⟨v15, hq16, h⟩ := b1_s h
    have hq := c_Jx4a65c_get_915e3 d hq16
    refine X.c0 (z_Vcall [.int x2] [] (cs_X10_49 _) (ci := 11) rfl (cO_s hq14) (dep (show d + 0 + 2 + 1 ≤ (d + 3) from by omega) (Nat.le_of_ble_eq_true rfl)) dX10_granted_20 rfl rfl (Nat.le_of_ble_eq_true rfl) hq ?_)
    obtain ⟨u17, hq18, h⟩ := b1_s h
    refine x_castC (ci := 10) rfl (show Cond.classLink RX10 69 "WishMarketLaw$Wish" ∈ wsG from inT6 193 rfl rfl) (cO_s hq18) dX10_granted_23 ?_
    obtain ⟨u19, hq20, h⟩ := b1_s h
    refine x_getIN fn_X10_146 (cO_s hq20).1 (cO_s hq20).2 dX10_granted_26 ?_
    refine x_if_eq 35 dX10_granted_29 rfl (fun hc => ?_) (fun hc => ?_)
    · have h := ifT hc h
      refine z_iinc 1 (by decide) dX10_granted_35 rfl rfl rfl ?_
      refine x_goto 4 dX10_granted_38 rfl ?_
      exact (ih h)
    have h := ifF hc h
    refine z_iinc 1 (by decide) dX10_granted_32 rfl rfl rfl ?_
    refine z_iinc 1 (by decide) dX10_granted_35 rfl rfl rfl ?_
    refine x_goto 4 dX10_granted_38 rfl ?_
    exact (ih h)
noncomputable def f_X10_granted (I : Mem) (K : Kt) (x0 : Nat) : Option (Int32) := l_X10_granted_4 FU I K x0 0 0
theorem c_X10_granted (d : Nat) {K : Kt} {I : Mem} {x0 : Nat} {v : Int32} (h : f_X10_granted I K x0 = some v) : Ct (mX10_granted (d + 3)) cX10_granted 0 0 [.ref x0] I K (Ro (.inl (some (.int v))) I K) := by
  refine Ct.of rfl pn_X10 (catR cat0) (Nat.le_of_ble_eq_true rfl) (show X (mX10_granted (d + 3)) cX10_granted 0 0 I K 0 [.ref x0, .retAddr 0, .retAddr 0] [] (Ro (.inl (some (.int v))) I K) from ?_)
  unfold f_X10_granted at h
  refine x_iconst 0 dX10_granted_0 rfl ?_
  refine x_istoren dX10_granted_1 (Nat.le_of_ble_eq_true rfl) rfl rfl ?_
  refine x_iconst 0 dX10_granted_2 rfl ?_
  refine x_istoren dX10_granted_3 (Nat.le_of_ble_eq_true rfl) rfl rfl ?_
  exact (tl_X10_granted_4 d FU h)
noncomputable def l_X10_advance_389 (c332 : Mem → Kt → Nat → Int32 → Int32 → Int32 → Int32 → Option (Int32 × Mem)) (I : Mem) (K : Kt) (x0 : Nat) (x1 : Int32) (x2 : Int32) (x3 : Int32) (x5 : Int32) (x6 : Nat) : Option (Int32 × Mem) := b1 (cO K 10 x6) fun _ => b1 (cO K 10 x6) fun _ => b1 (pu I x6 2 ((I x6 2) + 1)) fun I91 => b1 (cO K 10 x6) fun _ => if 10 ≤ (I91 x6 2) then (b1 (cO K 10 x6) fun _ => b1 (f_X12_place I91 K x6 (-1) (-1)) fun I97 => b1 (cO K 10 x6) fun _ => b1 (cF .boolean 1) fun _ => b1 (pu I97 x6 9 1) fun I101 => c332 I101 K x0 x1 x2 x3 (x5 + 1)) else (c332 I91 K x0 x1 x2 x3 (x5 + 1))
theorem tl_X10_advance_389 (d : Nat) {c332 : Mem → Kt → Nat → Int32 → Int32 → Int32 → Int32 → Option (Int32 × Mem)} (hc332 : ∀ {I : Mem} {K : Kt} {x0 : Nat} {x1 : Int32} {x2 : Int32} {x3 : Int32} {x5 : Int32} {v : Int32} {I9 : Mem}, c332 I K x0 x1 x2 x3 x5 = some (v, I9) → X (mX10_advance (d + 7)) cX10_advance 0 0 I K 332 [.ref x0, .int x1, .int x2, .int x3, .retAddr 0, .int x5, .retAddr 0, .retAddr 0, .retAddr 0] [] (Ro (.inl (some (.int v))) I9 K)) : ∀ {I : Mem} {K : Kt} {x0 : Nat} {x1 : Int32} {x2 : Int32} {x3 : Int32} {x5 : Int32} {x6 : Nat} {v : Int32} {I9 : Mem}, l_X10_advance_389 c332 I K x0 x1 x2 x3 x5 x6 = some (v, I9) → X (mX10_advance (d + 7)) cX10_advance 0 0 I K 389 [.ref x0, .int x1, .int x2, .int x3, .retAddr 0, .int x5, .ref x6, .retAddr 0, .retAddr 0] [] (Ro (.inl (some (.int v))) I9 K) := by
  intro I K x0 x1 x2 x3 x5 x6 v I9 h
  unfold l_X10_advance_389 at h
  refine x_aload dX10_advance_389 rfl ?_
  refine x_dup dX10_advance_391 rfl ?_
  obtain ⟨u87, hq88, h⟩ := b1_s h
  refine x_getIN fn_X10_199 (cO_s hq88).1 (cO_s hq88).2 dX10_advance_392 ?_
  refine x_iconst 1 dX10_advance_395 rfl ?_
  refine x_iadd dX10_advance_396 ?_
  obtain ⟨u89, hq90, h⟩ := b1_s h
  obtain ⟨I91, hq92, h⟩ := b1_s h
  refine z_putAN fn_X10_199 (cO_s hq90) ⟨rfl, rfl⟩ hq92 dX10_advance_397 ?_
  refine x_aload dX10_advance_400 rfl ?_
  obtain ⟨u93, hq94, h⟩ := b1_s h
  refine x_getIN fn_X10_199 (cO_s hq94).1 (cO_s hq94).2 dX10_advance_402 ?_
  refine x_bipush 10 dX10_advance_405 (by decide) ?_
  refine x_icmp_ge 413 dX10_advance_407 rfl (fun hc => ?_) (fun hc => ?_)
  · have h := ifT hc h
    refine x_aload dX10_advance_413 rfl ?_
    refine x_iconst (-1) dX10_advance_415 rfl ?_
    refine x_iconst (-1) dX10_advance_416 rfl ?_
    obtain ⟨u95, hq96, h⟩ := b1_s h
    obtain ⟨I97, hq98, h⟩ := b1_s h
    have hq := c_X12_place (d + 6) hq98
    refine X.c0 (z_Vcall [.int (-1), .int (-1)] [] (cs_X10_125 _) (ci := 10) rfl (cO_s hq96) (dep (show d + 6 + 0 + 1 ≤ (d + 7) from by omega) (Nat.le_of_ble_eq_true rfl)) dX10_advance_417 rfl rfl (Nat.le_of_ble_eq_true rfl) hq ?_)
    refine x_aload dX10_advance_420 rfl ?_
    refine x_iconst 1 dX10_advance_422 rfl ?_
    obtain ⟨u99, hq100, h⟩ := b1_s h
    obtain ⟨u102, hq103, h⟩ := b1_s h
    obtain ⟨I101, hq104, h⟩ := b1_s h
    refine z_putAN fn_X10_202 (cO_s hq100) (cF_s hq103) hq104 dX10_advance_423 ?_
    refine z_iinc 1 (by decide) dX10_advance_426 rfl rfl rfl ?_
    refine x_goto 332 dX10_advance_429 rfl ?_
    exact X.forget (L' := [.ref x0, .int x1, .int x2, .int x3, .retAddr 0, .int (x5 + 1), .retAddr 0, .retAddr 0, .retAddr 0]) ⟨Or.inl rfl, ⟨Or.inl rfl, ⟨Or.inl rfl, ⟨Or.inl rfl, ⟨Or.inl rfl, ⟨Or.inl rfl, ⟨Or.inr rfl, ⟨Or.inl rfl, ⟨Or.inl rfl, trivial⟩⟩⟩⟩⟩⟩⟩⟩⟩ (hc332 h)
  have h := ifF hc h
  refine x_goto 426 dX10_advance_410 rfl ?_
  refine z_iinc 1 (by decide) dX10_advance_426 rfl rfl rfl ?_
  refine x_goto 332 dX10_advance_429 rfl ?_
  exact X.forget (L' := [.ref x0, .int x1, .int x2, .int x3, .retAddr 0, .int (x5 + 1), .retAddr 0, .retAddr 0, .retAddr 0]) ⟨Or.inl rfl, ⟨Or.inl rfl, ⟨Or.inl rfl, ⟨Or.inl rfl, ⟨Or.inl rfl, ⟨Or.inl rfl, ⟨Or.inr rfl, ⟨Or.inl rfl, ⟨Or.inl rfl, trivial⟩⟩⟩⟩⟩⟩⟩⟩⟩ (hc332 h)
noncomputable def l_X10_advance_332 (c7 : Mem → Kt → Nat → Int32 → Int32 → Int32 → Option (Int32 × Mem)) (m9 : Nat) (I : Mem) (K : Kt) (x0 : Nat) (x1 : Int32) (x2 : Int32) (x3 : Int32) (x5 : Int32) : Option (Int32 × Mem) := match m9 with
  | 0 => none
  | m9 + 1 => b1 (cO K 8 x0) fun _ => b1 (gR K x0 9) fun r63 => b1 (cO K 11 r63) fun _ => b1 (f_Jx4a65c_size_8abf5 I K r63) fun v67 => if v67 ≤ x5 then (c7 I K x0 x1 x2 (x3 + 1)) else (b1 (cO K 8 x0) fun _ => b1 (cO K 8 x0) fun _ => b1 (nz (I x0 0)) fun _ => if ((I x0 1) - (I x0 1) / (I x0 0) * (I x0 0)) = 0 then (b1 (cO K 8 x0) fun _ => b1 (gR K x0 9) fun r77 => b1 (cO K 11 r77) fun _ => b1 (f_Jx4a65c_get_915e3 I K r77 x5) fun v81 => b1 (cO K 10 v81) fun _ => b1 (cO K 10 v81) fun _ => if 0 ≤ (I v81 3) then (l_X10_advance_389 (l_X10_advance_332 c7 m9) I K x0 x1 x2 x3 x5 v81) else (b1 (cO K 10 v81) fun _ => if 0 ≤ (I v81 4) then (l_X10_advance_389 (l_X10_advance_332 c7 m9) I K x0 x1 x2 x3 x5 v81) else (l_X10_advance_332 c7 m9 I K x0 x1 x2 x3 (x5 + 1)))) else (c7 I K x0 x1 x2 (x3 + 1)))
theorem tl_X10_advance_332 (d : Nat) {c7 : Mem → Kt → Nat → Int32 → Int32 → Int32 → Option (Int32 × Mem)} (hc7 : ∀ {I : Mem} {K : Kt} {x0 : Nat} {x1 : Int32} {x2 : Int32} {x3 : Int32} {v : Int32} {I9 : Mem}, c7 I K x0 x1 x2 x3 = some (v, I9) → X (mX10_advance (d + 7)) cX10_advance 0 0 I K 7 [.ref x0, .int x1, .int x2, .int x3, .retAddr 0, .retAddr 0, .retAddr 0, .retAddr 0, .retAddr 0] [] (Ro (.inl (some (.int v))) I9 K)) (m9 : Nat) : ∀ {I : Mem} {K : Kt} {x0 : Nat} {x1 : Int32} {x2 : Int32} {x3 : Int32} {x5 : Int32} {v : Int32} {I9 : Mem}, l_X10_advance_332 c7 m9 I K x0 x1 x2 x3 x5 = some (v, I9) → X (mX10_advance (d + 7)) cX10_advance 0 0 I K 332 [.ref x0, .int x1, .int x2, .int x3, .retAddr 0, .int x5, .retAddr 0, .retAddr 0, .retAddr 0] [] (Ro (.inl (some (.int v))) I9 K) := by
  induction m9 with
  | zero =>
    intro I K x0 x1 x2 x3 x5 v I9 h
    cases h
  | succ m9 ih =>
    intro I K x0 x1 x2 x3 x5 v I9 h
    unfold l_X10_advance_332 at h
    refine x_iload dX10_advance_332 rfl ?_
    refine x_aloadn dX10_advance_334 rfl ?_
    obtain ⟨u61, hq62, h⟩ := b1_s h
    obtain ⟨r63, hq64, h⟩ := b1_s h
    refine x_getR fs_X10_32 (cO_s hq62).1 (cO_s hq62).2 hq64 dX10_advance_335 ?_
    obtain ⟨u65, hq66, h⟩ := b1_s h
    obtain ⟨v67, hq68, h⟩ := b1_s h
    have hq := c_Jx4a65c_size_8abf5 (d + 6) hq68
    refine X.c0 (z_Vcall [] [.int x5] (cs_X10_45 _) (ci := 11) rfl (cO_s hq66) (dep (show d + 6 + 0 + 1 ≤ (d + 7) from by omega) (Nat.le_of_ble_eq_true rfl)) dX10_advance_338 rfl rfl (Nat.le_of_ble_eq_true rfl) hq ?_)
    refine x_icmp_ge 432 dX10_advance_341 rfl (fun hc => ?_) (fun hc => ?_)
    · have h := ifT hc h
      refine z_iinc 1 (by decide) dX10_advance_432 rfl rfl rfl ?_
      refine x_goto 7 dX10_advance_435 rfl ?_
      exact X.forget (L' := [.ref x0, .int x1, .int x2, .int (x3 + 1), .retAddr 0, .retAddr 0, .retAddr 0, .retAddr 0, .retAddr 0]) ⟨Or.inl rfl, ⟨Or.inl rfl, ⟨Or.inl rfl, ⟨Or.inl rfl, ⟨Or.inl rfl, ⟨Or.inr rfl, ⟨Or.inl rfl, ⟨Or.inl rfl, ⟨Or.inl rfl, trivial⟩⟩⟩⟩⟩⟩⟩⟩⟩ (hc7 h)
    have h := ifF hc h
    refine x_aloadn dX10_advance_344 rfl ?_
    obtain ⟨u69, hq70, h⟩ := b1_s h
    refine x_getI fs_X10_39 (cO_s hq70).1 (cO_s hq70).2 dX10_advance_345 ?_
    refine x_aloadn dX10_advance_348 rfl ?_
    obtain ⟨u71, hq72, h⟩ := b1_s h
    refine x_getI fs_X10_36 (cO_s hq72).1 (cO_s hq72).2 dX10_advance_349 ?_
    obtain ⟨u73, hq74, h⟩ := b1_s h
    refine x_irem dX10_advance_352 (nz_s hq74) ?_
    refine x_if_ne 432 dX10_advance_353 rfl (fun hc => ?_) (fun hc => ?_)
    · have h := ifF hc h
      refine z_iinc 1 (by decide) dX10_advance_432 rfl rfl rfl ?_
      refine x_goto 7 dX10_advance_435 rfl ?_
      exact X.forget (L' := [.ref x0, .int x1, .int x2, .int (x3 + 1), .retAddr 0, .retAddr 0, .retAddr 0, .retAddr 0, .retAddr 0]) ⟨Or.inl rfl, ⟨Or.inl rfl, ⟨Or.inl rfl, ⟨Or.inl rfl, ⟨Or.inl rfl, ⟨Or.inr rfl, ⟨Or.inl rfl, ⟨Or.inl rfl, ⟨Or.inl rfl, trivial⟩⟩⟩⟩⟩⟩⟩⟩⟩ (hc7 h)
    have h := ifT hc h
    refine x_aloadn dX10_advance_356 rfl ?_
    obtain ⟨u75, hq76, h⟩ := b1_s h
    obtain ⟨r77, hq78, h⟩ := b1_s h
    refine x_getR fs_X10_32 (cO_s hq76).1 (cO_s hq76).2 hq78 dX10_advance_357 ?_
    refine x_iload dX10_advance_360 rfl ?_
    obtain ⟨u79, hq80, h⟩ := b1_s h
    obtain ⟨v81, hq82, h⟩ := b1_s h
    have hq := c_Jx4a65c_get_915e3 (d + 4) hq82
    refine X.c0 (z_Vcall [.int x5] [] (cs_X10_49 _) (ci := 11) rfl (cO_s hq80) (dep (show d + 4 + 2 + 1 ≤ (d + 7) from by omega) (Nat.le_of_ble_eq_true rfl)) dX10_advance_362 rfl rfl (Nat.le_of_ble_eq_true rfl) hq ?_)
    obtain ⟨u83, hq84, h⟩ := b1_s h
    refine x_castC (ci := 10) rfl (show Cond.classLink RX10 69 "WishMarketLaw$Wish" ∈ wsG from inT6 193 rfl rfl) (cO_s hq84) dX10_advance_365 ?_
    refine x_astore dX10_advance_368 (Nat.le_of_ble_eq_true rfl) rfl rfl ?_
    refine x_aload dX10_advance_370 rfl ?_
    obtain ⟨u85, hq86, h⟩ := b1_s h
    refine x_getIN fn_X10_77 (cO_s hq86).1 (cO_s hq86).2 dX10_advance_372 ?_
    refine x_if_ge 389 dX10_advance_375 rfl (fun hc => ?_) (fun hc => ?_)
    · have h := ifT hc h
      exact (tl_X10_advance_389 d ih h)
    have h := ifF hc h
    refine x_aload dX10_advance_378 rfl ?_
    obtain ⟨u105, hq106, h⟩ := b1_s h
    refine x_getIN fn_X10_74 (cO_s hq106).1 (cO_s hq106).2 dX10_advance_380 ?_
    refine x_if_ge 389 dX10_advance_383 rfl (fun hc => ?_) (fun hc => ?_)
    · have h := ifT hc h
      exact (tl_X10_advance_389 d ih h)
    have h := ifF hc h
    refine x_goto 426 dX10_advance_386 rfl ?_
    refine z_iinc 1 (by decide) dX10_advance_426 rfl rfl rfl ?_
    refine x_goto 332 dX10_advance_429 rfl ?_
    exact X.forget (L' := [.ref x0, .int x1, .int x2, .int x3, .retAddr 0, .int (x5 + 1), .retAddr 0, .retAddr 0, .retAddr 0]) ⟨Or.inl rfl, ⟨Or.inl rfl, ⟨Or.inl rfl, ⟨Or.inl rfl, ⟨Or.inl rfl, ⟨Or.inl rfl, ⟨Or.inr rfl, ⟨Or.inl rfl, ⟨Or.inl rfl, trivial⟩⟩⟩⟩⟩⟩⟩⟩⟩ (ih h)
noncomputable def l_X10_advance_286 (c7 : Mem → Kt → Nat → Int32 → Int32 → Int32 → Option (Int32 × Mem)) (m9 : Nat) (I : Mem) (K : Kt) (x0 : Nat) (x1 : Int32) (x2 : Int32) (x3 : Int32) (x4 : Int32) (x5 : Int32) : Option (Int32 × Mem) := match m9 with
  | 0 => none
  | m9 + 1 => b1 (cO K 8 x0) fun _ => b1 (gR K x0 7) fun r49 => b1 (cO K 11 r49) fun _ => b1 (f_Jx4a65c_size_8abf5 I K r49) fun v53 => if v53 ≤ x5 then (b1 (cO K 8 x0) fun _ => b1 (cO K 8 x0) fun _ => b1 (pu I x0 1 ((I x0 1) + 1)) fun I59 => l_X10_advance_332 c7 FU I59 K x0 x1 x2 x3 0) else (b1 (cO K 8 x0) fun _ => if x4 = (I x0 5) then (b1 (cO K 8 x0) fun _ => b1 (f_X10_tax I K x0 x5) fun I117 => l_X10_advance_286 c7 m9 I117 K x0 x1 x2 x3 x4 (x5 + 1)) else (b1 (cO K 8 x0) fun _ => b1 (cO K 8 x0) fun _ => b1 (pu I x0 1 ((I x0 1) + 1)) fun I113 => l_X10_advance_332 c7 FU I113 K x0 x1 x2 x3 0))
theorem tl_X10_advance_286 (d : Nat) {c7 : Mem → Kt → Nat → Int32 → Int32 → Int32 → Option (Int32 × Mem)} (hc7 : ∀ {I : Mem} {K : Kt} {x0 : Nat} {x1 : Int32} {x2 : Int32} {x3 : Int32} {v : Int32} {I9 : Mem}, c7 I K x0 x1 x2 x3 = some (v, I9) → X (mX10_advance (d + 7)) cX10_advance 0 0 I K 7 [.ref x0, .int x1, .int x2, .int x3, .retAddr 0, .retAddr 0, .retAddr 0, .retAddr 0, .retAddr 0] [] (Ro (.inl (some (.int v))) I9 K)) (m9 : Nat) : ∀ {I : Mem} {K : Kt} {x0 : Nat} {x1 : Int32} {x2 : Int32} {x3 : Int32} {x4 : Int32} {x5 : Int32} {v : Int32} {I9 : Mem}, l_X10_advance_286 c7 m9 I K x0 x1 x2 x3 x4 x5 = some (v, I9) → X (mX10_advance (d + 7)) cX10_advance 0 0 I K 286 [.ref x0, .int x1, .int x2, .int x3, .int x4, .int x5, .retAddr 0, .retAddr 0, .retAddr 0] [] (Ro (.inl (some (.int v))) I9 K) := by
  induction m9 with
  | zero =>
    intro I K x0 x1 x2 x3 x4 x5 v I9 h
    cases h
  | succ m9 ih =>
    intro I K x0 x1 x2 x3 x4 x5 v I9 h
    unfold l_X10_advance_286 at h
    refine x_iload dX10_advance_286 rfl ?_
    refine x_aloadn dX10_advance_288 rfl ?_
    obtain ⟨u47, hq48, h⟩ := b1_s h
    obtain ⟨r49, hq50, h⟩ := b1_s h
    refine x_getR fs_X10_25 (cO_s hq48).1 (cO_s hq48).2 hq50 dX10_advance_289 ?_
    obtain ⟨u51, hq52, h⟩ := b1_s h
    obtain ⟨v53, hq54, h⟩ := b1_s h
    have hq := c_Jx4a65c_size_8abf5 (d + 6) hq54
    refine X.c0 (z_Vcall [] [.int x5] (cs_X10_45 _) (ci := 11) rfl (cO_s hq52) (dep (show d + 6 + 0 + 1 ≤ (d + 7) from by omega) (Nat.le_of_ble_eq_true rfl)) dX10_advance_292 rfl rfl (Nat.le_of_ble_eq_true rfl) hq ?_)
    refine x_icmp_ge 319 dX10_advance_295 rfl (fun hc => ?_) (fun hc => ?_)
    · have h := ifT hc h
      refine x_aloadn dX10_advance_319 rfl ?_
      refine x_dup dX10_advance_320 rfl ?_
      obtain ⟨u55, hq56, h⟩ := b1_s h
      refine x_getI fs_X10_39 (cO_s hq56).1 (cO_s hq56).2 dX10_advance_321 ?_
      refine x_iconst 1 dX10_advance_324 rfl ?_
      refine x_iadd dX10_advance_325 ?_
      obtain ⟨u57, hq58, h⟩ := b1_s h
      obtain ⟨I59, hq60, h⟩ := b1_s h
      refine z_putA fs_X10_39 (cO_s hq58) ⟨rfl, rfl⟩ hq60 dX10_advance_326 ?_
      refine x_iconst 0 dX10_advance_329 rfl ?_
      refine x_istore dX10_advance_330 (Nat.le_of_ble_eq_true rfl) rfl rfl ?_
      exact X.forget (L' := [.ref x0, .int x1, .int x2, .int x3, .retAddr 0, .int 0, .retAddr 0, .retAddr 0, .retAddr 0]) ⟨Or.inl rfl, ⟨Or.inl rfl, ⟨Or.inl rfl, ⟨Or.inl rfl, ⟨Or.inr rfl, ⟨Or.inl rfl, ⟨Or.inl rfl, ⟨Or.inl rfl, ⟨Or.inl rfl, trivial⟩⟩⟩⟩⟩⟩⟩⟩⟩ (tl_X10_advance_332 d hc7 FU h)
    have h := ifF hc h
    refine x_iload dX10_advance_298 rfl ?_
    refine x_aloadn dX10_advance_300 rfl ?_
    obtain ⟨u107, hq108, h⟩ := b1_s h
    refine x_getI fs_X10_19 (cO_s hq108).1 (cO_s hq108).2 dX10_advance_301 ?_
    refine x_icmp_ne 319 dX10_advance_304 rfl (fun hc => ?_) (fun hc => ?_)
    · have h := ifF hc h
      refine x_aloadn dX10_advance_319 rfl ?_
      refine x_dup dX10_advance_320 rfl ?_
      obtain ⟨u109, hq110, h⟩ := b1_s h
      refine x_getI fs_X10_39 (cO_s hq110).1 (cO_s hq110).2 dX10_advance_321 ?_
      refine x_iconst 1 dX10_advance_324 rfl ?_
      refine x_iadd dX10_advance_325 ?_
      obtain ⟨u111, hq112, h⟩ := b1_s h
      obtain ⟨I113, hq114, h⟩ := b1_s h
      refine z_putA fs_X10_39 (cO_s hq112) ⟨rfl, rfl⟩ hq114 dX10_advance_326 ?_
      refine x_iconst 0 dX10_advance_329 rfl ?_
      refine x_istore dX10_advance_330 (Nat.le_of_ble_eq_true rfl) rfl rfl ?_
      exact X.forget (L' := [.ref x0, .int x1, .int x2, .int x3, .retAddr 0, .int 0, .retAddr 0, .retAddr 0, .retAddr 0]) ⟨Or.inl rfl, ⟨Or.inl rfl, ⟨Or.inl rfl, ⟨Or.inl rfl, ⟨Or.inr rfl, ⟨Or.inl rfl, ⟨Or.inl rfl, ⟨Or.inl rfl, ⟨Or.inl rfl, trivial⟩⟩⟩⟩⟩⟩⟩⟩⟩ (tl_X10_advance_332 d hc7 FU h)
    have h := ifT hc h
    refine x_aloadn dX10_advance_307 rfl ?_
    refine x_iload dX10_advance_308 rfl ?_
    obtain ⟨u115, hq116, h⟩ := b1_s h
    obtain ⟨I117, hq118, h⟩ := b1_s h
    have hq := c_X10_tax (d + 3) hq118
    refine X.c0 (z_Vcall [.int x5] [] (cs_X10_197 _) (ci := 8) rfl (cO_s hq116) (dep (show d + 3 + 3 + 1 ≤ (d + 7) from by omega) (Nat.le_of_ble_eq_true rfl)) dX10_advance_310 rfl rfl (Nat.le_of_ble_eq_true rfl) hq ?_)
    refine z_iinc 1 (by decide) dX10_advance_313 rfl rfl rfl ?_
    refine x_goto 286 dX10_advance_316 rfl ?_
    exact (ih h)
noncomputable def l_X10_advance_250 (c7 : Mem → Kt → Nat → Int32 → Int32 → Int32 → Option (Int32 × Mem)) (m9 : Nat) (I : Mem) (K : Kt) (x0 : Nat) (x1 : Int32) (x2 : Int32) (x3 : Int32) (x4 : Int32) (x5 : Int32) : Option (Int32 × Mem) := match m9 with
  | 0 => none
  | m9 + 1 => b1 (cO K 8 x0) fun _ => b1 (gR K x0 8) fun r41 => b1 (cO K 11 r41) fun _ => b1 (f_Jx4a65c_size_8abf5 I K r41) fun v45 => if v45 ≤ x5 then (l_X10_advance_286 c7 FU I K x0 x1 x2 x3 x4 0) else (b1 (cO K 8 x0) fun _ => if x4 = (I x0 4) then (b1 (cO K 8 x0) fun _ => b1 (f_X10_hammer I K x0 x5) fun I123 => l_X10_advance_250 c7 m9 I123 K x0 x1 x2 x3 x4 (x5 + 1)) else (l_X10_advance_286 c7 FU I K x0 x1 x2 x3 x4 0))
theorem tl_X10_advance_250 (d : Nat) {c7 : Mem → Kt → Nat → Int32 → Int32 → Int32 → Option (Int32 × Mem)} (hc7 : ∀ {I : Mem} {K : Kt} {x0 : Nat} {x1 : Int32} {x2 : Int32} {x3 : Int32} {v : Int32} {I9 : Mem}, c7 I K x0 x1 x2 x3 = some (v, I9) → X (mX10_advance (d + 7)) cX10_advance 0 0 I K 7 [.ref x0, .int x1, .int x2, .int x3, .retAddr 0, .retAddr 0, .retAddr 0, .retAddr 0, .retAddr 0] [] (Ro (.inl (some (.int v))) I9 K)) (m9 : Nat) : ∀ {I : Mem} {K : Kt} {x0 : Nat} {x1 : Int32} {x2 : Int32} {x3 : Int32} {x4 : Int32} {x5 : Int32} {v : Int32} {I9 : Mem}, l_X10_advance_250 c7 m9 I K x0 x1 x2 x3 x4 x5 = some (v, I9) → X (mX10_advance (d + 7)) cX10_advance 0 0 I K 250 [.ref x0, .int x1, .int x2, .int x3, .int x4, .int x5, .retAddr 0, .retAddr 0, .retAddr 0] [] (Ro (.inl (some (.int v))) I9 K) := by
  induction m9 with
  | zero =>
    intro I K x0 x1 x2 x3 x4 x5 v I9 h
    cases h
  | succ m9 ih =>
    intro I K x0 x1 x2 x3 x4 x5 v I9 h
    unfold l_X10_advance_250 at h
    refine x_iload dX10_advance_250 rfl ?_
    refine x_aloadn dX10_advance_252 rfl ?_
    obtain ⟨u39, hq40, h⟩ := b1_s h
    obtain ⟨r41, hq42, h⟩ := b1_s h
    refine x_getR fs_X10_29 (cO_s hq40).1 (cO_s hq40).2 hq42 dX10_advance_253 ?_
    obtain ⟨u43, hq44, h⟩ := b1_s h
    obtain ⟨v45, hq46, h⟩ := b1_s h
    have hq := c_Jx4a65c_size_8abf5 (d + 6) hq46
    refine X.c0 (z_Vcall [] [.int x5] (cs_X10_45 _) (ci := 11) rfl (cO_s hq44) (dep (show d + 6 + 0 + 1 ≤ (d + 7) from by omega) (Nat.le_of_ble_eq_true rfl)) dX10_advance_256 rfl rfl (Nat.le_of_ble_eq_true rfl) hq ?_)
    refine x_icmp_ge 283 dX10_advance_259 rfl (fun hc => ?_) (fun hc => ?_)
    · have h := ifT hc h
      refine x_iconst 0 dX10_advance_283 rfl ?_
      refine x_istore dX10_advance_284 (Nat.le_of_ble_eq_true rfl) rfl rfl ?_
      exact (tl_X10_advance_286 d hc7 FU h)
    have h := ifF hc h
    refine x_iload dX10_advance_262 rfl ?_
    refine x_aloadn dX10_advance_264 rfl ?_
    obtain ⟨u119, hq120, h⟩ := b1_s h
    refine x_getI fs_X10_16 (cO_s hq120).1 (cO_s hq120).2 dX10_advance_265 ?_
    refine x_icmp_ne 283 dX10_advance_268 rfl (fun hc => ?_) (fun hc => ?_)
    · have h := ifF hc h
      refine x_iconst 0 dX10_advance_283 rfl ?_
      refine x_istore dX10_advance_284 (Nat.le_of_ble_eq_true rfl) rfl rfl ?_
      exact (tl_X10_advance_286 d hc7 FU h)
    have h := ifT hc h
    refine x_aloadn dX10_advance_271 rfl ?_
    refine x_iload dX10_advance_272 rfl ?_
    obtain ⟨u121, hq122, h⟩ := b1_s h
    obtain ⟨I123, hq124, h⟩ := b1_s h
    have hq := c_X10_hammer (d + 2) hq124
    refine X.c0 (z_Vcall [.int x5] [] (cs_X10_194 _) (ci := 8) rfl (cO_s hq122) (dep (show d + 2 + 4 + 1 ≤ (d + 7) from by omega) (Nat.le_of_ble_eq_true rfl)) dX10_advance_274 rfl rfl (Nat.le_of_ble_eq_true rfl) hq ?_)
    refine z_iinc 1 (by decide) dX10_advance_277 rfl rfl rfl ?_
    refine x_goto 250 dX10_advance_280 rfl ?_
    exact (ih h)
noncomputable def l_X10_advance_205 (c7 : Mem → Kt → Nat → Int32 → Int32 → Int32 → Option (Int32 × Mem)) (m9 : Nat) (I : Mem) (K : Kt) (x0 : Nat) (x1 : Int32) (x2 : Int32) (x3 : Int32) (x4 : Int32) (x5 : Int32) : Option (Int32 × Mem) := match m9 with
  | 0 => none
  | m9 + 1 => b1 (cO K 8 x0) fun _ => b1 (gR K x0 7) fun r33 => b1 (cO K 11 r33) fun _ => b1 (f_Jx4a65c_size_8abf5 I K r33) fun v37 => if v37 ≤ x5 then (l_X10_advance_250 c7 FU I K x0 x1 x2 x3 x4 0) else (b1 (cO K 8 x0) fun _ => b1 (gR K x0 7) fun r127 => b1 (cO K 11 r127) fun _ => b1 (f_Jx4a65c_get_915e3 I K r127 x5) fun v131 => b1 (cO K 9 v131) fun _ => b1 (cO K 9 v131) fun _ => if (I v131 6) = 0 then (l_X10_advance_205 c7 m9 I K x0 x1 x2 x3 x4 (x5 + 1)) else (b1 (cO K 8 x0) fun _ => b1 (f_X10_bargain I K x0 x5) fun I139 => l_X10_advance_205 c7 m9 I139 K x0 x1 x2 x3 x4 (x5 + 1)))
theorem tl_X10_advance_205 (d : Nat) {c7 : Mem → Kt → Nat → Int32 → Int32 → Int32 → Option (Int32 × Mem)} (hc7 : ∀ {I : Mem} {K : Kt} {x0 : Nat} {x1 : Int32} {x2 : Int32} {x3 : Int32} {v : Int32} {I9 : Mem}, c7 I K x0 x1 x2 x3 = some (v, I9) → X (mX10_advance (d + 7)) cX10_advance 0 0 I K 7 [.ref x0, .int x1, .int x2, .int x3, .retAddr 0, .retAddr 0, .retAddr 0, .retAddr 0, .retAddr 0] [] (Ro (.inl (some (.int v))) I9 K)) (m9 : Nat) : ∀ {I : Mem} {K : Kt} {x0 : Nat} {x1 : Int32} {x2 : Int32} {x3 : Int32} {x4 : Int32} {x5 : Int32} {v : Int32} {I9 : Mem}, l_X10_advance_205 c7 m9 I K x0 x1 x2 x3 x4 x5 = some (v, I9) → X (mX10_advance (d + 7)) cX10_advance 0 0 I K 205 [.ref x0, .int x1, .int x2, .int x3, .int x4, .int x5, .retAddr 0, .retAddr 0, .retAddr 0] [] (Ro (.inl (some (.int v))) I9 K) := by
  induction m9 with
  | zero =>
    intro I K x0 x1 x2 x3 x4 x5 v I9 h
    cases h
  | succ m9 ih =>
    intro I K x0 x1 x2 x3 x4 x5 v I9 h
    unfold l_X10_advance_205 at h
    refine x_iload dX10_advance_205 rfl ?_
    refine x_aloadn dX10_advance_207 rfl ?_
    obtain ⟨u31, hq32, h⟩ := b1_s h
    obtain ⟨r33, hq34, h⟩ := b1_s h
    refine x_getR fs_X10_25 (cO_s hq32).1 (cO_s hq32).2 hq34 dX10_advance_208 ?_
    obtain ⟨u35, hq36, h⟩ := b1_s h
    obtain ⟨v37, hq38, h⟩ := b1_s h
    have hq := c_Jx4a65c_size_8abf5 (d + 6) hq38
    refine X.c0 (z_Vcall [] [.int x5] (cs_X10_45 _) (ci := 11) rfl (cO_s hq36) (dep (show d + 6 + 0 + 1 ≤ (d + 7) from by omega) (Nat.le_of_ble_eq_true rfl)) dX10_advance_211 rfl rfl (Nat.le_of_ble_eq_true rfl) hq ?_)
    refine x_icmp_ge 247 dX10_advance_214 rfl (fun hc => ?_) (fun hc => ?_)
    · have h := ifT hc h
      refine x_iconst 0 dX10_advance_247 rfl ?_
      refine x_istore dX10_advance_248 (Nat.le_of_ble_eq_true rfl) rfl rfl ?_
      exact (tl_X10_advance_250 d hc7 FU h)
    have h := ifF hc h
    refine x_aloadn dX10_advance_217 rfl ?_
    obtain ⟨u125, hq126, h⟩ := b1_s h
    obtain ⟨r127, hq128, h⟩ := b1_s h
    refine x_getR fs_X10_25 (cO_s hq126).1 (cO_s hq126).2 hq128 dX10_advance_218 ?_
    refine x_iload dX10_advance_221 rfl ?_
    obtain ⟨u129, hq130, h⟩ := b1_s h
    obtain ⟨v131, hq132, h⟩ := b1_s h
    have hq := c_Jx4a65c_get_915e3 (d + 4) hq132
    refine X.c0 (z_Vcall [.int x5] [] (cs_X10_49 _) (ci := 11) rfl (cO_s hq130) (dep (show d + 4 + 2 + 1 ≤ (d + 7) from by omega) (Nat.le_of_ble_eq_true rfl)) dX10_advance_223 rfl rfl (Nat.le_of_ble_eq_true rfl) hq ?_)
    obtain ⟨u133, hq134, h⟩ := b1_s h
    refine x_castC (ci := 9) rfl (show Cond.classLink RX10 53 "WishMarketLaw$Person" ∈ wsG from inT7 124 rfl rfl) (cO_s hq134) dX10_advance_226 ?_
    obtain ⟨u135, hq136, h⟩ := b1_s h
    refine x_getIN fn_X10_188 (cO_s hq136).1 (cO_s hq136).2 dX10_advance_229 ?_
    refine x_if_eq 241 dX10_advance_232 rfl (fun hc => ?_) (fun hc => ?_)
    · have h := ifT hc h
      refine z_iinc 1 (by decide) dX10_advance_241 rfl rfl rfl ?_
      refine x_goto 205 dX10_advance_244 rfl ?_
      exact (ih h)
    have h := ifF hc h
    refine x_aloadn dX10_advance_235 rfl ?_
    refine x_iload dX10_advance_236 rfl ?_
    obtain ⟨u137, hq138, h⟩ := b1_s h
    obtain ⟨I139, hq140, h⟩ := b1_s h
    have hq := c_X10_bargain d hq140
    refine X.c0 (z_Vcall [.int x5] [] (cs_X10_191 _) (ci := 8) rfl (cO_s hq138) (dep (show d + 0 + 6 + 1 ≤ (d + 7) from by omega) (Nat.le_of_ble_eq_true rfl)) dX10_advance_238 rfl rfl (Nat.le_of_ble_eq_true rfl) hq ?_)
    refine z_iinc 1 (by decide) dX10_advance_241 rfl rfl rfl ?_
    refine x_goto 205 dX10_advance_244 rfl ?_
    exact (ih h)
noncomputable def l_X10_advance_176 (c121 : Mem → Kt → Nat → Int32 → Int32 → Int32 → Int32 → Int32 → Option (Int32 × Mem)) (I : Mem) (K : Kt) (x0 : Nat) (x1 : Int32) (x2 : Int32) (x3 : Int32) (x4 : Int32) (x5 : Int32) (y0 : Int32) : Option (Int32 × Mem) := if 0 ≤ y0 then (b1 (cO K 8 x0) fun _ => b2 (f_X10_buy I K x0 x5 y0) fun v155 I156 => c121 I156 K x0 x1 x2 x3 x4 (x5 + 1)) else (c121 I K x0 x1 x2 x3 x4 (x5 + 1))
theorem tl_X10_advance_176 (d : Nat) {c121 : Mem → Kt → Nat → Int32 → Int32 → Int32 → Int32 → Int32 → Option (Int32 × Mem)} (hc121 : ∀ {I : Mem} {K : Kt} {x0 : Nat} {x1 : Int32} {x2 : Int32} {x3 : Int32} {x4 : Int32} {x5 : Int32} {v : Int32} {I9 : Mem}, c121 I K x0 x1 x2 x3 x4 x5 = some (v, I9) → X (mX10_advance (d + 7)) cX10_advance 0 0 I K 121 [.ref x0, .int x1, .int x2, .int x3, .int x4, .int x5, .retAddr 0, .retAddr 0, .retAddr 0] [] (Ro (.inl (some (.int v))) I9 K)) : ∀ {I : Mem} {K : Kt} {x0 : Nat} {x1 : Int32} {x2 : Int32} {x3 : Int32} {x4 : Int32} {x5 : Int32} {y0 : Int32} {v : Int32} {I9 : Mem}, l_X10_advance_176 c121 I K x0 x1 x2 x3 x4 x5 y0 = some (v, I9) → X (mX10_advance (d + 7)) cX10_advance 0 0 I K 176 [.ref x0, .int x1, .int x2, .int x3, .int x4, .int x5, .retAddr 0, .retAddr 0, .retAddr 0] [.int y0] (Ro (.inl (some (.int v))) I9 K) := by
  intro I K x0 x1 x2 x3 x4 x5 y0 v I9 h
  unfold l_X10_advance_176 at h
  refine x_istore dX10_advance_176 (Nat.le_of_ble_eq_true rfl) rfl rfl ?_
  refine x_iload dX10_advance_178 rfl ?_
  refine x_if_ge 186 dX10_advance_180 rfl (fun hc => ?_) (fun hc => ?_)
  · have h := ifT hc h
    refine x_aloadn dX10_advance_186 rfl ?_
    refine x_iload dX10_advance_187 rfl ?_
    refine x_iload dX10_advance_189 rfl ?_
    obtain ⟨u153, hq154, h⟩ := b1_s h
    obtain ⟨v155, I156, hq157, h⟩ := b2_s h
    have hq := c_X10_buy (d + 2) hq157
    refine X.c0 (z_Vcall [.int x5, .int y0] [] (cs_X10_185 _) (ci := 8) rfl (cO_s hq154) (dep (show d + 2 + 4 + 1 ≤ (d + 7) from by omega) (Nat.le_of_ble_eq_true rfl)) dX10_advance_191 rfl rfl (Nat.le_of_ble_eq_true rfl) hq ?_)
    refine x_istore dX10_advance_194 (Nat.le_of_ble_eq_true rfl) rfl rfl ?_
    refine z_iinc 1 (by decide) dX10_advance_196 rfl rfl rfl ?_
    refine x_goto 121 dX10_advance_199 rfl ?_
    exact X.forget (L' := [.ref x0, .int x1, .int x2, .int x3, .int x4, .int (x5 + 1), .retAddr 0, .retAddr 0, .retAddr 0]) ⟨Or.inl rfl, ⟨Or.inl rfl, ⟨Or.inl rfl, ⟨Or.inl rfl, ⟨Or.inl rfl, ⟨Or.inl rfl, ⟨Or.inr rfl, ⟨Or.inr rfl, ⟨Or.inl rfl, trivial⟩⟩⟩⟩⟩⟩⟩⟩⟩ (hc121 h)
  have h := ifF hc h
  refine x_goto 196 dX10_advance_183 rfl ?_
  refine z_iinc 1 (by decide) dX10_advance_196 rfl rfl rfl ?_
  refine x_goto 121 dX10_advance_199 rfl ?_
  exact X.forget (L' := [.ref x0, .int x1, .int x2, .int x3, .int x4, .int (x5 + 1), .retAddr 0, .retAddr 0, .retAddr 0]) ⟨Or.inl rfl, ⟨Or.inl rfl, ⟨Or.inl rfl, ⟨Or.inl rfl, ⟨Or.inl rfl, ⟨Or.inl rfl, ⟨Or.inr rfl, ⟨Or.inl rfl, ⟨Or.inl rfl, trivial⟩⟩⟩⟩⟩⟩⟩⟩⟩ (hc121 h)
noncomputable def l_X10_advance_121 (c7 : Mem → Kt → Nat → Int32 → Int32 → Int32 → Option (Int32 × Mem)) (m9 : Nat) (I : Mem) (K : Kt) (x0 : Nat) (x1 : Int32) (x2 : Int32) (x3 : Int32) (x4 : Int32) (x5 : Int32) : Option (Int32 × Mem) := match m9 with
  | 0 => none
  | m9 + 1 => b1 (cO K 8 x0) fun _ => b1 (gR K x0 7) fun r25 => b1 (cO K 11 r25) fun _ => b1 (f_Jx4a65c_size_8abf5 I K r25) fun v29 => if v29 ≤ x5 then (l_X10_advance_205 c7 FU I K x0 x1 x2 x3 x4 0) else (b1 (cO K 8 x0) fun _ => b1 (gR K x0 7) fun r143 => b1 (cO K 11 r143) fun _ => b1 (f_Jx4a65c_get_915e3 I K r143 x5) fun v147 => b1 (cO K 9 v147) fun _ => b1 (cO K 9 v147) fun _ => if (I v147 4) ≤ 0 then (l_X10_advance_176 (l_X10_advance_121 c7 m9) I K x0 x1 x2 x3 x4 x5 (-1)) else (b1 (cO K 8 x0) fun _ => b1 (gR K x0 7) fun r160 => b1 (cO K 11 r160) fun _ => b1 (f_Jx4a65c_get_915e3 I K r160 x5) fun v164 => b1 (cO K 9 v164) fun _ => b1 (cO K 9 v164) fun _ => b1 (cO K 8 x0) fun _ => b1 (f_X10_cheapest I K x0 x5 (I v164 4)) fun v172 => l_X10_advance_176 (l_X10_advance_121 c7 m9) I K x0 x1 x2 x3 x4 x5 v172))
theorem tl_X10_advance_121 (d : Nat) {c7 : Mem → Kt → Nat → Int32 → Int32 → Int32 → Option (Int32 × Mem)} (hc7 : ∀ {I : Mem} {K : Kt} {x0 : Nat} {x1 : Int32} {x2 : Int32} {x3 : Int32} {v : Int32} {I9 : Mem}, c7 I K x0 x1 x2 x3 = some (v, I9) → X (mX10_advance (d + 7)) cX10_advance 0 0 I K 7 [.ref x0, .int x1, .int x2, .int x3, .retAddr 0, .retAddr 0, .retAddr 0, .retAddr 0, .retAddr 0] [] (Ro (.inl (some (.int v))) I9 K)) (m9 : Nat) : ∀ {I : Mem} {K : Kt} {x0 : Nat} {x1 : Int32} {x2 : Int32} {x3 : Int32} {x4 : Int32} {x5 : Int32} {v : Int32} {I9 : Mem}, l_X10_advance_121 c7 m9 I K x0 x1 x2 x3 x4 x5 = some (v, I9) → X (mX10_advance (d + 7)) cX10_advance 0 0 I K 121 [.ref x0, .int x1, .int x2, .int x3, .int x4, .int x5, .retAddr 0, .retAddr 0, .retAddr 0] [] (Ro (.inl (some (.int v))) I9 K) := by
  induction m9 with
  | zero =>
    intro I K x0 x1 x2 x3 x4 x5 v I9 h
    cases h
  | succ m9 ih =>
    intro I K x0 x1 x2 x3 x4 x5 v I9 h
    unfold l_X10_advance_121 at h
    refine x_iload dX10_advance_121 rfl ?_
    refine x_aloadn dX10_advance_123 rfl ?_
    obtain ⟨u23, hq24, h⟩ := b1_s h
    obtain ⟨r25, hq26, h⟩ := b1_s h
    refine x_getR fs_X10_25 (cO_s hq24).1 (cO_s hq24).2 hq26 dX10_advance_124 ?_
    obtain ⟨u27, hq28, h⟩ := b1_s h
    obtain ⟨v29, hq30, h⟩ := b1_s h
    have hq := c_Jx4a65c_size_8abf5 (d + 6) hq30
    refine X.c0 (z_Vcall [] [.int x5] (cs_X10_45 _) (ci := 11) rfl (cO_s hq28) (dep (show d + 6 + 0 + 1 ≤ (d + 7) from by omega) (Nat.le_of_ble_eq_true rfl)) dX10_advance_127 rfl rfl (Nat.le_of_ble_eq_true rfl) hq ?_)
    refine x_icmp_ge 202 dX10_advance_130 rfl (fun hc => ?_) (fun hc => ?_)
    · have h := ifT hc h
      refine x_iconst 0 dX10_advance_202 rfl ?_
      refine x_istore dX10_advance_203 (Nat.le_of_ble_eq_true rfl) rfl rfl ?_
      exact (tl_X10_advance_205 d hc7 FU h)
    have h := ifF hc h
    refine x_aloadn dX10_advance_133 rfl ?_
    obtain ⟨u141, hq142, h⟩ := b1_s h
    obtain ⟨r143, hq144, h⟩ := b1_s h
    refine x_getR fs_X10_25 (cO_s hq142).1 (cO_s hq142).2 hq144 dX10_advance_134 ?_
    refine x_iload dX10_advance_137 rfl ?_
    obtain ⟨u145, hq146, h⟩ := b1_s h
    obtain ⟨v147, hq148, h⟩ := b1_s h
    have hq := c_Jx4a65c_get_915e3 (d + 4) hq148
    refine X.c0 (z_Vcall [.int x5] [] (cs_X10_49 _) (ci := 11) rfl (cO_s hq146) (dep (show d + 4 + 2 + 1 ≤ (d + 7) from by omega) (Nat.le_of_ble_eq_true rfl)) dX10_advance_139 rfl rfl (Nat.le_of_ble_eq_true rfl) hq ?_)
    obtain ⟨u149, hq150, h⟩ := b1_s h
    refine x_castC (ci := 9) rfl (show Cond.classLink RX10 53 "WishMarketLaw$Person" ∈ wsG from inT7 124 rfl rfl) (cO_s hq150) dX10_advance_142 ?_
    obtain ⟨u151, hq152, h⟩ := b1_s h
    refine x_getIN fn_X10_179 (cO_s hq152).1 (cO_s hq152).2 dX10_advance_145 ?_
    refine x_if_le 175 dX10_advance_148 rfl (fun hc => ?_) (fun hc => ?_)
    · have h := ifT hc h
      refine x_iconst (-1) dX10_advance_175 rfl ?_
      exact (tl_X10_advance_176 d ih h)
    have h := ifF hc h
    refine x_aloadn dX10_advance_151 rfl ?_
    refine x_iload dX10_advance_152 rfl ?_
    refine x_aloadn dX10_advance_154 rfl ?_
    obtain ⟨u158, hq159, h⟩ := b1_s h
    obtain ⟨r160, hq161, h⟩ := b1_s h
    refine x_getR fs_X10_25 (cO_s hq159).1 (cO_s hq159).2 hq161 dX10_advance_155 ?_
    refine x_iload dX10_advance_158 rfl ?_
    obtain ⟨u162, hq163, h⟩ := b1_s h
    obtain ⟨v164, hq165, h⟩ := b1_s h
    have hq := c_Jx4a65c_get_915e3 (d + 4) hq165
    refine X.c0 (z_Vcall [.int x5] [.int x5, .ref x0] (cs_X10_49 _) (ci := 11) rfl (cO_s hq163) (dep (show d + 4 + 2 + 1 ≤ (d + 7) from by omega) (Nat.le_of_ble_eq_true rfl)) dX10_advance_160 rfl rfl (Nat.le_of_ble_eq_true rfl) hq ?_)
    obtain ⟨u166, hq167, h⟩ := b1_s h
    refine x_castC (ci := 9) rfl (show Cond.classLink RX10 53 "WishMarketLaw$Person" ∈ wsG from inT7 124 rfl rfl) (cO_s hq167) dX10_advance_163 ?_
    obtain ⟨u168, hq169, h⟩ := b1_s h
    refine x_getIN fn_X10_179 (cO_s hq169).1 (cO_s hq169).2 dX10_advance_166 ?_
    obtain ⟨u170, hq171, h⟩ := b1_s h
    obtain ⟨v172, hq173, h⟩ := b1_s h
    have hq := c_X10_cheapest (d + 1) hq173
    refine X.c0 (z_Vcall [.int x5, .int (I v164 4)] [] (cs_X10_182 _) (ci := 8) rfl (cO_s hq171) (dep (show d + 1 + 5 + 1 ≤ (d + 7) from by omega) (Nat.le_of_ble_eq_true rfl)) dX10_advance_169 rfl rfl (Nat.le_of_ble_eq_true rfl) hq ?_)
    refine x_goto 176 dX10_advance_172 rfl ?_
    exact (tl_X10_advance_176 d ih h)
noncomputable def l_X10_advance_94 (c26 : Mem → Kt → Nat → Int32 → Int32 → Int32 → Int32 → Int32 → Option (Int32 × Mem)) (I : Mem) (K : Kt) (x0 : Nat) (x1 : Int32) (x2 : Int32) (x3 : Int32) (x4 : Int32) (x5 : Int32) (y0 : Int32) : Option (Int32 × Mem) := if 0 ≤ y0 then (b1 (cO K 8 x0) fun _ => b2 (f_X10_grant I K x0 y0) fun v196 I197 => c26 I197 K x0 x1 x2 x3 x4 (x5 + 1)) else (c26 I K x0 x1 x2 x3 x4 (x5 + 1))
theorem tl_X10_advance_94 (d : Nat) {c26 : Mem → Kt → Nat → Int32 → Int32 → Int32 → Int32 → Int32 → Option (Int32 × Mem)} (hc26 : ∀ {I : Mem} {K : Kt} {x0 : Nat} {x1 : Int32} {x2 : Int32} {x3 : Int32} {x4 : Int32} {x5 : Int32} {v : Int32} {I9 : Mem}, c26 I K x0 x1 x2 x3 x4 x5 = some (v, I9) → X (mX10_advance (d + 7)) cX10_advance 0 0 I K 26 [.ref x0, .int x1, .int x2, .int x3, .int x4, .int x5, .retAddr 0, .retAddr 0, .retAddr 0] [] (Ro (.inl (some (.int v))) I9 K)) : ∀ {I : Mem} {K : Kt} {x0 : Nat} {x1 : Int32} {x2 : Int32} {x3 : Int32} {x4 : Int32} {x5 : Int32} {y0 : Int32} {v : Int32} {I9 : Mem}, l_X10_advance_94 c26 I K x0 x1 x2 x3 x4 x5 y0 = some (v, I9) → X (mX10_advance (d + 7)) cX10_advance 0 0 I K 94 [.ref x0, .int x1, .int x2, .int x3, .int x4, .int x5, .retAddr 0, .retAddr 0, .retAddr 0] [.int y0] (Ro (.inl (some (.int v))) I9 K) := by
  intro I K x0 x1 x2 x3 x4 x5 y0 v I9 h
  unfold l_X10_advance_94 at h
  refine x_istore dX10_advance_94 (Nat.le_of_ble_eq_true rfl) rfl rfl ?_
  refine x_iload dX10_advance_96 rfl ?_
  refine x_if_ge 104 dX10_advance_98 rfl (fun hc => ?_) (fun hc => ?_)
  · have h := ifT hc h
    refine x_aloadn dX10_advance_104 rfl ?_
    refine x_iload dX10_advance_105 rfl ?_
    obtain ⟨u194, hq195, h⟩ := b1_s h
    obtain ⟨v196, I197, hq198, h⟩ := b2_s h
    have hq := c_X10_grant (d + 3) hq198
    refine X.c0 (z_Vcall [.int y0] [] (cs_X10_176 _) (ci := 8) rfl (cO_s hq195) (dep (show d + 3 + 3 + 1 ≤ (d + 7) from by omega) (Nat.le_of_ble_eq_true rfl)) dX10_advance_107 rfl rfl (Nat.le_of_ble_eq_true rfl) hq ?_)
    refine x_istore dX10_advance_110 (Nat.le_of_ble_eq_true rfl) rfl rfl ?_
    refine z_iinc 1 (by decide) dX10_advance_112 rfl rfl rfl ?_
    refine x_goto 26 dX10_advance_115 rfl ?_
    exact X.forget (L' := [.ref x0, .int x1, .int x2, .int x3, .int x4, .int (x5 + 1), .retAddr 0, .retAddr 0, .retAddr 0]) ⟨Or.inl rfl, ⟨Or.inl rfl, ⟨Or.inl rfl, ⟨Or.inl rfl, ⟨Or.inl rfl, ⟨Or.inl rfl, ⟨Or.inl rfl, ⟨Or.inr rfl, ⟨Or.inr rfl, trivial⟩⟩⟩⟩⟩⟩⟩⟩⟩ (hc26 h)
  have h := ifF hc h
  refine x_goto 112 dX10_advance_101 rfl ?_
  refine z_iinc 1 (by decide) dX10_advance_112 rfl rfl rfl ?_
  refine x_goto 26 dX10_advance_115 rfl ?_
  exact X.forget (L' := [.ref x0, .int x1, .int x2, .int x3, .int x4, .int (x5 + 1), .retAddr 0, .retAddr 0, .retAddr 0]) ⟨Or.inl rfl, ⟨Or.inl rfl, ⟨Or.inl rfl, ⟨Or.inl rfl, ⟨Or.inl rfl, ⟨Or.inl rfl, ⟨Or.inl rfl, ⟨Or.inr rfl, ⟨Or.inl rfl, trivial⟩⟩⟩⟩⟩⟩⟩⟩⟩ (hc26 h)
noncomputable def l_X10_advance_26 (c7 : Mem → Kt → Nat → Int32 → Int32 → Int32 → Option (Int32 × Mem)) (m9 : Nat) (I : Mem) (K : Kt) (x0 : Nat) (x1 : Int32) (x2 : Int32) (x3 : Int32) (x4 : Int32) (x5 : Int32) : Option (Int32 × Mem) := match m9 with
  | 0 => none
  | m9 + 1 => b1 (cO K 8 x0) fun _ => b1 (gR K x0 7) fun r17 => b1 (cO K 11 r17) fun _ => b1 (f_Jx4a65c_size_8abf5 I K r17) fun v21 => if v21 ≤ x5 then (l_X10_advance_121 c7 FU I K x0 x1 x2 x3 x4 0) else (b1 (cO K 8 x0) fun _ => b1 (gR K x0 7) fun r176 => b1 (cO K 11 r176) fun _ => b1 (f_Jx4a65c_get_915e3 I K r176 x5) fun v180 => b1 (cO K 9 v180) fun _ => b1 (cO K 9 v180) fun _ => if (I v180 1) = x4 then (b1 (cO K 9 v180) fun _ => b1 (cO K 9 v180) fun _ => b1 (pu I v180 2 ((I v180 2) + 1)) fun I190 => b1 (cO K 9 v180) fun _ => if (I190 v180 5) = 0 then (l_X10_advance_94 (l_X10_advance_26 c7 m9) I190 K x0 x1 x2 x3 x4 x5 (-1)) else (b1 (cO K 8 x0) fun _ => b1 (f_X10_bestGrant I190 K x0 x5) fun v201 => l_X10_advance_94 (l_X10_advance_26 c7 m9) I190 K x0 x1 x2 x3 x4 x5 v201)) else (l_X10_advance_26 c7 m9 I K x0 x1 x2 x3 x4 (x5 + 1)))
theorem tl_X10_advance_26 (d : Nat) {c7 : Mem → Kt → Nat → Int32 → Int32 → Int32 → Option (Int32 × Mem)} (hc7 : ∀ {I : Mem} {K : Kt} {x0 : Nat} {x1 : Int32} {x2 : Int32} {x3 : Int32} {v : Int32} {I9 : Mem}, c7 I K x0 x1 x2 x3 = some (v, I9) → X (mX10_advance (d + 7)) cX10_advance 0 0 I K 7 [.ref x0, .int x1, .int x2, .int x3, .retAddr 0, .retAddr 0, .retAddr 0, .retAddr 0, .retAddr 0] [] (Ro (.inl (some (.int v))) I9 K)) (m9 : Nat) : ∀ {I : Mem} {K : Kt} {x0 : Nat} {x1 : Int32} {x2 : Int32} {x3 : Int32} {x4 : Int32} {x5 : Int32} {v : Int32} {I9 : Mem}, l_X10_advance_26 c7 m9 I K x0 x1 x2 x3 x4 x5 = some (v, I9) → X (mX10_advance (d + 7)) cX10_advance 0 0 I K 26 [.ref x0, .int x1, .int x2, .int x3, .int x4, .int x5, .retAddr 0, .retAddr 0, .retAddr 0] [] (Ro (.inl (some (.int v))) I9 K) := by
  induction m9 with
  | zero =>
    intro I K x0 x1 x2 x3 x4 x5 v I9 h
    cases h
  | succ m9 ih =>
    intro I K x0 x1 x2 x3 x4 x5 v I9 h
    unfold l_X10_advance_26 at h
    refine x_iload dX10_advance_26 rfl ?_
    refine x_aloadn dX10_advance_28 rfl ?_
    obtain ⟨u15, hq16, h⟩ := b1_s h
    obtain ⟨r17, hq18, h⟩ := b1_s h
    refine x_getR fs_X10_25 (cO_s hq16).1 (cO_s hq16).2 hq18 dX10_advance_29 ?_
    obtain ⟨u19, hq20, h⟩ := b1_s h
    obtain ⟨v21, hq22, h⟩ := b1_s h
    have hq := c_Jx4a65c_size_8abf5 (d + 6) hq22
    refine X.c0 (z_Vcall [] [.int x5] (cs_X10_45 _) (ci := 11) rfl (cO_s hq20) (dep (show d + 6 + 0 + 1 ≤ (d + 7) from by omega) (Nat.le_of_ble_eq_true rfl)) dX10_advance_32 rfl rfl (Nat.le_of_ble_eq_true rfl) hq ?_)
    refine x_icmp_ge 118 dX10_advance_35 rfl (fun hc => ?_) (fun hc => ?_)
    · have h := ifT hc h
      refine x_iconst 0 dX10_advance_118 rfl ?_
      refine x_istore dX10_advance_119 (Nat.le_of_ble_eq_true rfl) rfl rfl ?_
      exact (tl_X10_advance_121 d hc7 FU h)
    have h := ifF hc h
    refine x_aloadn dX10_advance_38 rfl ?_
    obtain ⟨u174, hq175, h⟩ := b1_s h
    obtain ⟨r176, hq177, h⟩ := b1_s h
    refine x_getR fs_X10_25 (cO_s hq175).1 (cO_s hq175).2 hq177 dX10_advance_39 ?_
    refine x_iload dX10_advance_42 rfl ?_
    obtain ⟨u178, hq179, h⟩ := b1_s h
    obtain ⟨v180, hq181, h⟩ := b1_s h
    have hq := c_Jx4a65c_get_915e3 (d + 4) hq181
    refine X.c0 (z_Vcall [.int x5] [] (cs_X10_49 _) (ci := 11) rfl (cO_s hq179) (dep (show d + 4 + 2 + 1 ≤ (d + 7) from by omega) (Nat.le_of_ble_eq_true rfl)) dX10_advance_44 rfl rfl (Nat.le_of_ble_eq_true rfl) hq ?_)
    obtain ⟨u182, hq183, h⟩ := b1_s h
    refine x_castC (ci := 9) rfl (show Cond.classLink RX10 53 "WishMarketLaw$Person" ∈ wsG from inT7 124 rfl rfl) (cO_s hq183) dX10_advance_47 ?_
    refine x_astore dX10_advance_50 (Nat.le_of_ble_eq_true rfl) rfl rfl ?_
    refine x_aload dX10_advance_52 rfl ?_
    obtain ⟨u184, hq185, h⟩ := b1_s h
    refine x_getIN fn_X10_116 (cO_s hq185).1 (cO_s hq185).2 dX10_advance_54 ?_
    refine x_iload dX10_advance_57 rfl ?_
    refine x_icmp_eq 65 dX10_advance_59 rfl (fun hc => ?_) (fun hc => ?_)
    · have h := ifT hc h
      refine x_aload dX10_advance_65 rfl ?_
      refine x_dup dX10_advance_67 rfl ?_
      obtain ⟨u186, hq187, h⟩ := b1_s h
      refine x_getIN fn_X10_119 (cO_s hq187).1 (cO_s hq187).2 dX10_advance_68 ?_
      refine x_iconst 1 dX10_advance_71 rfl ?_
      refine x_iadd dX10_advance_72 ?_
      obtain ⟨u188, hq189, h⟩ := b1_s h
      obtain ⟨I190, hq191, h⟩ := b1_s h
      refine z_putAN fn_X10_119 (cO_s hq189) ⟨rfl, rfl⟩ hq191 dX10_advance_73 ?_
      refine x_aload dX10_advance_76 rfl ?_
      obtain ⟨u192, hq193, h⟩ := b1_s h
      refine x_getIN fn_X10_170 (cO_s hq193).1 (cO_s hq193).2 dX10_advance_78 ?_
      refine x_if_eq 93 dX10_advance_81 rfl (fun hc => ?_) (fun hc => ?_)
      · have h := ifT hc h
        refine x_iconst (-1) dX10_advance_93 rfl ?_
        exact X.forget (L' := [.ref x0, .int x1, .int x2, .int x3, .int x4, .int x5, .retAddr 0, .retAddr 0, .retAddr 0]) ⟨Or.inl rfl, ⟨Or.inl rfl, ⟨Or.inl rfl, ⟨Or.inl rfl, ⟨Or.inl rfl, ⟨Or.inl rfl, ⟨Or.inr rfl, ⟨Or.inl rfl, ⟨Or.inl rfl, trivial⟩⟩⟩⟩⟩⟩⟩⟩⟩ (tl_X10_advance_94 d ih h)
      have h := ifF hc h
      refine x_aloadn dX10_advance_84 rfl ?_
      refine x_iload dX10_advance_85 rfl ?_
      obtain ⟨u199, hq200, h⟩ := b1_s h
      obtain ⟨v201, hq202, h⟩ := b1_s h
      have hq := c_X10_bestGrant (d + 2) hq202
      refine X.c0 (z_Vcall [.int x5] [] (cs_X10_173 _) (ci := 8) rfl (cO_s hq200) (dep (show d + 2 + 4 + 1 ≤ (d + 7) from by omega) (Nat.le_of_ble_eq_true rfl)) dX10_advance_87 rfl rfl (Nat.le_of_ble_eq_true rfl) hq ?_)
      refine x_goto 94 dX10_advance_90 rfl ?_
      exact X.forget (L' := [.ref x0, .int x1, .int x2, .int x3, .int x4, .int x5, .retAddr 0, .retAddr 0, .retAddr 0]) ⟨Or.inl rfl, ⟨Or.inl rfl, ⟨Or.inl rfl, ⟨Or.inl rfl, ⟨Or.inl rfl, ⟨Or.inl rfl, ⟨Or.inr rfl, ⟨Or.inl rfl, ⟨Or.inl rfl, trivial⟩⟩⟩⟩⟩⟩⟩⟩⟩ (tl_X10_advance_94 d ih h)
    have h := ifF hc h
    refine x_goto 112 dX10_advance_62 rfl ?_
    refine z_iinc 1 (by decide) dX10_advance_112 rfl rfl rfl ?_
    refine x_goto 26 dX10_advance_115 rfl ?_
    exact X.forget (L' := [.ref x0, .int x1, .int x2, .int x3, .int x4, .int (x5 + 1), .retAddr 0, .retAddr 0, .retAddr 0]) ⟨Or.inl rfl, ⟨Or.inl rfl, ⟨Or.inl rfl, ⟨Or.inl rfl, ⟨Or.inl rfl, ⟨Or.inl rfl, ⟨Or.inr rfl, ⟨Or.inl rfl, ⟨Or.inl rfl, trivial⟩⟩⟩⟩⟩⟩⟩⟩⟩ (ih h)
noncomputable def l_X10_advance_7 (m9 : Nat) (I : Mem) (K : Kt) (x0 : Nat) (x1 : Int32) (x2 : Int32) (x3 : Int32) : Option (Int32 × Mem) := match m9 with
  | 0 => none
  | m9 + 1 => if x1 ≤ x3 then (b1 (cO K 8 x0) fun _ => b1 (f_X10_granted I K x0) fun v7 => some ((v7 - x2), I)) else (b1 (cO K 8 x0) fun _ => b1 (cO K 8 x0) fun _ => b1 (nz (I x0 0)) fun _ => l_X10_advance_26 (l_X10_advance_7 m9) FU I K x0 x1 x2 x3 ((I x0 1) - (I x0 1) / (I x0 0) * (I x0 0)) 0)
theorem tl_X10_advance_7 (d : Nat) (m9 : Nat) : ∀ {I : Mem} {K : Kt} {x0 : Nat} {x1 : Int32} {x2 : Int32} {x3 : Int32} {v : Int32} {I9 : Mem}, l_X10_advance_7 m9 I K x0 x1 x2 x3 = some (v, I9) → X (mX10_advance (d + 7)) cX10_advance 0 0 I K 7 [.ref x0, .int x1, .int x2, .int x3, .retAddr 0, .retAddr 0, .retAddr 0, .retAddr 0, .retAddr 0] [] (Ro (.inl (some (.int v))) I9 K) := by
  induction m9 with
  | zero =>
    intro I K x0 x1 x2 x3 v I9 h
    cases h
  | succ m9 ih =>
    intro I K x0 x1 x2 x3 v I9 h
    unfold l_X10_advance_7 at h
    refine x_iloadn dX10_advance_7 rfl ?_
    refine x_iloadn dX10_advance_8 rfl ?_
    refine x_icmp_ge 438 dX10_advance_9 rfl (fun hc => ?_) (fun hc => ?_)
    · have h := ifT hc h
      refine x_aloadn dX10_advance_438 rfl ?_
      obtain ⟨u5, hq6, h⟩ := b1_s h
      obtain ⟨v7, hq8, h⟩ := b1_s h
      have hq := c_X10_granted (d + 3) hq8
      refine X.c0 (z_Vcall [] [] (cs_X10_168 _) (ci := 8) rfl (cO_s hq6) (dep (show d + 3 + 3 + 1 ≤ (d + 7) from by omega) (Nat.le_of_ble_eq_true rfl)) dX10_advance_439 rfl rfl (Nat.le_of_ble_eq_true rfl) hq ?_)
      refine x_iloadn dX10_advance_442 rfl ?_
      refine x_isub dX10_advance_443 ?_
      cases h
      exact x_iret rfl dX10_advance_444 ⟨rfl, rfl, rfl⟩
    have h := ifF hc h
    refine x_aloadn dX10_advance_12 rfl ?_
    obtain ⟨u9, hq10, h⟩ := b1_s h
    refine x_getI fs_X10_39 (cO_s hq10).1 (cO_s hq10).2 dX10_advance_13 ?_
    refine x_aloadn dX10_advance_16 rfl ?_
    obtain ⟨u11, hq12, h⟩ := b1_s h
    refine x_getI fs_X10_36 (cO_s hq12).1 (cO_s hq12).2 dX10_advance_17 ?_
    obtain ⟨u13, hq14, h⟩ := b1_s h
    refine x_irem dX10_advance_20 (nz_s hq14) ?_
    refine x_istore dX10_advance_21 (Nat.le_of_ble_eq_true rfl) rfl rfl ?_
    refine x_iconst 0 dX10_advance_23 rfl ?_
    refine x_istore dX10_advance_24 (Nat.le_of_ble_eq_true rfl) rfl rfl ?_
    exact (tl_X10_advance_26 d ih FU h)
noncomputable def f_X10_advance (I : Mem) (K : Kt) (x0 : Nat) (x1 : Int32) : Option (Int32 × Mem) := b1 (cO K 8 x0) fun _ => b1 (f_X10_granted I K x0) fun v3 => l_X10_advance_7 FU I K x0 x1 v3 0
theorem c_X10_advance (d : Nat) {K : Kt} {I : Mem} {x0 : Nat} {x1 : Int32} {v : Int32} {I9 : Mem} (h : f_X10_advance I K x0 x1 = some (v, I9)) : Ct (mX10_advance (d + 7)) cX10_advance 0 0 [.ref x0, .int x1] I K (Ro (.inl (some (.int v))) I9 K) := by
  refine Ct.of rfl pn_X10 (catR (catI cat0)) (Nat.le_of_ble_eq_true rfl) (show X (mX10_advance (d + 7)) cX10_advance 0 0 I K 0 [.ref x0, .int x1, .retAddr 0, .retAddr 0, .retAddr 0, .retAddr 0, .retAddr 0, .retAddr 0, .retAddr 0] [] (Ro (.inl (some (.int v))) I9 K) from ?_)
  unfold f_X10_advance at h
  refine x_aloadn dX10_advance_0 rfl ?_
  obtain ⟨u1, hq2, h⟩ := b1_s h
  obtain ⟨v3, hq4, h⟩ := b1_s h
  have hq := c_X10_granted (d + 3) hq4
  refine X.c0 (z_Vcall [] [] (cs_X10_168 _) (ci := 8) rfl (cO_s hq2) (dep (show d + 3 + 3 + 1 ≤ (d + 7) from by omega) (Nat.le_of_ble_eq_true rfl)) dX10_advance_1 rfl rfl (Nat.le_of_ble_eq_true rfl) hq ?_)
  refine x_istoren dX10_advance_4 (Nat.le_of_ble_eq_true rfl) rfl rfl ?_
  refine x_iconst 0 dX10_advance_5 rfl ?_
  refine x_istoren dX10_advance_6 (Nat.le_of_ble_eq_true rfl) rfl rfl ?_
  exact (tl_X10_advance_7 d FU h)
noncomputable def f_X11_init (I : Mem) (K : Kt) (x0 : Nat) : Option (Unit) := some (())
theorem c_X11_init (d : Nat) {K : Kt} {I : Mem} {x0 : Nat} {u9 : Unit} (h : f_X11_init I K x0 = some u9) : Ct (mX11_init (d + 1)) cX11_init 0 0 [.ref x0] I K (Ro (.inl none) I K) := by
  refine Ct.of rfl pn_X11 (catR cat0) (Nat.le_of_ble_eq_true rfl) (show X (mX11_init (d + 1)) cX11_init 0 0 I K 0 [.ref x0] [] (Ro (.inl none) I K) from ?_)
  unfold f_X11_init at h
  refine x_aloadn dX11_init_0 rfl ?_
  refine x_objInit (show Cond.methodLink RX11 1 Lib.objectInit ∈ wsG from inT6 96 rfl rfl) (show Cond.instanceMethod Lib.objectInit ∈ wsG from inT1 46 rfl rfl) (show Cond.code Lib.objectInit ⟨#[0xb1]⟩ 1 none ∈ wsG from inT1 47 rfl rfl) (Nat.le_of_ble_eq_true rfl) (by show 1 ≤ (d + 1); omega) dX11_init_1 ?_
  cases h
  exact x_vret rfl dX11_init_4 ⟨rfl, rfl, rfl⟩
noncomputable def f_X12_init (I : Mem) (K : Kt) (x0 : Nat) : Option (Mem) := b1 (cO K 10 x0) fun _ => b1 (pu I x0 3 (-1)) fun I3 => b1 (cO K 10 x0) fun _ => b1 (pu I3 x0 4 (-1)) fun I7 => b1 (cO K 10 x0) fun _ => b1 (pu I7 x0 5 (-1)) fun I11 => b1 (cO K 10 x0) fun _ => b1 (pu I11 x0 6 (-1)) fun I15 => b1 (cO K 10 x0) fun _ => b1 (pu I15 x0 7 (-1)) fun I19 => some (I19)
theorem c_X12_init (d : Nat) {K : Kt} {I : Mem} {x0 : Nat} {I9 : Mem} (h : f_X12_init I K x0 = some I9) : Ct (mX12_init (d + 1)) cX12_init 0 0 [.ref x0] I K (Ro (.inl none) I9 K) := by
  refine Ct.of rfl pn_X12 (catR cat0) (Nat.le_of_ble_eq_true rfl) (show X (mX12_init (d + 1)) cX12_init 0 0 I K 0 [.ref x0] [] (Ro (.inl none) I9 K) from ?_)
  unfold f_X12_init at h
  refine x_aloadn dX12_init_0 rfl ?_
  refine x_objInit (show Cond.methodLink RX12 1 Lib.objectInit ∈ wsG from inT6 130 rfl rfl) (show Cond.instanceMethod Lib.objectInit ∈ wsG from inT1 46 rfl rfl) (show Cond.code Lib.objectInit ⟨#[0xb1]⟩ 1 none ∈ wsG from inT1 47 rfl rfl) (Nat.le_of_ble_eq_true rfl) (by show 1 ≤ (d + 1); omega) dX12_init_1 ?_
  refine x_aloadn dX12_init_4 rfl ?_
  refine x_iconst (-1) dX12_init_5 rfl ?_
  obtain ⟨u1, hq2, h⟩ := b1_s h
  obtain ⟨I3, hq4, h⟩ := b1_s h
  refine z_putA fs_X12_7 (cO_s hq2) ⟨rfl, rfl⟩ hq4 dX12_init_6 ?_
  refine x_aloadn dX12_init_9 rfl ?_
  refine x_iconst (-1) dX12_init_10 rfl ?_
  obtain ⟨u5, hq6, h⟩ := b1_s h
  obtain ⟨I7, hq8, h⟩ := b1_s h
  refine z_putA fs_X12_13 (cO_s hq6) ⟨rfl, rfl⟩ hq8 dX12_init_11 ?_
  refine x_aloadn dX12_init_14 rfl ?_
  refine x_iconst (-1) dX12_init_15 rfl ?_
  obtain ⟨u9, hq10, h⟩ := b1_s h
  obtain ⟨I11, hq12, h⟩ := b1_s h
  refine z_putA fs_X12_16 (cO_s hq10) ⟨rfl, rfl⟩ hq12 dX12_init_16 ?_
  refine x_aloadn dX12_init_19 rfl ?_
  refine x_iconst (-1) dX12_init_20 rfl ?_
  obtain ⟨u13, hq14, h⟩ := b1_s h
  obtain ⟨I15, hq16, h⟩ := b1_s h
  refine z_putA fs_X12_19 (cO_s hq14) ⟨rfl, rfl⟩ hq16 dX12_init_21 ?_
  refine x_aloadn dX12_init_24 rfl ?_
  refine x_iconst (-1) dX12_init_25 rfl ?_
  obtain ⟨u17, hq18, h⟩ := b1_s h
  obtain ⟨I19, hq20, h⟩ := b1_s h
  refine z_putA fs_X12_22 (cO_s hq18) ⟨rfl, rfl⟩ hq20 dX12_init_26 ?_
  cases h
  exact x_vret rfl dX12_init_29 ⟨rfl, rfl, rfl⟩
