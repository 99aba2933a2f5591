noncomputable def f_X10_thrown (I : Mem) (x0 : Nat) : Option (Int32) := some ((I x0 0))
theorem c_X10_thrown (d : Nat) {K : Kt} {I : Mem} {x0 : Nat} (H0 : MK K x0) {v : Int32} (h : f_X10_thrown I x0 = some v) : Ct (mX10_thrown d) cX10_thrown 0 0 [.ref x0] I K (Ro (.inl (some (.int v))) I K) := by
  refine Ct.of rfl pn_X10 (catR cat0) (Nat.le_of_ble_eq_true rfl) (show X _ _ _ _ _ _ 0 [.ref x0] [] _ from ?_)
  unfold f_X10_thrown at h
  refine x_aloadn dX10_thrown_0 rfl ?_
  refine z_getI fs_X10_37 (MK.o H0) dX10_thrown_1 ?_
  cases h
  exact x_iret rfl dX10_thrown_4 ⟨rfl, rfl, rfl⟩
noncomputable def f_X10_in (x0 : Int32) (x1 : Int32) (x2 : Int32) : Option (Int32) := if x0 < x1 then (some (0)) else (if x2 < x0 then (some (0)) else (some (1)))
theorem c_X10_in (d : Nat) {K : Kt} {I : Mem} {x0 : Int32} {x1 : Int32} {x2 : Int32} {v : Int32} (h : f_X10_in x0 x1 x2 = some v) : Ct (mX10_in d) cX10_in 0 0 [.int x0, .int x1, .int x2] I K (Ro (.inl (some (.int v))) I K) := by
  refine Ct.of rfl pn_X10 (catI (catI (catI cat0))) (Nat.le_of_ble_eq_true rfl) (show X _ _ _ _ _ _ 0 [.int x0, .int x1, .int x2] [] _ from ?_)
  unfold f_X10_in at h
  refine x_iloadn dX10_in_0 rfl ?_
  refine x_iloadn dX10_in_1 rfl ?_
  refine x_icmp_gt 14 dX10_in_2 rfl (fun hc => ?_) (fun hc => ?_)
  · have h := ifT hc h
    refine x_iconst 0 dX10_in_14 rfl ?_
    cases h
    exact x_zret rfl rfl dX10_in_15 ⟨rfl, rfl, rfl⟩
  have h := ifF hc h
  refine x_iloadn dX10_in_5 rfl ?_
  refine x_iloadn dX10_in_6 rfl ?_
  refine x_icmp_gt 14 dX10_in_7 rfl (fun hc => ?_) (fun hc => ?_)
  · have h := ifT hc h
    refine x_iconst 0 dX10_in_14 rfl ?_
    cases h
    exact x_zret rfl rfl dX10_in_15 ⟨rfl, rfl, rfl⟩
  have h := ifF hc h
  refine x_iconst 1 dX10_in_10 rfl ?_
  refine x_goto 15 dX10_in_11 rfl ?_
  cases h
  exact x_zret rfl rfl dX10_in_15 ⟨rfl, rfl, rfl⟩
noncomputable def f_X10_one (x0 : Int32) : Option (Int32) := if x0 = 0 then (some (0)) else (some (1))
theorem c_X10_one (d : Nat) {K : Kt} {I : Mem} {x0 : Int32} {v : Int32} (h : f_X10_one x0 = some v) : Ct (mX10_one d) cX10_one 0 0 [.int x0] I K (Ro (.inl (some (.int v))) I K) := by
  refine Ct.of rfl pn_X10 (catI cat0) (Nat.le_of_ble_eq_true rfl) (show X _ _ _ _ _ _ 0 [.int x0] [] _ from ?_)
  unfold f_X10_one at h
  refine x_iloadn dX10_one_0 rfl ?_
  refine x_if_eq 8 dX10_one_1 rfl (fun hc => ?_) (fun hc => ?_)
  · have h := ifT hc h
    refine x_iconst 0 dX10_one_8 rfl ?_
    cases h
    exact x_iret rfl dX10_one_9 ⟨rfl, rfl, rfl⟩
  have h := ifF hc h
  refine x_iconst 1 dX10_one_4 rfl ?_
  refine x_goto 9 dX10_one_5 rfl ?_
  cases h
  exact x_iret rfl dX10_one_9 ⟨rfl, rfl, rfl⟩
noncomputable def l_X10_may_26 (I : Mem) (x0 : Nat) (y0 : Int32) : Option (Int32 × Mem) := b1 (pu I x0 0 y0) fun I1 => if (I1 x0 0) = 0 then (some (1, I1)) else (some (0, I1))
theorem tl_X10_may_26 (d : Nat) {K : Kt} : ∀ {I : Mem} {x0 : Nat} (H0 : MK K x0) {y0 : Int32} {v : Int32} {I9 : Mem}, l_X10_may_26 I x0 y0 = some (v, I9) → X (mX10_may d) cX10_may 0 0 I K 26 [.ref x0, .retAddr 0, .retAddr 0, .retAddr 0] [.int y0, .ref x0] (Ro (.inl (some (.int v))) I9 K) := by
  intro I x0 H0 y0 v I9 h
  unfold l_X10_may_26 at h
  obtain ⟨I1, hI1, h⟩ := b1_s h
  refine z_putI fs_X10_37 (MK.o H0) hI1 dX10_may_26 ?_
  refine x_aloadn dX10_may_29 rfl ?_
  refine z_getI fs_X10_37 (MK.o H0) dX10_may_30 ?_
  refine x_if_ne 40 dX10_may_33 rfl (fun hc => ?_) (fun hc => ?_)
  · have h := ifF hc h
    refine x_iconst 0 dX10_may_40 rfl ?_
    cases h
    exact x_zret rfl rfl dX10_may_41 ⟨rfl, rfl, rfl⟩
  have h := ifT hc h
  refine x_iconst 1 dX10_may_36 rfl ?_
  refine x_goto 41 dX10_may_37 rfl ?_
  cases h
  exact x_zret rfl rfl dX10_may_41 ⟨rfl, rfl, rfl⟩
noncomputable def f_X10_may (I : Mem) (x0 : Nat) (x1 : Int32) (x2 : Int32) (x3 : Int32) : Option (Int32 × Mem) := if x1 = 0 then (l_X10_may_26 I x0 1) else (if x2 = 0 then (l_X10_may_26 I x0 2) else (if x3 = 0 then (l_X10_may_26 I x0 3) else (l_X10_may_26 I x0 0)))
theorem c_X10_may (d : Nat) {K : Kt} {I : Mem} {x0 : Nat} (H0 : MK K x0) {x1 : Int32} {x2 : Int32} {x3 : Int32} {v : Int32} {I9 : Mem} (h : f_X10_may I x0 x1 x2 x3 = some (v, I9)) : Ct (mX10_may d) cX10_may 0 0 [.ref x0, .int x1, .int x2, .int x3] I K (Ro (.inl (some (.int v))) I9 K) := by
  refine Ct.of rfl pn_X10 (catR (catI (catI (catI cat0)))) (Nat.le_of_ble_eq_true rfl) (show X _ _ _ _ _ _ 0 [.ref x0, .int x1, .int x2, .int x3] [] _ from ?_)
  unfold f_X10_may at h
  refine x_aloadn dX10_may_0 rfl ?_
  refine x_iloadn dX10_may_1 rfl ?_
  refine x_if_ne 9 dX10_may_2 rfl (fun hc => ?_) (fun hc => ?_)
  · have h := ifF hc h
    refine x_iloadn dX10_may_9 rfl ?_
    refine x_if_ne 17 dX10_may_10 rfl (fun hc => ?_) (fun hc => ?_)
    · have h := ifF hc h
      refine x_iloadn dX10_may_17 rfl ?_
      refine x_if_eq 25 dX10_may_18 rfl (fun hc => ?_) (fun hc => ?_)
      · have h := ifT hc h
        refine x_iconst 3 dX10_may_25 rfl ?_
        exact X.forget (L' := [.ref x0, .retAddr 0, .retAddr 0, .retAddr 0]) ⟨Or.inl rfl, ⟨Or.inr rfl, ⟨Or.inr rfl, ⟨Or.inr rfl, trivial⟩⟩⟩⟩ (tl_X10_may_26 d H0 h)
      have h := ifF hc h
      refine x_iconst 0 dX10_may_21 rfl ?_
      refine x_goto 26 dX10_may_22 rfl ?_
      exact X.forget (L' := [.ref x0, .retAddr 0, .retAddr 0, .retAddr 0]) ⟨Or.inl rfl, ⟨Or.inr rfl, ⟨Or.inr rfl, ⟨Or.inr rfl, trivial⟩⟩⟩⟩ (tl_X10_may_26 d H0 h)
    have h := ifT hc h
    refine x_iconst 2 dX10_may_13 rfl ?_
    refine x_goto 26 dX10_may_14 rfl ?_
    exact X.forget (L' := [.ref x0, .retAddr 0, .retAddr 0, .retAddr 0]) ⟨Or.inl rfl, ⟨Or.inr rfl, ⟨Or.inr rfl, ⟨Or.inr rfl, trivial⟩⟩⟩⟩ (tl_X10_may_26 d H0 h)
  have h := ifT hc h
  refine x_iconst 1 dX10_may_5 rfl ?_
  refine x_goto 26 dX10_may_6 rfl ?_
  exact X.forget (L' := [.ref x0, .retAddr 0, .retAddr 0, .retAddr 0]) ⟨Or.inl rfl, ⟨Or.inr rfl, ⟨Or.inr rfl, ⟨Or.inr rfl, trivial⟩⟩⟩⟩ (tl_X10_may_26 d H0 h)
noncomputable def f_X10_mayTwo (I : Mem) (x0 : Nat) (x1 : Int32) (x2 : Int32) : Option (Int32 × Mem) := b2 (f_X10_may I x0 x1 x2 1) fun v1 I2 => b1 (cB v1) fun _ => some (v1, I2)
theorem c_X10_mayTwo (d : Nat) {K : Kt} {I : Mem} {x0 : Nat} (H0 : MK K x0) {x1 : Int32} {x2 : Int32} {v : Int32} {I9 : Mem} (h : f_X10_mayTwo I x0 x1 x2 = some (v, I9)) : Ct (mX10_mayTwo (d + 1)) cX10_mayTwo 0 0 [.ref x0, .int x1, .int x2] I K (Ro (.inl (some (.int v))) I9 K) := by
  refine Ct.of rfl pn_X10 (catR (catI (catI cat0))) (Nat.le_of_ble_eq_true rfl) (show X _ _ _ _ _ _ 0 [.ref x0, .int x1, .int x2] [] _ from ?_)
  unfold f_X10_mayTwo at h
  refine x_aloadn dX10_mayTwo_0 rfl ?_
  refine x_iloadn dX10_mayTwo_1 rfl ?_
  refine x_iloadn dX10_mayTwo_2 rfl ?_
  refine x_iconst 1 dX10_mayTwo_3 rfl ?_
  obtain ⟨v1, I2, h3, h⟩ := b2_s h
  refine z_V1 [.int x1, .int x2, .int 1] [] (cs_X10_40 _) (ci := 8) rfl (MK.o H0) (dep (show d + 0 + 0 + 1 ≤ (d + 1) from by omega) (Nat.le_of_ble_eq_true rfl)) dX10_mayTwo_4 rfl rfl (Nat.le_of_ble_eq_true rfl) (c_X10_may d (K := K) (I := I) H0 h3) ?_
  obtain ⟨u4, hu4, h⟩ := b1_s h
  cases h
  exact x_zret rfl (nar_b hu4) dX10_mayTwo_7 ⟨rfl, rfl, rfl⟩
noncomputable def f_X10_mayLook (I : Mem) (x0 : Nat) : Option (Int32 × Mem) := b2 (f_X10_may I x0 (I x0 6) 1 1) fun v1 I2 => b1 (cB v1) fun _ => some (v1, I2)
theorem c_X10_mayLook (d : Nat) {K : Kt} {I : Mem} {x0 : Nat} (H0 : MK K x0) {v : Int32} {I9 : Mem} (h : f_X10_mayLook I x0 = some (v, I9)) : Ct (mX10_mayLook (d + 1)) cX10_mayLook 0 0 [.ref x0] I K (Ro (.inl (some (.int v))) I9 K) := by
  refine Ct.of rfl pn_X10 (catR cat0) (Nat.le_of_ble_eq_true rfl) (show X _ _ _ _ _ _ 0 [.ref x0] [] _ from ?_)
  unfold f_X10_mayLook at h
  refine x_aloadn dX10_mayLook_0 rfl ?_
  refine x_aloadn dX10_mayLook_1 rfl ?_
  refine z_getI fs_X10_44 (MK.o H0) dX10_mayLook_2 ?_
  refine x_iconst 1 dX10_mayLook_5 rfl ?_
  refine x_iconst 1 dX10_mayLook_6 rfl ?_
  obtain ⟨v1, I2, h3, h⟩ := b2_s h
  refine z_V1 [.int (I x0 6), .int 1, .int 1] [] (cs_X10_40 _) (ci := 8) rfl (MK.o H0) (dep (show d + 0 + 0 + 1 ≤ (d + 1) from by omega) (Nat.le_of_ble_eq_true rfl)) dX10_mayLook_7 rfl rfl (Nat.le_of_ble_eq_true rfl) (c_X10_may d (K := K) (I := I) H0 h3) ?_
  obtain ⟨u4, hu4, h⟩ := b1_s h
  cases h
  exact x_zret rfl (nar_b hu4) dX10_mayLook_10 ⟨rfl, rfl, rfl⟩
noncomputable def l_X10_lays_3 (n : Nat) (I : Mem) (x0 : Nat) (n0 : Nat) (x1 : Int32) (x2 : Nat) (n2 : Nat) (x3 : Int32) (x4 : Int32) : Option (Mem) := match n with
  | 0 => none
  | n + 1 => if 355 ≤ x4 then (some (I)) else (b1 (ix (x1 + x4) n0) fun j1 => b1 (ix (x3 + x4) n2) fun j2 => b1 (pu I x2 j2 (I x0 j1)) fun I3 => l_X10_lays_3 n I3 x0 n0 x1 x2 n2 x3 (x4 + 1))
theorem tl_X10_lays_3 (d : Nat) {K : Kt} (n : Nat) : ∀ {I : Mem} {x0 : Nat} {n0 : Nat} (H0 : LA K 100 n0 x0) {x1 : Int32} {x2 : Nat} {n2 : Nat} (H2 : LA K 100 n2 x2) {x3 : Int32} {x4 : Int32} {I9 : Mem}, l_X10_lays_3 n I x0 n0 x1 x2 n2 x3 x4 = some I9 → X (mX10_lays d) cX10_lays 0 0 I K 3 [.ref x0, .int x1, .ref x2, .int x3, .int x4] [] (Ro (.inl none) I9 K) := by
  induction n with
  | zero =>
    intro I x0 n0 H0 x1 x2 n2 H2 x3 x4 I9 h
    cases h
  | succ n ih =>
    intro I x0 n0 H0 x1 x2 n2 H2 x3 x4 I9 h
    unfold l_X10_lays_3 at h
    refine x_iload dX10_lays_3 rfl ?_
    refine x_sipush 355 dX10_lays_5 rfl ?_
    refine x_icmp_ge 29 dX10_lays_8 rfl (fun hc => ?_) (fun hc => ?_)
    · have h := ifT hc h
      cases h
      exact x_vret rfl dX10_lays_29 ⟨rfl, rfl, rfl⟩
    have h := ifF hc h
    refine x_aloadn dX10_lays_11 rfl ?_
    refine x_iloadn dX10_lays_12 rfl ?_
    refine x_iload dX10_lays_13 rfl ?_
    refine x_iadd dX10_lays_15 ?_
    refine x_aloadn dX10_lays_16 rfl ?_
    refine x_iloadn dX10_lays_17 rfl ?_
    refine x_iload dX10_lays_18 rfl ?_
    refine x_iadd dX10_lays_20 ?_
    obtain ⟨j1, hj1, h⟩ := b1_s h
    refine z_iald H0 hj1 dX10_lays_21 ?_
    obtain ⟨j2, hj2, h⟩ := b1_s h
    obtain ⟨I3, hI3, h⟩ := b1_s h
    refine z_iast H2 hj2 hI3 dX10_lays_22 ?_
    refine z_iinc 1 (by decide) dX10_lays_23 rfl rfl rfl ?_
    refine x_goto 3 dX10_lays_26 rfl ?_
    exact ih H0 H2 h
noncomputable def f_X10_lays (I : Mem) (x0 : Nat) (n0 : Nat) (x1 : Int32) (x2 : Nat) (n2 : Nat) (x3 : Int32) : Option (Mem) := l_X10_lays_3 FU I x0 n0 x1 x2 n2 x3 0
theorem c_X10_lays (d : Nat) {K : Kt} {I : Mem} {x0 : Nat} {n0 : Nat} (H0 : LA K 100 n0 x0) {x1 : Int32} {x2 : Nat} {n2 : Nat} (H2 : LA K 100 n2 x2) {x3 : Int32} {I9 : Mem} (h : f_X10_lays I x0 n0 x1 x2 n2 x3 = some I9) : Ct (mX10_lays d) cX10_lays 0 0 [.ref x0, .int x1, .ref x2, .int x3] I K (Ro (.inl none) I9 K) := by
  refine Ct.of rfl pn_X10 (catR (catI (catR (catI cat0)))) (Nat.le_of_ble_eq_true rfl) (show X _ _ _ _ _ _ 0 [.ref x0, .int x1, .ref x2, .int x3, .retAddr 0] [] _ from ?_)
  unfold f_X10_lays at h
  refine x_iconst 0 dX10_lays_0 rfl ?_
  refine x_istore dX10_lays_1 (Nat.le_of_ble_eq_true rfl) rfl rfl ?_
  exact tl_X10_lays_3 d FU H0 H2 h
noncomputable def f_X10_thinks (I : Mem) (x0 : Nat) : Option (Mem) := b1 (f_X10_lays I (x0 + 1) 355 0 (x0 + 2) 355 0) fun I1 => some (I1)
theorem c_X10_thinks (d : Nat) {K : Kt} {I : Mem} {x0 : Nat} (H0 : MK K x0) {I9 : Mem} (h : f_X10_thinks I x0 = some I9) : Ct (mX10_thinks (d + 1)) cX10_thinks 0 0 [.ref x0] I K (Ro (.inl none) I9 K) := by
  refine Ct.of rfl pn_X10 (catR cat0) (Nat.le_of_ble_eq_true rfl) (show X _ _ _ _ _ _ 0 [.ref x0] [] _ from ?_)
  unfold f_X10_thinks at h
  refine x_aloadn dX10_thinks_0 rfl ?_
  refine z_getR fs_X10_9 (MK.o H0) (MK.g1 H0) dX10_thinks_1 ?_
  refine x_iconst 0 dX10_thinks_4 rfl ?_
  refine x_aloadn dX10_thinks_5 rfl ?_
  refine z_getR fs_X10_13 (MK.o H0) (MK.g2 H0) dX10_thinks_6 ?_
  refine x_iconst 0 dX10_thinks_9 rfl ?_
  obtain ⟨I1, h2, h⟩ := b1_s h
  refine z_S0 [.ref (x0 + 1), .int 0, .ref (x0 + 2), .int 0] [] (cs_X10_48 _) (dep (show d + 0 + 0 + 1 ≤ (d + 1) from by omega) (Nat.le_of_ble_eq_true rfl)) dX10_thinks_10 rfl rfl (Nat.le_of_ble_eq_true rfl) (c_X10_lays d (K := K) (I := I) (MK.l1 H0) (MK.l2 H0) h2) ?_
  cases h
  exact x_vret rfl dX10_thinks_13 ⟨rfl, rfl, rfl⟩
noncomputable def f_X10_back (I : Mem) (x0 : Nat) (x1 : Int32) : Option (Int32 × Mem) := b1 (f_X10_lays I (x0 + 2) 355 0 (x0 + 1) 355 0) fun I1 => some (x1, I1)
theorem c_X10_back (d : Nat) {K : Kt} {I : Mem} {x0 : Nat} (H0 : MK K x0) {x1 : Int32} {v : Int32} {I9 : Mem} (h : f_X10_back I x0 x1 = some (v, I9)) : Ct (mX10_back (d + 1)) cX10_back 0 0 [.ref x0, .int x1] I K (Ro (.inl (some (.int v))) I9 K) := by
  refine Ct.of rfl pn_X10 (catR (catI cat0)) (Nat.le_of_ble_eq_true rfl) (show X _ _ _ _ _ _ 0 [.ref x0, .int x1] [] _ from ?_)
  unfold f_X10_back at h
  refine x_aloadn dX10_back_0 rfl ?_
  refine z_getR fs_X10_13 (MK.o H0) (MK.g2 H0) dX10_back_1 ?_
  refine x_iconst 0 dX10_back_4 rfl ?_
  refine x_aloadn dX10_back_5 rfl ?_
  refine z_getR fs_X10_9 (MK.o H0) (MK.g1 H0) dX10_back_6 ?_
  refine x_iconst 0 dX10_back_9 rfl ?_
  obtain ⟨I1, h2, h⟩ := b1_s h
  refine z_S0 [.ref (x0 + 2), .int 0, .ref (x0 + 1), .int 0] [] (cs_X10_48 _) (dep (show d + 0 + 0 + 1 ≤ (d + 1) from by omega) (Nat.le_of_ble_eq_true rfl)) dX10_back_10 rfl rfl (Nat.le_of_ble_eq_true rfl) (c_X10_lays d (K := K) (I := I) (MK.l2 H0) (MK.l1 H0) h2) ?_
  refine x_iloadn dX10_back_13 rfl ?_
  cases h
  exact x_iret rfl dX10_back_14 ⟨rfl, rfl, rfl⟩
noncomputable def l_X10_four_2 (n : Nat) (I : Mem) (x0 : Nat) (x1 : Int32) (x2 : Int32) : Option (Mem) := match n with
  | 0 => none
  | n + 1 => if x2 < 0 then (some (I)) else (b1 (ix (I x0 9) 500) fun j1 => b1 (pu I (x0 + 6) j1 (vp_nar .byte ((x1 >>> ((8 * x2) &&& 31))).toInt8.toInt32)) fun I2 => b1 (pu I2 x0 9 ((I2 x0 9) + 1)) fun I3 => l_X10_four_2 n I3 x0 x1 (x2 + (-1)))
theorem tl_X10_four_2 (d : Nat) {K : Kt} (n : Nat) : ∀ {I : Mem} {x0 : Nat} (H0 : MK K x0) {x1 : Int32} {x2 : Int32} {I9 : Mem}, l_X10_four_2 n I x0 x1 x2 = some I9 → X (mX10_four d) cX10_four 0 0 I K 2 [.ref x0, .int x1, .int x2] [] (Ro (.inl none) I9 K) := by
  induction n with
  | zero =>
    intro I x0 H0 x1 x2 I9 h
    cases h
  | succ n ih =>
    intro I x0 H0 x1 x2 I9 h
    unfold l_X10_four_2 at h
    refine x_iloadn dX10_four_2 rfl ?_
    refine x_if_lt 38 dX10_four_3 rfl (fun hc => ?_) (fun hc => ?_)
    · have h := ifT hc h
      cases h
      exact x_vret rfl dX10_four_38 ⟨rfl, rfl, rfl⟩
    have h := ifF hc h
    refine x_aloadn dX10_four_6 rfl ?_
    refine z_getR fs_X10_26 (MK.o H0) (MK.g6 H0) dX10_four_7 ?_
    refine x_aloadn dX10_four_10 rfl ?_
    refine z_getI fs_X10_52 (MK.o H0) dX10_four_11 ?_
    refine x_iloadn dX10_four_14 rfl ?_
    refine x_bipush 8 dX10_four_15 rfl ?_
    refine x_iloadn dX10_four_17 rfl ?_
    refine x_imul dX10_four_18 ?_
    refine x_ishr dX10_four_19 ?_
    refine x_i2b dX10_four_20 ?_
    obtain ⟨j1, hj1, h⟩ := b1_s h
    obtain ⟨I2, hI2, h⟩ := b1_s h
    refine z_bast (MK.l6 H0) hj1 hI2 dX10_four_21 ?_
    refine x_aloadn dX10_four_22 rfl ?_
    refine x_dup dX10_four_23 rfl ?_
    refine z_getI fs_X10_52 (MK.o H0) dX10_four_24 ?_
    refine x_iconst 1 dX10_four_27 rfl ?_
    refine x_iadd dX10_four_28 ?_
    obtain ⟨I3, hI3, h⟩ := b1_s h
    refine z_putI fs_X10_52 (MK.o H0) hI3 dX10_four_29 ?_
    refine z_iinc (-1) (by decide) dX10_four_32 rfl rfl rfl ?_
    refine x_goto 2 dX10_four_35 rfl ?_
    exact ih H0 h
noncomputable def f_X10_four (I : Mem) (x0 : Nat) (x1 : Int32) : Option (Mem) := l_X10_four_2 FU I x0 x1 3
theorem c_X10_four (d : Nat) {K : Kt} {I : Mem} {x0 : Nat} (H0 : MK K x0) {x1 : Int32} {I9 : Mem} (h : f_X10_four I x0 x1 = some I9) : Ct (mX10_four d) cX10_four 0 0 [.ref x0, .int x1] I K (Ro (.inl none) I9 K) := by
  refine Ct.of rfl pn_X10 (catR (catI cat0)) (Nat.le_of_ble_eq_true rfl) (show X _ _ _ _ _ _ 0 [.ref x0, .int x1, .retAddr 0] [] _ from ?_)
  unfold f_X10_four at h
  refine x_iconst 3 dX10_four_0 rfl ?_
  refine x_istoren dX10_four_1 (Nat.le_of_ble_eq_true rfl) rfl rfl ?_
  exact tl_X10_four_2 d FU H0 h
noncomputable def f_X10_append (I : Mem) (x0 : Nat) (x1 : Int32) (x2 : Int32) (x3 : Int32) (x4 : Int32) (x5 : Int32) : Option (Int32 × Mem) := b1 (pu I x0 0 0) fun I1 => if (I1 x0 9) ≤ 480 then (b1 (f_X10_four I1 x0 x1) fun I2 => b1 (f_X10_four I2 x0 x2) fun I4 => b1 (f_X10_four I4 x0 x3) fun I6 => b1 (f_X10_four I6 x0 x4) fun I8 => b1 (f_X10_four I8 x0 x5) fun I10 => some ((I10 x0 9), I10)) else (some ((-1), I1))
theorem c_X10_append (d : Nat) {K : Kt} {I : Mem} {x0 : Nat} (H0 : MK K x0) {x1 : Int32} {x2 : Int32} {x3 : Int32} {x4 : Int32} {x5 : Int32} {v : Int32} {I9 : Mem} (h : f_X10_append I x0 x1 x2 x3 x4 x5 = some (v, I9)) : Ct (mX10_append (d + 1)) cX10_append 0 0 [.ref x0, .int x1, .int x2, .int x3, .int x4, .int x5] I K (Ro (.inl (some (.int v))) I9 K) := by
  refine Ct.of rfl pn_X10 (catR (catI (catI (catI (catI (catI cat0)))))) (Nat.le_of_ble_eq_true rfl) (show X _ _ _ _ _ _ 0 [.ref x0, .int x1, .int x2, .int x3, .int x4, .int x5] [] _ from ?_)
  unfold f_X10_append at h
  refine x_aloadn dX10_append_0 rfl ?_
  refine x_iconst 0 dX10_append_1 rfl ?_
  obtain ⟨I1, hI1, h⟩ := b1_s h
  refine z_putI fs_X10_37 (MK.o H0) hI1 dX10_append_2 ?_
  refine x_aloadn dX10_append_5 rfl ?_
  refine z_getI fs_X10_52 (MK.o H0) dX10_append_6 ?_
  refine x_sipush 480 dX10_append_9 rfl ?_
  refine x_icmp_le 17 dX10_append_12 rfl (fun hc => ?_) (fun hc => ?_)
  · have h := ifT hc h
    refine x_aloadn dX10_append_17 rfl ?_
    refine x_iloadn dX10_append_18 rfl ?_
    obtain ⟨I2, h3, h⟩ := b1_s h
    refine z_V0 [.int x1] [] (cs_X10_55 _) (ci := 8) rfl (MK.o H0) (dep (show d + 0 + 0 + 1 ≤ (d + 1) from by omega) (Nat.le_of_ble_eq_true rfl)) dX10_append_19 rfl rfl (Nat.le_of_ble_eq_true rfl) (c_X10_four d (K := K) (I := I1) H0 h3) ?_
    refine x_aloadn dX10_append_22 rfl ?_
    refine x_iloadn dX10_append_23 rfl ?_
    obtain ⟨I4, h5, h⟩ := b1_s h
    refine z_V0 [.int x2] [] (cs_X10_55 _) (ci := 8) rfl (MK.o H0) (dep (show d + 0 + 0 + 1 ≤ (d + 1) from by omega) (Nat.le_of_ble_eq_true rfl)) dX10_append_24 rfl rfl (Nat.le_of_ble_eq_true rfl) (c_X10_four d (K := K) (I := I2) H0 h5) ?_
    refine x_aloadn dX10_append_27 rfl ?_
    refine x_iloadn dX10_append_28 rfl ?_
    obtain ⟨I6, h7, h⟩ := b1_s h
    refine z_V0 [.int x3] [] (cs_X10_55 _) (ci := 8) rfl (MK.o H0) (dep (show d + 0 + 0 + 1 ≤ (d + 1) from by omega) (Nat.le_of_ble_eq_true rfl)) dX10_append_29 rfl rfl (Nat.le_of_ble_eq_true rfl) (c_X10_four d (K := K) (I := I4) H0 h7) ?_
    refine x_aloadn dX10_append_32 rfl ?_
    refine x_iload dX10_append_33 rfl ?_
    obtain ⟨I8, h9, h⟩ := b1_s h
    refine z_V0 [.int x4] [] (cs_X10_55 _) (ci := 8) rfl (MK.o H0) (dep (show d + 0 + 0 + 1 ≤ (d + 1) from by omega) (Nat.le_of_ble_eq_true rfl)) dX10_append_35 rfl rfl (Nat.le_of_ble_eq_true rfl) (c_X10_four d (K := K) (I := I6) H0 h9) ?_
    refine x_aloadn dX10_append_38 rfl ?_
    refine x_iload dX10_append_39 rfl ?_
    obtain ⟨I10, h11, h⟩ := b1_s h
    refine z_V0 [.int x5] [] (cs_X10_55 _) (ci := 8) rfl (MK.o H0) (dep (show d + 0 + 0 + 1 ≤ (d + 1) from by omega) (Nat.le_of_ble_eq_true rfl)) dX10_append_41 rfl rfl (Nat.le_of_ble_eq_true rfl) (c_X10_four d (K := K) (I := I8) H0 h11) ?_
    refine x_aloadn dX10_append_44 rfl ?_
    refine z_getI fs_X10_52 (MK.o H0) dX10_append_45 ?_
    cases h
    exact x_iret rfl dX10_append_48 ⟨rfl, rfl, rfl⟩
  have h := ifF hc h
  refine x_iconst (-1) dX10_append_15 rfl ?_
  cases h
  exact x_iret rfl dX10_append_16 ⟨rfl, rfl, rfl⟩
noncomputable def f_X10_told (I : Mem) (x0 : Nat) (x1 : Int32) : Option (Int32 × Mem) := b1 (pu I x0 0 0) fun I1 => some (x1, I1)
theorem c_X10_told (d : Nat) {K : Kt} {I : Mem} {x0 : Nat} (H0 : MK K x0) {x1 : Int32} {v : Int32} {I9 : Mem} (h : f_X10_told I x0 x1 = some (v, I9)) : Ct (mX10_told d) cX10_told 0 0 [.ref x0, .int x1] I K (Ro (.inl (some (.int v))) I9 K) := by
  refine Ct.of rfl pn_X10 (catR (catI cat0)) (Nat.le_of_ble_eq_true rfl) (show X _ _ _ _ _ _ 0 [.ref x0, .int x1] [] _ from ?_)
  unfold f_X10_told at h
  refine x_aloadn dX10_told_0 rfl ?_
  refine x_iconst 0 dX10_told_1 rfl ?_
  obtain ⟨I1, hI1, h⟩ := b1_s h
  refine z_putI fs_X10_37 (MK.o H0) hI1 dX10_told_2 ?_
  refine x_iloadn dX10_told_5 rfl ?_
  cases h
  exact x_iret rfl dX10_told_6 ⟨rfl, rfl, rfl⟩
noncomputable def f_X10_parseErrorCode (I : Mem) (x0 : Nat) : Option (Int32 × Mem) := b2 (f_X10_told I x0 (I x0 10)) fun v1 I2 => some (v1, I2)
theorem c_X10_parseErrorCode (d : Nat) {K : Kt} {I : Mem} {x0 : Nat} (H0 : MK K x0) {v : Int32} {I9 : Mem} (h : f_X10_parseErrorCode I x0 = some (v, I9)) : Ct (mX10_parseErrorCode (d + 1)) cX10_parseErrorCode 0 0 [.ref x0] I K (Ro (.inl (some (.int v))) I9 K) := by
  refine Ct.of rfl pn_X10 (catR cat0) (Nat.le_of_ble_eq_true rfl) (show X _ _ _ _ _ _ 0 [.ref x0] [] _ from ?_)
  unfold f_X10_parseErrorCode at h
  refine x_aloadn dX10_parseErrorCode_0 rfl ?_
  refine x_aloadn dX10_parseErrorCode_1 rfl ?_
  refine z_getI fs_X10_59 (MK.o H0) dX10_parseErrorCode_2 ?_
  obtain ⟨v1, I2, h3, h⟩ := b2_s h
  refine z_V1 [.int (I x0 10)] [] (cs_X10_62 _) (ci := 8) rfl (MK.o H0) (dep (show d + 0 + 0 + 1 ≤ (d + 1) from by omega) (Nat.le_of_ble_eq_true rfl)) dX10_parseErrorCode_5 rfl rfl (Nat.le_of_ble_eq_true rfl) (c_X10_told d (K := K) (I := I) H0 h3) ?_
  cases h
  exact x_iret rfl dX10_parseErrorCode_8 ⟨rfl, rfl, rfl⟩
noncomputable def f_X10_parseErrorPosition (I : Mem) (x0 : Nat) : Option (Int32 × Mem) := b2 (f_X10_told I x0 (I x0 11)) fun v1 I2 => some (v1, I2)
theorem c_X10_parseErrorPosition (d : Nat) {K : Kt} {I : Mem} {x0 : Nat} (H0 : MK K x0) {v : Int32} {I9 : Mem} (h : f_X10_parseErrorPosition I x0 = some (v, I9)) : Ct (mX10_parseErrorPosition (d + 1)) cX10_parseErrorPosition 0 0 [.ref x0] I K (Ro (.inl (some (.int v))) I9 K) := by
  refine Ct.of rfl pn_X10 (catR cat0) (Nat.le_of_ble_eq_true rfl) (show X _ _ _ _ _ _ 0 [.ref x0] [] _ from ?_)
  unfold f_X10_parseErrorPosition at h
  refine x_aloadn dX10_parseErrorPosition_0 rfl ?_
  refine x_aloadn dX10_parseErrorPosition_1 rfl ?_
  refine z_getI fs_X10_30 (MK.o H0) dX10_parseErrorPosition_2 ?_
  obtain ⟨v1, I2, h3, h⟩ := b2_s h
  refine z_V1 [.int (I x0 11)] [] (cs_X10_62 _) (ci := 8) rfl (MK.o H0) (dep (show d + 0 + 0 + 1 ≤ (d + 1) from by omega) (Nat.le_of_ble_eq_true rfl)) dX10_parseErrorPosition_5 rfl rfl (Nat.le_of_ble_eq_true rfl) (c_X10_told d (K := K) (I := I) H0 h3) ?_
  cases h
  exact x_iret rfl dX10_parseErrorPosition_8 ⟨rfl, rfl, rfl⟩
noncomputable def f_X10_bufferLength (I : Mem) (x0 : Nat) : Option (Int32 × Mem) := b2 (f_X10_told I x0 (I x0 9)) fun v1 I2 => some (v1, I2)
theorem c_X10_bufferLength (d : Nat) {K : Kt} {I : Mem} {x0 : Nat} (H0 : MK K x0) {v : Int32} {I9 : Mem} (h : f_X10_bufferLength I x0 = some (v, I9)) : Ct (mX10_bufferLength (d + 1)) cX10_bufferLength 0 0 [.ref x0] I K (Ro (.inl (some (.int v))) I9 K) := by
  refine Ct.of rfl pn_X10 (catR cat0) (Nat.le_of_ble_eq_true rfl) (show X _ _ _ _ _ _ 0 [.ref x0] [] _ from ?_)
  unfold f_X10_bufferLength at h
  refine x_aloadn dX10_bufferLength_0 rfl ?_
  refine x_aloadn dX10_bufferLength_1 rfl ?_
  refine z_getI fs_X10_52 (MK.o H0) dX10_bufferLength_2 ?_
  obtain ⟨v1, I2, h3, h⟩ := b2_s h
  refine z_V1 [.int (I x0 9)] [] (cs_X10_62 _) (ci := 8) rfl (MK.o H0) (dep (show d + 0 + 0 + 1 ≤ (d + 1) from by omega) (Nat.le_of_ble_eq_true rfl)) dX10_bufferLength_5 rfl rfl (Nat.le_of_ble_eq_true rfl) (c_X10_told d (K := K) (I := I) H0 h3) ?_
  cases h
  exact x_iret rfl dX10_bufferLength_8 ⟨rfl, rfl, rfl⟩
noncomputable def f_X10_isLetter (I : Mem) (x0 : Nat) (x1 : Int32) : Option (Int32) := if (I x0 12) ≤ x1 then (some (0)) else (b1 (ix x1 500) fun j1 => b1 (f_X10_in (I (x0 + 6) j1) 97 122) fun v2 => if v2 = 0 then (some (0)) else (some (1)))
theorem c_X10_isLetter (d : Nat) {K : Kt} {I : Mem} {x0 : Nat} (H0 : MK K x0) {x1 : Int32} {v : Int32} (h : f_X10_isLetter I x0 x1 = some v) : Ct (mX10_isLetter (d + 1)) cX10_isLetter 0 0 [.ref x0, .int x1] I K (Ro (.inl (some (.int v))) I K) := by
  refine Ct.of rfl pn_X10 (catR (catI cat0)) (Nat.le_of_ble_eq_true rfl) (show X _ _ _ _ _ _ 0 [.ref x0, .int x1] [] _ from ?_)
  unfold f_X10_isLetter at h
  refine x_iloadn dX10_isLetter_0 rfl ?_
  refine x_aloadn dX10_isLetter_1 rfl ?_
  refine z_getI fs_X10_66 (MK.o H0) dX10_isLetter_2 ?_
  refine x_icmp_ge 28 dX10_isLetter_5 rfl (fun hc => ?_) (fun hc => ?_)
  · have h := ifT hc h
    refine x_iconst 0 dX10_isLetter_28 rfl ?_
    cases h
    exact x_zret rfl rfl dX10_isLetter_29 ⟨rfl, rfl, rfl⟩
  have h := ifF hc h
  refine x_aloadn dX10_isLetter_8 rfl ?_
  refine z_getR fs_X10_26 (MK.o H0) (MK.g6 H0) dX10_isLetter_9 ?_
  refine x_iloadn dX10_isLetter_12 rfl ?_
  obtain ⟨j1, hj1, h⟩ := b1_s h
  refine z_bald (MK.l6 H0) hj1 dX10_isLetter_13 ?_
  refine x_bipush 97 dX10_isLetter_14 rfl ?_
  refine x_bipush 122 dX10_isLetter_16 rfl ?_
  obtain ⟨v2, h3, h⟩ := b1_s h
  refine z_S1 [.int (I (x0 + 6) j1), .int 97, .int 122] [] (cs_X10_69 _) (dep (show d + 0 + 0 + 1 ≤ (d + 1) from by omega) (Nat.le_of_ble_eq_true rfl)) dX10_isLetter_18 rfl rfl (Nat.le_of_ble_eq_true rfl) (c_X10_in d (K := K) (I := I) h3) ?_
  refine x_if_eq 28 dX10_isLetter_21 rfl (fun hc => ?_) (fun hc => ?_)
  · have h := ifT hc h
    refine x_iconst 0 dX10_isLetter_28 rfl ?_
    cases h
    exact x_zret rfl rfl dX10_isLetter_29 ⟨rfl, rfl, rfl⟩
  have h := ifF hc h
  refine x_iconst 1 dX10_isLetter_24 rfl ?_
  refine x_goto 29 dX10_isLetter_25 rfl ?_
  cases h
  exact x_zret rfl rfl dX10_isLetter_29 ⟨rfl, rfl, rfl⟩
noncomputable def f_X10_isDigit (I : Mem) (x0 : Nat) (x1 : Int32) : Option (Int32) := if (I x0 12) ≤ x1 then (some (0)) else (b1 (ix x1 500) fun j1 => b1 (f_X10_in (I (x0 + 6) j1) 48 57) fun v2 => if v2 = 0 then (some (0)) else (some (1)))
theorem c_X10_isDigit (d : Nat) {K : Kt} {I : Mem} {x0 : Nat} (H0 : MK K x0) {x1 : Int32} {v : Int32} (h : f_X10_isDigit I x0 x1 = some v) : Ct (mX10_isDigit (d + 1)) cX10_isDigit 0 0 [.ref x0, .int x1] I K (Ro (.inl (some (.int v))) I K) := by
  refine Ct.of rfl pn_X10 (catR (catI cat0)) (Nat.le_of_ble_eq_true rfl) (show X _ _ _ _ _ _ 0 [.ref x0, .int x1] [] _ from ?_)
  unfold f_X10_isDigit at h
  refine x_iloadn dX10_isDigit_0 rfl ?_
  refine x_aloadn dX10_isDigit_1 rfl ?_
  refine z_getI fs_X10_66 (MK.o H0) dX10_isDigit_2 ?_
  refine x_icmp_ge 28 dX10_isDigit_5 rfl (fun hc => ?_) (fun hc => ?_)
  · have h := ifT hc h
    refine x_iconst 0 dX10_isDigit_28 rfl ?_
    cases h
    exact x_zret rfl rfl dX10_isDigit_29 ⟨rfl, rfl, rfl⟩
  have h := ifF hc h
  refine x_aloadn dX10_isDigit_8 rfl ?_
  refine z_getR fs_X10_26 (MK.o H0) (MK.g6 H0) dX10_isDigit_9 ?_
  refine x_iloadn dX10_isDigit_12 rfl ?_
  obtain ⟨j1, hj1, h⟩ := b1_s h
  refine z_bald (MK.l6 H0) hj1 dX10_isDigit_13 ?_
  refine x_bipush 48 dX10_isDigit_14 rfl ?_
  refine x_bipush 57 dX10_isDigit_16 rfl ?_
  obtain ⟨v2, h3, h⟩ := b1_s h
  refine z_S1 [.int (I (x0 + 6) j1), .int 48, .int 57] [] (cs_X10_69 _) (dep (show d + 0 + 0 + 1 ≤ (d + 1) from by omega) (Nat.le_of_ble_eq_true rfl)) dX10_isDigit_18 rfl rfl (Nat.le_of_ble_eq_true rfl) (c_X10_in d (K := K) (I := I) h3) ?_
  refine x_if_eq 28 dX10_isDigit_21 rfl (fun hc => ?_) (fun hc => ?_)
  · have h := ifT hc h
    refine x_iconst 0 dX10_isDigit_28 rfl ?_
    cases h
    exact x_zret rfl rfl dX10_isDigit_29 ⟨rfl, rfl, rfl⟩
  have h := ifF hc h
  refine x_iconst 1 dX10_isDigit_24 rfl ?_
  refine x_goto 29 dX10_isDigit_25 rfl ?_
  cases h
  exact x_zret rfl rfl dX10_isDigit_29 ⟨rfl, rfl, rfl⟩
noncomputable def f_X10_signOf (x0 : Int32) : Option (Int32) := if x0 = 59 then (some (4)) else (if x0 = 40 then (some (5)) else (if x0 = 41 then (some (6)) else (some (0))))
theorem c_X10_signOf (d : Nat) {K : Kt} {I : Mem} {x0 : Int32} {v : Int32} (h : f_X10_signOf x0 = some v) : Ct (mX10_signOf d) cX10_signOf 0 0 [.int x0] I K (Ro (.inl (some (.int v))) I K) := by
  refine Ct.of rfl pn_X10 (catI cat0) (Nat.le_of_ble_eq_true rfl) (show X _ _ _ _ _ _ 0 [.int x0] [] _ from ?_)
  unfold f_X10_signOf at h
  refine x_iloadn dX10_signOf_0 rfl ?_
  refine x_bipush 59 dX10_signOf_1 rfl ?_
  refine x_icmp_ne 10 dX10_signOf_3 rfl (fun hc => ?_) (fun hc => ?_)
  · have h := ifF hc h
    refine x_iloadn dX10_signOf_10 rfl ?_
    refine x_bipush 40 dX10_signOf_11 rfl ?_
    refine x_icmp_ne 20 dX10_signOf_13 rfl (fun hc => ?_) (fun hc => ?_)
    · have h := ifF hc h
      refine x_iloadn dX10_signOf_20 rfl ?_
      refine x_bipush 41 dX10_signOf_21 rfl ?_
      refine x_icmp_ne 31 dX10_signOf_23 rfl (fun hc => ?_) (fun hc => ?_)
      · have h := ifF hc h
        refine x_iconst 0 dX10_signOf_31 rfl ?_
        cases h
        exact x_iret rfl dX10_signOf_32 ⟨rfl, rfl, rfl⟩
      have h := ifT hc h
      refine x_bipush 6 dX10_signOf_26 rfl ?_
      refine x_goto 32 dX10_signOf_28 rfl ?_
      cases h
      exact x_iret rfl dX10_signOf_32 ⟨rfl, rfl, rfl⟩
    have h := ifT hc h
    refine x_iconst 5 dX10_signOf_16 rfl ?_
    refine x_goto 32 dX10_signOf_17 rfl ?_
    cases h
    exact x_iret rfl dX10_signOf_32 ⟨rfl, rfl, rfl⟩
  have h := ifT hc h
  refine x_iconst 4 dX10_signOf_6 rfl ?_
  refine x_goto 32 dX10_signOf_7 rfl ?_
  cases h
  exact x_iret rfl dX10_signOf_32 ⟨rfl, rfl, rfl⟩
noncomputable def l_X10_goes_158 (n : Nat) (I : Mem) (x0 : Nat) : Option (Mem) := match n with
  | 0 => none
  | n + 1 => b1 (f_X10_isDigit I x0 (I x0 13)) fun v13 => if v13 = 0 then (if 3 < ((I x0 13) - (I x0 14)) then (b1 (pu I x0 15 0) fun I15 => some (I15)) else (b1 (pu I x0 15 3) fun I16 => some (I16))) else (if 3 ≤ ((I x0 13) - (I x0 14)) then (b1 (pu I x0 13 ((I x0 13) + 1)) fun I17 => l_X10_goes_158 n I17 x0) else (b1 (ix (I x0 13) 500) fun j18 => b1 (pu I x0 16 (((10 * (I x0 16)) + (I (x0 + 6) j18)) - 48)) fun I19 => b1 (pu I19 x0 13 ((I19 x0 13) + 1)) fun I20 => l_X10_goes_158 n I20 x0))
theorem tl_X10_goes_158 (d : Nat) {K : Kt} (n : Nat) : ∀ {I : Mem} {x0 : Nat} (H0 : MK K x0) {I9 : Mem}, l_X10_goes_158 n I x0 = some I9 → X (mX10_goes (d + 2)) cX10_goes 0 0 I K 158 [.ref x0] [] (Ro (.inl none) I9 K) := by
  induction n with
  | zero =>
    intro I x0 H0 I9 h
    cases h
  | succ n ih =>
    intro I x0 H0 I9 h
    unfold l_X10_goes_158 at h
    refine x_aloadn dX10_goes_158 rfl ?_
    refine x_aloadn dX10_goes_159 rfl ?_
    refine z_getI fs_X10_73 (MK.o H0) dX10_goes_160 ?_
    obtain ⟨v13, h14, h⟩ := b1_s h
    refine z_V1 [.int (I x0 13)] [] (cs_X10_86 _) (ci := 8) rfl (MK.o H0) (dep (show d + 0 + 1 + 1 ≤ (d + 2) from by omega) (Nat.le_of_ble_eq_true rfl)) dX10_goes_163 rfl rfl (Nat.le_of_ble_eq_true rfl) (c_X10_isDigit d (K := K) (I := I) H0 h14) ?_
    refine x_if_eq 219 dX10_goes_166 rfl (fun hc => ?_) (fun hc => ?_)
    · have h := ifT hc h
      refine x_aloadn dX10_goes_219 rfl ?_
      refine x_aloadn dX10_goes_220 rfl ?_
      refine z_getI fs_X10_73 (MK.o H0) dX10_goes_221 ?_
      refine x_aloadn dX10_goes_224 rfl ?_
      refine z_getI fs_X10_76 (MK.o H0) dX10_goes_225 ?_
      refine x_isub dX10_goes_228 ?_
      refine x_iconst 3 dX10_goes_229 rfl ?_
      refine x_icmp_gt 237 dX10_goes_230 rfl (fun hc => ?_) (fun hc => ?_)
      · have h := ifT hc h
        refine x_iconst 0 dX10_goes_237 rfl ?_
        obtain ⟨I15, hI15, h⟩ := b1_s h
        refine z_putI fs_X10_79 (MK.o H0) hI15 dX10_goes_238 ?_
        cases h
        exact x_vret rfl dX10_goes_241 ⟨rfl, rfl, rfl⟩
      have h := ifF hc h
      refine x_iconst 3 dX10_goes_233 rfl ?_
      refine x_goto 238 dX10_goes_234 rfl ?_
      obtain ⟨I16, hI16, h⟩ := b1_s h
      refine z_putI fs_X10_79 (MK.o H0) hI16 dX10_goes_238 ?_
      cases h
      exact x_vret rfl dX10_goes_241 ⟨rfl, rfl, rfl⟩
    have h := ifF hc h
    refine x_aloadn dX10_goes_169 rfl ?_
    refine z_getI fs_X10_73 (MK.o H0) dX10_goes_170 ?_
    refine x_aloadn dX10_goes_173 rfl ?_
    refine z_getI fs_X10_76 (MK.o H0) dX10_goes_174 ?_
    refine x_isub dX10_goes_177 ?_
    refine x_iconst 3 dX10_goes_178 rfl ?_
    refine x_icmp_ge 206 dX10_goes_179 rfl (fun hc => ?_) (fun hc => ?_)
    · have h := ifT hc h
      refine x_aloadn dX10_goes_206 rfl ?_
      refine x_dup dX10_goes_207 rfl ?_
      refine z_getI fs_X10_73 (MK.o H0) dX10_goes_208 ?_
      refine x_iconst 1 dX10_goes_211 rfl ?_
      refine x_iadd dX10_goes_212 ?_
      obtain ⟨I17, hI17, h⟩ := b1_s h
      refine z_putI fs_X10_73 (MK.o H0) hI17 dX10_goes_213 ?_
      refine x_goto 158 dX10_goes_216 rfl ?_
      exact ih H0 h
    have h := ifF hc h
    refine x_aloadn dX10_goes_182 rfl ?_
    refine x_bipush 10 dX10_goes_183 rfl ?_
    refine x_aloadn dX10_goes_185 rfl ?_
    refine z_getI fs_X10_89 (MK.o H0) dX10_goes_186 ?_
    refine x_imul dX10_goes_189 ?_
    refine x_aloadn dX10_goes_190 rfl ?_
    refine z_getR fs_X10_26 (MK.o H0) (MK.g6 H0) dX10_goes_191 ?_
    refine x_aloadn dX10_goes_194 rfl ?_
    refine z_getI fs_X10_73 (MK.o H0) dX10_goes_195 ?_
    obtain ⟨j18, hj18, h⟩ := b1_s h
    refine z_bald (MK.l6 H0) hj18 dX10_goes_198 ?_
    refine x_iadd dX10_goes_199 ?_
    refine x_bipush 48 dX10_goes_200 rfl ?_
    refine x_isub dX10_goes_202 ?_
    obtain ⟨I19, hI19, h⟩ := b1_s h
    refine z_putI fs_X10_89 (MK.o H0) hI19 dX10_goes_203 ?_
    refine x_aloadn dX10_goes_206 rfl ?_
    refine x_dup dX10_goes_207 rfl ?_
    refine z_getI fs_X10_73 (MK.o H0) dX10_goes_208 ?_
    refine x_iconst 1 dX10_goes_211 rfl ?_
    refine x_iadd dX10_goes_212 ?_
    obtain ⟨I20, hI20, h⟩ := b1_s h
    refine z_putI fs_X10_73 (MK.o H0) hI20 dX10_goes_213 ?_
    refine x_goto 158 dX10_goes_216 rfl ?_
    exact ih H0 h
noncomputable def l_X10_goes_94 (n : Nat) (I : Mem) (x0 : Nat) : Option (Mem) := match n with
  | 0 => none
  | n + 1 => b1 (f_X10_isLetter I x0 (I x0 13)) fun v21 => if v21 = 0 then (if 7 < ((I x0 13) - (I x0 14)) then (b1 (pu I x0 15 0) fun I23 => some (I23)) else (b1 (pu I x0 15 2) fun I24 => some (I24))) else (b1 (pu I x0 13 ((I x0 13) + 1)) fun I25 => l_X10_goes_94 n I25 x0)
theorem tl_X10_goes_94 (d : Nat) {K : Kt} (n : Nat) : ∀ {I : Mem} {x0 : Nat} (H0 : MK K x0) {I9 : Mem}, l_X10_goes_94 n I x0 = some I9 → X (mX10_goes (d + 2)) cX10_goes 0 0 I K 94 [.ref x0] [] (Ro (.inl none) I9 K) := by
  induction n with
  | zero =>
    intro I x0 H0 I9 h
    cases h
  | succ n ih =>
    intro I x0 H0 I9 h
    unfold l_X10_goes_94 at h
    refine x_aloadn dX10_goes_94 rfl ?_
    refine x_aloadn dX10_goes_95 rfl ?_
    refine z_getI fs_X10_73 (MK.o H0) dX10_goes_96 ?_
    obtain ⟨v21, h22, h⟩ := b1_s h
    refine z_V1 [.int (I x0 13)] [] (cs_X10_82 _) (ci := 8) rfl (MK.o H0) (dep (show d + 0 + 1 + 1 ≤ (d + 2) from by omega) (Nat.le_of_ble_eq_true rfl)) dX10_goes_99 rfl rfl (Nat.le_of_ble_eq_true rfl) (c_X10_isLetter d (K := K) (I := I) H0 h22) ?_
    refine x_if_eq 118 dX10_goes_102 rfl (fun hc => ?_) (fun hc => ?_)
    · have h := ifT hc h
      refine x_aloadn dX10_goes_118 rfl ?_
      refine x_aloadn dX10_goes_119 rfl ?_
      refine z_getI fs_X10_73 (MK.o H0) dX10_goes_120 ?_
      refine x_aloadn dX10_goes_123 rfl ?_
      refine z_getI fs_X10_76 (MK.o H0) dX10_goes_124 ?_
      refine x_isub dX10_goes_127 ?_
      refine x_bipush 7 dX10_goes_128 rfl ?_
      refine x_icmp_gt 137 dX10_goes_130 rfl (fun hc => ?_) (fun hc => ?_)
      · have h := ifT hc h
        refine x_iconst 0 dX10_goes_137 rfl ?_
        obtain ⟨I23, hI23, h⟩ := b1_s h
        refine z_putI fs_X10_79 (MK.o H0) hI23 dX10_goes_138 ?_
        cases h
        exact x_vret rfl dX10_goes_141 ⟨rfl, rfl, rfl⟩
      have h := ifF hc h
      refine x_iconst 2 dX10_goes_133 rfl ?_
      refine x_goto 138 dX10_goes_134 rfl ?_
      obtain ⟨I24, hI24, h⟩ := b1_s h
      refine z_putI fs_X10_79 (MK.o H0) hI24 dX10_goes_138 ?_
      cases h
      exact x_vret rfl dX10_goes_141 ⟨rfl, rfl, rfl⟩
    have h := ifF hc h
    refine x_aloadn dX10_goes_105 rfl ?_
    refine x_dup dX10_goes_106 rfl ?_
    refine z_getI fs_X10_73 (MK.o H0) dX10_goes_107 ?_
    refine x_iconst 1 dX10_goes_110 rfl ?_
    refine x_iadd dX10_goes_111 ?_
    obtain ⟨I25, hI25, h⟩ := b1_s h
    refine z_putI fs_X10_73 (MK.o H0) hI25 dX10_goes_112 ?_
    refine x_goto 94 dX10_goes_115 rfl ?_
    exact ih H0 h
noncomputable def l_X10_goes_71 (I : Mem) (x0 : Nat) (y0 : Int32) : Option (Mem) := b1 (pu I x0 15 y0) fun I2 => if (I2 x0 15) = 1 then (some (I2)) else (b1 (f_X10_isLetter I2 x0 (I2 x0 13)) fun v3 => if v3 = 0 then (b1 (f_X10_isDigit I2 x0 (I2 x0 13)) fun v5 => if v5 = 0 then (b1 (ix (I2 x0 13) 500) fun j7 => b1 (f_X10_signOf (I2 (x0 + 6) j7)) fun v8 => b1 (pu I2 x0 15 v8) fun I10 => b1 (pu I10 x0 13 ((I10 x0 13) + 1)) fun I11 => some (I11)) else (b1 (pu I2 x0 16 0) fun I12 => l_X10_goes_158 FU I12 x0)) else (l_X10_goes_94 FU I2 x0))
theorem tl_X10_goes_71 (d : Nat) {K : Kt} : ∀ {I : Mem} {x0 : Nat} (H0 : MK K x0) {y0 : Int32} {I9 : Mem}, l_X10_goes_71 I x0 y0 = some I9 → X (mX10_goes (d + 2)) cX10_goes 0 0 I K 71 [.ref x0] [.int y0, .ref x0] (Ro (.inl none) I9 K) := by
  intro I x0 H0 y0 I9 h
  unfold l_X10_goes_71 at h
  obtain ⟨I2, hI2, h⟩ := b1_s h
  refine z_putI fs_X10_79 (MK.o H0) hI2 dX10_goes_71 ?_
  refine x_aloadn dX10_goes_74 rfl ?_
  refine z_getI fs_X10_79 (MK.o H0) dX10_goes_75 ?_
  refine x_iconst 1 dX10_goes_78 rfl ?_
  refine x_icmp_ne 83 dX10_goes_79 rfl (fun hc => ?_) (fun hc => ?_)
  · have h := ifF hc h
    refine x_aloadn dX10_goes_83 rfl ?_
    refine x_aloadn dX10_goes_84 rfl ?_
    refine z_getI fs_X10_73 (MK.o H0) dX10_goes_85 ?_
    obtain ⟨v3, h4, h⟩ := b1_s h
    refine z_V1 [.int (I2 x0 13)] [] (cs_X10_82 _) (ci := 8) rfl (MK.o H0) (dep (show d + 0 + 1 + 1 ≤ (d + 2) from by omega) (Nat.le_of_ble_eq_true rfl)) dX10_goes_88 rfl rfl (Nat.le_of_ble_eq_true rfl) (c_X10_isLetter d (K := K) (I := I2) H0 h4) ?_
    refine x_if_eq 142 dX10_goes_91 rfl (fun hc => ?_) (fun hc => ?_)
    · have h := ifT hc h
      refine x_aloadn dX10_goes_142 rfl ?_
      refine x_aloadn dX10_goes_143 rfl ?_
      refine z_getI fs_X10_73 (MK.o H0) dX10_goes_144 ?_
      obtain ⟨v5, h6, h⟩ := b1_s h
      refine z_V1 [.int (I2 x0 13)] [] (cs_X10_86 _) (ci := 8) rfl (MK.o H0) (dep (show d + 0 + 1 + 1 ≤ (d + 2) from by omega) (Nat.le_of_ble_eq_true rfl)) dX10_goes_147 rfl rfl (Nat.le_of_ble_eq_true rfl) (c_X10_isDigit d (K := K) (I := I2) H0 h6) ?_
      refine x_if_eq 242 dX10_goes_150 rfl (fun hc => ?_) (fun hc => ?_)
      · have h := ifT hc h
        refine x_aloadn dX10_goes_242 rfl ?_
        refine x_aloadn dX10_goes_243 rfl ?_
        refine z_getR fs_X10_26 (MK.o H0) (MK.g6 H0) dX10_goes_244 ?_
        refine x_aloadn dX10_goes_247 rfl ?_
        refine z_getI fs_X10_73 (MK.o H0) dX10_goes_248 ?_
        obtain ⟨j7, hj7, h⟩ := b1_s h
        refine z_bald (MK.l6 H0) hj7 dX10_goes_251 ?_
        obtain ⟨v8, h9, h⟩ := b1_s h
        refine z_S1 [.int (I2 (x0 + 6) j7)] [.ref x0] (cs_X10_92 _) (dep (show d + 1 + 0 + 1 ≤ (d + 2) from by omega) (Nat.le_of_ble_eq_true rfl)) dX10_goes_252 rfl rfl (Nat.le_of_ble_eq_true rfl) (c_X10_signOf (d + 1) (K := K) (I := I2) h9) ?_
        obtain ⟨I10, hI10, h⟩ := b1_s h
        refine z_putI fs_X10_79 (MK.o H0) hI10 dX10_goes_255 ?_
        refine x_aloadn dX10_goes_258 rfl ?_
        refine x_dup dX10_goes_259 rfl ?_
        refine z_getI fs_X10_73 (MK.o H0) dX10_goes_260 ?_
        refine x_iconst 1 dX10_goes_263 rfl ?_
        refine x_iadd dX10_goes_264 ?_
        obtain ⟨I11, hI11, h⟩ := b1_s h
        refine z_putI fs_X10_73 (MK.o H0) hI11 dX10_goes_265 ?_
        cases h
        exact x_vret rfl dX10_goes_268 ⟨rfl, rfl, rfl⟩
      have h := ifF hc h
      refine x_aloadn dX10_goes_153 rfl ?_
      refine x_iconst 0 dX10_goes_154 rfl ?_
      obtain ⟨I12, hI12, h⟩ := b1_s h
      refine z_putI fs_X10_89 (MK.o H0) hI12 dX10_goes_155 ?_
      exact tl_X10_goes_158 d FU H0 h
    have h := ifF hc h
    exact tl_X10_goes_94 d FU H0 h
  have h := ifT hc h
  cases h
  exact x_vret rfl dX10_goes_82 ⟨rfl, rfl, rfl⟩
noncomputable def l_X10_goes_46 (I : Mem) (x0 : Nat) : Option (Mem) := b1 (pu I x0 14 (I x0 13)) fun I1 => if (I1 x0 13) = (I1 x0 12) then (l_X10_goes_71 I1 x0 1) else (l_X10_goes_71 I1 x0 0)
theorem tl_X10_goes_46 (d : Nat) {K : Kt} : ∀ {I : Mem} {x0 : Nat} (H0 : MK K x0) {I9 : Mem}, l_X10_goes_46 I x0 = some I9 → X (mX10_goes (d + 2)) cX10_goes 0 0 I K 46 [.ref x0] [] (Ro (.inl none) I9 K) := by
  intro I x0 H0 I9 h
  unfold l_X10_goes_46 at h
  refine x_aloadn dX10_goes_46 rfl ?_
  refine x_aloadn dX10_goes_47 rfl ?_
  refine z_getI fs_X10_73 (MK.o H0) dX10_goes_48 ?_
  obtain ⟨I1, hI1, h⟩ := b1_s h
  refine z_putI fs_X10_76 (MK.o H0) hI1 dX10_goes_51 ?_
  refine x_aloadn dX10_goes_54 rfl ?_
  refine x_aloadn dX10_goes_55 rfl ?_
  refine z_getI fs_X10_73 (MK.o H0) dX10_goes_56 ?_
  refine x_aloadn dX10_goes_59 rfl ?_
  refine z_getI fs_X10_66 (MK.o H0) dX10_goes_60 ?_
  refine x_icmp_ne 70 dX10_goes_63 rfl (fun hc => ?_) (fun hc => ?_)
  · have h := ifF hc h
    refine x_iconst 0 dX10_goes_70 rfl ?_
    exact tl_X10_goes_71 d H0 h
  have h := ifT hc h
  refine x_iconst 1 dX10_goes_66 rfl ?_
  refine x_goto 71 dX10_goes_67 rfl ?_
  exact tl_X10_goes_71 d H0 h
noncomputable def l_X10_goes_8 (n : Nat) (I : Mem) (x0 : Nat) : Option (Mem) := match n with
  | 0 => none
  | n + 1 => if (I x0 12) ≤ (I x0 13) then (l_X10_goes_46 I x0) else (b1 (ix (I x0 13) 500) fun j26 => if (I (x0 + 6) j26) = 32 then (b1 (pu I x0 13 ((I x0 13) + 1)) fun I27 => l_X10_goes_8 n I27 x0) else (l_X10_goes_46 I x0))
theorem tl_X10_goes_8 (d : Nat) {K : Kt} (n : Nat) : ∀ {I : Mem} {x0 : Nat} (H0 : MK K x0) {I9 : Mem}, l_X10_goes_8 n I x0 = some I9 → X (mX10_goes (d + 2)) cX10_goes 0 0 I K 8 [.ref x0] [] (Ro (.inl none) I9 K) := by
  induction n with
  | zero =>
    intro I x0 H0 I9 h
    cases h
  | succ n ih =>
    intro I x0 H0 I9 h
    unfold l_X10_goes_8 at h
    refine x_aloadn dX10_goes_8 rfl ?_
    refine z_getI fs_X10_73 (MK.o H0) dX10_goes_9 ?_
    refine x_aloadn dX10_goes_12 rfl ?_
    refine z_getI fs_X10_66 (MK.o H0) dX10_goes_13 ?_
    refine x_icmp_ge 46 dX10_goes_16 rfl (fun hc => ?_) (fun hc => ?_)
    · have h := ifT hc h
      exact tl_X10_goes_46 d H0 h
    have h := ifF hc h
    refine x_aloadn dX10_goes_19 rfl ?_
    refine z_getR fs_X10_26 (MK.o H0) (MK.g6 H0) dX10_goes_20 ?_
    refine x_aloadn dX10_goes_23 rfl ?_
    refine z_getI fs_X10_73 (MK.o H0) dX10_goes_24 ?_
    obtain ⟨j26, hj26, h⟩ := b1_s h
    refine z_bald (MK.l6 H0) hj26 dX10_goes_27 ?_
    refine x_bipush 32 dX10_goes_28 rfl ?_
    refine x_icmp_ne 46 dX10_goes_30 rfl (fun hc => ?_) (fun hc => ?_)
    · have h := ifF hc h
      exact tl_X10_goes_46 d H0 h
    have h := ifT hc h
    refine x_aloadn dX10_goes_33 rfl ?_
    refine x_dup dX10_goes_34 rfl ?_
    refine z_getI fs_X10_73 (MK.o H0) dX10_goes_35 ?_
    refine x_iconst 1 dX10_goes_38 rfl ?_
    refine x_iadd dX10_goes_39 ?_
    obtain ⟨I27, hI27, h⟩ := b1_s h
    refine z_putI fs_X10_73 (MK.o H0) hI27 dX10_goes_40 ?_
    refine x_goto 8 dX10_goes_43 rfl ?_
    exact ih H0 h
noncomputable def f_X10_goes (I : Mem) (x0 : Nat) : Option (Mem) := if (I x0 10) ≤ 0 then (l_X10_goes_8 FU I x0) else (some (I))
theorem c_X10_goes (d : Nat) {K : Kt} {I : Mem} {x0 : Nat} (H0 : MK K x0) {I9 : Mem} (h : f_X10_goes I x0 = some I9) : Ct (mX10_goes (d + 2)) cX10_goes 0 0 [.ref x0] I K (Ro (.inl none) I9 K) := by
  refine Ct.of rfl pn_X10 (catR cat0) (Nat.le_of_ble_eq_true rfl) (show X _ _ _ _ _ _ 0 [.ref x0] [] _ from ?_)
  unfold f_X10_goes at h
  refine x_aloadn dX10_goes_0 rfl ?_
  refine z_getI fs_X10_59 (MK.o H0) dX10_goes_1 ?_
  refine x_if_le 8 dX10_goes_4 rfl (fun hc => ?_) (fun hc => ?_)
  · have h := ifT hc h
    exact tl_X10_goes_8 d FU H0 h
  have h := ifF hc h
  cases h
  exact x_vret rfl dX10_goes_7 ⟨rfl, rfl, rfl⟩
noncomputable def f_X10_faults (I : Mem) (x0 : Nat) (x1 : Int32) : Option (Mem) := if (I x0 10) ≤ 0 then (b1 (pu I x0 10 x1) fun I1 => b1 (pu I1 x0 11 (I1 x0 14)) fun I2 => some (I2)) else (some (I))
theorem c_X10_faults (d : Nat) {K : Kt} {I : Mem} {x0 : Nat} (H0 : MK K x0) {x1 : Int32} {I9 : Mem} (h : f_X10_faults I x0 x1 = some I9) : Ct (mX10_faults d) cX10_faults 0 0 [.ref x0, .int x1] I K (Ro (.inl none) I9 K) := by
  refine Ct.of rfl pn_X10 (catR (catI cat0)) (Nat.le_of_ble_eq_true rfl) (show X _ _ _ _ _ _ 0 [.ref x0, .int x1] [] _ from ?_)
  unfold f_X10_faults at h
  refine x_aloadn dX10_faults_0 rfl ?_
  refine z_getI fs_X10_59 (MK.o H0) dX10_faults_1 ?_
  refine x_if_le 8 dX10_faults_4 rfl (fun hc => ?_) (fun hc => ?_)
  · have h := ifT hc h
    refine x_aloadn dX10_faults_8 rfl ?_
    refine x_iloadn dX10_faults_9 rfl ?_
    obtain ⟨I1, hI1, h⟩ := b1_s h
    refine z_putI fs_X10_59 (MK.o H0) hI1 dX10_faults_10 ?_
    refine x_aloadn dX10_faults_13 rfl ?_
    refine x_aloadn dX10_faults_14 rfl ?_
    refine z_getI fs_X10_76 (MK.o H0) dX10_faults_15 ?_
    obtain ⟨I2, hI2, h⟩ := b1_s h
    refine z_putI fs_X10_30 (MK.o H0) hI2 dX10_faults_18 ?_
    cases h
    exact x_vret rfl dX10_faults_21 ⟨rfl, rfl, rfl⟩
  have h := ifF hc h
  cases h
  exact x_vret rfl dX10_faults_7 ⟨rfl, rfl, rfl⟩
noncomputable def f_X10_refuses (I : Mem) (x0 : Nat) (x1 : Int32) : Option (Mem) := if (I x0 10) = 0 then (if x1 = 0 then (some (I)) else (b1 (f_X10_faults I x0 3) fun I1 => some (I1))) else (some (I))
theorem c_X10_refuses (d : Nat) {K : Kt} {I : Mem} {x0 : Nat} (H0 : MK K x0) {x1 : Int32} {I9 : Mem} (h : f_X10_refuses I x0 x1 = some I9) : Ct (mX10_refuses (d + 1)) cX10_refuses 0 0 [.ref x0, .int x1] I K (Ro (.inl none) I9 K) := by
  refine Ct.of rfl pn_X10 (catR (catI cat0)) (Nat.le_of_ble_eq_true rfl) (show X _ _ _ _ _ _ 0 [.ref x0, .int x1] [] _ from ?_)
  unfold f_X10_refuses at h
  refine x_aloadn dX10_refuses_0 rfl ?_
  refine z_getI fs_X10_59 (MK.o H0) dX10_refuses_1 ?_
  refine x_if_ne 16 dX10_refuses_4 rfl (fun hc => ?_) (fun hc => ?_)
  · have h := ifF hc h
    cases h
    exact x_vret rfl dX10_refuses_16 ⟨rfl, rfl, rfl⟩
  have h := ifT hc h
  refine x_iloadn dX10_refuses_7 rfl ?_
  refine x_if_eq 16 dX10_refuses_8 rfl (fun hc => ?_) (fun hc => ?_)
  · have h := ifT hc h
    cases h
    exact x_vret rfl dX10_refuses_16 ⟨rfl, rfl, rfl⟩
  have h := ifF hc h
  refine x_aloadn dX10_refuses_11 rfl ?_
  refine x_iconst 3 dX10_refuses_12 rfl ?_
  obtain ⟨I1, h2, h⟩ := b1_s h
  refine z_V0 [.int 3] [] (cs_X10_95 _) (ci := 8) rfl (MK.o H0) (dep (show d + 0 + 0 + 1 ≤ (d + 1) from by omega) (Nat.le_of_ble_eq_true rfl)) dX10_refuses_13 rfl rfl (Nat.le_of_ble_eq_true rfl) (c_X10_faults d (K := K) (I := I) H0 h2) ?_
  cases h
  exact x_vret rfl dX10_refuses_16 ⟨rfl, rfl, rfl⟩
noncomputable def f_X10_is (I : Mem) (x0 : Nat) (x1 : Int32) : Option (Int32) := if (I x0 10) = 0 then (if (I x0 15) = x1 then (some (1)) else (some (0))) else (some (0))
theorem c_X10_is (d : Nat) {K : Kt} {I : Mem} {x0 : Nat} (H0 : MK K x0) {x1 : Int32} {v : Int32} (h : f_X10_is I x0 x1 = some v) : Ct (mX10_is d) cX10_is 0 0 [.ref x0, .int x1] I K (Ro (.inl (some (.int v))) I K) := by
  refine Ct.of rfl pn_X10 (catR (catI cat0)) (Nat.le_of_ble_eq_true rfl) (show X _ _ _ _ _ _ 0 [.ref x0, .int x1] [] _ from ?_)
  unfold f_X10_is at h
  refine x_aloadn dX10_is_0 rfl ?_
  refine z_getI fs_X10_59 (MK.o H0) dX10_is_1 ?_
  refine x_if_ne 19 dX10_is_4 rfl (fun hc => ?_) (fun hc => ?_)
  · have h := ifF hc h
    refine x_iconst 0 dX10_is_19 rfl ?_
    cases h
    exact x_zret rfl rfl dX10_is_20 ⟨rfl, rfl, rfl⟩
  have h := ifT hc h
  refine x_aloadn dX10_is_7 rfl ?_
  refine z_getI fs_X10_79 (MK.o H0) dX10_is_8 ?_
  refine x_iloadn dX10_is_11 rfl ?_
  refine x_icmp_ne 19 dX10_is_12 rfl (fun hc => ?_) (fun hc => ?_)
  · have h := ifF hc h
    refine x_iconst 0 dX10_is_19 rfl ?_
    cases h
    exact x_zret rfl rfl dX10_is_20 ⟨rfl, rfl, rfl⟩
  have h := ifT hc h
  refine x_iconst 1 dX10_is_15 rfl ?_
  refine x_goto 20 dX10_is_16 rfl ?_
  cases h
  exact x_zret rfl rfl dX10_is_20 ⟨rfl, rfl, rfl⟩
noncomputable def l_X10_numberHere_33 (I : Mem) (x0 : Nat) (x1 : Int32) : Option (Int32 × Mem) := if (I x0 10) ≤ 0 then (some ((I x0 16), I)) else (some (x1, I))
theorem tl_X10_numberHere_33 (d : Nat) {K : Kt} : ∀ {I : Mem} {x0 : Nat} (H0 : MK K x0) {x1 : Int32} {v : Int32} {I9 : Mem}, l_X10_numberHere_33 I x0 x1 = some (v, I9) → X (mX10_numberHere (d + 1)) cX10_numberHere 0 0 I K 33 [.ref x0, .int x1, .retAddr 0] [] (Ro (.inl (some (.int v))) I9 K) := by
  intro I x0 H0 x1 v I9 h
  unfold l_X10_numberHere_33 at h
  refine x_aloadn dX10_numberHere_33 rfl ?_
  refine z_getI fs_X10_59 (MK.o H0) dX10_numberHere_34 ?_
  refine x_if_le 44 dX10_numberHere_37 rfl (fun hc => ?_) (fun hc => ?_)
  · have h := ifT hc h
    refine x_aloadn dX10_numberHere_44 rfl ?_
    refine z_getI fs_X10_89 (MK.o H0) dX10_numberHere_45 ?_
    cases h
    exact x_iret rfl dX10_numberHere_48 ⟨rfl, rfl, rfl⟩
  have h := ifF hc h
  refine x_iloadn dX10_numberHere_40 rfl ?_
  refine x_goto 48 dX10_numberHere_41 rfl ?_
  cases h
  exact x_iret rfl dX10_numberHere_48 ⟨rfl, rfl, rfl⟩
noncomputable def f_X10_numberHere (I : Mem) (x0 : Nat) (x1 : Int32) (x2 : Int32) : Option (Int32 × Mem) := b1 (f_X10_is I x0 3) fun v1 => if v1 = 0 then (b1 (f_X10_faults I x0 1) fun I7 => l_X10_numberHere_33 I7 x0 x1) else (b1 (f_X10_in (I x0 16) x1 x2) fun v3 => if v3 = 0 then (b1 (f_X10_faults I x0 2) fun I5 => l_X10_numberHere_33 I5 x0 x1) else (l_X10_numberHere_33 I x0 x1))
theorem c_X10_numberHere (d : Nat) {K : Kt} {I : Mem} {x0 : Nat} (H0 : MK K x0) {x1 : Int32} {x2 : Int32} {v : Int32} {I9 : Mem} (h : f_X10_numberHere I x0 x1 x2 = some (v, I9)) : Ct (mX10_numberHere (d + 1)) cX10_numberHere 0 0 [.ref x0, .int x1, .int x2] I K (Ro (.inl (some (.int v))) I9 K) := by
  refine Ct.of rfl pn_X10 (catR (catI (catI cat0))) (Nat.le_of_ble_eq_true rfl) (show X _ _ _ _ _ _ 0 [.ref x0, .int x1, .int x2] [] _ from ?_)
  unfold f_X10_numberHere at h
  refine x_aloadn dX10_numberHere_0 rfl ?_
  refine x_iconst 3 dX10_numberHere_1 rfl ?_
  obtain ⟨v1, h2, h⟩ := b1_s h
  refine z_V1 [.int 3] [] (cs_X10_98 _) (ci := 8) rfl (MK.o H0) (dep (show d + 0 + 0 + 1 ≤ (d + 1) from by omega) (Nat.le_of_ble_eq_true rfl)) dX10_numberHere_2 rfl rfl (Nat.le_of_ble_eq_true rfl) (c_X10_is d (K := K) (I := I) H0 h2) ?_
  refine x_if_ne 16 dX10_numberHere_5 rfl (fun hc => ?_) (fun hc => ?_)
  · have h := ifF hc h
    refine x_aloadn dX10_numberHere_16 rfl ?_
    refine z_getI fs_X10_89 (MK.o H0) dX10_numberHere_17 ?_
    refine x_iloadn dX10_numberHere_20 rfl ?_
    refine x_iloadn dX10_numberHere_21 rfl ?_
    obtain ⟨v3, h4, h⟩ := b1_s h
    refine z_S1 [.int (I x0 16), .int x1, .int x2] [] (cs_X10_69 _) (dep (show d + 0 + 0 + 1 ≤ (d + 1) from by omega) (Nat.le_of_ble_eq_true rfl)) dX10_numberHere_22 rfl rfl (Nat.le_of_ble_eq_true rfl) (c_X10_in d (K := K) (I := I) h4) ?_
    refine x_if_ne 33 dX10_numberHere_25 rfl (fun hc => ?_) (fun hc => ?_)
    · have h := ifF hc h
      exact X.forget (L' := [.ref x0, .int x1, .retAddr 0]) ⟨Or.inl rfl, ⟨Or.inl rfl, ⟨Or.inr rfl, trivial⟩⟩⟩ (tl_X10_numberHere_33 d H0 h)
    have h := ifT hc h
    refine x_aloadn dX10_numberHere_28 rfl ?_
    refine x_iconst 2 dX10_numberHere_29 rfl ?_
    obtain ⟨I5, h6, h⟩ := b1_s h
    refine z_V0 [.int 2] [] (cs_X10_95 _) (ci := 8) rfl (MK.o H0) (dep (show d + 0 + 0 + 1 ≤ (d + 1) from by omega) (Nat.le_of_ble_eq_true rfl)) dX10_numberHere_30 rfl rfl (Nat.le_of_ble_eq_true rfl) (c_X10_faults d (K := K) (I := I) H0 h6) ?_
    exact X.forget (L' := [.ref x0, .int x1, .retAddr 0]) ⟨Or.inl rfl, ⟨Or.inl rfl, ⟨Or.inr rfl, trivial⟩⟩⟩ (tl_X10_numberHere_33 d H0 h)
  have h := ifT hc h
  refine x_aloadn dX10_numberHere_8 rfl ?_
  refine x_iconst 1 dX10_numberHere_9 rfl ?_
  obtain ⟨I7, h8, h⟩ := b1_s h
  refine z_V0 [.int 1] [] (cs_X10_95 _) (ci := 8) rfl (MK.o H0) (dep (show d + 0 + 0 + 1 ≤ (d + 1) from by omega) (Nat.le_of_ble_eq_true rfl)) dX10_numberHere_10 rfl rfl (Nat.le_of_ble_eq_true rfl) (c_X10_faults d (K := K) (I := I) H0 h8) ?_
  refine x_goto 33 dX10_numberHere_13 rfl ?_
  exact X.forget (L' := [.ref x0, .int x1, .retAddr 0]) ⟨Or.inl rfl, ⟨Or.inl rfl, ⟨Or.inr rfl, trivial⟩⟩⟩ (tl_X10_numberHere_33 d H0 h)
noncomputable def f_X10_readNumber (I : Mem) (x0 : Nat) (x1 : Int32) (x2 : Int32) : Option (Int32 × Mem) := b2 (f_X10_numberHere I x0 x1 x2) fun v1 I2 => b1 (f_X10_goes I2 x0) fun I4 => some (v1, I4)
theorem c_X10_readNumber (d : Nat) {K : Kt} {I : Mem} {x0 : Nat} (H0 : MK K x0) {x1 : Int32} {x2 : Int32} {v : Int32} {I9 : Mem} (h : f_X10_readNumber I x0 x1 x2 = some (v, I9)) : Ct (mX10_readNumber (d + 3)) cX10_readNumber 0 0 [.ref x0, .int x1, .int x2] I K (Ro (.inl (some (.int v))) I9 K) := by
  refine Ct.of rfl pn_X10 (catR (catI (catI cat0))) (Nat.le_of_ble_eq_true rfl) (show X _ _ _ _ _ _ 0 [.ref x0, .int x1, .int x2, .retAddr 0] [] _ from ?_)
  unfold f_X10_readNumber at h
  refine x_aloadn dX10_readNumber_0 rfl ?_
  refine x_iloadn dX10_readNumber_1 rfl ?_
  refine x_iloadn dX10_readNumber_2 rfl ?_
  obtain ⟨v1, I2, h3, h⟩ := b2_s h
  refine z_V1 [.int x1, .int x2] [] (cs_X10_111 _) (ci := 8) rfl (MK.o H0) (dep (show d + 1 + 1 + 1 ≤ (d + 3) from by omega) (Nat.le_of_ble_eq_true rfl)) dX10_readNumber_3 rfl rfl (Nat.le_of_ble_eq_true rfl) (c_X10_numberHere (d + 1) (K := K) (I := I) H0 h3) ?_
  refine x_istoren dX10_readNumber_6 (Nat.le_of_ble_eq_true rfl) rfl rfl ?_
  refine x_aloadn dX10_readNumber_7 rfl ?_
  obtain ⟨I4, h5, h⟩ := b1_s h
  refine z_V0 [] [] (cs_X10_115 _) (ci := 8) rfl (MK.o H0) (dep (show d + 0 + 2 + 1 ≤ (d + 3) from by omega) (Nat.le_of_ble_eq_true rfl)) dX10_readNumber_8 rfl rfl (Nat.le_of_ble_eq_true rfl) (c_X10_goes d (K := K) (I := I2) H0 h5) ?_
  refine x_iloadn dX10_readNumber_11 rfl ?_
  cases h
  exact x_iret rfl dX10_readNumber_12 ⟨rfl, rfl, rfl⟩
noncomputable def l_X10_begins_15 (I : Mem) (x0 : Nat) : Option (Mem) := b1 (f_X10_goes I x0) fun I2 => some (I2)
theorem tl_X10_begins_15 (d : Nat) {K : Kt} : ∀ {I : Mem} {x0 : Nat} (H0 : MK K x0) {I9 : Mem}, l_X10_begins_15 I x0 = some I9 → X (mX10_begins (d + 3)) cX10_begins 0 0 I K 15 [.ref x0, .retAddr 0, .retAddr 0] [] (Ro (.inl none) I9 K) := by
  intro I x0 H0 I9 h
  unfold l_X10_begins_15 at h
  refine x_aloadn dX10_begins_15 rfl ?_
  obtain ⟨I2, h3, h⟩ := b1_s h
  refine z_V0 [] [] (cs_X10_115 _) (ci := 8) rfl (MK.o H0) (dep (show d + 0 + 2 + 1 ≤ (d + 3) from by omega) (Nat.le_of_ble_eq_true rfl)) dX10_begins_16 rfl rfl (Nat.le_of_ble_eq_true rfl) (c_X10_goes d (K := K) (I := I) H0 h3) ?_
  cases h
  exact x_vret rfl dX10_begins_19 ⟨rfl, rfl, rfl⟩
noncomputable def f_X10_begins (I : Mem) (x0 : Nat) (x1 : Int32) (x2 : Int32) : Option (Mem) := b1 (ix x1 355) fun j1 => if (I (x0 + 1) j1) = x2 then (b1 (f_X10_faults I x0 4) fun I4 => l_X10_begins_15 I4 x0) else (l_X10_begins_15 I x0)
theorem c_X10_begins (d : Nat) {K : Kt} {I : Mem} {x0 : Nat} (H0 : MK K x0) {x1 : Int32} {x2 : Int32} {I9 : Mem} (h : f_X10_begins I x0 x1 x2 = some I9) : Ct (mX10_begins (d + 3)) cX10_begins 0 0 [.ref x0, .int x1, .int x2] I K (Ro (.inl none) I9 K) := by
  refine Ct.of rfl pn_X10 (catR (catI (catI cat0))) (Nat.le_of_ble_eq_true rfl) (show X _ _ _ _ _ _ 0 [.ref x0, .int x1, .int x2] [] _ from ?_)
  unfold f_X10_begins at h
  refine x_aloadn dX10_begins_0 rfl ?_
  refine z_getR fs_X10_9 (MK.o H0) (MK.g1 H0) dX10_begins_1 ?_
  refine x_iloadn dX10_begins_4 rfl ?_
  obtain ⟨j1, hj1, h⟩ := b1_s h
  refine z_iald (MK.l1 H0) hj1 dX10_begins_5 ?_
  refine x_iloadn dX10_begins_6 rfl ?_
  refine x_icmp_ne 15 dX10_begins_7 rfl (fun hc => ?_) (fun hc => ?_)
  · have h := ifF hc h
    exact X.forget (L' := [.ref x0, .retAddr 0, .retAddr 0]) ⟨Or.inl rfl, ⟨Or.inr rfl, ⟨Or.inr rfl, trivial⟩⟩⟩ (tl_X10_begins_15 d H0 h)
  have h := ifT hc h
  refine x_aloadn dX10_begins_10 rfl ?_
  refine x_iconst 4 dX10_begins_11 rfl ?_
  obtain ⟨I4, h5, h⟩ := b1_s h
  refine z_V0 [.int 4] [] (cs_X10_95 _) (ci := 8) rfl (MK.o H0) (dep (show d + 2 + 0 + 1 ≤ (d + 3) from by omega) (Nat.le_of_ble_eq_true rfl)) dX10_begins_12 rfl rfl (Nat.le_of_ble_eq_true rfl) (c_X10_faults (d + 2) (K := K) (I := I) H0 h5) ?_
  exact X.forget (L' := [.ref x0, .retAddr 0, .retAddr 0]) ⟨Or.inl rfl, ⟨Or.inr rfl, ⟨Or.inr rfl, trivial⟩⟩⟩ (tl_X10_begins_15 d H0 h)
noncomputable def f_X10_wishHere (I : Mem) (x0 : Nat) : Option (Int32 × Mem) := b1 (ix 4 355) fun j1 => b2 (f_X10_numberHere I x0 0 ((I (x0 + 1) j1) - 1)) fun v2 I3 => some (v2, I3)
theorem c_X10_wishHere (d : Nat) {K : Kt} {I : Mem} {x0 : Nat} (H0 : MK K x0) {v : Int32} {I9 : Mem} (h : f_X10_wishHere I x0 = some (v, I9)) : Ct (mX10_wishHere (d + 2)) cX10_wishHere 0 0 [.ref x0] I K (Ro (.inl (some (.int v))) I9 K) := by
  refine Ct.of rfl pn_X10 (catR cat0) (Nat.le_of_ble_eq_true rfl) (show X _ _ _ _ _ _ 0 [.ref x0] [] _ from ?_)
  unfold f_X10_wishHere at h
  refine x_aloadn dX10_wishHere_0 rfl ?_
  refine x_iconst 0 dX10_wishHere_1 rfl ?_
  refine x_aloadn dX10_wishHere_2 rfl ?_
  refine z_getR fs_X10_9 (MK.o H0) (MK.g1 H0) dX10_wishHere_3 ?_
  refine x_iconst 4 dX10_wishHere_6 rfl ?_
  obtain ⟨j1, hj1, h⟩ := b1_s h
  refine z_iald (MK.l1 H0) hj1 dX10_wishHere_7 ?_
  refine x_iconst 1 dX10_wishHere_8 rfl ?_
  refine x_isub dX10_wishHere_9 ?_
  obtain ⟨v2, I3, h4, h⟩ := b2_s h
  refine z_V1 [.int 0, .int ((I (x0 + 1) j1) - 1)] [] (cs_X10_111 _) (ci := 8) rfl (MK.o H0) (dep (show d + 0 + 1 + 1 ≤ (d + 2) from by omega) (Nat.le_of_ble_eq_true rfl)) dX10_wishHere_10 rfl rfl (Nat.le_of_ble_eq_true rfl) (c_X10_numberHere d (K := K) (I := I) H0 h4) ?_
  cases h
  exact x_iret rfl dX10_wishHere_13 ⟨rfl, rfl, rfl⟩
noncomputable def f_X10_personHere (I : Mem) (x0 : Nat) : Option (Int32 × Mem) := b1 (ix 2 355) fun j1 => b2 (f_X10_numberHere I x0 0 ((I (x0 + 1) j1) - 1)) fun v2 I3 => some (v2, I3)
theorem c_X10_personHere (d : Nat) {K : Kt} {I : Mem} {x0 : Nat} (H0 : MK K x0) {v : Int32} {I9 : Mem} (h : f_X10_personHere I x0 = some (v, I9)) : Ct (mX10_personHere (d + 2)) cX10_personHere 0 0 [.ref x0] I K (Ro (.inl (some (.int v))) I9 K) := by
  refine Ct.of rfl pn_X10 (catR cat0) (Nat.le_of_ble_eq_true rfl) (show X _ _ _ _ _ _ 0 [.ref x0] [] _ from ?_)
  unfold f_X10_personHere at h
  refine x_aloadn dX10_personHere_0 rfl ?_
  refine x_iconst 0 dX10_personHere_1 rfl ?_
  refine x_aloadn dX10_personHere_2 rfl ?_
  refine z_getR fs_X10_9 (MK.o H0) (MK.g1 H0) dX10_personHere_3 ?_
  refine x_iconst 2 dX10_personHere_6 rfl ?_
  obtain ⟨j1, hj1, h⟩ := b1_s h
  refine z_iald (MK.l1 H0) hj1 dX10_personHere_7 ?_
  refine x_iconst 1 dX10_personHere_8 rfl ?_
  refine x_isub dX10_personHere_9 ?_
  obtain ⟨v2, I3, h4, h⟩ := b2_s h
  refine z_V1 [.int 0, .int ((I (x0 + 1) j1) - 1)] [] (cs_X10_111 _) (ci := 8) rfl (MK.o H0) (dep (show d + 0 + 1 + 1 ≤ (d + 2) from by omega) (Nat.le_of_ble_eq_true rfl)) dX10_personHere_10 rfl rfl (Nat.le_of_ble_eq_true rfl) (c_X10_numberHere d (K := K) (I := I) H0 h4) ?_
  cases h
  exact x_iret rfl dX10_personHere_13 ⟨rfl, rfl, rfl⟩
noncomputable def f_X10_stallHere (I : Mem) (x0 : Nat) : Option (Int32 × Mem) := b1 (ix 3 355) fun j1 => b2 (f_X10_numberHere I x0 0 ((I (x0 + 1) j1) - 1)) fun v2 I3 => some (v2, I3)
theorem c_X10_stallHere (d : Nat) {K : Kt} {I : Mem} {x0 : Nat} (H0 : MK K x0) {v : Int32} {I9 : Mem} (h : f_X10_stallHere I x0 = some (v, I9)) : Ct (mX10_stallHere (d + 2)) cX10_stallHere 0 0 [.ref x0] I K (Ro (.inl (some (.int v))) I9 K) := by
  refine Ct.of rfl pn_X10 (catR cat0) (Nat.le_of_ble_eq_true rfl) (show X _ _ _ _ _ _ 0 [.ref x0] [] _ from ?_)
  unfold f_X10_stallHere at h
  refine x_aloadn dX10_stallHere_0 rfl ?_
  refine x_iconst 0 dX10_stallHere_1 rfl ?_
  refine x_aloadn dX10_stallHere_2 rfl ?_
  refine z_getR fs_X10_9 (MK.o H0) (MK.g1 H0) dX10_stallHere_3 ?_
  refine x_iconst 3 dX10_stallHere_6 rfl ?_
  obtain ⟨j1, hj1, h⟩ := b1_s h
  refine z_iald (MK.l1 H0) hj1 dX10_stallHere_7 ?_
  refine x_iconst 1 dX10_stallHere_8 rfl ?_
  refine x_isub dX10_stallHere_9 ?_
  obtain ⟨v2, I3, h4, h⟩ := b2_s h
  refine z_V1 [.int 0, .int ((I (x0 + 1) j1) - 1)] [] (cs_X10_111 _) (ci := 8) rfl (MK.o H0) (dep (show d + 0 + 1 + 1 ≤ (d + 2) from by omega) (Nat.le_of_ble_eq_true rfl)) dX10_stallHere_10 rfl rfl (Nat.le_of_ble_eq_true rfl) (c_X10_numberHere d (K := K) (I := I) H0 h4) ?_
  cases h
  exact x_iret rfl dX10_stallHere_13 ⟨rfl, rfl, rfl⟩
noncomputable def l_X10_isNamed_14 (n : Nat) (I : Mem) (x0 : Nat) (x1 : Int32) (x2 : Int32) (x3 : Int32) : Option (Int32) := match n with
  | 0 => none
  | n + 1 => if x2 ≤ x3 then (some (1)) else (b1 (ix ((x1 + 1) + x3) 355) fun j2 => b1 (ix ((I x0 14) + x3) 500) fun j3 => if (I (x0 + 1) j2) = (I (x0 + 6) j3) then (l_X10_isNamed_14 n I x0 x1 x2 (x3 + 1)) else (some (0)))
theorem tl_X10_isNamed_14 (d : Nat) {K : Kt} (n : Nat) : ∀ {I : Mem} {x0 : Nat} (H0 : MK K x0) {x1 : Int32} {x2 : Int32} {x3 : Int32} {v : Int32}, l_X10_isNamed_14 n I x0 x1 x2 x3 = some v → X (mX10_isNamed d) cX10_isNamed 0 0 I K 14 [.ref x0, .int x1, .int x2, .int x3] [] (Ro (.inl (some (.int v))) I K) := by
  induction n with
  | zero =>
    intro I x0 H0 x1 x2 x3 v h
    cases h
  | succ n ih =>
    intro I x0 H0 x1 x2 x3 v h
    unfold l_X10_isNamed_14 at h
    refine x_iloadn dX10_isNamed_14 rfl ?_
    refine x_iloadn dX10_isNamed_15 rfl ?_
    refine x_icmp_ge 51 dX10_isNamed_16 rfl (fun hc => ?_) (fun hc => ?_)
    · have h := ifT hc h
      refine x_iconst 1 dX10_isNamed_51 rfl ?_
      cases h
      exact x_zret rfl rfl dX10_isNamed_52 ⟨rfl, rfl, rfl⟩
    have h := ifF hc h
    refine x_aloadn dX10_isNamed_19 rfl ?_
    refine z_getR fs_X10_9 (MK.o H0) (MK.g1 H0) dX10_isNamed_20 ?_
    refine x_iloadn dX10_isNamed_23 rfl ?_
    refine x_iconst 1 dX10_isNamed_24 rfl ?_
    refine x_iadd dX10_isNamed_25 ?_
    refine x_iloadn dX10_isNamed_26 rfl ?_
    refine x_iadd dX10_isNamed_27 ?_
    obtain ⟨j2, hj2, h⟩ := b1_s h
    refine z_iald (MK.l1 H0) hj2 dX10_isNamed_28 ?_
    refine x_aloadn dX10_isNamed_29 rfl ?_
    refine z_getR fs_X10_26 (MK.o H0) (MK.g6 H0) dX10_isNamed_30 ?_
    refine x_aloadn dX10_isNamed_33 rfl ?_
    refine z_getI fs_X10_76 (MK.o H0) dX10_isNamed_34 ?_
    refine x_iloadn dX10_isNamed_37 rfl ?_
    refine x_iadd dX10_isNamed_38 ?_
    obtain ⟨j3, hj3, h⟩ := b1_s h
    refine z_bald (MK.l6 H0) hj3 dX10_isNamed_39 ?_
    refine x_icmp_eq 45 dX10_isNamed_40 rfl (fun hc => ?_) (fun hc => ?_)
    · have h := ifT hc h
      refine z_iinc 1 (by decide) dX10_isNamed_45 rfl rfl rfl ?_
      refine x_goto 14 dX10_isNamed_48 rfl ?_
      exact ih H0 h
    have h := ifF hc h
    refine x_iconst 0 dX10_isNamed_43 rfl ?_
    cases h
    exact x_zret rfl rfl dX10_isNamed_44 ⟨rfl, rfl, rfl⟩
noncomputable def f_X10_isNamed (I : Mem) (x0 : Nat) (x1 : Int32) (x2 : Int32) : Option (Int32) := b1 (ix x1 355) fun j1 => if (I (x0 + 1) j1) = x2 then (l_X10_isNamed_14 FU I x0 x1 x2 0) else (some (0))
theorem c_X10_isNamed (d : Nat) {K : Kt} {I : Mem} {x0 : Nat} (H0 : MK K x0) {x1 : Int32} {x2 : Int32} {v : Int32} (h : f_X10_isNamed I x0 x1 x2 = some v) : Ct (mX10_isNamed d) cX10_isNamed 0 0 [.ref x0, .int x1, .int x2] I K (Ro (.inl (some (.int v))) I K) := by
  refine Ct.of rfl pn_X10 (catR (catI (catI cat0))) (Nat.le_of_ble_eq_true rfl) (show X _ _ _ _ _ _ 0 [.ref x0, .int x1, .int x2, .retAddr 0] [] _ from ?_)
  unfold f_X10_isNamed at h
  refine x_aloadn dX10_isNamed_0 rfl ?_
  refine z_getR fs_X10_9 (MK.o H0) (MK.g1 H0) dX10_isNamed_1 ?_
  refine x_iloadn dX10_isNamed_4 rfl ?_
  obtain ⟨j1, hj1, h⟩ := b1_s h
  refine z_iald (MK.l1 H0) hj1 dX10_isNamed_5 ?_
  refine x_iloadn dX10_isNamed_6 rfl ?_
  refine x_icmp_eq 12 dX10_isNamed_7 rfl (fun hc => ?_) (fun hc => ?_)
  · have h := ifT hc h
    refine x_iconst 0 dX10_isNamed_12 rfl ?_
    refine x_istoren dX10_isNamed_13 (Nat.le_of_ble_eq_true rfl) rfl rfl ?_
    exact tl_X10_isNamed_14 d FU H0 h
  have h := ifF hc h
  refine x_iconst 0 dX10_isNamed_10 rfl ?_
  cases h
  exact x_zret rfl rfl dX10_isNamed_11 ⟨rfl, rfl, rfl⟩
noncomputable def l_X10_isTaken_3 (n : Nat) (I : Mem) (x0 : Nat) (x1 : Int32) (x2 : Int32) (x3 : Int32) (x4 : Int32) (x5 : Int32) : Option (Int32) := match n with
  | 0 => none
  | n + 1 => if x1 ≤ x5 then (some (0)) else (if x5 = x4 then (l_X10_isTaken_3 n I x0 x1 x2 x3 x4 (x5 + 1)) else (b1 (f_X10_isNamed I x0 (x2 + (x3 * x5)) ((I x0 13) - (I x0 14))) fun v1 => if v1 = 0 then (l_X10_isTaken_3 n I x0 x1 x2 x3 x4 (x5 + 1)) else (some (1))))
theorem tl_X10_isTaken_3 (d : Nat) {K : Kt} (n : Nat) : ∀ {I : Mem} {x0 : Nat} (H0 : MK K x0) {x1 : Int32} {x2 : Int32} {x3 : Int32} {x4 : Int32} {x5 : Int32} {v : Int32}, l_X10_isTaken_3 n I x0 x1 x2 x3 x4 x5 = some v → X (mX10_isTaken (d + 1)) cX10_isTaken 0 0 I K 3 [.ref x0, .int x1, .int x2, .int x3, .int x4, .int x5] [] (Ro (.inl (some (.int v))) I K) := by
  induction n with
  | zero =>
    intro I x0 H0 x1 x2 x3 x4 x5 v h
    cases h
  | succ n ih =>
    intro I x0 H0 x1 x2 x3 x4 x5 v h
    unfold l_X10_isTaken_3 at h
    refine x_iload dX10_isTaken_3 rfl ?_
    refine x_iloadn dX10_isTaken_5 rfl ?_
    refine x_icmp_ge 46 dX10_isTaken_6 rfl (fun hc => ?_) (fun hc => ?_)
    · have h := ifT hc h
      refine x_iconst 0 dX10_isTaken_46 rfl ?_
      cases h
      exact x_zret rfl rfl dX10_isTaken_47 ⟨rfl, rfl, rfl⟩
    have h := ifF hc h
    refine x_iload dX10_isTaken_9 rfl ?_
    refine x_iload dX10_isTaken_11 rfl ?_
    refine x_icmp_eq 40 dX10_isTaken_13 rfl (fun hc => ?_) (fun hc => ?_)
    · have h := ifT hc h
      refine z_iinc 1 (by decide) dX10_isTaken_40 rfl rfl rfl ?_
      refine x_goto 3 dX10_isTaken_43 rfl ?_
      exact ih H0 h
    have h := ifF hc h
    refine x_aloadn dX10_isTaken_16 rfl ?_
    refine x_iloadn dX10_isTaken_17 rfl ?_
    refine x_iloadn dX10_isTaken_18 rfl ?_
    refine x_iload dX10_isTaken_19 rfl ?_
    refine x_imul dX10_isTaken_21 ?_
    refine x_iadd dX10_isTaken_22 ?_
    refine x_aloadn dX10_isTaken_23 rfl ?_
    refine z_getI fs_X10_73 (MK.o H0) dX10_isTaken_24 ?_
    refine x_aloadn dX10_isTaken_27 rfl ?_
    refine z_getI fs_X10_76 (MK.o H0) dX10_isTaken_28 ?_
    refine x_isub dX10_isTaken_31 ?_
    obtain ⟨v1, h2, h⟩ := b1_s h
    refine z_V1 [.int (x2 + (x3 * x5)), .int ((I x0 13) - (I x0 14))] [] (cs_X10_118 _) (ci := 8) rfl (MK.o H0) (dep (show d + 0 + 0 + 1 ≤ (d + 1) from by omega) (Nat.le_of_ble_eq_true rfl)) dX10_isTaken_32 rfl rfl (Nat.le_of_ble_eq_true rfl) (c_X10_isNamed d (K := K) (I := I) H0 h2) ?_
    refine x_if_eq 40 dX10_isTaken_35 rfl (fun hc => ?_) (fun hc => ?_)
    · have h := ifT hc h
      refine z_iinc 1 (by decide) dX10_isTaken_40 rfl rfl rfl ?_
      refine x_goto 3 dX10_isTaken_43 rfl ?_
      exact ih H0 h
    have h := ifF hc h
    refine x_iconst 1 dX10_isTaken_38 rfl ?_
    cases h
    exact x_zret rfl rfl dX10_isTaken_39 ⟨rfl, rfl, rfl⟩
noncomputable def f_X10_isTaken (I : Mem) (x0 : Nat) (x1 : Int32) (x2 : Int32) (x3 : Int32) (x4 : Int32) : Option (Int32) := l_X10_isTaken_3 FU I x0 x1 x2 x3 x4 0
theorem c_X10_isTaken (d : Nat) {K : Kt} {I : Mem} {x0 : Nat} (H0 : MK K x0) {x1 : Int32} {x2 : Int32} {x3 : Int32} {x4 : Int32} {v : Int32} (h : f_X10_isTaken I x0 x1 x2 x3 x4 = some v) : Ct (mX10_isTaken (d + 1)) cX10_isTaken 0 0 [.ref x0, .int x1, .int x2, .int x3, .int x4] I K (Ro (.inl (some (.int v))) I K) := by
  refine Ct.of rfl pn_X10 (catR (catI (catI (catI (catI cat0))))) (Nat.le_of_ble_eq_true rfl) (show X _ _ _ _ _ _ 0 [.ref x0, .int x1, .int x2, .int x3, .int x4, .retAddr 0] [] _ from ?_)
  unfold f_X10_isTaken at h
  refine x_iconst 0 dX10_isTaken_0 rfl ?_
  refine x_istore dX10_isTaken_1 (Nat.le_of_ble_eq_true rfl) rfl rfl ?_
  exact tl_X10_isTaken_3 d FU H0 h
noncomputable def l_X10_names_17 (n : Nat) (I : Mem) (x0 : Nat) (x1 : Int32) (x2 : Int32) : Option (Mem) := match n with
  | 0 => none
  | n + 1 => if ((I x0 13) - (I x0 14)) ≤ x2 then (some (I)) else (b1 (ix ((I x0 14) + x2) 500) fun j3 => b1 (ix ((x1 + 1) + x2) 355) fun j4 => b1 (pu I (x0 + 1) j4 (I (x0 + 6) j3)) fun I5 => l_X10_names_17 n I5 x0 x1 (x2 + 1))
theorem tl_X10_names_17 (d : Nat) {K : Kt} (n : Nat) : ∀ {I : Mem} {x0 : Nat} (H0 : MK K x0) {x1 : Int32} {x2 : Int32} {I9 : Mem}, l_X10_names_17 n I x0 x1 x2 = some I9 → X (mX10_names d) cX10_names 0 0 I K 17 [.ref x0, .int x1, .int x2] [] (Ro (.inl none) I9 K) := by
  induction n with
  | zero =>
    intro I x0 H0 x1 x2 I9 h
    cases h
  | succ n ih =>
    intro I x0 H0 x1 x2 I9 h
    unfold l_X10_names_17 at h
    refine x_iloadn dX10_names_17 rfl ?_
    refine x_aloadn dX10_names_18 rfl ?_
    refine z_getI fs_X10_73 (MK.o H0) dX10_names_19 ?_
    refine x_aloadn dX10_names_22 rfl ?_
    refine z_getI fs_X10_76 (MK.o H0) dX10_names_23 ?_
    refine x_isub dX10_names_26 ?_
    refine x_icmp_ge 57 dX10_names_27 rfl (fun hc => ?_) (fun hc => ?_)
    · have h := ifT hc h
      cases h
      exact x_vret rfl dX10_names_57 ⟨rfl, rfl, rfl⟩
    have h := ifF hc h
    refine x_aloadn dX10_names_30 rfl ?_
    refine z_getR fs_X10_9 (MK.o H0) (MK.g1 H0) dX10_names_31 ?_
    refine x_iloadn dX10_names_34 rfl ?_
    refine x_iconst 1 dX10_names_35 rfl ?_
    refine x_iadd dX10_names_36 ?_
    refine x_iloadn dX10_names_37 rfl ?_
    refine x_iadd dX10_names_38 ?_
    refine x_aloadn dX10_names_39 rfl ?_
    refine z_getR fs_X10_26 (MK.o H0) (MK.g6 H0) dX10_names_40 ?_
    refine x_aloadn dX10_names_43 rfl ?_
    refine z_getI fs_X10_76 (MK.o H0) dX10_names_44 ?_
    refine x_iloadn dX10_names_47 rfl ?_
    refine x_iadd dX10_names_48 ?_
    obtain ⟨j3, hj3, h⟩ := b1_s h
    refine z_bald (MK.l6 H0) hj3 dX10_names_49 ?_
    obtain ⟨j4, hj4, h⟩ := b1_s h
    obtain ⟨I5, hI5, h⟩ := b1_s h
    refine z_iast (MK.l1 H0) hj4 hI5 dX10_names_50 ?_
    refine z_iinc 1 (by decide) dX10_names_51 rfl rfl rfl ?_
    refine x_goto 17 dX10_names_54 rfl ?_
    exact ih H0 h
noncomputable def f_X10_names (I : Mem) (x0 : Nat) (x1 : Int32) : Option (Mem) := b1 (ix x1 355) fun j1 => b1 (pu I (x0 + 1) j1 ((I x0 13) - (I x0 14))) fun I2 => l_X10_names_17 FU I2 x0 x1 0
theorem c_X10_names (d : Nat) {K : Kt} {I : Mem} {x0 : Nat} (H0 : MK K x0) {x1 : Int32} {I9 : Mem} (h : f_X10_names I x0 x1 = some I9) : Ct (mX10_names d) cX10_names 0 0 [.ref x0, .int x1] I K (Ro (.inl none) I9 K) := by
  refine Ct.of rfl pn_X10 (catR (catI cat0)) (Nat.le_of_ble_eq_true rfl) (show X _ _ _ _ _ _ 0 [.ref x0, .int x1, .retAddr 0] [] _ from ?_)
  unfold f_X10_names at h
  refine x_aloadn dX10_names_0 rfl ?_
  refine z_getR fs_X10_9 (MK.o H0) (MK.g1 H0) dX10_names_1 ?_
  refine x_iloadn dX10_names_4 rfl ?_
  refine x_aloadn dX10_names_5 rfl ?_
  refine z_getI fs_X10_73 (MK.o H0) dX10_names_6 ?_
  refine x_aloadn dX10_names_9 rfl ?_
  refine z_getI fs_X10_76 (MK.o H0) dX10_names_10 ?_
  refine x_isub dX10_names_13 ?_
  obtain ⟨j1, hj1, h⟩ := b1_s h
  obtain ⟨I2, hI2, h⟩ := b1_s h
  refine z_iast (MK.l1 H0) hj1 hI2 dX10_names_14 ?_
  refine x_iconst 0 dX10_names_15 rfl ?_
  refine x_istoren dX10_names_16 (Nat.le_of_ble_eq_true rfl) rfl rfl ?_
  exact tl_X10_names_17 d FU H0 h
noncomputable def f_X10_looksAtName (I : Mem) (x0 : Nat) : Option (Mem) := b1 (f_X10_is I x0 2) fun v1 => if v1 = 0 then (b1 (f_X10_faults I x0 1) fun I5 => some (I5)) else (if ((I x0 13) - (I x0 14)) ≤ 6 then (some (I)) else (b1 (f_X10_faults I x0 2) fun I3 => some (I3)))
theorem c_X10_looksAtName (d : Nat) {K : Kt} {I : Mem} {x0 : Nat} (H0 : MK K x0) {I9 : Mem} (h : f_X10_looksAtName I x0 = some I9) : Ct (mX10_looksAtName (d + 1)) cX10_looksAtName 0 0 [.ref x0] I K (Ro (.inl none) I9 K) := by
  refine Ct.of rfl pn_X10 (catR cat0) (Nat.le_of_ble_eq_true rfl) (show X _ _ _ _ _ _ 0 [.ref x0] [] _ from ?_)
  unfold f_X10_looksAtName at h
  refine x_aloadn dX10_looksAtName_0 rfl ?_
  refine x_iconst 2 dX10_looksAtName_1 rfl ?_
  obtain ⟨v1, h2, h⟩ := b1_s h
  refine z_V1 [.int 2] [] (cs_X10_98 _) (ci := 8) rfl (MK.o H0) (dep (show d + 0 + 0 + 1 ≤ (d + 1) from by omega) (Nat.le_of_ble_eq_true rfl)) dX10_looksAtName_2 rfl rfl (Nat.le_of_ble_eq_true rfl) (c_X10_is d (K := K) (I := I) H0 h2) ?_
  refine x_if_ne 16 dX10_looksAtName_5 rfl (fun hc => ?_) (fun hc => ?_)
  · have h := ifF hc h
    refine x_aloadn dX10_looksAtName_16 rfl ?_
    refine z_getI fs_X10_73 (MK.o H0) dX10_looksAtName_17 ?_
    refine x_aloadn dX10_looksAtName_20 rfl ?_
    refine z_getI fs_X10_76 (MK.o H0) dX10_looksAtName_21 ?_
    refine x_isub dX10_looksAtName_24 ?_
    refine x_bipush 6 dX10_looksAtName_25 rfl ?_
    refine x_icmp_le 35 dX10_looksAtName_27 rfl (fun hc => ?_) (fun hc => ?_)
    · have h := ifT hc h
      cases h
      exact x_vret rfl dX10_looksAtName_35 ⟨rfl, rfl, rfl⟩
    have h := ifF hc h
    refine x_aloadn dX10_looksAtName_30 rfl ?_
    refine x_iconst 2 dX10_looksAtName_31 rfl ?_
    obtain ⟨I3, h4, h⟩ := b1_s h
    refine z_V0 [.int 2] [] (cs_X10_95 _) (ci := 8) rfl (MK.o H0) (dep (show d + 0 + 0 + 1 ≤ (d + 1) from by omega) (Nat.le_of_ble_eq_true rfl)) dX10_looksAtName_32 rfl rfl (Nat.le_of_ble_eq_true rfl) (c_X10_faults d (K := K) (I := I) H0 h4) ?_
    cases h
    exact x_vret rfl dX10_looksAtName_35 ⟨rfl, rfl, rfl⟩
  have h := ifT hc h
  refine x_aloadn dX10_looksAtName_8 rfl ?_
  refine x_iconst 1 dX10_looksAtName_9 rfl ?_
  obtain ⟨I5, h6, h⟩ := b1_s h
  refine z_V0 [.int 1] [] (cs_X10_95 _) (ci := 8) rfl (MK.o H0) (dep (show d + 0 + 0 + 1 ≤ (d + 1) from by omega) (Nat.le_of_ble_eq_true rfl)) dX10_looksAtName_10 rfl rfl (Nat.le_of_ble_eq_true rfl) (c_X10_faults d (K := K) (I := I) H0 h6) ?_
  refine x_goto 35 dX10_looksAtName_13 rfl ?_
  cases h
  exact x_vret rfl dX10_looksAtName_35 ⟨rfl, rfl, rfl⟩
noncomputable def f_X10_putsStall (I : Mem) (x0 : Nat) (x1 : Int32) (x2 : Int32) (x3 : Int32) : Option (Mem) := b1 (ix ((95 + (4 * x1)) + x2) 355) fun j1 => b1 (pu I (x0 + 1) j1 x3) fun I2 => some (I2)
theorem c_X10_putsStall (d : Nat) {K : Kt} {I : Mem} {x0 : Nat} (H0 : MK K x0) {x1 : Int32} {x2 : Int32} {x3 : Int32} {I9 : Mem} (h : f_X10_putsStall I x0 x1 x2 x3 = some I9) : Ct (mX10_putsStall d) cX10_putsStall 0 0 [.ref x0, .int x1, .int x2, .int x3] I K (Ro (.inl none) I9 K) := by
  refine Ct.of rfl pn_X10 (catR (catI (catI (catI cat0)))) (Nat.le_of_ble_eq_true rfl) (show X _ _ _ _ _ _ 0 [.ref x0, .int x1, .int x2, .int x3] [] _ from ?_)
  unfold f_X10_putsStall at h
  refine x_aloadn dX10_putsStall_0 rfl ?_
  refine z_getR fs_X10_9 (MK.o H0) (MK.g1 H0) dX10_putsStall_1 ?_
  refine x_bipush 95 dX10_putsStall_4 rfl ?_
  refine x_iconst 4 dX10_putsStall_6 rfl ?_
  refine x_iloadn dX10_putsStall_7 rfl ?_
  refine x_imul dX10_putsStall_8 ?_
  refine x_iadd dX10_putsStall_9 ?_
  refine x_iloadn dX10_putsStall_10 rfl ?_
  refine x_iadd dX10_putsStall_11 ?_
  refine x_iloadn dX10_putsStall_12 rfl ?_
  obtain ⟨j1, hj1, h⟩ := b1_s h
  obtain ⟨I2, hI2, h⟩ := b1_s h
  refine z_iast (MK.l1 H0) hj1 hI2 dX10_putsStall_13 ?_
  cases h
  exact x_vret rfl dX10_putsStall_14 ⟨rfl, rfl, rfl⟩
noncomputable def f_X10_readsStall (I : Mem) (x0 : Nat) : Option (Mem) := b1 (f_X10_begins I x0 3 5) fun I1 => b2 (f_X10_readNumber I1 x0 1 8) fun v3 I4 => b2 (f_X10_readNumber I4 x0 0 999) fun v6 I7 => b2 (f_X10_readNumber I7 x0 0 50) fun v9 I10 => b2 (f_X10_readNumber I10 x0 0 100) fun v12 I13 => if (I13 x0 10) ≤ 0 then (b1 (ix 3 355) fun j15 => b1 (ix 3 355) fun j16 => b1 (ix 3 355) fun j17 => b1 (pu I13 (x0 + 1) j17 ((I13 (x0 + 1) j16) + 1)) fun I18 => b1 (f_X10_putsStall I18 x0 (I13 (x0 + 1) j15) 0 v3) fun I19 => b1 (f_X10_putsStall I19 x0 (I13 (x0 + 1) j15) 1 v6) fun I21 => b1 (f_X10_putsStall I21 x0 (I13 (x0 + 1) j15) 2 v9) fun I23 => b1 (f_X10_putsStall I23 x0 (I13 (x0 + 1) j15) 3 v12) fun I25 => b1 (ix 7 355) fun j27 => b1 (ix 7 355) fun j28 => b1 (pu I25 (x0 + 1) j28 ((I25 (x0 + 1) j27) + v6)) fun I29 => some (I29)) else (some (I13))
theorem c_X10_readsStall (d : Nat) {K : Kt} {I : Mem} {x0 : Nat} (H0 : MK K x0) {I9 : Mem} (h : f_X10_readsStall I x0 = some I9) : Ct (mX10_readsStall (d + 4)) cX10_readsStall 0 0 [.ref x0] I K (Ro (.inl none) I9 K) := by
  refine Ct.of rfl pn_X10 (catR cat0) (Nat.le_of_ble_eq_true rfl) (show X _ _ _ _ _ _ 0 [.ref x0, .retAddr 0, .retAddr 0, .retAddr 0, .retAddr 0, .retAddr 0] [] _ from ?_)
  unfold f_X10_readsStall at h
  refine x_aloadn dX10_readsStall_0 rfl ?_
  refine x_iconst 3 dX10_readsStall_1 rfl ?_
  refine x_iconst 5 dX10_readsStall_2 rfl ?_
  obtain ⟨I1, h2, h⟩ := b1_s h
  refine z_V0 [.int 3, .int 5] [] (cs_X10_122 _) (ci := 8) rfl (MK.o H0) (dep (show d + 0 + 3 + 1 ≤ (d + 4) from by omega) (Nat.le_of_ble_eq_true rfl)) dX10_readsStall_3 rfl rfl (Nat.le_of_ble_eq_true rfl) (c_X10_begins d (K := K) (I := I) H0 h2) ?_
  refine x_aloadn dX10_readsStall_6 rfl ?_
  refine x_iconst 1 dX10_readsStall_7 rfl ?_
  refine x_bipush 8 dX10_readsStall_8 rfl ?_
  obtain ⟨v3, I4, h5, h⟩ := b2_s h
  refine z_V1 [.int 1, .int 8] [] (cs_X10_126 _) (ci := 8) rfl (MK.o H0) (dep (show d + 0 + 3 + 1 ≤ (d + 4) from by omega) (Nat.le_of_ble_eq_true rfl)) dX10_readsStall_10 rfl rfl (Nat.le_of_ble_eq_true rfl) (c_X10_readNumber d (K := K) (I := I1) H0 h5) ?_
  refine x_istoren dX10_readsStall_13 (Nat.le_of_ble_eq_true rfl) rfl rfl ?_
  refine x_aloadn dX10_readsStall_14 rfl ?_
  refine x_iconst 0 dX10_readsStall_15 rfl ?_
  refine x_sipush 999 dX10_readsStall_16 rfl ?_
  obtain ⟨v6, I7, h8, h⟩ := b2_s h
  refine z_V1 [.int 0, .int 999] [] (cs_X10_126 _) (ci := 8) rfl (MK.o H0) (dep (show d + 0 + 3 + 1 ≤ (d + 4) from by omega) (Nat.le_of_ble_eq_true rfl)) dX10_readsStall_19 rfl rfl (Nat.le_of_ble_eq_true rfl) (c_X10_readNumber d (K := K) (I := I4) H0 h8) ?_
  refine x_istoren dX10_readsStall_22 (Nat.le_of_ble_eq_true rfl) rfl rfl ?_
  refine x_aloadn dX10_readsStall_23 rfl ?_
  refine x_iconst 0 dX10_readsStall_24 rfl ?_
  refine x_bipush 50 dX10_readsStall_25 rfl ?_
  obtain ⟨v9, I10, h11, h⟩ := b2_s h
  refine z_V1 [.int 0, .int 50] [] (cs_X10_126 _) (ci := 8) rfl (MK.o H0) (dep (show d + 0 + 3 + 1 ≤ (d + 4) from by omega) (Nat.le_of_ble_eq_true rfl)) dX10_readsStall_27 rfl rfl (Nat.le_of_ble_eq_true rfl) (c_X10_readNumber d (K := K) (I := I7) H0 h11) ?_
  refine x_istoren dX10_readsStall_30 (Nat.le_of_ble_eq_true rfl) rfl rfl ?_
  refine x_aloadn dX10_readsStall_31 rfl ?_
  refine x_iconst 0 dX10_readsStall_32 rfl ?_
  refine x_bipush 100 dX10_readsStall_33 rfl ?_
  obtain ⟨v12, I13, h14, h⟩ := b2_s h
  refine z_V1 [.int 0, .int 100] [] (cs_X10_126 _) (ci := 8) rfl (MK.o H0) (dep (show d + 0 + 3 + 1 ≤ (d + 4) from by omega) (Nat.le_of_ble_eq_true rfl)) dX10_readsStall_35 rfl rfl (Nat.le_of_ble_eq_true rfl) (c_X10_readNumber d (K := K) (I := I10) H0 h14) ?_
  refine x_istore dX10_readsStall_38 (Nat.le_of_ble_eq_true rfl) rfl rfl ?_
  refine x_aloadn dX10_readsStall_40 rfl ?_
  refine z_getI fs_X10_59 (MK.o H0) dX10_readsStall_41 ?_
  refine x_if_le 48 dX10_readsStall_44 rfl (fun hc => ?_) (fun hc => ?_)
  · have h := ifT hc h
    refine x_aloadn dX10_readsStall_48 rfl ?_
    refine z_getR fs_X10_9 (MK.o H0) (MK.g1 H0) dX10_readsStall_49 ?_
    refine x_iconst 3 dX10_readsStall_52 rfl ?_
    obtain ⟨j15, hj15, h⟩ := b1_s h
    refine z_iald (MK.l1 H0) hj15 dX10_readsStall_53 ?_
    refine x_istore dX10_readsStall_54 (Nat.le_of_ble_eq_true rfl) rfl rfl ?_
    refine x_aloadn dX10_readsStall_56 rfl ?_
    refine z_getR fs_X10_9 (MK.o H0) (MK.g1 H0) dX10_readsStall_57 ?_
    refine x_iconst 3 dX10_readsStall_60 rfl ?_
    refine x_dup2 dX10_readsStall_61 rfl rfl ?_
    obtain ⟨j16, hj16, h⟩ := b1_s h
    refine z_iald (MK.l1 H0) hj16 dX10_readsStall_62 ?_
    refine x_iconst 1 dX10_readsStall_63 rfl ?_
    refine x_iadd dX10_readsStall_64 ?_
    obtain ⟨j17, hj17, h⟩ := b1_s h
    obtain ⟨I18, hI18, h⟩ := b1_s h
    refine z_iast (MK.l1 H0) hj17 hI18 dX10_readsStall_65 ?_
    refine x_aloadn dX10_readsStall_66 rfl ?_
    refine x_iload dX10_readsStall_67 rfl ?_
    refine x_iconst 0 dX10_readsStall_69 rfl ?_
    refine x_iloadn dX10_readsStall_70 rfl ?_
    obtain ⟨I19, h20, h⟩ := b1_s h
    refine z_V0 [.int (I13 (x0 + 1) j15), .int 0, .int v3] [] (cs_X10_129 _) (ci := 8) rfl (MK.o H0) (dep (show d + 3 + 0 + 1 ≤ (d + 4) from by omega) (Nat.le_of_ble_eq_true rfl)) dX10_readsStall_71 rfl rfl (Nat.le_of_ble_eq_true rfl) (c_X10_putsStall (d + 3) (K := K) (I := I18) H0 h20) ?_
    refine x_aloadn dX10_readsStall_74 rfl ?_
    refine x_iload dX10_readsStall_75 rfl ?_
    refine x_iconst 1 dX10_readsStall_77 rfl ?_
    refine x_iloadn dX10_readsStall_78 rfl ?_
    obtain ⟨I21, h22, h⟩ := b1_s h
    refine z_V0 [.int (I13 (x0 + 1) j15), .int 1, .int v6] [] (cs_X10_129 _) (ci := 8) rfl (MK.o H0) (dep (show d + 3 + 0 + 1 ≤ (d + 4) from by omega) (Nat.le_of_ble_eq_true rfl)) dX10_readsStall_79 rfl rfl (Nat.le_of_ble_eq_true rfl) (c_X10_putsStall (d + 3) (K := K) (I := I19) H0 h22) ?_
    refine x_aloadn dX10_readsStall_82 rfl ?_
    refine x_iload dX10_readsStall_83 rfl ?_
    refine x_iconst 2 dX10_readsStall_85 rfl ?_
    refine x_iloadn dX10_readsStall_86 rfl ?_
    obtain ⟨I23, h24, h⟩ := b1_s h
    refine z_V0 [.int (I13 (x0 + 1) j15), .int 2, .int v9] [] (cs_X10_129 _) (ci := 8) rfl (MK.o H0) (dep (show d + 3 + 0 + 1 ≤ (d + 4) from by omega) (Nat.le_of_ble_eq_true rfl)) dX10_readsStall_87 rfl rfl (Nat.le_of_ble_eq_true rfl) (c_X10_putsStall (d + 3) (K := K) (I := I21) H0 h24) ?_
    refine x_aloadn dX10_readsStall_90 rfl ?_
    refine x_iload dX10_readsStall_91 rfl ?_
    refine x_iconst 3 dX10_readsStall_93 rfl ?_
    refine x_iload dX10_readsStall_94 rfl ?_
    obtain ⟨I25, h26, h⟩ := b1_s h
    refine z_V0 [.int (I13 (x0 + 1) j15), .int 3, .int v12] [] (cs_X10_129 _) (ci := 8) rfl (MK.o H0) (dep (show d + 3 + 0 + 1 ≤ (d + 4) from by omega) (Nat.le_of_ble_eq_true rfl)) dX10_readsStall_96 rfl rfl (Nat.le_of_ble_eq_true rfl) (c_X10_putsStall (d + 3) (K := K) (I := I23) H0 h26) ?_
    refine x_aloadn dX10_readsStall_99 rfl ?_
    refine z_getR fs_X10_9 (MK.o H0) (MK.g1 H0) dX10_readsStall_100 ?_
    refine x_bipush 7 dX10_readsStall_103 rfl ?_
    refine x_dup2 dX10_readsStall_105 rfl rfl ?_
    obtain ⟨j27, hj27, h⟩ := b1_s h
    refine z_iald (MK.l1 H0) hj27 dX10_readsStall_106 ?_
    refine x_iloadn dX10_readsStall_107 rfl ?_
    refine x_iadd dX10_readsStall_108 ?_
    obtain ⟨j28, hj28, h⟩ := b1_s h
    obtain ⟨I29, hI29, h⟩ := b1_s h
    refine z_iast (MK.l1 H0) hj28 hI29 dX10_readsStall_109 ?_
    cases h
    exact x_vret rfl dX10_readsStall_110 ⟨rfl, rfl, rfl⟩
  have h := ifF hc h
  cases h
  exact x_vret rfl dX10_readsStall_47 ⟨rfl, rfl, rfl⟩
noncomputable def f_X10_ofPerson (I : Mem) (x0 : Nat) (x1 : Int32) (x2 : Int32) : Option (Int32) := b1 (ix ((11 + (14 * x1)) + x2) 355) fun j1 => some ((I (x0 + 1) j1))
theorem c_X10_ofPerson (d : Nat) {K : Kt} {I : Mem} {x0 : Nat} (H0 : MK K x0) {x1 : Int32} {x2 : Int32} {v : Int32} (h : f_X10_ofPerson I x0 x1 x2 = some v) : Ct (mX10_ofPerson d) cX10_ofPerson 0 0 [.ref x0, .int x1, .int x2] I K (Ro (.inl (some (.int v))) I K) := by
  refine Ct.of rfl pn_X10 (catR (catI (catI cat0))) (Nat.le_of_ble_eq_true rfl) (show X _ _ _ _ _ _ 0 [.ref x0, .int x1, .int x2] [] _ from ?_)
  unfold f_X10_ofPerson at h
  refine x_aloadn dX10_ofPerson_0 rfl ?_
  refine z_getR fs_X10_9 (MK.o H0) (MK.g1 H0) dX10_ofPerson_1 ?_
  refine x_bipush 11 dX10_ofPerson_4 rfl ?_
  refine x_bipush 14 dX10_ofPerson_6 rfl ?_
  refine x_iloadn dX10_ofPerson_8 rfl ?_
  refine x_imul dX10_ofPerson_9 ?_
  refine x_iadd dX10_ofPerson_10 ?_
  refine x_iloadn dX10_ofPerson_11 rfl ?_
  refine x_iadd dX10_ofPerson_12 ?_
  obtain ⟨j1, hj1, h⟩ := b1_s h
  refine z_iald (MK.l1 H0) hj1 dX10_ofPerson_13 ?_
  cases h
  exact x_iret rfl dX10_ofPerson_14 ⟨rfl, rfl, rfl⟩
noncomputable def f_X10_putsPerson (I : Mem) (x0 : Nat) (x1 : Int32) (x2 : Int32) (x3 : Int32) : Option (Mem) := b1 (ix ((11 + (14 * x1)) + x2) 355) fun j1 => b1 (pu I (x0 + 1) j1 x3) fun I2 => some (I2)
theorem c_X10_putsPerson (d : Nat) {K : Kt} {I : Mem} {x0 : Nat} (H0 : MK K x0) {x1 : Int32} {x2 : Int32} {x3 : Int32} {I9 : Mem} (h : f_X10_putsPerson I x0 x1 x2 x3 = some I9) : Ct (mX10_putsPerson d) cX10_putsPerson 0 0 [.ref x0, .int x1, .int x2, .int x3] I K (Ro (.inl none) I9 K) := by
  refine Ct.of rfl pn_X10 (catR (catI (catI (catI cat0)))) (Nat.le_of_ble_eq_true rfl) (show X _ _ _ _ _ _ 0 [.ref x0, .int x1, .int x2, .int x3] [] _ from ?_)
  unfold f_X10_putsPerson at h
  refine x_aloadn dX10_putsPerson_0 rfl ?_
  refine z_getR fs_X10_9 (MK.o H0) (MK.g1 H0) dX10_putsPerson_1 ?_
  refine x_bipush 11 dX10_putsPerson_4 rfl ?_
  refine x_bipush 14 dX10_putsPerson_6 rfl ?_
  refine x_iloadn dX10_putsPerson_8 rfl ?_
  refine x_imul dX10_putsPerson_9 ?_
  refine x_iadd dX10_putsPerson_10 ?_
  refine x_iloadn dX10_putsPerson_11 rfl ?_
  refine x_iadd dX10_putsPerson_12 ?_
  refine x_iloadn dX10_putsPerson_13 rfl ?_
  obtain ⟨j1, hj1, h⟩ := b1_s h
  obtain ⟨I2, hI2, h⟩ := b1_s h
  refine z_iast (MK.l1 H0) hj1 hI2 dX10_putsPerson_14 ?_
  cases h
  exact x_vret rfl dX10_putsPerson_15 ⟨rfl, rfl, rfl⟩
noncomputable def f_X10_ofStall (I : Mem) (x0 : Nat) (x1 : Int32) (x2 : Int32) : Option (Int32) := b1 (ix ((95 + (4 * x1)) + x2) 355) fun j1 => some ((I (x0 + 1) j1))
theorem c_X10_ofStall (d : Nat) {K : Kt} {I : Mem} {x0 : Nat} (H0 : MK K x0) {x1 : Int32} {x2 : Int32} {v : Int32} (h : f_X10_ofStall I x0 x1 x2 = some v) : Ct (mX10_ofStall d) cX10_ofStall 0 0 [.ref x0, .int x1, .int x2] I K (Ro (.inl (some (.int v))) I K) := by
  refine Ct.of rfl pn_X10 (catR (catI (catI cat0))) (Nat.le_of_ble_eq_true rfl) (show X _ _ _ _ _ _ 0 [.ref x0, .int x1, .int x2] [] _ from ?_)
  unfold f_X10_ofStall at h
  refine x_aloadn dX10_ofStall_0 rfl ?_
  refine z_getR fs_X10_9 (MK.o H0) (MK.g1 H0) dX10_ofStall_1 ?_
  refine x_bipush 95 dX10_ofStall_4 rfl ?_
  refine x_iconst 4 dX10_ofStall_6 rfl ?_
  refine x_iloadn dX10_ofStall_7 rfl ?_
  refine x_imul dX10_ofStall_8 ?_
  refine x_iadd dX10_ofStall_9 ?_
  refine x_iloadn dX10_ofStall_10 rfl ?_
  refine x_iadd dX10_ofStall_11 ?_
  obtain ⟨j1, hj1, h⟩ := b1_s h
  refine z_iald (MK.l1 H0) hj1 dX10_ofStall_12 ?_
  cases h
  exact x_iret rfl dX10_ofStall_13 ⟨rfl, rfl, rfl⟩
noncomputable def f_X10_ofWish (I : Mem) (x0 : Nat) (x1 : Int32) (x2 : Int32) : Option (Int32) := b1 (ix ((115 + (15 * x1)) + x2) 355) fun j1 => some ((I (x0 + 1) j1))
theorem c_X10_ofWish (d : Nat) {K : Kt} {I : Mem} {x0 : Nat} (H0 : MK K x0) {x1 : Int32} {x2 : Int32} {v : Int32} (h : f_X10_ofWish I x0 x1 x2 = some v) : Ct (mX10_ofWish d) cX10_ofWish 0 0 [.ref x0, .int x1, .int x2] I K (Ro (.inl (some (.int v))) I K) := by
  refine Ct.of rfl pn_X10 (catR (catI (catI cat0))) (Nat.le_of_ble_eq_true rfl) (show X _ _ _ _ _ _ 0 [.ref x0, .int x1, .int x2] [] _ from ?_)
  unfold f_X10_ofWish at h
  refine x_aloadn dX10_ofWish_0 rfl ?_
  refine z_getR fs_X10_9 (MK.o H0) (MK.g1 H0) dX10_ofWish_1 ?_
  refine x_bipush 115 dX10_ofWish_4 rfl ?_
  refine x_bipush 15 dX10_ofWish_6 rfl ?_
  refine x_iloadn dX10_ofWish_8 rfl ?_
  refine x_imul dX10_ofWish_9 ?_
  refine x_iadd dX10_ofWish_10 ?_
  refine x_iloadn dX10_ofWish_11 rfl ?_
  refine x_iadd dX10_ofWish_12 ?_
  obtain ⟨j1, hj1, h⟩ := b1_s h
  refine z_iald (MK.l1 H0) hj1 dX10_ofWish_13 ?_
  cases h
  exact x_iret rfl dX10_ofWish_14 ⟨rfl, rfl, rfl⟩
noncomputable def f_X10_isInStall (I : Mem) (x0 : Nat) (x1 : Int32) : Option (Int32) := b1 (f_X10_ofWish I x0 x1 3) fun v1 => if v1 = 0 then (some (1)) else (some (0))
theorem c_X10_isInStall (d : Nat) {K : Kt} {I : Mem} {x0 : Nat} (H0 : MK K x0) {x1 : Int32} {v : Int32} (h : f_X10_isInStall I x0 x1 = some v) : Ct (mX10_isInStall (d + 1)) cX10_isInStall 0 0 [.ref x0, .int x1] I K (Ro (.inl (some (.int v))) I K) := by
  refine Ct.of rfl pn_X10 (catR (catI cat0)) (Nat.le_of_ble_eq_true rfl) (show X _ _ _ _ _ _ 0 [.ref x0, .int x1] [] _ from ?_)
  unfold f_X10_isInStall at h
  refine x_aloadn dX10_isInStall_0 rfl ?_
  refine x_iloadn dX10_isInStall_1 rfl ?_
  refine x_iconst 3 dX10_isInStall_2 rfl ?_
  obtain ⟨v1, h2, h⟩ := b1_s h
  refine z_V1 [.int x1, .int 3] [] (cs_X10_224 _) (ci := 8) rfl (MK.o H0) (dep (show d + 0 + 0 + 1 ≤ (d + 1) from by omega) (Nat.le_of_ble_eq_true rfl)) dX10_isInStall_3 rfl rfl (Nat.le_of_ble_eq_true rfl) (c_X10_ofWish d (K := K) (I := I) H0 h2) ?_
  refine x_if_ne 13 dX10_isInStall_6 rfl (fun hc => ?_) (fun hc => ?_)
  · have h := ifF hc h
    refine x_iconst 0 dX10_isInStall_13 rfl ?_
    cases h
    exact x_zret rfl rfl dX10_isInStall_14 ⟨rfl, rfl, rfl⟩
  have h := ifT hc h
  refine x_iconst 1 dX10_isInStall_9 rfl ?_
  refine x_goto 14 dX10_isInStall_10 rfl ?_
  cases h
  exact x_zret rfl rfl dX10_isInStall_14 ⟨rfl, rfl, rfl⟩
noncomputable def l_X10_stock_38 (c4 : Mem → Nat → Int32 → Int32 → Int32 → Option (Int32)) (I : Mem) (x0 : Nat) (x1 : Int32) (x3 : Int32) (y0 : Int32) (y1 : Int32) : Option (Int32) := b1 (f_X10_one y0) fun v4 => c4 I x0 x1 (y1 + v4) (x3 + 1)
theorem tl_X10_stock_38 (d : Nat) {K : Kt} {c4 : Mem → Nat → Int32 → Int32 → Int32 → Option (Int32)} (hc4 : ∀ {I : Mem} {x0 : Nat} (H0 : MK K x0) {x1 : Int32} {x2 : Int32} {x3 : Int32} {v : Int32}, c4 I x0 x1 x2 x3 = some v → X (mX10_stock (d + 2)) cX10_stock 0 0 I K 4 [.ref x0, .int x1, .int x2, .int x3] [] (Ro (.inl (some (.int v))) I K)) : ∀ {I : Mem} {x0 : Nat} (H0 : MK K x0) {x1 : Int32} {x3 : Int32} {y0 : Int32} {y1 : Int32} {v : Int32}, l_X10_stock_38 c4 I x0 x1 x3 y0 y1 = some v → X (mX10_stock (d + 2)) cX10_stock 0 0 I K 38 [.ref x0, .int x1, .retAddr 0, .int x3] [.int y0, .int y1] (Ro (.inl (some (.int v))) I K) := by
  intro I x0 H0 x1 x3 y0 y1 v h
  unfold l_X10_stock_38 at h
  obtain ⟨v4, h5, h⟩ := b1_s h
  refine z_S1 [.int y0] [.int y1] (cs_X10_346 _) (dep (show d + 1 + 0 + 1 ≤ (d + 2) from by omega) (Nat.le_of_ble_eq_true rfl)) dX10_stock_38 rfl rfl (Nat.le_of_ble_eq_true rfl) (c_X10_one (d + 1) (K := K) (I := I) h5) ?_
  refine x_iadd dX10_stock_41 ?_
  refine x_istoren dX10_stock_42 (Nat.le_of_ble_eq_true rfl) rfl rfl ?_
  refine z_iinc 1 (by decide) dX10_stock_43 rfl rfl rfl ?_
  refine x_goto 4 dX10_stock_46 rfl ?_
  exact hc4 H0 h
noncomputable def l_X10_stock_37 (c4 : Mem → Nat → Int32 → Int32 → Int32 → Option (Int32)) (I : Mem) (x0 : Nat) (x1 : Int32) (x3 : Int32) (y0 : Int32) : Option (Int32) := l_X10_stock_38 c4 I x0 x1 x3 0 y0
theorem tl_X10_stock_37 (d : Nat) {K : Kt} {c4 : Mem → Nat → Int32 → Int32 → Int32 → Option (Int32)} (hc4 : ∀ {I : Mem} {x0 : Nat} (H0 : MK K x0) {x1 : Int32} {x2 : Int32} {x3 : Int32} {v : Int32}, c4 I x0 x1 x2 x3 = some v → X (mX10_stock (d + 2)) cX10_stock 0 0 I K 4 [.ref x0, .int x1, .int x2, .int x3] [] (Ro (.inl (some (.int v))) I K)) : ∀ {I : Mem} {x0 : Nat} (H0 : MK K x0) {x1 : Int32} {x3 : Int32} {y0 : Int32} {v : Int32}, l_X10_stock_37 c4 I x0 x1 x3 y0 = some v → X (mX10_stock (d + 2)) cX10_stock 0 0 I K 37 [.ref x0, .int x1, .retAddr 0, .int x3] [.int y0] (Ro (.inl (some (.int v))) I K) := by
  intro I x0 H0 x1 x3 y0 v h
  unfold l_X10_stock_37 at h
  refine x_iconst 0 dX10_stock_37 rfl ?_
  exact tl_X10_stock_38 d hc4 H0 h
noncomputable def l_X10_stock_4 (n : Nat) (I : Mem) (x0 : Nat) (x1 : Int32) (x2 : Int32) (x3 : Int32) : Option (Int32) := match n with
  | 0 => none
  | n + 1 => b1 (ix 4 355) fun j1 => if (I (x0 + 1) j1) ≤ x3 then (some (x2)) else (b1 (f_X10_isInStall I x0 x3) fun v2 => if v2 = 0 then (l_X10_stock_37 (l_X10_stock_4 n) I x0 x1 x3 x2) else (b1 (f_X10_ofWish I x0 x3 4) fun v6 => if v6 = x1 then (l_X10_stock_38 (l_X10_stock_4 n) I x0 x1 x3 1 x2) else (l_X10_stock_37 (l_X10_stock_4 n) I x0 x1 x3 x2)))
theorem tl_X10_stock_4 (d : Nat) {K : Kt} (n : Nat) : ∀ {I : Mem} {x0 : Nat} (H0 : MK K x0) {x1 : Int32} {x2 : Int32} {x3 : Int32} {v : Int32}, l_X10_stock_4 n I x0 x1 x2 x3 = some v → X (mX10_stock (d + 2)) cX10_stock 0 0 I K 4 [.ref x0, .int x1, .int x2, .int x3] [] (Ro (.inl (some (.int v))) I K) := by
  induction n with
  | zero =>
    intro I x0 H0 x1 x2 x3 v h
    cases h
  | succ n ih =>
    intro I x0 H0 x1 x2 x3 v h
    unfold l_X10_stock_4 at h
    refine x_iloadn dX10_stock_4 rfl ?_
    refine x_aloadn dX10_stock_5 rfl ?_
    refine z_getR fs_X10_9 (MK.o H0) (MK.g1 H0) dX10_stock_6 ?_
    refine x_iconst 4 dX10_stock_9 rfl ?_
    obtain ⟨j1, hj1, h⟩ := b1_s h
    refine z_iald (MK.l1 H0) hj1 dX10_stock_10 ?_
    refine x_icmp_ge 49 dX10_stock_11 rfl (fun hc => ?_) (fun hc => ?_)
    · have h := ifT hc h
      refine x_iloadn dX10_stock_49 rfl ?_
      cases h
      exact x_iret rfl dX10_stock_50 ⟨rfl, rfl, rfl⟩
    have h := ifF hc h
    refine x_iloadn dX10_stock_14 rfl ?_
    refine x_aloadn dX10_stock_15 rfl ?_
    refine x_iloadn dX10_stock_16 rfl ?_
    obtain ⟨v2, h3, h⟩ := b1_s h
    refine z_V1 [.int x3] [.int x2] (cs_X10_350 _) (ci := 8) rfl (MK.o H0) (dep (show d + 0 + 1 + 1 ≤ (d + 2) from by omega) (Nat.le_of_ble_eq_true rfl)) dX10_stock_17 rfl rfl (Nat.le_of_ble_eq_true rfl) (c_X10_isInStall d (K := K) (I := I) H0 h3) ?_
    refine x_if_eq 37 dX10_stock_20 rfl (fun hc => ?_) (fun hc => ?_)
    · have h := ifT hc h
      exact X.forget (L' := [.ref x0, .int x1, .retAddr 0, .int x3]) ⟨Or.inl rfl, ⟨Or.inl rfl, ⟨Or.inr rfl, ⟨Or.inl rfl, trivial⟩⟩⟩⟩ (tl_X10_stock_37 d ih H0 h)
    have h := ifF hc h
    refine x_aloadn dX10_stock_23 rfl ?_
    refine x_iloadn dX10_stock_24 rfl ?_
    refine x_iconst 4 dX10_stock_25 rfl ?_
    obtain ⟨v6, h7, h⟩ := b1_s h
    refine z_V1 [.int x3, .int 4] [.int x2] (cs_X10_224 _) (ci := 8) rfl (MK.o H0) (dep (show d + 1 + 0 + 1 ≤ (d + 2) from by omega) (Nat.le_of_ble_eq_true rfl)) dX10_stock_26 rfl rfl (Nat.le_of_ble_eq_true rfl) (c_X10_ofWish (d + 1) (K := K) (I := I) H0 h7) ?_
    refine x_iloadn dX10_stock_29 rfl ?_
    refine x_icmp_ne 37 dX10_stock_30 rfl (fun hc => ?_) (fun hc => ?_)
    · have h := ifF hc h
      exact X.forget (L' := [.ref x0, .int x1, .retAddr 0, .int x3]) ⟨Or.inl rfl, ⟨Or.inl rfl, ⟨Or.inr rfl, ⟨Or.inl rfl, trivial⟩⟩⟩⟩ (tl_X10_stock_37 d ih H0 h)
    have h := ifT hc h
    refine x_iconst 1 dX10_stock_33 rfl ?_
    refine x_goto 38 dX10_stock_34 rfl ?_
    exact X.forget (L' := [.ref x0, .int x1, .retAddr 0, .int x3]) ⟨Or.inl rfl, ⟨Or.inl rfl, ⟨Or.inr rfl, ⟨Or.inl rfl, trivial⟩⟩⟩⟩ (tl_X10_stock_38 d ih H0 h)
noncomputable def f_X10_stock (I : Mem) (x0 : Nat) (x1 : Int32) : Option (Int32) := l_X10_stock_4 FU I x0 x1 0 0
theorem c_X10_stock (d : Nat) {K : Kt} {I : Mem} {x0 : Nat} (H0 : MK K x0) {x1 : Int32} {v : Int32} (h : f_X10_stock I x0 x1 = some v) : Ct (mX10_stock (d + 2)) cX10_stock 0 0 [.ref x0, .int x1] I K (Ro (.inl (some (.int v))) I K) := by
  refine Ct.of rfl pn_X10 (catR (catI cat0)) (Nat.le_of_ble_eq_true rfl) (show X _ _ _ _ _ _ 0 [.ref x0, .int x1, .retAddr 0, .retAddr 0] [] _ from ?_)
  unfold f_X10_stock at h
  refine x_iconst 0 dX10_stock_0 rfl ?_
  refine x_istoren dX10_stock_1 (Nat.le_of_ble_eq_true rfl) rfl rfl ?_
  refine x_iconst 0 dX10_stock_2 rfl ?_
  refine x_istoren dX10_stock_3 (Nat.le_of_ble_eq_true rfl) rfl rfl ?_
  exact tl_X10_stock_4 d FU H0 h
noncomputable def f_X10_isFull (I : Mem) (x0 : Nat) (x1 : Int32) : Option (Int32) := b1 (f_X10_stock I x0 x1) fun v1 => b1 (f_X10_ofStall I x0 x1 0) fun v3 => if v1 = v3 then (some (1)) else (some (0))
theorem c_X10_isFull (d : Nat) {K : Kt} {I : Mem} {x0 : Nat} (H0 : MK K x0) {x1 : Int32} {v : Int32} (h : f_X10_isFull I x0 x1 = some v) : Ct (mX10_isFull (d + 3)) cX10_isFull 0 0 [.ref x0, .int x1] I K (Ro (.inl (some (.int v))) I K) := by
  refine Ct.of rfl pn_X10 (catR (catI cat0)) (Nat.le_of_ble_eq_true rfl) (show X _ _ _ _ _ _ 0 [.ref x0, .int x1] [] _ from ?_)
  unfold f_X10_isFull at h
  refine x_aloadn dX10_isFull_0 rfl ?_
  refine x_iloadn dX10_isFull_1 rfl ?_
  obtain ⟨v1, h2, h⟩ := b1_s h
  refine z_V1 [.int x1] [] (cs_X10_353 _) (ci := 8) rfl (MK.o H0) (dep (show d + 0 + 2 + 1 ≤ (d + 3) from by omega) (Nat.le_of_ble_eq_true rfl)) dX10_isFull_2 rfl rfl (Nat.le_of_ble_eq_true rfl) (c_X10_stock d (K := K) (I := I) H0 h2) ?_
  refine x_aloadn dX10_isFull_5 rfl ?_
  refine x_iloadn dX10_isFull_6 rfl ?_
  refine x_iconst 0 dX10_isFull_7 rfl ?_
  obtain ⟨v3, h4, h⟩ := b1_s h
  refine z_V1 [.int x1, .int 0] [.int v1] (cs_X10_356 _) (ci := 8) rfl (MK.o H0) (dep (show d + 2 + 0 + 1 ≤ (d + 3) from by omega) (Nat.le_of_ble_eq_true rfl)) dX10_isFull_8 rfl rfl (Nat.le_of_ble_eq_true rfl) (c_X10_ofStall (d + 2) (K := K) (I := I) H0 h4) ?_
  refine x_icmp_ne 18 dX10_isFull_11 rfl (fun hc => ?_) (fun hc => ?_)
  · have h := ifF hc h
    refine x_iconst 0 dX10_isFull_18 rfl ?_
    cases h
    exact x_zret rfl rfl dX10_isFull_19 ⟨rfl, rfl, rfl⟩
  have h := ifT hc h
  refine x_iconst 1 dX10_isFull_14 rfl ?_
  refine x_goto 19 dX10_isFull_15 rfl ?_
  cases h
  exact x_zret rfl rfl dX10_isFull_19 ⟨rfl, rfl, rfl⟩
noncomputable def f_X10_isOwned (I : Mem) (x0 : Nat) (x1 : Int32) : Option (Int32) := b1 (f_X10_ofWish I x0 x1 3) fun v1 => if v1 = 1 then (some (1)) else (some (0))
theorem c_X10_isOwned (d : Nat) {K : Kt} {I : Mem} {x0 : Nat} (H0 : MK K x0) {x1 : Int32} {v : Int32} (h : f_X10_isOwned I x0 x1 = some v) : Ct (mX10_isOwned (d + 1)) cX10_isOwned 0 0 [.ref x0, .int x1] I K (Ro (.inl (some (.int v))) I K) := by
  refine Ct.of rfl pn_X10 (catR (catI cat0)) (Nat.le_of_ble_eq_true rfl) (show X _ _ _ _ _ _ 0 [.ref x0, .int x1] [] _ from ?_)
  unfold f_X10_isOwned at h
  refine x_aloadn dX10_isOwned_0 rfl ?_
  refine x_iloadn dX10_isOwned_1 rfl ?_
  refine x_iconst 3 dX10_isOwned_2 rfl ?_
  obtain ⟨v1, h2, h⟩ := b1_s h
  refine z_V1 [.int x1, .int 3] [] (cs_X10_224 _) (ci := 8) rfl (MK.o H0) (dep (show d + 0 + 0 + 1 ≤ (d + 1) from by omega) (Nat.le_of_ble_eq_true rfl)) dX10_isOwned_3 rfl rfl (Nat.le_of_ble_eq_true rfl) (c_X10_ofWish d (K := K) (I := I) H0 h2) ?_
  refine x_iconst 1 dX10_isOwned_6 rfl ?_
  refine x_icmp_ne 14 dX10_isOwned_7 rfl (fun hc => ?_) (fun hc => ?_)
  · have h := ifF hc h
    refine x_iconst 0 dX10_isOwned_14 rfl ?_
    cases h
    exact x_zret rfl rfl dX10_isOwned_15 ⟨rfl, rfl, rfl⟩
  have h := ifT hc h
  refine x_iconst 1 dX10_isOwned_10 rfl ?_
  refine x_goto 15 dX10_isOwned_11 rfl ?_
  cases h
  exact x_zret rfl rfl dX10_isOwned_15 ⟨rfl, rfl, rfl⟩
noncomputable def f_X10_isOwnedBy (I : Mem) (x0 : Nat) (x1 : Int32) (x2 : Int32) : Option (Int32) := b1 (f_X10_isOwned I x0 x1) fun v1 => if v1 = 0 then (some (0)) else (b1 (f_X10_ofWish I x0 x1 4) fun v3 => if v3 = x2 then (some (1)) else (some (0)))
theorem c_X10_isOwnedBy (d : Nat) {K : Kt} {I : Mem} {x0 : Nat} (H0 : MK K x0) {x1 : Int32} {x2 : Int32} {v : Int32} (h : f_X10_isOwnedBy I x0 x1 x2 = some v) : Ct (mX10_isOwnedBy (d + 2)) cX10_isOwnedBy 0 0 [.ref x0, .int x1, .int x2] I K (Ro (.inl (some (.int v))) I K) := by
  refine Ct.of rfl pn_X10 (catR (catI (catI cat0))) (Nat.le_of_ble_eq_true rfl) (show X _ _ _ _ _ _ 0 [.ref x0, .int x1, .int x2] [] _ from ?_)
  unfold f_X10_isOwnedBy at h
  refine x_aloadn dX10_isOwnedBy_0 rfl ?_
  refine x_iloadn dX10_isOwnedBy_1 rfl ?_
  obtain ⟨v1, h2, h⟩ := b1_s h
  refine z_V1 [.int x1] [] (cs_X10_221 _) (ci := 8) rfl (MK.o H0) (dep (show d + 0 + 1 + 1 ≤ (d + 2) from by omega) (Nat.le_of_ble_eq_true rfl)) dX10_isOwnedBy_2 rfl rfl (Nat.le_of_ble_eq_true rfl) (c_X10_isOwned d (K := K) (I := I) H0 h2) ?_
  refine x_if_eq 22 dX10_isOwnedBy_5 rfl (fun hc => ?_) (fun hc => ?_)
  · have h := ifT hc h
    refine x_iconst 0 dX10_isOwnedBy_22 rfl ?_
    cases h
    exact x_zret rfl rfl dX10_isOwnedBy_23 ⟨rfl, rfl, rfl⟩
  have h := ifF hc h
  refine x_aloadn dX10_isOwnedBy_8 rfl ?_
  refine x_iloadn dX10_isOwnedBy_9 rfl ?_
  refine x_iconst 4 dX10_isOwnedBy_10 rfl ?_
  obtain ⟨v3, h4, h⟩ := b1_s h
  refine z_V1 [.int x1, .int 4] [] (cs_X10_224 _) (ci := 8) rfl (MK.o H0) (dep (show d + 1 + 0 + 1 ≤ (d + 2) from by omega) (Nat.le_of_ble_eq_true rfl)) dX10_isOwnedBy_11 rfl rfl (Nat.le_of_ble_eq_true rfl) (c_X10_ofWish (d + 1) (K := K) (I := I) H0 h4) ?_
  refine x_iloadn dX10_isOwnedBy_14 rfl ?_
  refine x_icmp_ne 22 dX10_isOwnedBy_15 rfl (fun hc => ?_) (fun hc => ?_)
  · have h := ifF hc h
    refine x_iconst 0 dX10_isOwnedBy_22 rfl ?_
    cases h
    exact x_zret rfl rfl dX10_isOwnedBy_23 ⟨rfl, rfl, rfl⟩
  have h := ifT hc h
  refine x_iconst 1 dX10_isOwnedBy_18 rfl ?_
  refine x_goto 23 dX10_isOwnedBy_19 rfl ?_
  cases h
  exact x_zret rfl rfl dX10_isOwnedBy_23 ⟨rfl, rfl, rfl⟩
noncomputable def l_X10_owns_4 (n : Nat) (I : Mem) (x0 : Nat) (x1 : Int32) (x2 : Int32) (x3 : Int32) : Option (Int32) := match n with
  | 0 => none
  | n + 1 => b1 (ix 4 355) fun j1 => if (I (x0 + 1) j1) ≤ x3 then (some (x2)) else (b1 (f_X10_isOwnedBy I x0 x3 x1) fun v2 => b1 (f_X10_one v2) fun v4 => l_X10_owns_4 n I x0 x1 (x2 + v4) (x3 + 1))
theorem tl_X10_owns_4 (d : Nat) {K : Kt} (n : Nat) : ∀ {I : Mem} {x0 : Nat} (H0 : MK K x0) {x1 : Int32} {x2 : Int32} {x3 : Int32} {v : Int32}, l_X10_owns_4 n I x0 x1 x2 x3 = some v → X (mX10_owns (d + 3)) cX10_owns 0 0 I K 4 [.ref x0, .int x1, .int x2, .int x3] [] (Ro (.inl (some (.int v))) I K) := by
  induction n with
  | zero =>
    intro I x0 H0 x1 x2 x3 v h
    cases h
  | succ n ih =>
    intro I x0 H0 x1 x2 x3 v h
    unfold l_X10_owns_4 at h
    refine x_iloadn dX10_owns_4 rfl ?_
    refine x_aloadn dX10_owns_5 rfl ?_
    refine z_getR fs_X10_9 (MK.o H0) (MK.g1 H0) dX10_owns_6 ?_
    refine x_iconst 4 dX10_owns_9 rfl ?_
    obtain ⟨j1, hj1, h⟩ := b1_s h
    refine z_iald (MK.l1 H0) hj1 dX10_owns_10 ?_
    refine x_icmp_ge 32 dX10_owns_11 rfl (fun hc => ?_) (fun hc => ?_)
    · have h := ifT hc h
      refine x_iloadn dX10_owns_32 rfl ?_
      cases h
      exact x_iret rfl dX10_owns_33 ⟨rfl, rfl, rfl⟩
    have h := ifF hc h
    refine x_iloadn dX10_owns_14 rfl ?_
    refine x_aloadn dX10_owns_15 rfl ?_
    refine x_iloadn dX10_owns_16 rfl ?_
    refine x_iloadn dX10_owns_17 rfl ?_
    obtain ⟨v2, h3, h⟩ := b1_s h
    refine z_V1 [.int x3, .int x1] [.int x2] (cs_X10_343 _) (ci := 8) rfl (MK.o H0) (dep (show d + 0 + 2 + 1 ≤ (d + 3) from by omega) (Nat.le_of_ble_eq_true rfl)) dX10_owns_18 rfl rfl (Nat.le_of_ble_eq_true rfl) (c_X10_isOwnedBy d (K := K) (I := I) H0 h3) ?_
    obtain ⟨v4, h5, h⟩ := b1_s h
    refine z_S1 [.int v2] [.int x2] (cs_X10_346 _) (dep (show d + 2 + 0 + 1 ≤ (d + 3) from by omega) (Nat.le_of_ble_eq_true rfl)) dX10_owns_21 rfl rfl (Nat.le_of_ble_eq_true rfl) (c_X10_one (d + 2) (K := K) (I := I) h5) ?_
    refine x_iadd dX10_owns_24 ?_
    refine x_istoren dX10_owns_25 (Nat.le_of_ble_eq_true rfl) rfl rfl ?_
    refine z_iinc 1 (by decide) dX10_owns_26 rfl rfl rfl ?_
    refine x_goto 4 dX10_owns_29 rfl ?_
    exact ih H0 h
noncomputable def f_X10_owns (I : Mem) (x0 : Nat) (x1 : Int32) : Option (Int32) := l_X10_owns_4 FU I x0 x1 0 0
theorem c_X10_owns (d : Nat) {K : Kt} {I : Mem} {x0 : Nat} (H0 : MK K x0) {x1 : Int32} {v : Int32} (h : f_X10_owns I x0 x1 = some v) : Ct (mX10_owns (d + 3)) cX10_owns 0 0 [.ref x0, .int x1] I K (Ro (.inl (some (.int v))) I K) := by
  refine Ct.of rfl pn_X10 (catR (catI cat0)) (Nat.le_of_ble_eq_true rfl) (show X _ _ _ _ _ _ 0 [.ref x0, .int x1, .retAddr 0, .retAddr 0] [] _ from ?_)
  unfold f_X10_owns at h
  refine x_iconst 0 dX10_owns_0 rfl ?_
  refine x_istoren dX10_owns_1 (Nat.le_of_ble_eq_true rfl) rfl rfl ?_
  refine x_iconst 0 dX10_owns_2 rfl ?_
  refine x_istoren dX10_owns_3 (Nat.le_of_ble_eq_true rfl) rfl rfl ?_
  exact tl_X10_owns_4 d FU H0 h
noncomputable def f_X10_putsWish (I : Mem) (x0 : Nat) (x1 : Int32) (x2 : Int32) (x3 : Int32) : Option (Mem) := b1 (ix ((115 + (15 * x1)) + x2) 355) fun j1 => b1 (pu I (x0 + 1) j1 x3) fun I2 => some (I2)
theorem c_X10_putsWish (d : Nat) {K : Kt} {I : Mem} {x0 : Nat} (H0 : MK K x0) {x1 : Int32} {x2 : Int32} {x3 : Int32} {I9 : Mem} (h : f_X10_putsWish I x0 x1 x2 x3 = some I9) : Ct (mX10_putsWish d) cX10_putsWish 0 0 [.ref x0, .int x1, .int x2, .int x3] I K (Ro (.inl none) I9 K) := by
  refine Ct.of rfl pn_X10 (catR (catI (catI (catI cat0)))) (Nat.le_of_ble_eq_true rfl) (show X _ _ _ _ _ _ 0 [.ref x0, .int x1, .int x2, .int x3] [] _ from ?_)
  unfold f_X10_putsWish at h
  refine x_aloadn dX10_putsWish_0 rfl ?_
  refine z_getR fs_X10_9 (MK.o H0) (MK.g1 H0) dX10_putsWish_1 ?_
  refine x_bipush 115 dX10_putsWish_4 rfl ?_
  refine x_bipush 15 dX10_putsWish_6 rfl ?_
  refine x_iloadn dX10_putsWish_8 rfl ?_
  refine x_imul dX10_putsWish_9 ?_
  refine x_iadd dX10_putsWish_10 ?_
  refine x_iloadn dX10_putsWish_11 rfl ?_
  refine x_iadd dX10_putsWish_12 ?_
  refine x_iloadn dX10_putsWish_13 rfl ?_
  obtain ⟨j1, hj1, h⟩ := b1_s h
  obtain ⟨I2, hI2, h⟩ := b1_s h
  refine z_iast (MK.l1 H0) hj1 hI2 dX10_putsWish_14 ?_
  cases h
  exact x_vret rfl dX10_putsWish_15 ⟨rfl, rfl, rfl⟩
noncomputable def f_X10_forgets (I : Mem) (x0 : Nat) (x1 : Int32) : Option (Mem) := b1 (f_X10_putsWish I x0 x1 5 (-1)) fun I1 => b1 (f_X10_putsWish I1 x0 x1 6 (-1)) fun I3 => b1 (f_X10_putsWish I3 x0 x1 7 (-1)) fun I5 => some (I5)
theorem c_X10_forgets (d : Nat) {K : Kt} {I : Mem} {x0 : Nat} (H0 : MK K x0) {x1 : Int32} {I9 : Mem} (h : f_X10_forgets I x0 x1 = some I9) : Ct (mX10_forgets (d + 1)) cX10_forgets 0 0 [.ref x0, .int x1] I K (Ro (.inl none) I9 K) := by
  refine Ct.of rfl pn_X10 (catR (catI cat0)) (Nat.le_of_ble_eq_true rfl) (show X _ _ _ _ _ _ 0 [.ref x0, .int x1] [] _ from ?_)
  unfold f_X10_forgets at h
  refine x_aloadn dX10_forgets_0 rfl ?_
  refine x_iloadn dX10_forgets_1 rfl ?_
  refine x_iconst 5 dX10_forgets_2 rfl ?_
  refine x_iconst (-1) dX10_forgets_3 rfl ?_
  obtain ⟨I1, h2, h⟩ := b1_s h
  refine z_V0 [.int x1, .int 5, .int (-1)] [] (cs_X10_180 _) (ci := 8) rfl (MK.o H0) (dep (show d + 0 + 0 + 1 ≤ (d + 1) from by omega) (Nat.le_of_ble_eq_true rfl)) dX10_forgets_4 rfl rfl (Nat.le_of_ble_eq_true rfl) (c_X10_putsWish d (K := K) (I := I) H0 h2) ?_
  refine x_aloadn dX10_forgets_7 rfl ?_
  refine x_iloadn dX10_forgets_8 rfl ?_
  refine x_bipush 6 dX10_forgets_9 rfl ?_
  refine x_iconst (-1) dX10_forgets_11 rfl ?_
  obtain ⟨I3, h4, h⟩ := b1_s h
  refine z_V0 [.int x1, .int 6, .int (-1)] [] (cs_X10_180 _) (ci := 8) rfl (MK.o H0) (dep (show d + 0 + 0 + 1 ≤ (d + 1) from by omega) (Nat.le_of_ble_eq_true rfl)) dX10_forgets_12 rfl rfl (Nat.le_of_ble_eq_true rfl) (c_X10_putsWish d (K := K) (I := I1) H0 h4) ?_
  refine x_aloadn dX10_forgets_15 rfl ?_
  refine x_iloadn dX10_forgets_16 rfl ?_
  refine x_bipush 7 dX10_forgets_17 rfl ?_
  refine x_iconst (-1) dX10_forgets_19 rfl ?_
  obtain ⟨I5, h6, h⟩ := b1_s h
  refine z_V0 [.int x1, .int 7, .int (-1)] [] (cs_X10_180 _) (ci := 8) rfl (MK.o H0) (dep (show d + 0 + 0 + 1 ≤ (d + 1) from by omega) (Nat.le_of_ble_eq_true rfl)) dX10_forgets_20 rfl rfl (Nat.le_of_ble_eq_true rfl) (c_X10_putsWish d (K := K) (I := I3) H0 h6) ?_
  cases h
  exact x_vret rfl dX10_forgets_23 ⟨rfl, rfl, rfl⟩
noncomputable def f_X10_readsSetting (I : Mem) (x0 : Nat) (x1 : Int32) (x2 : Int32) : Option (Mem) := b1 (f_X10_goes I x0) fun I1 => b2 (f_X10_readNumber I1 x0 0 x2) fun v3 I4 => if (I4 x0 10) = 0 then (b1 (ix x1 355) fun j6 => b1 (pu I4 (x0 + 1) j6 v3) fun I7 => some (I7)) else (some (I4))
theorem c_X10_readsSetting (d : Nat) {K : Kt} {I : Mem} {x0 : Nat} (H0 : MK K x0) {x1 : Int32} {x2 : Int32} {I9 : Mem} (h : f_X10_readsSetting I x0 x1 x2 = some I9) : Ct (mX10_readsSetting (d + 4)) cX10_readsSetting 0 0 [.ref x0, .int x1, .int x2] I K (Ro (.inl none) I9 K) := by
  refine Ct.of rfl pn_X10 (catR (catI (catI cat0))) (Nat.le_of_ble_eq_true rfl) (show X _ _ _ _ _ _ 0 [.ref x0, .int x1, .int x2, .retAddr 0] [] _ from ?_)
  unfold f_X10_readsSetting at h
  refine x_aloadn dX10_readsSetting_0 rfl ?_
  obtain ⟨I1, h2, h⟩ := b1_s h
  refine z_V0 [] [] (cs_X10_115 _) (ci := 8) rfl (MK.o H0) (dep (show d + 1 + 2 + 1 ≤ (d + 4) from by omega) (Nat.le_of_ble_eq_true rfl)) dX10_readsSetting_1 rfl rfl (Nat.le_of_ble_eq_true rfl) (c_X10_goes (d + 1) (K := K) (I := I) H0 h2) ?_
  refine x_aloadn dX10_readsSetting_4 rfl ?_
  refine x_iconst 0 dX10_readsSetting_5 rfl ?_
  refine x_iloadn dX10_readsSetting_6 rfl ?_
  obtain ⟨v3, I4, h5, h⟩ := b2_s h
  refine z_V1 [.int 0, .int x2] [] (cs_X10_126 _) (ci := 8) rfl (MK.o H0) (dep (show d + 0 + 3 + 1 ≤ (d + 4) from by omega) (Nat.le_of_ble_eq_true rfl)) dX10_readsSetting_7 rfl rfl (Nat.le_of_ble_eq_true rfl) (c_X10_readNumber d (K := K) (I := I1) H0 h5) ?_
  refine x_istoren dX10_readsSetting_10 (Nat.le_of_ble_eq_true rfl) rfl rfl ?_
  refine x_aloadn dX10_readsSetting_11 rfl ?_
  refine z_getI fs_X10_59 (MK.o H0) dX10_readsSetting_12 ?_
  refine x_if_ne 25 dX10_readsSetting_15 rfl (fun hc => ?_) (fun hc => ?_)
  · have h := ifF hc h
    cases h
    exact x_vret rfl dX10_readsSetting_25 ⟨rfl, rfl, rfl⟩
  have h := ifT hc h
  refine x_aloadn dX10_readsSetting_18 rfl ?_
  refine z_getR fs_X10_9 (MK.o H0) (MK.g1 H0) dX10_readsSetting_19 ?_
  refine x_iloadn dX10_readsSetting_22 rfl ?_
  refine x_iloadn dX10_readsSetting_23 rfl ?_
  obtain ⟨j6, hj6, h⟩ := b1_s h
  obtain ⟨I7, hI7, h⟩ := b1_s h
  refine z_iast (MK.l1 H0) hj6 hI7 dX10_readsSetting_24 ?_
  cases h
  exact x_vret rfl dX10_readsSetting_25 ⟨rfl, rfl, rfl⟩
noncomputable def f_X10_readsTax (I : Mem) (x0 : Nat) : Option (Mem) := b1 (f_X10_goes I x0) fun I1 => b1 (ix 0 355) fun j3 => b2 (f_X10_readNumber I1 x0 0 ((I1 (x0 + 1) j3) - 1)) fun v4 I5 => b2 (f_X10_readNumber I5 x0 0 50) fun v7 I8 => if (I8 x0 10) ≤ 0 then (b1 (ix 9 355) fun j10 => b1 (pu I8 (x0 + 1) j10 v4) fun I11 => b1 (ix 10 355) fun j12 => b1 (pu I11 (x0 + 1) j12 v7) fun I13 => some (I13)) else (some (I8))
theorem c_X10_readsTax (d : Nat) {K : Kt} {I : Mem} {x0 : Nat} (H0 : MK K x0) {I9 : Mem} (h : f_X10_readsTax I x0 = some I9) : Ct (mX10_readsTax (d + 4)) cX10_readsTax 0 0 [.ref x0] I K (Ro (.inl none) I9 K) := by
  refine Ct.of rfl pn_X10 (catR cat0) (Nat.le_of_ble_eq_true rfl) (show X _ _ _ _ _ _ 0 [.ref x0, .retAddr 0, .retAddr 0] [] _ from ?_)
  unfold f_X10_readsTax at h
  refine x_aloadn dX10_readsTax_0 rfl ?_
  obtain ⟨I1, h2, h⟩ := b1_s h
  refine z_V0 [] [] (cs_X10_115 _) (ci := 8) rfl (MK.o H0) (dep (show d + 1 + 2 + 1 ≤ (d + 4) from by omega) (Nat.le_of_ble_eq_true rfl)) dX10_readsTax_1 rfl rfl (Nat.le_of_ble_eq_true rfl) (c_X10_goes (d + 1) (K := K) (I := I) H0 h2) ?_
  refine x_aloadn dX10_readsTax_4 rfl ?_
  refine x_iconst 0 dX10_readsTax_5 rfl ?_
  refine x_aloadn dX10_readsTax_6 rfl ?_
  refine z_getR fs_X10_9 (MK.o H0) (MK.g1 H0) dX10_readsTax_7 ?_
  refine x_iconst 0 dX10_readsTax_10 rfl ?_
  obtain ⟨j3, hj3, h⟩ := b1_s h
  refine z_iald (MK.l1 H0) hj3 dX10_readsTax_11 ?_
  refine x_iconst 1 dX10_readsTax_12 rfl ?_
  refine x_isub dX10_readsTax_13 ?_
  obtain ⟨v4, I5, h6, h⟩ := b2_s h
  refine z_V1 [.int 0, .int ((I1 (x0 + 1) j3) - 1)] [] (cs_X10_126 _) (ci := 8) rfl (MK.o H0) (dep (show d + 0 + 3 + 1 ≤ (d + 4) from by omega) (Nat.le_of_ble_eq_true rfl)) dX10_readsTax_14 rfl rfl (Nat.le_of_ble_eq_true rfl) (c_X10_readNumber d (K := K) (I := I1) H0 h6) ?_
  refine x_istoren dX10_readsTax_17 (Nat.le_of_ble_eq_true rfl) rfl rfl ?_
  refine x_aloadn dX10_readsTax_18 rfl ?_
  refine x_iconst 0 dX10_readsTax_19 rfl ?_
  refine x_bipush 50 dX10_readsTax_20 rfl ?_
  obtain ⟨v7, I8, h9, h⟩ := b2_s h
  refine z_V1 [.int 0, .int 50] [] (cs_X10_126 _) (ci := 8) rfl (MK.o H0) (dep (show d + 0 + 3 + 1 ≤ (d + 4) from by omega) (Nat.le_of_ble_eq_true rfl)) dX10_readsTax_22 rfl rfl (Nat.le_of_ble_eq_true rfl) (c_X10_readNumber d (K := K) (I := I5) H0 h9) ?_
  refine x_istoren dX10_readsTax_25 (Nat.le_of_ble_eq_true rfl) rfl rfl ?_
  refine x_aloadn dX10_readsTax_26 rfl ?_
  refine z_getI fs_X10_59 (MK.o H0) dX10_readsTax_27 ?_
  refine x_if_le 34 dX10_readsTax_30 rfl (fun hc => ?_) (fun hc => ?_)
  · have h := ifT hc h
    refine x_aloadn dX10_readsTax_34 rfl ?_
    refine z_getR fs_X10_9 (MK.o H0) (MK.g1 H0) dX10_readsTax_35 ?_
    refine x_bipush 9 dX10_readsTax_38 rfl ?_
    refine x_iloadn dX10_readsTax_40 rfl ?_
    obtain ⟨j10, hj10, h⟩ := b1_s h
    obtain ⟨I11, hI11, h⟩ := b1_s h
    refine z_iast (MK.l1 H0) hj10 hI11 dX10_readsTax_41 ?_
    refine x_aloadn dX10_readsTax_42 rfl ?_
    refine z_getR fs_X10_9 (MK.o H0) (MK.g1 H0) dX10_readsTax_43 ?_
    refine x_bipush 10 dX10_readsTax_46 rfl ?_
    refine x_iloadn dX10_readsTax_48 rfl ?_
    obtain ⟨j12, hj12, h⟩ := b1_s h
    obtain ⟨I13, hI13, h⟩ := b1_s h
    refine z_iast (MK.l1 H0) hj12 hI13 dX10_readsTax_49 ?_
    cases h
    exact x_vret rfl dX10_readsTax_50 ⟨rfl, rfl, rfl⟩
  have h := ifF hc h
  cases h
  exact x_vret rfl dX10_readsTax_33 ⟨rfl, rfl, rfl⟩
noncomputable def f_X10_readsLimit (I : Mem) (x0 : Nat) : Option (Mem) := b1 (f_X10_goes I x0) fun I1 => b2 (f_X10_personHere I1 x0) fun v3 I4 => b1 (f_X10_goes I4 x0) fun I6 => b2 (f_X10_readNumber I6 x0 0 200) fun v8 I9 => if (I9 x0 10) = 0 then (b1 (f_X10_putsPerson I9 x0 v3 4 v8) fun I11 => some (I11)) else (some (I9))
theorem c_X10_readsLimit (d : Nat) {K : Kt} {I : Mem} {x0 : Nat} (H0 : MK K x0) {I9 : Mem} (h : f_X10_readsLimit I x0 = some I9) : Ct (mX10_readsLimit (d + 4)) cX10_readsLimit 0 0 [.ref x0] I K (Ro (.inl none) I9 K) := by
  refine Ct.of rfl pn_X10 (catR cat0) (Nat.le_of_ble_eq_true rfl) (show X _ _ _ _ _ _ 0 [.ref x0, .retAddr 0, .retAddr 0] [] _ from ?_)
  unfold f_X10_readsLimit at h
  refine x_aloadn dX10_readsLimit_0 rfl ?_
  obtain ⟨I1, h2, h⟩ := b1_s h
  refine z_V0 [] [] (cs_X10_115 _) (ci := 8) rfl (MK.o H0) (dep (show d + 1 + 2 + 1 ≤ (d + 4) from by omega) (Nat.le_of_ble_eq_true rfl)) dX10_readsLimit_1 rfl rfl (Nat.le_of_ble_eq_true rfl) (c_X10_goes (d + 1) (K := K) (I := I) H0 h2) ?_
  refine x_aloadn dX10_readsLimit_4 rfl ?_
  obtain ⟨v3, I4, h5, h⟩ := b2_s h
  refine z_V1 [] [] (cs_X10_171 _) (ci := 8) rfl (MK.o H0) (dep (show d + 1 + 2 + 1 ≤ (d + 4) from by omega) (Nat.le_of_ble_eq_true rfl)) dX10_readsLimit_5 rfl rfl (Nat.le_of_ble_eq_true rfl) (c_X10_personHere (d + 1) (K := K) (I := I1) H0 h5) ?_
  refine x_istoren dX10_readsLimit_8 (Nat.le_of_ble_eq_true rfl) rfl rfl ?_
  refine x_aloadn dX10_readsLimit_9 rfl ?_
  obtain ⟨I6, h7, h⟩ := b1_s h
  refine z_V0 [] [] (cs_X10_115 _) (ci := 8) rfl (MK.o H0) (dep (show d + 1 + 2 + 1 ≤ (d + 4) from by omega) (Nat.le_of_ble_eq_true rfl)) dX10_readsLimit_10 rfl rfl (Nat.le_of_ble_eq_true rfl) (c_X10_goes (d + 1) (K := K) (I := I4) H0 h7) ?_
  refine x_aloadn dX10_readsLimit_13 rfl ?_
  refine x_iconst 0 dX10_readsLimit_14 rfl ?_
  refine x_sipush 200 dX10_readsLimit_15 rfl ?_
  obtain ⟨v8, I9, h10, h⟩ := b2_s h
  refine z_V1 [.int 0, .int 200] [] (cs_X10_126 _) (ci := 8) rfl (MK.o H0) (dep (show d + 0 + 3 + 1 ≤ (d + 4) from by omega) (Nat.le_of_ble_eq_true rfl)) dX10_readsLimit_18 rfl rfl (Nat.le_of_ble_eq_true rfl) (c_X10_readNumber d (K := K) (I := I6) H0 h10) ?_
  refine x_istoren dX10_readsLimit_21 (Nat.le_of_ble_eq_true rfl) rfl rfl ?_
  refine x_aloadn dX10_readsLimit_22 rfl ?_
  refine z_getI fs_X10_59 (MK.o H0) dX10_readsLimit_23 ?_
  refine x_if_ne 36 dX10_readsLimit_26 rfl (fun hc => ?_) (fun hc => ?_)
  · have h := ifF hc h
    cases h
    exact x_vret rfl dX10_readsLimit_36 ⟨rfl, rfl, rfl⟩
  have h := ifT hc h
  refine x_aloadn dX10_readsLimit_29 rfl ?_
  refine x_iloadn dX10_readsLimit_30 rfl ?_
  refine x_iconst 4 dX10_readsLimit_31 rfl ?_
  refine x_iloadn dX10_readsLimit_32 rfl ?_
  obtain ⟨I11, h12, h⟩ := b1_s h
  refine z_V0 [.int v3, .int 4, .int v8] [] (cs_X10_144 _) (ci := 8) rfl (MK.o H0) (dep (show d + 3 + 0 + 1 ≤ (d + 4) from by omega) (Nat.le_of_ble_eq_true rfl)) dX10_readsLimit_33 rfl rfl (Nat.le_of_ble_eq_true rfl) (c_X10_putsPerson (d + 3) (K := K) (I := I9) H0 h12) ?_
  cases h
  exact x_vret rfl dX10_readsLimit_36 ⟨rfl, rfl, rfl⟩
noncomputable def f_X10_goesTo (I : Mem) (x0 : Nat) (x1 : Int32) (x2 : Int32) (x3 : Int32) : Option (Mem) := b1 (f_X10_putsWish I x0 x1 3 x2) fun I1 => b1 (f_X10_putsWish I1 x0 x1 4 x3) fun I3 => b1 (f_X10_forgets I3 x0 x1) fun I5 => some (I5)
theorem c_X10_goesTo (d : Nat) {K : Kt} {I : Mem} {x0 : Nat} (H0 : MK K x0) {x1 : Int32} {x2 : Int32} {x3 : Int32} {I9 : Mem} (h : f_X10_goesTo I x0 x1 x2 x3 = some I9) : Ct (mX10_goesTo (d + 2)) cX10_goesTo 0 0 [.ref x0, .int x1, .int x2, .int x3] I K (Ro (.inl none) I9 K) := by
  refine Ct.of rfl pn_X10 (catR (catI (catI (catI cat0)))) (Nat.le_of_ble_eq_true rfl) (show X _ _ _ _ _ _ 0 [.ref x0, .int x1, .int x2, .int x3] [] _ from ?_)
  unfold f_X10_goesTo at h
  refine x_aloadn dX10_goesTo_0 rfl ?_
  refine x_iloadn dX10_goesTo_1 rfl ?_
  refine x_iconst 3 dX10_goesTo_2 rfl ?_
  refine x_iloadn dX10_goesTo_3 rfl ?_
  obtain ⟨I1, h2, h⟩ := b1_s h
  refine z_V0 [.int x1, .int 3, .int x2] [] (cs_X10_180 _) (ci := 8) rfl (MK.o H0) (dep (show d + 1 + 0 + 1 ≤ (d + 2) from by omega) (Nat.le_of_ble_eq_true rfl)) dX10_goesTo_4 rfl rfl (Nat.le_of_ble_eq_true rfl) (c_X10_putsWish (d + 1) (K := K) (I := I) H0 h2) ?_
  refine x_aloadn dX10_goesTo_7 rfl ?_
  refine x_iloadn dX10_goesTo_8 rfl ?_
  refine x_iconst 4 dX10_goesTo_9 rfl ?_
  refine x_iloadn dX10_goesTo_10 rfl ?_
  obtain ⟨I3, h4, h⟩ := b1_s h
  refine z_V0 [.int x1, .int 4, .int x3] [] (cs_X10_180 _) (ci := 8) rfl (MK.o H0) (dep (show d + 1 + 0 + 1 ≤ (d + 2) from by omega) (Nat.le_of_ble_eq_true rfl)) dX10_goesTo_11 rfl rfl (Nat.le_of_ble_eq_true rfl) (c_X10_putsWish (d + 1) (K := K) (I := I1) H0 h4) ?_
  refine x_aloadn dX10_goesTo_14 rfl ?_
  refine x_iloadn dX10_goesTo_15 rfl ?_
  obtain ⟨I5, h6, h⟩ := b1_s h
  refine z_V0 [.int x1] [] (cs_X10_188 _) (ci := 8) rfl (MK.o H0) (dep (show d + 0 + 1 + 1 ≤ (d + 2) from by omega) (Nat.le_of_ble_eq_true rfl)) dX10_goesTo_16 rfl rfl (Nat.le_of_ble_eq_true rfl) (c_X10_forgets d (K := K) (I := I3) H0 h6) ?_
  cases h
  exact x_vret rfl dX10_goesTo_19 ⟨rfl, rfl, rfl⟩
noncomputable def f_X10_pays (I : Mem) (x0 : Nat) (x1 : Int32) (x2 : Int32) (x3 : Int32) : Option (Mem) := b1 (f_X10_ofStall I x0 x1 1) fun v1 => b1 (f_X10_putsStall I x0 x1 1 (v1 - x3)) fun I3 => b1 (f_X10_ofPerson I3 x0 x2 0) fun v5 => b1 (f_X10_putsPerson I3 x0 x2 0 (v5 + x3)) fun I7 => some (I7)
theorem c_X10_pays (d : Nat) {K : Kt} {I : Mem} {x0 : Nat} (H0 : MK K x0) {x1 : Int32} {x2 : Int32} {x3 : Int32} {I9 : Mem} (h : f_X10_pays I x0 x1 x2 x3 = some I9) : Ct (mX10_pays (d + 1)) cX10_pays 0 0 [.ref x0, .int x1, .int x2, .int x3] I K (Ro (.inl none) I9 K) := by
  refine Ct.of rfl pn_X10 (catR (catI (catI (catI cat0)))) (Nat.le_of_ble_eq_true rfl) (show X _ _ _ _ _ _ 0 [.ref x0, .int x1, .int x2, .int x3] [] _ from ?_)
  unfold f_X10_pays at h
  refine x_aloadn dX10_pays_0 rfl ?_
  refine x_iloadn dX10_pays_1 rfl ?_
  refine x_iconst 1 dX10_pays_2 rfl ?_
  refine x_aloadn dX10_pays_3 rfl ?_
  refine x_iloadn dX10_pays_4 rfl ?_
  refine x_iconst 1 dX10_pays_5 rfl ?_
  obtain ⟨v1, h2, h⟩ := b1_s h
  refine z_V1 [.int x1, .int 1] [.int 1, .int x1, .ref x0] (cs_X10_356 _) (ci := 8) rfl (MK.o H0) (dep (show d + 0 + 0 + 1 ≤ (d + 1) from by omega) (Nat.le_of_ble_eq_true rfl)) dX10_pays_6 rfl rfl (Nat.le_of_ble_eq_true rfl) (c_X10_ofStall d (K := K) (I := I) H0 h2) ?_
  refine x_iloadn dX10_pays_9 rfl ?_
  refine x_isub dX10_pays_10 ?_
  obtain ⟨I3, h4, h⟩ := b1_s h
  refine z_V0 [.int x1, .int 1, .int (v1 - x3)] [] (cs_X10_129 _) (ci := 8) rfl (MK.o H0) (dep (show d + 0 + 0 + 1 ≤ (d + 1) from by omega) (Nat.le_of_ble_eq_true rfl)) dX10_pays_11 rfl rfl (Nat.le_of_ble_eq_true rfl) (c_X10_putsStall d (K := K) (I := I) H0 h4) ?_
  refine x_aloadn dX10_pays_14 rfl ?_
  refine x_iloadn dX10_pays_15 rfl ?_
  refine x_iconst 0 dX10_pays_16 rfl ?_
  refine x_aloadn dX10_pays_17 rfl ?_
  refine x_iloadn dX10_pays_18 rfl ?_
  refine x_iconst 0 dX10_pays_19 rfl ?_
  obtain ⟨v5, h6, h⟩ := b1_s h
  refine z_V1 [.int x2, .int 0] [.int 0, .int x2, .ref x0] (cs_X10_141 _) (ci := 8) rfl (MK.o H0) (dep (show d + 0 + 0 + 1 ≤ (d + 1) from by omega) (Nat.le_of_ble_eq_true rfl)) dX10_pays_20 rfl rfl (Nat.le_of_ble_eq_true rfl) (c_X10_ofPerson d (K := K) (I := I3) H0 h6) ?_
  refine x_iloadn dX10_pays_23 rfl ?_
  refine x_iadd dX10_pays_24 ?_
  obtain ⟨I7, h8, h⟩ := b1_s h
  refine z_V0 [.int x2, .int 0, .int (v5 + x3)] [] (cs_X10_144 _) (ci := 8) rfl (MK.o H0) (dep (show d + 0 + 0 + 1 ≤ (d + 1) from by omega) (Nat.le_of_ble_eq_true rfl)) dX10_pays_25 rfl rfl (Nat.le_of_ble_eq_true rfl) (c_X10_putsPerson d (K := K) (I := I3) H0 h8) ?_
  cases h
  exact x_vret rfl dX10_pays_28 ⟨rfl, rfl, rfl⟩
noncomputable def f_X10_gets (I : Mem) (x0 : Nat) (x1 : Int32) (x2 : Int32) (x3 : Int32) : Option (Mem) := b1 (f_X10_ofWish I x0 x2 4) fun v1 => b1 (f_X10_pays I x0 v1 x1 (-x3)) fun I3 => b1 (f_X10_goesTo I3 x0 x2 1 x1) fun I5 => b1 (ix 1 355) fun j7 => b1 (f_X10_putsWish I5 x0 x2 5 (I5 (x0 + 1) j7)) fun I8 => b1 (f_X10_putsWish I8 x0 x2 6 x3) fun I10 => b1 (f_X10_putsWish I10 x0 x2 7 v1) fun I12 => some (I12)
theorem c_X10_gets (d : Nat) {K : Kt} {I : Mem} {x0 : Nat} (H0 : MK K x0) {x1 : Int32} {x2 : Int32} {x3 : Int32} {I9 : Mem} (h : f_X10_gets I x0 x1 x2 x3 = some I9) : Ct (mX10_gets (d + 3)) cX10_gets 0 0 [.ref x0, .int x1, .int x2, .int x3] I K (Ro (.inl none) I9 K) := by
  refine Ct.of rfl pn_X10 (catR (catI (catI (catI cat0)))) (Nat.le_of_ble_eq_true rfl) (show X _ _ _ _ _ _ 0 [.ref x0, .int x1, .int x2, .int x3, .retAddr 0] [] _ from ?_)
  unfold f_X10_gets at h
  refine x_aloadn dX10_gets_0 rfl ?_
  refine x_iloadn dX10_gets_1 rfl ?_
  refine x_iconst 4 dX10_gets_2 rfl ?_
  obtain ⟨v1, h2, h⟩ := b1_s h
  refine z_V1 [.int x2, .int 4] [] (cs_X10_224 _) (ci := 8) rfl (MK.o H0) (dep (show d + 2 + 0 + 1 ≤ (d + 3) from by omega) (Nat.le_of_ble_eq_true rfl)) dX10_gets_3 rfl rfl (Nat.le_of_ble_eq_true rfl) (c_X10_ofWish (d + 2) (K := K) (I := I) H0 h2) ?_
  refine x_istore dX10_gets_6 (Nat.le_of_ble_eq_true rfl) rfl rfl ?_
  refine x_aloadn dX10_gets_8 rfl ?_
  refine x_iload dX10_gets_9 rfl ?_
  refine x_iloadn dX10_gets_11 rfl ?_
  refine x_iloadn dX10_gets_12 rfl ?_
  refine x_ineg dX10_gets_13 ?_
  obtain ⟨I3, h4, h⟩ := b1_s h
  refine z_V0 [.int v1, .int x1, .int (-x3)] [] (cs_X10_380 _) (ci := 8) rfl (MK.o H0) (dep (show d + 1 + 1 + 1 ≤ (d + 3) from by omega) (Nat.le_of_ble_eq_true rfl)) dX10_gets_14 rfl rfl (Nat.le_of_ble_eq_true rfl) (c_X10_pays (d + 1) (K := K) (I := I) H0 h4) ?_
  refine x_aloadn dX10_gets_17 rfl ?_
  refine x_iloadn dX10_gets_18 rfl ?_
  refine x_iconst 1 dX10_gets_19 rfl ?_
  refine x_iloadn dX10_gets_20 rfl ?_
  obtain ⟨I5, h6, h⟩ := b1_s h
  refine z_V0 [.int x2, .int 1, .int x1] [] (cs_X10_383 _) (ci := 8) rfl (MK.o H0) (dep (show d + 0 + 2 + 1 ≤ (d + 3) from by omega) (Nat.le_of_ble_eq_true rfl)) dX10_gets_21 rfl rfl (Nat.le_of_ble_eq_true rfl) (c_X10_goesTo d (K := K) (I := I3) H0 h6) ?_
  refine x_aloadn dX10_gets_24 rfl ?_
  refine x_iloadn dX10_gets_25 rfl ?_
  refine x_iconst 5 dX10_gets_26 rfl ?_
  refine x_aloadn dX10_gets_27 rfl ?_
  refine z_getR fs_X10_9 (MK.o H0) (MK.g1 H0) dX10_gets_28 ?_
  refine x_iconst 1 dX10_gets_31 rfl ?_
  obtain ⟨j7, hj7, h⟩ := b1_s h
  refine z_iald (MK.l1 H0) hj7 dX10_gets_32 ?_
  obtain ⟨I8, h9, h⟩ := b1_s h
  refine z_V0 [.int x2, .int 5, .int (I5 (x0 + 1) j7)] [] (cs_X10_180 _) (ci := 8) rfl (MK.o H0) (dep (show d + 2 + 0 + 1 ≤ (d + 3) from by omega) (Nat.le_of_ble_eq_true rfl)) dX10_gets_33 rfl rfl (Nat.le_of_ble_eq_true rfl) (c_X10_putsWish (d + 2) (K := K) (I := I5) H0 h9) ?_
  refine x_aloadn dX10_gets_36 rfl ?_
  refine x_iloadn dX10_gets_37 rfl ?_
  refine x_bipush 6 dX10_gets_38 rfl ?_
  refine x_iloadn dX10_gets_40 rfl ?_
  obtain ⟨I10, h11, h⟩ := b1_s h
  refine z_V0 [.int x2, .int 6, .int x3] [] (cs_X10_180 _) (ci := 8) rfl (MK.o H0) (dep (show d + 2 + 0 + 1 ≤ (d + 3) from by omega) (Nat.le_of_ble_eq_true rfl)) dX10_gets_41 rfl rfl (Nat.le_of_ble_eq_true rfl) (c_X10_putsWish (d + 2) (K := K) (I := I8) H0 h11) ?_
  refine x_aloadn dX10_gets_44 rfl ?_
  refine x_iloadn dX10_gets_45 rfl ?_
  refine x_bipush 7 dX10_gets_46 rfl ?_
  refine x_iload dX10_gets_48 rfl ?_
  obtain ⟨I12, h13, h⟩ := b1_s h
  refine z_V0 [.int x2, .int 7, .int v1] [] (cs_X10_180 _) (ci := 8) rfl (MK.o H0) (dep (show d + 2 + 0 + 1 ≤ (d + 3) from by omega) (Nat.le_of_ble_eq_true rfl)) dX10_gets_50 rfl rfl (Nat.le_of_ble_eq_true rfl) (c_X10_putsWish (d + 2) (K := K) (I := I10) H0 h13) ?_
  cases h
  exact x_vret rfl dX10_gets_53 ⟨rfl, rfl, rfl⟩
noncomputable def f_X10_left (I : Mem) (x0 : Nat) (x1 : Int32) : Option (Int32) := b1 (f_X10_ofWish I x0 x1 0) fun v1 => b1 (f_X10_ofWish I x0 x1 2) fun v3 => some ((v1 * (10 - v3)))
theorem c_X10_left (d : Nat) {K : Kt} {I : Mem} {x0 : Nat} (H0 : MK K x0) {x1 : Int32} {v : Int32} (h : f_X10_left I x0 x1 = some v) : Ct (mX10_left (d + 1)) cX10_left 0 0 [.ref x0, .int x1] I K (Ro (.inl (some (.int v))) I K) := by
  refine Ct.of rfl pn_X10 (catR (catI cat0)) (Nat.le_of_ble_eq_true rfl) (show X _ _ _ _ _ _ 0 [.ref x0, .int x1] [] _ from ?_)
  unfold f_X10_left at h
  refine x_aloadn dX10_left_0 rfl ?_
  refine x_iloadn dX10_left_1 rfl ?_
  refine x_iconst 0 dX10_left_2 rfl ?_
  obtain ⟨v1, h2, h⟩ := b1_s h
  refine z_V1 [.int x1, .int 0] [] (cs_X10_224 _) (ci := 8) rfl (MK.o H0) (dep (show d + 0 + 0 + 1 ≤ (d + 1) from by omega) (Nat.le_of_ble_eq_true rfl)) dX10_left_3 rfl rfl (Nat.le_of_ble_eq_true rfl) (c_X10_ofWish d (K := K) (I := I) H0 h2) ?_
  refine x_bipush 10 dX10_left_6 rfl ?_
  refine x_aloadn dX10_left_8 rfl ?_
  refine x_iloadn dX10_left_9 rfl ?_
  refine x_iconst 2 dX10_left_10 rfl ?_
  obtain ⟨v3, h4, h⟩ := b1_s h
  refine z_V1 [.int x1, .int 2] [.int 10, .int v1] (cs_X10_224 _) (ci := 8) rfl (MK.o H0) (dep (show d + 0 + 0 + 1 ≤ (d + 1) from by omega) (Nat.le_of_ble_eq_true rfl)) dX10_left_11 rfl rfl (Nat.le_of_ble_eq_true rfl) (c_X10_ofWish d (K := K) (I := I) H0 h4) ?_
  refine x_isub dX10_left_14 ?_
  refine x_imul dX10_left_15 ?_
  cases h
  exact x_iret rfl dX10_left_16 ⟨rfl, rfl, rfl⟩
noncomputable def f_X10_priceOf (I : Mem) (x0 : Nat) (x1 : Int32) : Option (Int32) := b1 (f_X10_ofWish I x0 x1 4) fun v1 => b1 (f_X10_left I x0 x1) fun v3 => b1 (f_X10_ofStall I x0 v1 3) fun v5 => b1 (f_X10_ofStall I x0 v1 2) fun v7 => some ((if 1 < (((v3 * (100 + v5)) * (50 + v7)) / 100000) then (((v3 * (100 + v5)) * (50 + v7)) / 100000) else 1))
theorem c_X10_priceOf (d : Nat) {K : Kt} {I : Mem} {x0 : Nat} (H0 : MK K x0) {x1 : Int32} {v : Int32} (h : f_X10_priceOf I x0 x1 = some v) : Ct (mX10_priceOf (d + 2)) cX10_priceOf 0 0 [.ref x0, .int x1] I K (Ro (.inl (some (.int v))) I K) := by
  refine Ct.of rfl pn_X10 (catR (catI cat0)) (Nat.le_of_ble_eq_true rfl) (show X _ _ _ _ _ _ 0 [.ref x0, .int x1, .retAddr 0] [] _ from ?_)
  unfold f_X10_priceOf at h
  refine x_aloadn dX10_priceOf_0 rfl ?_
  refine x_iloadn dX10_priceOf_1 rfl ?_
  refine x_iconst 4 dX10_priceOf_2 rfl ?_
  obtain ⟨v1, h2, h⟩ := b1_s h
  refine z_V1 [.int x1, .int 4] [] (cs_X10_224 _) (ci := 8) rfl (MK.o H0) (dep (show d + 1 + 0 + 1 ≤ (d + 2) from by omega) (Nat.le_of_ble_eq_true rfl)) dX10_priceOf_3 rfl rfl (Nat.le_of_ble_eq_true rfl) (c_X10_ofWish (d + 1) (K := K) (I := I) H0 h2) ?_
  refine x_istoren dX10_priceOf_6 (Nat.le_of_ble_eq_true rfl) rfl rfl ?_
  refine x_iconst 1 dX10_priceOf_7 rfl ?_
  refine x_aloadn dX10_priceOf_8 rfl ?_
  refine x_iloadn dX10_priceOf_9 rfl ?_
  obtain ⟨v3, h4, h⟩ := b1_s h
  refine z_V1 [.int x1] [.int 1] (cs_X10_359 _) (ci := 8) rfl (MK.o H0) (dep (show d + 0 + 1 + 1 ≤ (d + 2) from by omega) (Nat.le_of_ble_eq_true rfl)) dX10_priceOf_10 rfl rfl (Nat.le_of_ble_eq_true rfl) (c_X10_left d (K := K) (I := I) H0 h4) ?_
  refine x_bipush 100 dX10_priceOf_13 rfl ?_
  refine x_aloadn dX10_priceOf_15 rfl ?_
  refine x_iloadn dX10_priceOf_16 rfl ?_
  refine x_iconst 3 dX10_priceOf_17 rfl ?_
  obtain ⟨v5, h6, h⟩ := b1_s h
  refine z_V1 [.int v1, .int 3] [.int 100, .int v3, .int 1] (cs_X10_356 _) (ci := 8) rfl (MK.o H0) (dep (show d + 1 + 0 + 1 ≤ (d + 2) from by omega) (Nat.le_of_ble_eq_true rfl)) dX10_priceOf_18 rfl rfl (Nat.le_of_ble_eq_true rfl) (c_X10_ofStall (d + 1) (K := K) (I := I) H0 h6) ?_
  refine x_iadd dX10_priceOf_21 ?_
  refine x_imul dX10_priceOf_22 ?_
  refine x_bipush 50 dX10_priceOf_23 rfl ?_
  refine x_aloadn dX10_priceOf_25 rfl ?_
  refine x_iloadn dX10_priceOf_26 rfl ?_
  refine x_iconst 2 dX10_priceOf_27 rfl ?_
  obtain ⟨v7, h8, h⟩ := b1_s h
  refine z_V1 [.int v1, .int 2] [.int 50, .int (v3 * (100 + v5)), .int 1] (cs_X10_356 _) (ci := 8) rfl (MK.o H0) (dep (show d + 1 + 0 + 1 ≤ (d + 2) from by omega) (Nat.le_of_ble_eq_true rfl)) dX10_priceOf_28 rfl rfl (Nat.le_of_ble_eq_true rfl) (c_X10_ofStall (d + 1) (K := K) (I := I) H0 h8) ?_
  refine x_iadd dX10_priceOf_31 ?_
  refine x_imul dX10_priceOf_32 ?_
  refine x_ldcw 100000 (show Cond.constant RX10 362 100000 ∈ wsG from inT9 182 rfl rfl) dX10_priceOf_33 ?_
  refine x_idiv dX10_priceOf_36 (by decide) ?_
  refine x_mmax ms_X10_363 (Nat.le_of_ble_eq_true rfl) (by show 1 ≤ (d + 2); omega) dX10_priceOf_37 ?_
  cases h
  exact x_iret rfl dX10_priceOf_40 ⟨rfl, rfl, rfl⟩
noncomputable def f_X10_buys (I : Mem) (x0 : Nat) (x1 : Int32) (x2 : Int32) : Option (Int32 × Mem) := b1 (f_X10_ofWish I x0 x2 4) fun v1 => b1 (f_X10_priceOf I x0 x2) fun v3 => b1 (f_X10_gets I x0 x1 x2 v3) fun I5 => b1 (f_X10_ofStall I5 x0 v1 2) fun v7 => b1 (f_X10_putsStall I5 x0 v1 2 (if (v7 + 1) < 50 then (v7 + 1) else 50)) fun I9 => some (v3, I9)
theorem c_X10_buys (d : Nat) {K : Kt} {I : Mem} {x0 : Nat} (H0 : MK K x0) {x1 : Int32} {x2 : Int32} {v : Int32} {I9 : Mem} (h : f_X10_buys I x0 x1 x2 = some (v, I9)) : Ct (mX10_buys (d + 4)) cX10_buys 0 0 [.ref x0, .int x1, .int x2] I K (Ro (.inl (some (.int v))) I9 K) := by
  refine Ct.of rfl pn_X10 (catR (catI (catI cat0))) (Nat.le_of_ble_eq_true rfl) (show X _ _ _ _ _ _ 0 [.ref x0, .int x1, .int x2, .retAddr 0, .retAddr 0] [] _ from ?_)
  unfold f_X10_buys at h
  refine x_aloadn dX10_buys_0 rfl ?_
  refine x_iloadn dX10_buys_1 rfl ?_
  refine x_iconst 4 dX10_buys_2 rfl ?_
  obtain ⟨v1, h2, h⟩ := b1_s h
  refine z_V1 [.int x2, .int 4] [] (cs_X10_224 _) (ci := 8) rfl (MK.o H0) (dep (show d + 3 + 0 + 1 ≤ (d + 4) from by omega) (Nat.le_of_ble_eq_true rfl)) dX10_buys_3 rfl rfl (Nat.le_of_ble_eq_true rfl) (c_X10_ofWish (d + 3) (K := K) (I := I) H0 h2) ?_
  refine x_istoren dX10_buys_6 (Nat.le_of_ble_eq_true rfl) rfl rfl ?_
  refine x_aloadn dX10_buys_7 rfl ?_
  refine x_iloadn dX10_buys_8 rfl ?_
  obtain ⟨v3, h4, h⟩ := b1_s h
  refine z_V1 [.int x2] [] (cs_X10_368 _) (ci := 8) rfl (MK.o H0) (dep (show d + 1 + 2 + 1 ≤ (d + 4) from by omega) (Nat.le_of_ble_eq_true rfl)) dX10_buys_9 rfl rfl (Nat.le_of_ble_eq_true rfl) (c_X10_priceOf (d + 1) (K := K) (I := I) H0 h4) ?_
  refine x_istore dX10_buys_12 (Nat.le_of_ble_eq_true rfl) rfl rfl ?_
  refine x_aloadn dX10_buys_14 rfl ?_
  refine x_iloadn dX10_buys_15 rfl ?_
  refine x_iloadn dX10_buys_16 rfl ?_
  refine x_iload dX10_buys_17 rfl ?_
  obtain ⟨I5, h6, h⟩ := b1_s h
  refine z_V0 [.int x1, .int x2, .int v3] [] (cs_X10_386 _) (ci := 8) rfl (MK.o H0) (dep (show d + 0 + 3 + 1 ≤ (d + 4) from by omega) (Nat.le_of_ble_eq_true rfl)) dX10_buys_19 rfl rfl (Nat.le_of_ble_eq_true rfl) (c_X10_gets d (K := K) (I := I) H0 h6) ?_
  refine x_aloadn dX10_buys_22 rfl ?_
  refine x_iloadn dX10_buys_23 rfl ?_
  refine x_iconst 2 dX10_buys_24 rfl ?_
  refine x_bipush 50 dX10_buys_25 rfl ?_
  refine x_aloadn dX10_buys_27 rfl ?_
  refine x_iloadn dX10_buys_28 rfl ?_
  refine x_iconst 2 dX10_buys_29 rfl ?_
  obtain ⟨v7, h8, h⟩ := b1_s h
  refine z_V1 [.int v1, .int 2] [.int 50, .int 2, .int v1, .ref x0] (cs_X10_356 _) (ci := 8) rfl (MK.o H0) (dep (show d + 3 + 0 + 1 ≤ (d + 4) from by omega) (Nat.le_of_ble_eq_true rfl)) dX10_buys_30 rfl rfl (Nat.le_of_ble_eq_true rfl) (c_X10_ofStall (d + 3) (K := K) (I := I5) H0 h8) ?_
  refine x_iconst 1 dX10_buys_33 rfl ?_
  refine x_iadd dX10_buys_34 ?_
  refine x_mmin ms_X10_389 (Nat.le_of_ble_eq_true rfl) (by show 1 ≤ (d + 4); omega) dX10_buys_35 ?_
  obtain ⟨I9, h10, h⟩ := b1_s h
  refine z_V0 [.int v1, .int 2, .int (if (v7 + 1) < 50 then (v7 + 1) else 50)] [] (cs_X10_129 _) (ci := 8) rfl (MK.o H0) (dep (show d + 3 + 0 + 1 ≤ (d + 4) from by omega) (Nat.le_of_ble_eq_true rfl)) dX10_buys_38 rfl rfl (Nat.le_of_ble_eq_true rfl) (c_X10_putsStall (d + 3) (K := K) (I := I5) H0 h10) ?_
  refine x_iload dX10_buys_41 rfl ?_
  cases h
  exact x_iret rfl dX10_buys_43 ⟨rfl, rfl, rfl⟩
noncomputable def f_X10_whyBuy (I : Mem) (x0 : Nat) (x1 : Int32) (x2 : Int32) : Option (Int32) := b1 (f_X10_isInStall I x0 x2) fun v1 => if v1 = 0 then (some (1)) else (b1 (f_X10_ofPerson I x0 x1 0) fun v3 => b1 (f_X10_priceOf I x0 x2) fun v5 => if v5 ≤ v3 then (b1 (f_X10_owns I x0 x1) fun v7 => if v7 = 4 then (some (3)) else (some (0))) else (some (2)))
theorem c_X10_whyBuy (d : Nat) {K : Kt} {I : Mem} {x0 : Nat} (H0 : MK K x0) {x1 : Int32} {x2 : Int32} {v : Int32} (h : f_X10_whyBuy I x0 x1 x2 = some v) : Ct (mX10_whyBuy (d + 4)) cX10_whyBuy 0 0 [.ref x0, .int x1, .int x2] I K (Ro (.inl (some (.int v))) I K) := by
  refine Ct.of rfl pn_X10 (catR (catI (catI cat0))) (Nat.le_of_ble_eq_true rfl) (show X _ _ _ _ _ _ 0 [.ref x0, .int x1, .int x2] [] _ from ?_)
  unfold f_X10_whyBuy at h
  refine x_aloadn dX10_whyBuy_0 rfl ?_
  refine x_iloadn dX10_whyBuy_1 rfl ?_
  obtain ⟨v1, h2, h⟩ := b1_s h
  refine z_V1 [.int x2] [] (cs_X10_350 _) (ci := 8) rfl (MK.o H0) (dep (show d + 2 + 1 + 1 ≤ (d + 4) from by omega) (Nat.le_of_ble_eq_true rfl)) dX10_whyBuy_2 rfl rfl (Nat.le_of_ble_eq_true rfl) (c_X10_isInStall (d + 2) (K := K) (I := I) H0 h2) ?_
  refine x_if_ne 10 dX10_whyBuy_5 rfl (fun hc => ?_) (fun hc => ?_)
  · have h := ifF hc h
    refine x_aloadn dX10_whyBuy_10 rfl ?_
    refine x_iloadn dX10_whyBuy_11 rfl ?_
    refine x_iconst 0 dX10_whyBuy_12 rfl ?_
    obtain ⟨v3, h4, h⟩ := b1_s h
    refine z_V1 [.int x1, .int 0] [] (cs_X10_141 _) (ci := 8) rfl (MK.o H0) (dep (show d + 3 + 0 + 1 ≤ (d + 4) from by omega) (Nat.le_of_ble_eq_true rfl)) dX10_whyBuy_13 rfl rfl (Nat.le_of_ble_eq_true rfl) (c_X10_ofPerson (d + 3) (K := K) (I := I) H0 h4) ?_
    refine x_aloadn dX10_whyBuy_16 rfl ?_
    refine x_iloadn dX10_whyBuy_17 rfl ?_
    obtain ⟨v5, h6, h⟩ := b1_s h
    refine z_V1 [.int x2] [.int v3] (cs_X10_368 _) (ci := 8) rfl (MK.o H0) (dep (show d + 1 + 2 + 1 ≤ (d + 4) from by omega) (Nat.le_of_ble_eq_true rfl)) dX10_whyBuy_18 rfl rfl (Nat.le_of_ble_eq_true rfl) (c_X10_priceOf (d + 1) (K := K) (I := I) H0 h6) ?_
    refine x_icmp_ge 26 dX10_whyBuy_21 rfl (fun hc => ?_) (fun hc => ?_)
    · have h := ifT hc h
      refine x_aloadn dX10_whyBuy_26 rfl ?_
      refine x_iloadn dX10_whyBuy_27 rfl ?_
      obtain ⟨v7, h8, h⟩ := b1_s h
      refine z_V1 [.int x1] [] (cs_X10_177 _) (ci := 8) rfl (MK.o H0) (dep (show d + 0 + 3 + 1 ≤ (d + 4) from by omega) (Nat.le_of_ble_eq_true rfl)) dX10_whyBuy_28 rfl rfl (Nat.le_of_ble_eq_true rfl) (c_X10_owns d (K := K) (I := I) H0 h8) ?_
      refine x_iconst 4 dX10_whyBuy_31 rfl ?_
      refine x_icmp_ne 39 dX10_whyBuy_32 rfl (fun hc => ?_) (fun hc => ?_)
      · have h := ifF hc h
        refine x_iconst 0 dX10_whyBuy_39 rfl ?_
        cases h
        exact x_iret rfl dX10_whyBuy_40 ⟨rfl, rfl, rfl⟩
      have h := ifT hc h
      refine x_iconst 3 dX10_whyBuy_35 rfl ?_
      refine x_goto 40 dX10_whyBuy_36 rfl ?_
      cases h
      exact x_iret rfl dX10_whyBuy_40 ⟨rfl, rfl, rfl⟩
    have h := ifF hc h
    refine x_iconst 2 dX10_whyBuy_24 rfl ?_
    cases h
    exact x_iret rfl dX10_whyBuy_25 ⟨rfl, rfl, rfl⟩
  have h := ifT hc h
  refine x_iconst 1 dX10_whyBuy_8 rfl ?_
  cases h
  exact x_iret rfl dX10_whyBuy_9 ⟨rfl, rfl, rfl⟩
noncomputable def l_X10_readsBuy_57 (I : Mem) (x0 : Nat) : Option (Mem) := b1 (f_X10_goes I x0) fun I13 => some (I13)
theorem tl_X10_readsBuy_57 (d : Nat) {K : Kt} : ∀ {I : Mem} {x0 : Nat} (H0 : MK K x0) {I9 : Mem}, l_X10_readsBuy_57 I x0 = some I9 → X (mX10_readsBuy (d + 5)) cX10_readsBuy 0 0 I K 57 [.ref x0, .retAddr 0, .retAddr 0] [] (Ro (.inl none) I9 K) := by
  intro I x0 H0 I9 h
  unfold l_X10_readsBuy_57 at h
  refine x_aloadn dX10_readsBuy_57 rfl ?_
  obtain ⟨I13, h14, h⟩ := b1_s h
  refine z_V0 [] [] (cs_X10_115 _) (ci := 8) rfl (MK.o H0) (dep (show d + 2 + 2 + 1 ≤ (d + 5) from by omega) (Nat.le_of_ble_eq_true rfl)) dX10_readsBuy_58 rfl rfl (Nat.le_of_ble_eq_true rfl) (c_X10_goes (d + 2) (K := K) (I := I) H0 h14) ?_
  cases h
  exact x_vret rfl dX10_readsBuy_61 ⟨rfl, rfl, rfl⟩
noncomputable def l_X10_readsBuy_40 (I : Mem) (x0 : Nat) (x1 : Int32) (x2 : Int32) (y0 : Int32) : Option (Mem) := b1 (f_X10_refuses I x0 y0) fun I11 => if (I11 x0 10) = 0 then (b2 (f_X10_buys I11 x0 x1 x2) fun v15 I16 => l_X10_readsBuy_57 I16 x0) else (l_X10_readsBuy_57 I11 x0)
theorem tl_X10_readsBuy_40 (d : Nat) {K : Kt} : ∀ {I : Mem} {x0 : Nat} (H0 : MK K x0) {x1 : Int32} {x2 : Int32} {y0 : Int32} {I9 : Mem}, l_X10_readsBuy_40 I x0 x1 x2 y0 = some I9 → X (mX10_readsBuy (d + 5)) cX10_readsBuy 0 0 I K 40 [.ref x0, .int x1, .int x2] [.int y0, .ref x0] (Ro (.inl none) I9 K) := by
  intro I x0 H0 x1 x2 y0 I9 h
  unfold l_X10_readsBuy_40 at h
  obtain ⟨I11, h12, h⟩ := b1_s h
  refine z_V0 [.int y0] [] (cs_X10_154 _) (ci := 8) rfl (MK.o H0) (dep (show d + 3 + 1 + 1 ≤ (d + 5) from by omega) (Nat.le_of_ble_eq_true rfl)) dX10_readsBuy_40 rfl rfl (Nat.le_of_ble_eq_true rfl) (c_X10_refuses (d + 3) (K := K) (I := I) H0 h12) ?_
  refine x_aloadn dX10_readsBuy_43 rfl ?_
  refine z_getI fs_X10_59 (MK.o H0) dX10_readsBuy_44 ?_
  refine x_if_ne 57 dX10_readsBuy_47 rfl (fun hc => ?_) (fun hc => ?_)
  · have h := ifF hc h
    exact X.forget (L' := [.ref x0, .retAddr 0, .retAddr 0]) ⟨Or.inl rfl, ⟨Or.inr rfl, ⟨Or.inr rfl, trivial⟩⟩⟩ (tl_X10_readsBuy_57 d H0 h)
  have h := ifT hc h
  refine x_aloadn dX10_readsBuy_50 rfl ?_
  refine x_iloadn dX10_readsBuy_51 rfl ?_
  refine x_iloadn dX10_readsBuy_52 rfl ?_
  obtain ⟨v15, I16, h17, h⟩ := b2_s h
  refine z_V1 [.int x1, .int x2] [] (cs_X10_200 _) (ci := 8) rfl (MK.o H0) (dep (show d + 0 + 4 + 1 ≤ (d + 5) from by omega) (Nat.le_of_ble_eq_true rfl)) dX10_readsBuy_53 rfl rfl (Nat.le_of_ble_eq_true rfl) (c_X10_buys d (K := K) (I := I11) H0 h17) ?_
  refine x_pop dX10_readsBuy_56 rfl ?_
  exact X.forget (L' := [.ref x0, .retAddr 0, .retAddr 0]) ⟨Or.inl rfl, ⟨Or.inr rfl, ⟨Or.inr rfl, trivial⟩⟩⟩ (tl_X10_readsBuy_57 d H0 h)
noncomputable def l_X10_readsBuy_39 (I : Mem) (x0 : Nat) (x1 : Int32) (x2 : Int32) : Option (Mem) := l_X10_readsBuy_40 I x0 x1 x2 0
theorem tl_X10_readsBuy_39 (d : Nat) {K : Kt} : ∀ {I : Mem} {x0 : Nat} (H0 : MK K x0) {x1 : Int32} {x2 : Int32} {I9 : Mem}, l_X10_readsBuy_39 I x0 x1 x2 = some I9 → X (mX10_readsBuy (d + 5)) cX10_readsBuy 0 0 I K 39 [.ref x0, .int x1, .int x2] [.ref x0] (Ro (.inl none) I9 K) := by
  intro I x0 H0 x1 x2 I9 h
  unfold l_X10_readsBuy_39 at h
  refine x_iconst 0 dX10_readsBuy_39 rfl ?_
  exact tl_X10_readsBuy_40 d H0 h
noncomputable def f_X10_readsBuy (I : Mem) (x0 : Nat) : Option (Mem) := b1 (f_X10_goes I x0) fun I1 => b2 (f_X10_personHere I1 x0) fun v3 I4 => b1 (f_X10_goes I4 x0) fun I6 => b2 (f_X10_wishHere I6 x0) fun v8 I9 => if (I9 x0 10) = 0 then (b1 (f_X10_whyBuy I9 x0 v3 v8) fun v18 => if v18 = 0 then (l_X10_readsBuy_39 I9 x0 v3 v8) else (l_X10_readsBuy_40 I9 x0 v3 v8 1)) else (l_X10_readsBuy_39 I9 x0 v3 v8)
theorem c_X10_readsBuy (d : Nat) {K : Kt} {I : Mem} {x0 : Nat} (H0 : MK K x0) {I9 : Mem} (h : f_X10_readsBuy I x0 = some I9) : Ct (mX10_readsBuy (d + 5)) cX10_readsBuy 0 0 [.ref x0] I K (Ro (.inl none) I9 K) := by
  refine Ct.of rfl pn_X10 (catR cat0) (Nat.le_of_ble_eq_true rfl) (show X _ _ _ _ _ _ 0 [.ref x0, .retAddr 0, .retAddr 0] [] _ from ?_)
  unfold f_X10_readsBuy at h
  refine x_aloadn dX10_readsBuy_0 rfl ?_
  obtain ⟨I1, h2, h⟩ := b1_s h
  refine z_V0 [] [] (cs_X10_115 _) (ci := 8) rfl (MK.o H0) (dep (show d + 2 + 2 + 1 ≤ (d + 5) from by omega) (Nat.le_of_ble_eq_true rfl)) dX10_readsBuy_1 rfl rfl (Nat.le_of_ble_eq_true rfl) (c_X10_goes (d + 2) (K := K) (I := I) H0 h2) ?_
  refine x_aloadn dX10_readsBuy_4 rfl ?_
  obtain ⟨v3, I4, h5, h⟩ := b2_s h
  refine z_V1 [] [] (cs_X10_171 _) (ci := 8) rfl (MK.o H0) (dep (show d + 2 + 2 + 1 ≤ (d + 5) from by omega) (Nat.le_of_ble_eq_true rfl)) dX10_readsBuy_5 rfl rfl (Nat.le_of_ble_eq_true rfl) (c_X10_personHere (d + 2) (K := K) (I := I1) H0 h5) ?_
  refine x_istoren dX10_readsBuy_8 (Nat.le_of_ble_eq_true rfl) rfl rfl ?_
  refine x_aloadn dX10_readsBuy_9 rfl ?_
  obtain ⟨I6, h7, h⟩ := b1_s h
  refine z_V0 [] [] (cs_X10_115 _) (ci := 8) rfl (MK.o H0) (dep (show d + 2 + 2 + 1 ≤ (d + 5) from by omega) (Nat.le_of_ble_eq_true rfl)) dX10_readsBuy_10 rfl rfl (Nat.le_of_ble_eq_true rfl) (c_X10_goes (d + 2) (K := K) (I := I4) H0 h7) ?_
  refine x_aloadn dX10_readsBuy_13 rfl ?_
  obtain ⟨v8, I9, h10, h⟩ := b2_s h
  refine z_V1 [] [] (cs_X10_194 _) (ci := 8) rfl (MK.o H0) (dep (show d + 2 + 2 + 1 ≤ (d + 5) from by omega) (Nat.le_of_ble_eq_true rfl)) dX10_readsBuy_14 rfl rfl (Nat.le_of_ble_eq_true rfl) (c_X10_wishHere (d + 2) (K := K) (I := I6) H0 h10) ?_
  refine x_istoren dX10_readsBuy_17 (Nat.le_of_ble_eq_true rfl) rfl rfl ?_
  refine x_aloadn dX10_readsBuy_18 rfl ?_
  refine x_aloadn dX10_readsBuy_19 rfl ?_
  refine z_getI fs_X10_59 (MK.o H0) dX10_readsBuy_20 ?_
  refine x_if_ne 39 dX10_readsBuy_23 rfl (fun hc => ?_) (fun hc => ?_)
  · have h := ifF hc h
    exact tl_X10_readsBuy_39 d H0 h
  have h := ifT hc h
  refine x_aloadn dX10_readsBuy_26 rfl ?_
  refine x_iloadn dX10_readsBuy_27 rfl ?_
  refine x_iloadn dX10_readsBuy_28 rfl ?_
  obtain ⟨v18, h19, h⟩ := b1_s h
  refine z_V1 [.int v3, .int v8] [.ref x0] (cs_X10_197 _) (ci := 8) rfl (MK.o H0) (dep (show d + 0 + 4 + 1 ≤ (d + 5) from by omega) (Nat.le_of_ble_eq_true rfl)) dX10_readsBuy_29 rfl rfl (Nat.le_of_ble_eq_true rfl) (c_X10_whyBuy d (K := K) (I := I9) H0 h19) ?_
  refine x_if_eq 39 dX10_readsBuy_32 rfl (fun hc => ?_) (fun hc => ?_)
  · have h := ifT hc h
    exact tl_X10_readsBuy_39 d H0 h
  have h := ifF hc h
  refine x_iconst 1 dX10_readsBuy_35 rfl ?_
  refine x_goto 40 dX10_readsBuy_36 rfl ?_
  exact tl_X10_readsBuy_40 d H0 h
noncomputable def f_X10_offerOf (I : Mem) (x0 : Nat) (x1 : Int32) (x2 : Int32) : Option (Int32) := b1 (f_X10_left I x0 x1) fun v1 => b1 (f_X10_ofStall I x0 x2 2) fun v3 => some (((v1 * (50 + v3)) / 1000))
theorem c_X10_offerOf (d : Nat) {K : Kt} {I : Mem} {x0 : Nat} (H0 : MK K x0) {x1 : Int32} {x2 : Int32} {v : Int32} (h : f_X10_offerOf I x0 x1 x2 = some v) : Ct (mX10_offerOf (d + 2)) cX10_offerOf 0 0 [.ref x0, .int x1, .int x2] I K (Ro (.inl (some (.int v))) I K) := by
  refine Ct.of rfl pn_X10 (catR (catI (catI cat0))) (Nat.le_of_ble_eq_true rfl) (show X _ _ _ _ _ _ 0 [.ref x0, .int x1, .int x2] [] _ from ?_)
  unfold f_X10_offerOf at h
  refine x_aloadn dX10_offerOf_0 rfl ?_
  refine x_iloadn dX10_offerOf_1 rfl ?_
  obtain ⟨v1, h2, h⟩ := b1_s h
  refine z_V1 [.int x1] [] (cs_X10_359 _) (ci := 8) rfl (MK.o H0) (dep (show d + 0 + 1 + 1 ≤ (d + 2) from by omega) (Nat.le_of_ble_eq_true rfl)) dX10_offerOf_2 rfl rfl (Nat.le_of_ble_eq_true rfl) (c_X10_left d (K := K) (I := I) H0 h2) ?_
  refine x_bipush 50 dX10_offerOf_5 rfl ?_
  refine x_aloadn dX10_offerOf_7 rfl ?_
  refine x_iloadn dX10_offerOf_8 rfl ?_
  refine x_iconst 2 dX10_offerOf_9 rfl ?_
  obtain ⟨v3, h4, h⟩ := b1_s h
  refine z_V1 [.int x2, .int 2] [.int 50, .int v1] (cs_X10_356 _) (ci := 8) rfl (MK.o H0) (dep (show d + 1 + 0 + 1 ≤ (d + 2) from by omega) (Nat.le_of_ble_eq_true rfl)) dX10_offerOf_10 rfl rfl (Nat.le_of_ble_eq_true rfl) (c_X10_ofStall (d + 1) (K := K) (I := I) H0 h4) ?_
  refine x_iadd dX10_offerOf_13 ?_
  refine x_imul dX10_offerOf_14 ?_
  refine x_sipush 1000 dX10_offerOf_15 rfl ?_
  refine x_idiv dX10_offerOf_18 (by decide) ?_
  cases h
  exact x_iret rfl dX10_offerOf_19 ⟨rfl, rfl, rfl⟩
noncomputable def f_X10_sells (I : Mem) (x0 : Nat) (x1 : Int32) (x2 : Int32) : Option (Int32 × Mem) := b1 (f_X10_offerOf I x0 x1 x2) fun v1 => b1 (f_X10_ofWish I x0 x1 4) fun v3 => b1 (f_X10_pays I x0 x2 v3 v1) fun I5 => b1 (f_X10_goesTo I5 x0 x1 0 x2) fun I7 => some (v1, I7)
theorem c_X10_sells (d : Nat) {K : Kt} {I : Mem} {x0 : Nat} (H0 : MK K x0) {x1 : Int32} {x2 : Int32} {v : Int32} {I9 : Mem} (h : f_X10_sells I x0 x1 x2 = some (v, I9)) : Ct (mX10_sells (d + 3)) cX10_sells 0 0 [.ref x0, .int x1, .int x2] I K (Ro (.inl (some (.int v))) I9 K) := by
  refine Ct.of rfl pn_X10 (catR (catI (catI cat0))) (Nat.le_of_ble_eq_true rfl) (show X _ _ _ _ _ _ 0 [.ref x0, .int x1, .int x2, .retAddr 0] [] _ from ?_)
  unfold f_X10_sells at h
  refine x_aloadn dX10_sells_0 rfl ?_
  refine x_iloadn dX10_sells_1 rfl ?_
  refine x_iloadn dX10_sells_2 rfl ?_
  obtain ⟨v1, h2, h⟩ := b1_s h
  refine z_V1 [.int x1, .int x2] [] (cs_X10_371 _) (ci := 8) rfl (MK.o H0) (dep (show d + 0 + 2 + 1 ≤ (d + 3) from by omega) (Nat.le_of_ble_eq_true rfl)) dX10_sells_3 rfl rfl (Nat.le_of_ble_eq_true rfl) (c_X10_offerOf d (K := K) (I := I) H0 h2) ?_
  refine x_istoren dX10_sells_6 (Nat.le_of_ble_eq_true rfl) rfl rfl ?_
  refine x_aloadn dX10_sells_7 rfl ?_
  refine x_iloadn dX10_sells_8 rfl ?_
  refine x_aloadn dX10_sells_9 rfl ?_
  refine x_iloadn dX10_sells_10 rfl ?_
  refine x_iconst 4 dX10_sells_11 rfl ?_
  obtain ⟨v3, h4, h⟩ := b1_s h
  refine z_V1 [.int x1, .int 4] [.int x2, .ref x0] (cs_X10_224 _) (ci := 8) rfl (MK.o H0) (dep (show d + 2 + 0 + 1 ≤ (d + 3) from by omega) (Nat.le_of_ble_eq_true rfl)) dX10_sells_12 rfl rfl (Nat.le_of_ble_eq_true rfl) (c_X10_ofWish (d + 2) (K := K) (I := I) H0 h4) ?_
  refine x_iloadn dX10_sells_15 rfl ?_
  obtain ⟨I5, h6, h⟩ := b1_s h
  refine z_V0 [.int x2, .int v3, .int v1] [] (cs_X10_380 _) (ci := 8) rfl (MK.o H0) (dep (show d + 1 + 1 + 1 ≤ (d + 3) from by omega) (Nat.le_of_ble_eq_true rfl)) dX10_sells_16 rfl rfl (Nat.le_of_ble_eq_true rfl) (c_X10_pays (d + 1) (K := K) (I := I) H0 h6) ?_
  refine x_aloadn dX10_sells_19 rfl ?_
  refine x_iloadn dX10_sells_20 rfl ?_
  refine x_iconst 0 dX10_sells_21 rfl ?_
  refine x_iloadn dX10_sells_22 rfl ?_
  obtain ⟨I7, h8, h⟩ := b1_s h
  refine z_V0 [.int x1, .int 0, .int x2] [] (cs_X10_383 _) (ci := 8) rfl (MK.o H0) (dep (show d + 0 + 2 + 1 ≤ (d + 3) from by omega) (Nat.le_of_ble_eq_true rfl)) dX10_sells_23 rfl rfl (Nat.le_of_ble_eq_true rfl) (c_X10_goesTo d (K := K) (I := I5) H0 h8) ?_
  refine x_iloadn dX10_sells_26 rfl ?_
  cases h
  exact x_iret rfl dX10_sells_27 ⟨rfl, rfl, rfl⟩
noncomputable def f_X10_whySell (I : Mem) (x0 : Nat) (x1 : Int32) (x2 : Int32) : Option (Int32) := b1 (f_X10_isOwned I x0 x1) fun v1 => if v1 = 0 then (some (1)) else (b1 (f_X10_isFull I x0 x2) fun v3 => if v3 = 0 then (b1 (f_X10_ofStall I x0 x2 1) fun v5 => b1 (f_X10_offerOf I x0 x1 x2) fun v7 => if v7 ≤ v5 then (some (0)) else (some (3))) else (some (2)))
theorem c_X10_whySell (d : Nat) {K : Kt} {I : Mem} {x0 : Nat} (H0 : MK K x0) {x1 : Int32} {x2 : Int32} {v : Int32} (h : f_X10_whySell I x0 x1 x2 = some v) : Ct (mX10_whySell (d + 4)) cX10_whySell 0 0 [.ref x0, .int x1, .int x2] I K (Ro (.inl (some (.int v))) I K) := by
  refine Ct.of rfl pn_X10 (catR (catI (catI cat0))) (Nat.le_of_ble_eq_true rfl) (show X _ _ _ _ _ _ 0 [.ref x0, .int x1, .int x2] [] _ from ?_)
  unfold f_X10_whySell at h
  refine x_aloadn dX10_whySell_0 rfl ?_
  refine x_iloadn dX10_whySell_1 rfl ?_
  obtain ⟨v1, h2, h⟩ := b1_s h
  refine z_V1 [.int x1] [] (cs_X10_221 _) (ci := 8) rfl (MK.o H0) (dep (show d + 2 + 1 + 1 ≤ (d + 4) from by omega) (Nat.le_of_ble_eq_true rfl)) dX10_whySell_2 rfl rfl (Nat.le_of_ble_eq_true rfl) (c_X10_isOwned (d + 2) (K := K) (I := I) H0 h2) ?_
  refine x_if_ne 10 dX10_whySell_5 rfl (fun hc => ?_) (fun hc => ?_)
  · have h := ifF hc h
    refine x_aloadn dX10_whySell_10 rfl ?_
    refine x_iloadn dX10_whySell_11 rfl ?_
    obtain ⟨v3, h4, h⟩ := b1_s h
    refine z_V1 [.int x2] [] (cs_X10_174 _) (ci := 8) rfl (MK.o H0) (dep (show d + 0 + 3 + 1 ≤ (d + 4) from by omega) (Nat.le_of_ble_eq_true rfl)) dX10_whySell_12 rfl rfl (Nat.le_of_ble_eq_true rfl) (c_X10_isFull d (K := K) (I := I) H0 h4) ?_
    refine x_if_eq 20 dX10_whySell_15 rfl (fun hc => ?_) (fun hc => ?_)
    · have h := ifT hc h
      refine x_aloadn dX10_whySell_20 rfl ?_
      refine x_iloadn dX10_whySell_21 rfl ?_
      refine x_iconst 1 dX10_whySell_22 rfl ?_
      obtain ⟨v5, h6, h⟩ := b1_s h
      refine z_V1 [.int x2, .int 1] [] (cs_X10_356 _) (ci := 8) rfl (MK.o H0) (dep (show d + 3 + 0 + 1 ≤ (d + 4) from by omega) (Nat.le_of_ble_eq_true rfl)) dX10_whySell_23 rfl rfl (Nat.le_of_ble_eq_true rfl) (c_X10_ofStall (d + 3) (K := K) (I := I) H0 h6) ?_
      refine x_aloadn dX10_whySell_26 rfl ?_
      refine x_iloadn dX10_whySell_27 rfl ?_
      refine x_iloadn dX10_whySell_28 rfl ?_
      obtain ⟨v7, h8, h⟩ := b1_s h
      refine z_V1 [.int x1, .int x2] [.int v5] (cs_X10_371 _) (ci := 8) rfl (MK.o H0) (dep (show d + 1 + 2 + 1 ≤ (d + 4) from by omega) (Nat.le_of_ble_eq_true rfl)) dX10_whySell_29 rfl rfl (Nat.le_of_ble_eq_true rfl) (c_X10_offerOf (d + 1) (K := K) (I := I) H0 h8) ?_
      refine x_icmp_ge 39 dX10_whySell_32 rfl (fun hc => ?_) (fun hc => ?_)
      · have h := ifT hc h
        refine x_iconst 0 dX10_whySell_39 rfl ?_
        cases h
        exact x_iret rfl dX10_whySell_40 ⟨rfl, rfl, rfl⟩
      have h := ifF hc h
      refine x_iconst 3 dX10_whySell_35 rfl ?_
      refine x_goto 40 dX10_whySell_36 rfl ?_
      cases h
      exact x_iret rfl dX10_whySell_40 ⟨rfl, rfl, rfl⟩
    have h := ifF hc h
    refine x_iconst 2 dX10_whySell_18 rfl ?_
    cases h
    exact x_iret rfl dX10_whySell_19 ⟨rfl, rfl, rfl⟩
  have h := ifT hc h
  refine x_iconst 1 dX10_whySell_8 rfl ?_
  cases h
  exact x_iret rfl dX10_whySell_9 ⟨rfl, rfl, rfl⟩
noncomputable def l_X10_readsSell_57 (I : Mem) (x0 : Nat) : Option (Mem) := b1 (f_X10_goes I x0) fun I13 => some (I13)
theorem tl_X10_readsSell_57 (d : Nat) {K : Kt} : ∀ {I : Mem} {x0 : Nat} (H0 : MK K x0) {I9 : Mem}, l_X10_readsSell_57 I x0 = some I9 → X (mX10_readsSell (d + 5)) cX10_readsSell 0 0 I K 57 [.ref x0, .retAddr 0, .retAddr 0] [] (Ro (.inl none) I9 K) := by
  intro I x0 H0 I9 h
  unfold l_X10_readsSell_57 at h
  refine x_aloadn dX10_readsSell_57 rfl ?_
  obtain ⟨I13, h14, h⟩ := b1_s h
  refine z_V0 [] [] (cs_X10_115 _) (ci := 8) rfl (MK.o H0) (dep (show d + 2 + 2 + 1 ≤ (d + 5) from by omega) (Nat.le_of_ble_eq_true rfl)) dX10_readsSell_58 rfl rfl (Nat.le_of_ble_eq_true rfl) (c_X10_goes (d + 2) (K := K) (I := I) H0 h14) ?_
  cases h
  exact x_vret rfl dX10_readsSell_61 ⟨rfl, rfl, rfl⟩
noncomputable def l_X10_readsSell_40 (I : Mem) (x0 : Nat) (x1 : Int32) (x2 : Int32) (y0 : Int32) : Option (Mem) := b1 (f_X10_refuses I x0 y0) fun I11 => if (I11 x0 10) = 0 then (b2 (f_X10_sells I11 x0 x1 x2) fun v15 I16 => l_X10_readsSell_57 I16 x0) else (l_X10_readsSell_57 I11 x0)
theorem tl_X10_readsSell_40 (d : Nat) {K : Kt} : ∀ {I : Mem} {x0 : Nat} (H0 : MK K x0) {x1 : Int32} {x2 : Int32} {y0 : Int32} {I9 : Mem}, l_X10_readsSell_40 I x0 x1 x2 y0 = some I9 → X (mX10_readsSell (d + 5)) cX10_readsSell 0 0 I K 40 [.ref x0, .int x1, .int x2] [.int y0, .ref x0] (Ro (.inl none) I9 K) := by
  intro I x0 H0 x1 x2 y0 I9 h
  unfold l_X10_readsSell_40 at h
  obtain ⟨I11, h12, h⟩ := b1_s h
  refine z_V0 [.int y0] [] (cs_X10_154 _) (ci := 8) rfl (MK.o H0) (dep (show d + 3 + 1 + 1 ≤ (d + 5) from by omega) (Nat.le_of_ble_eq_true rfl)) dX10_readsSell_40 rfl rfl (Nat.le_of_ble_eq_true rfl) (c_X10_refuses (d + 3) (K := K) (I := I) H0 h12) ?_
  refine x_aloadn dX10_readsSell_43 rfl ?_
  refine z_getI fs_X10_59 (MK.o H0) dX10_readsSell_44 ?_
  refine x_if_ne 57 dX10_readsSell_47 rfl (fun hc => ?_) (fun hc => ?_)
  · have h := ifF hc h
    exact X.forget (L' := [.ref x0, .retAddr 0, .retAddr 0]) ⟨Or.inl rfl, ⟨Or.inr rfl, ⟨Or.inr rfl, trivial⟩⟩⟩ (tl_X10_readsSell_57 d H0 h)
  have h := ifT hc h
  refine x_aloadn dX10_readsSell_50 rfl ?_
  refine x_iloadn dX10_readsSell_51 rfl ?_
  refine x_iloadn dX10_readsSell_52 rfl ?_
  obtain ⟨v15, I16, h17, h⟩ := b2_s h
  refine z_V1 [.int x1, .int x2] [] (cs_X10_206 _) (ci := 8) rfl (MK.o H0) (dep (show d + 1 + 3 + 1 ≤ (d + 5) from by omega) (Nat.le_of_ble_eq_true rfl)) dX10_readsSell_53 rfl rfl (Nat.le_of_ble_eq_true rfl) (c_X10_sells (d + 1) (K := K) (I := I11) H0 h17) ?_
  refine x_pop dX10_readsSell_56 rfl ?_
  exact X.forget (L' := [.ref x0, .retAddr 0, .retAddr 0]) ⟨Or.inl rfl, ⟨Or.inr rfl, ⟨Or.inr rfl, trivial⟩⟩⟩ (tl_X10_readsSell_57 d H0 h)
noncomputable def l_X10_readsSell_39 (I : Mem) (x0 : Nat) (x1 : Int32) (x2 : Int32) : Option (Mem) := l_X10_readsSell_40 I x0 x1 x2 0
theorem tl_X10_readsSell_39 (d : Nat) {K : Kt} : ∀ {I : Mem} {x0 : Nat} (H0 : MK K x0) {x1 : Int32} {x2 : Int32} {I9 : Mem}, l_X10_readsSell_39 I x0 x1 x2 = some I9 → X (mX10_readsSell (d + 5)) cX10_readsSell 0 0 I K 39 [.ref x0, .int x1, .int x2] [.ref x0] (Ro (.inl none) I9 K) := by
  intro I x0 H0 x1 x2 I9 h
  unfold l_X10_readsSell_39 at h
  refine x_iconst 0 dX10_readsSell_39 rfl ?_
  exact tl_X10_readsSell_40 d H0 h
noncomputable def f_X10_readsSell (I : Mem) (x0 : Nat) : Option (Mem) := b1 (f_X10_goes I x0) fun I1 => b2 (f_X10_wishHere I1 x0) fun v3 I4 => b1 (f_X10_goes I4 x0) fun I6 => b2 (f_X10_stallHere I6 x0) fun v8 I9 => if (I9 x0 10) = 0 then (b1 (f_X10_whySell I9 x0 v3 v8) fun v18 => if v18 = 0 then (l_X10_readsSell_39 I9 x0 v3 v8) else (l_X10_readsSell_40 I9 x0 v3 v8 1)) else (l_X10_readsSell_39 I9 x0 v3 v8)
theorem c_X10_readsSell (d : Nat) {K : Kt} {I : Mem} {x0 : Nat} (H0 : MK K x0) {I9 : Mem} (h : f_X10_readsSell I x0 = some I9) : Ct (mX10_readsSell (d + 5)) cX10_readsSell 0 0 [.ref x0] I K (Ro (.inl none) I9 K) := by
  refine Ct.of rfl pn_X10 (catR cat0) (Nat.le_of_ble_eq_true rfl) (show X _ _ _ _ _ _ 0 [.ref x0, .retAddr 0, .retAddr 0] [] _ from ?_)
  unfold f_X10_readsSell at h
  refine x_aloadn dX10_readsSell_0 rfl ?_
  obtain ⟨I1, h2, h⟩ := b1_s h
  refine z_V0 [] [] (cs_X10_115 _) (ci := 8) rfl (MK.o H0) (dep (show d + 2 + 2 + 1 ≤ (d + 5) from by omega) (Nat.le_of_ble_eq_true rfl)) dX10_readsSell_1 rfl rfl (Nat.le_of_ble_eq_true rfl) (c_X10_goes (d + 2) (K := K) (I := I) H0 h2) ?_
  refine x_aloadn dX10_readsSell_4 rfl ?_
  obtain ⟨v3, I4, h5, h⟩ := b2_s h
  refine z_V1 [] [] (cs_X10_194 _) (ci := 8) rfl (MK.o H0) (dep (show d + 2 + 2 + 1 ≤ (d + 5) from by omega) (Nat.le_of_ble_eq_true rfl)) dX10_readsSell_5 rfl rfl (Nat.le_of_ble_eq_true rfl) (c_X10_wishHere (d + 2) (K := K) (I := I1) H0 h5) ?_
  refine x_istoren dX10_readsSell_8 (Nat.le_of_ble_eq_true rfl) rfl rfl ?_
  refine x_aloadn dX10_readsSell_9 rfl ?_
  obtain ⟨I6, h7, h⟩ := b1_s h
  refine z_V0 [] [] (cs_X10_115 _) (ci := 8) rfl (MK.o H0) (dep (show d + 2 + 2 + 1 ≤ (d + 5) from by omega) (Nat.le_of_ble_eq_true rfl)) dX10_readsSell_10 rfl rfl (Nat.le_of_ble_eq_true rfl) (c_X10_goes (d + 2) (K := K) (I := I4) H0 h7) ?_
  refine x_aloadn dX10_readsSell_13 rfl ?_
  obtain ⟨v8, I9, h10, h⟩ := b2_s h
  refine z_V1 [] [] (cs_X10_168 _) (ci := 8) rfl (MK.o H0) (dep (show d + 2 + 2 + 1 ≤ (d + 5) from by omega) (Nat.le_of_ble_eq_true rfl)) dX10_readsSell_14 rfl rfl (Nat.le_of_ble_eq_true rfl) (c_X10_stallHere (d + 2) (K := K) (I := I6) H0 h10) ?_
  refine x_istoren dX10_readsSell_17 (Nat.le_of_ble_eq_true rfl) rfl rfl ?_
  refine x_aloadn dX10_readsSell_18 rfl ?_
  refine x_aloadn dX10_readsSell_19 rfl ?_
  refine z_getI fs_X10_59 (MK.o H0) dX10_readsSell_20 ?_
  refine x_if_ne 39 dX10_readsSell_23 rfl (fun hc => ?_) (fun hc => ?_)
  · have h := ifF hc h
    exact tl_X10_readsSell_39 d H0 h
  have h := ifT hc h
  refine x_aloadn dX10_readsSell_26 rfl ?_
  refine x_iloadn dX10_readsSell_27 rfl ?_
  refine x_iloadn dX10_readsSell_28 rfl ?_
  obtain ⟨v18, h19, h⟩ := b1_s h
  refine z_V1 [.int v3, .int v8] [.ref x0] (cs_X10_203 _) (ci := 8) rfl (MK.o H0) (dep (show d + 0 + 4 + 1 ≤ (d + 5) from by omega) (Nat.le_of_ble_eq_true rfl)) dX10_readsSell_29 rfl rfl (Nat.le_of_ble_eq_true rfl) (c_X10_whySell d (K := K) (I := I9) H0 h19) ?_
  refine x_if_eq 39 dX10_readsSell_32 rfl (fun hc => ?_) (fun hc => ?_)
  · have h := ifT hc h
    exact tl_X10_readsSell_39 d H0 h
  have h := ifF hc h
  refine x_iconst 1 dX10_readsSell_35 rfl ?_
  refine x_goto 40 dX10_readsSell_36 rfl ?_
  exact tl_X10_readsSell_40 d H0 h
noncomputable def f_X10_refundOf (I : Mem) (x0 : Nat) (x1 : Int32) : Option (Int32) := b1 (f_X10_ofWish I x0 x1 6) fun v1 => b1 (ix 6 355) fun j3 => some (((v1 * (100 - (I (x0 + 1) j3))) / 100))
theorem c_X10_refundOf (d : Nat) {K : Kt} {I : Mem} {x0 : Nat} (H0 : MK K x0) {x1 : Int32} {v : Int32} (h : f_X10_refundOf I x0 x1 = some v) : Ct (mX10_refundOf (d + 1)) cX10_refundOf 0 0 [.ref x0, .int x1] I K (Ro (.inl (some (.int v))) I K) := by
  refine Ct.of rfl pn_X10 (catR (catI cat0)) (Nat.le_of_ble_eq_true rfl) (show X _ _ _ _ _ _ 0 [.ref x0, .int x1] [] _ from ?_)
  unfold f_X10_refundOf at h
  refine x_aloadn dX10_refundOf_0 rfl ?_
  refine x_iloadn dX10_refundOf_1 rfl ?_
  refine x_bipush 6 dX10_refundOf_2 rfl ?_
  obtain ⟨v1, h2, h⟩ := b1_s h
  refine z_V1 [.int x1, .int 6] [] (cs_X10_224 _) (ci := 8) rfl (MK.o H0) (dep (show d + 0 + 0 + 1 ≤ (d + 1) from by omega) (Nat.le_of_ble_eq_true rfl)) dX10_refundOf_4 rfl rfl (Nat.le_of_ble_eq_true rfl) (c_X10_ofWish d (K := K) (I := I) H0 h2) ?_
  refine x_bipush 100 dX10_refundOf_7 rfl ?_
  refine x_aloadn dX10_refundOf_9 rfl ?_
  refine z_getR fs_X10_9 (MK.o H0) (MK.g1 H0) dX10_refundOf_10 ?_
  refine x_bipush 6 dX10_refundOf_13 rfl ?_
  obtain ⟨j3, hj3, h⟩ := b1_s h
  refine z_iald (MK.l1 H0) hj3 dX10_refundOf_15 ?_
  refine x_isub dX10_refundOf_16 ?_
  refine x_imul dX10_refundOf_17 ?_
  refine x_bipush 100 dX10_refundOf_18 rfl ?_
  refine x_idiv dX10_refundOf_20 (by decide) ?_
  cases h
  exact x_iret rfl dX10_refundOf_21 ⟨rfl, rfl, rfl⟩
noncomputable def f_X10_returns (I : Mem) (x0 : Nat) (x1 : Int32) : Option (Int32 × Mem) := b1 (f_X10_ofWish I x0 x1 7) fun v1 => b1 (f_X10_refundOf I x0 x1) fun v3 => b1 (f_X10_ofWish I x0 x1 4) fun v5 => b1 (f_X10_pays I x0 v1 v5 v3) fun I7 => b1 (f_X10_goesTo I7 x0 x1 0 v1) fun I9 => b1 (f_X10_ofStall I9 x0 v1 2) fun v11 => b1 (f_X10_putsStall I9 x0 v1 2 (if 0 < (v11 - 2) then (v11 - 2) else 0)) fun I13 => some (v3, I13)
theorem c_X10_returns (d : Nat) {K : Kt} {I : Mem} {x0 : Nat} (H0 : MK K x0) {x1 : Int32} {v : Int32} {I9 : Mem} (h : f_X10_returns I x0 x1 = some (v, I9)) : Ct (mX10_returns (d + 3)) cX10_returns 0 0 [.ref x0, .int x1] I K (Ro (.inl (some (.int v))) I9 K) := by
  refine Ct.of rfl pn_X10 (catR (catI cat0)) (Nat.le_of_ble_eq_true rfl) (show X _ _ _ _ _ _ 0 [.ref x0, .int x1, .retAddr 0, .retAddr 0] [] _ from ?_)
  unfold f_X10_returns at h
  refine x_aloadn dX10_returns_0 rfl ?_
  refine x_iloadn dX10_returns_1 rfl ?_
  refine x_bipush 7 dX10_returns_2 rfl ?_
  obtain ⟨v1, h2, h⟩ := b1_s h
  refine z_V1 [.int x1, .int 7] [] (cs_X10_224 _) (ci := 8) rfl (MK.o H0) (dep (show d + 2 + 0 + 1 ≤ (d + 3) from by omega) (Nat.le_of_ble_eq_true rfl)) dX10_returns_4 rfl rfl (Nat.le_of_ble_eq_true rfl) (c_X10_ofWish (d + 2) (K := K) (I := I) H0 h2) ?_
  refine x_istoren dX10_returns_7 (Nat.le_of_ble_eq_true rfl) rfl rfl ?_
  refine x_aloadn dX10_returns_8 rfl ?_
  refine x_iloadn dX10_returns_9 rfl ?_
  obtain ⟨v3, h4, h⟩ := b1_s h
  refine z_V1 [.int x1] [] (cs_X10_374 _) (ci := 8) rfl (MK.o H0) (dep (show d + 1 + 1 + 1 ≤ (d + 3) from by omega) (Nat.le_of_ble_eq_true rfl)) dX10_returns_10 rfl rfl (Nat.le_of_ble_eq_true rfl) (c_X10_refundOf (d + 1) (K := K) (I := I) H0 h4) ?_
  refine x_istoren dX10_returns_13 (Nat.le_of_ble_eq_true rfl) rfl rfl ?_
  refine x_aloadn dX10_returns_14 rfl ?_
  refine x_iloadn dX10_returns_15 rfl ?_
  refine x_aloadn dX10_returns_16 rfl ?_
  refine x_iloadn dX10_returns_17 rfl ?_
  refine x_iconst 4 dX10_returns_18 rfl ?_
  obtain ⟨v5, h6, h⟩ := b1_s h
  refine z_V1 [.int x1, .int 4] [.int v1, .ref x0] (cs_X10_224 _) (ci := 8) rfl (MK.o H0) (dep (show d + 2 + 0 + 1 ≤ (d + 3) from by omega) (Nat.le_of_ble_eq_true rfl)) dX10_returns_19 rfl rfl (Nat.le_of_ble_eq_true rfl) (c_X10_ofWish (d + 2) (K := K) (I := I) H0 h6) ?_
  refine x_iloadn dX10_returns_22 rfl ?_
  obtain ⟨I7, h8, h⟩ := b1_s h
  refine z_V0 [.int v1, .int v5, .int v3] [] (cs_X10_380 _) (ci := 8) rfl (MK.o H0) (dep (show d + 1 + 1 + 1 ≤ (d + 3) from by omega) (Nat.le_of_ble_eq_true rfl)) dX10_returns_23 rfl rfl (Nat.le_of_ble_eq_true rfl) (c_X10_pays (d + 1) (K := K) (I := I) H0 h8) ?_
  refine x_aloadn dX10_returns_26 rfl ?_
  refine x_iloadn dX10_returns_27 rfl ?_
  refine x_iconst 0 dX10_returns_28 rfl ?_
  refine x_iloadn dX10_returns_29 rfl ?_
  obtain ⟨I9, h10, h⟩ := b1_s h
  refine z_V0 [.int x1, .int 0, .int v1] [] (cs_X10_383 _) (ci := 8) rfl (MK.o H0) (dep (show d + 0 + 2 + 1 ≤ (d + 3) from by omega) (Nat.le_of_ble_eq_true rfl)) dX10_returns_30 rfl rfl (Nat.le_of_ble_eq_true rfl) (c_X10_goesTo d (K := K) (I := I7) H0 h10) ?_
  refine x_aloadn dX10_returns_33 rfl ?_
  refine x_iloadn dX10_returns_34 rfl ?_
  refine x_iconst 2 dX10_returns_35 rfl ?_
  refine x_iconst 0 dX10_returns_36 rfl ?_
  refine x_aloadn dX10_returns_37 rfl ?_
  refine x_iloadn dX10_returns_38 rfl ?_
  refine x_iconst 2 dX10_returns_39 rfl ?_
  obtain ⟨v11, h12, h⟩ := b1_s h
  refine z_V1 [.int v1, .int 2] [.int 0, .int 2, .int v1, .ref x0] (cs_X10_356 _) (ci := 8) rfl (MK.o H0) (dep (show d + 2 + 0 + 1 ≤ (d + 3) from by omega) (Nat.le_of_ble_eq_true rfl)) dX10_returns_40 rfl rfl (Nat.le_of_ble_eq_true rfl) (c_X10_ofStall (d + 2) (K := K) (I := I9) H0 h12) ?_
  refine x_iconst 2 dX10_returns_43 rfl ?_
  refine x_isub dX10_returns_44 ?_
  refine x_mmax ms_X10_363 (Nat.le_of_ble_eq_true rfl) (by show 1 ≤ (d + 3); omega) dX10_returns_45 ?_
  obtain ⟨I13, h14, h⟩ := b1_s h
  refine z_V0 [.int v1, .int 2, .int (if 0 < (v11 - 2) then (v11 - 2) else 0)] [] (cs_X10_129 _) (ci := 8) rfl (MK.o H0) (dep (show d + 2 + 0 + 1 ≤ (d + 3) from by omega) (Nat.le_of_ble_eq_true rfl)) dX10_returns_48 rfl rfl (Nat.le_of_ble_eq_true rfl) (c_X10_putsStall (d + 2) (K := K) (I := I9) H0 h14) ?_
  refine x_iloadn dX10_returns_51 rfl ?_
  cases h
  exact x_iret rfl dX10_returns_52 ⟨rfl, rfl, rfl⟩
noncomputable def f_X10_whyReturn (I : Mem) (x0 : Nat) (x1 : Int32) : Option (Int32) := b1 (f_X10_isOwned I x0 x1) fun v1 => if v1 = 0 then (some (1)) else (b1 (f_X10_ofWish I x0 x1 5) fun v3 => if v3 = (-1) then (some (1)) else (b1 (ix 1 355) fun j5 => b1 (f_X10_ofWish I x0 x1 5) fun v6 => b1 (ix 5 355) fun j8 => if ((I (x0 + 1) j5) - v6) ≤ (I (x0 + 1) j8) then (b1 (f_X10_ofWish I x0 x1 7) fun v9 => b1 (f_X10_isFull I x0 v9) fun v11 => if v11 = 0 then (b1 (f_X10_ofWish I x0 x1 7) fun v13 => b1 (f_X10_ofStall I x0 v13 1) fun v15 => b1 (f_X10_refundOf I x0 x1) fun v17 => if v17 ≤ v15 then (some (0)) else (some (4))) else (some (3))) else (some (2))))
theorem c_X10_whyReturn (d : Nat) {K : Kt} {I : Mem} {x0 : Nat} (H0 : MK K x0) {x1 : Int32} {v : Int32} (h : f_X10_whyReturn I x0 x1 = some v) : Ct (mX10_whyReturn (d + 4)) cX10_whyReturn 0 0 [.ref x0, .int x1] I K (Ro (.inl (some (.int v))) I K) := by
  refine Ct.of rfl pn_X10 (catR (catI cat0)) (Nat.le_of_ble_eq_true rfl) (show X _ _ _ _ _ _ 0 [.ref x0, .int x1] [] _ from ?_)
  unfold f_X10_whyReturn at h
  refine x_aloadn dX10_whyReturn_0 rfl ?_
  refine x_iloadn dX10_whyReturn_1 rfl ?_
  obtain ⟨v1, h2, h⟩ := b1_s h
  refine z_V1 [.int x1] [] (cs_X10_221 _) (ci := 8) rfl (MK.o H0) (dep (show d + 2 + 1 + 1 ≤ (d + 4) from by omega) (Nat.le_of_ble_eq_true rfl)) dX10_whyReturn_2 rfl rfl (Nat.le_of_ble_eq_true rfl) (c_X10_isOwned (d + 2) (K := K) (I := I) H0 h2) ?_
  refine x_if_eq 18 dX10_whyReturn_5 rfl (fun hc => ?_) (fun hc => ?_)
  · have h := ifT hc h
    refine x_iconst 1 dX10_whyReturn_18 rfl ?_
    cases h
    exact x_iret rfl dX10_whyReturn_19 ⟨rfl, rfl, rfl⟩
  have h := ifF hc h
  refine x_aloadn dX10_whyReturn_8 rfl ?_
  refine x_iloadn dX10_whyReturn_9 rfl ?_
  refine x_iconst 5 dX10_whyReturn_10 rfl ?_
  obtain ⟨v3, h4, h⟩ := b1_s h
  refine z_V1 [.int x1, .int 5] [] (cs_X10_224 _) (ci := 8) rfl (MK.o H0) (dep (show d + 3 + 0 + 1 ≤ (d + 4) from by omega) (Nat.le_of_ble_eq_true rfl)) dX10_whyReturn_11 rfl rfl (Nat.le_of_ble_eq_true rfl) (c_X10_ofWish (d + 3) (K := K) (I := I) H0 h4) ?_
  refine x_iconst (-1) dX10_whyReturn_14 rfl ?_
  refine x_icmp_ne 20 dX10_whyReturn_15 rfl (fun hc => ?_) (fun hc => ?_)
  · have h := ifF hc h
    refine x_aloadn dX10_whyReturn_20 rfl ?_
    refine z_getR fs_X10_9 (MK.o H0) (MK.g1 H0) dX10_whyReturn_21 ?_
    refine x_iconst 1 dX10_whyReturn_24 rfl ?_
    obtain ⟨j5, hj5, h⟩ := b1_s h
    refine z_iald (MK.l1 H0) hj5 dX10_whyReturn_25 ?_
    refine x_aloadn dX10_whyReturn_26 rfl ?_
    refine x_iloadn dX10_whyReturn_27 rfl ?_
    refine x_iconst 5 dX10_whyReturn_28 rfl ?_
    obtain ⟨v6, h7, h⟩ := b1_s h
    refine z_V1 [.int x1, .int 5] [.int (I (x0 + 1) j5)] (cs_X10_224 _) (ci := 8) rfl (MK.o H0) (dep (show d + 3 + 0 + 1 ≤ (d + 4) from by omega) (Nat.le_of_ble_eq_true rfl)) dX10_whyReturn_29 rfl rfl (Nat.le_of_ble_eq_true rfl) (c_X10_ofWish (d + 3) (K := K) (I := I) H0 h7) ?_
    refine x_isub dX10_whyReturn_32 ?_
    refine x_aloadn dX10_whyReturn_33 rfl ?_
    refine z_getR fs_X10_9 (MK.o H0) (MK.g1 H0) dX10_whyReturn_34 ?_
    refine x_iconst 5 dX10_whyReturn_37 rfl ?_
    obtain ⟨j8, hj8, h⟩ := b1_s h
    refine z_iald (MK.l1 H0) hj8 dX10_whyReturn_38 ?_
    refine x_icmp_le 44 dX10_whyReturn_39 rfl (fun hc => ?_) (fun hc => ?_)
    · have h := ifT hc h
      refine x_aloadn dX10_whyReturn_44 rfl ?_
      refine x_aloadn dX10_whyReturn_45 rfl ?_
      refine x_iloadn dX10_whyReturn_46 rfl ?_
      refine x_bipush 7 dX10_whyReturn_47 rfl ?_
      obtain ⟨v9, h10, h⟩ := b1_s h
      refine z_V1 [.int x1, .int 7] [.ref x0] (cs_X10_224 _) (ci := 8) rfl (MK.o H0) (dep (show d + 3 + 0 + 1 ≤ (d + 4) from by omega) (Nat.le_of_ble_eq_true rfl)) dX10_whyReturn_49 rfl rfl (Nat.le_of_ble_eq_true rfl) (c_X10_ofWish (d + 3) (K := K) (I := I) H0 h10) ?_
      obtain ⟨v11, h12, h⟩ := b1_s h
      refine z_V1 [.int v9] [] (cs_X10_174 _) (ci := 8) rfl (MK.o H0) (dep (show d + 0 + 3 + 1 ≤ (d + 4) from by omega) (Nat.le_of_ble_eq_true rfl)) dX10_whyReturn_52 rfl rfl (Nat.le_of_ble_eq_true rfl) (c_X10_isFull d (K := K) (I := I) H0 h12) ?_
      refine x_if_eq 60 dX10_whyReturn_55 rfl (fun hc => ?_) (fun hc => ?_)
      · have h := ifT hc h
        refine x_aloadn dX10_whyReturn_60 rfl ?_
        refine x_aloadn dX10_whyReturn_61 rfl ?_
        refine x_iloadn dX10_whyReturn_62 rfl ?_
        refine x_bipush 7 dX10_whyReturn_63 rfl ?_
        obtain ⟨v13, h14, h⟩ := b1_s h
        refine z_V1 [.int x1, .int 7] [.ref x0] (cs_X10_224 _) (ci := 8) rfl (MK.o H0) (dep (show d + 3 + 0 + 1 ≤ (d + 4) from by omega) (Nat.le_of_ble_eq_true rfl)) dX10_whyReturn_65 rfl rfl (Nat.le_of_ble_eq_true rfl) (c_X10_ofWish (d + 3) (K := K) (I := I) H0 h14) ?_
        refine x_iconst 1 dX10_whyReturn_68 rfl ?_
        obtain ⟨v15, h16, h⟩ := b1_s h
        refine z_V1 [.int v13, .int 1] [] (cs_X10_356 _) (ci := 8) rfl (MK.o H0) (dep (show d + 3 + 0 + 1 ≤ (d + 4) from by omega) (Nat.le_of_ble_eq_true rfl)) dX10_whyReturn_69 rfl rfl (Nat.le_of_ble_eq_true rfl) (c_X10_ofStall (d + 3) (K := K) (I := I) H0 h16) ?_
        refine x_aloadn dX10_whyReturn_72 rfl ?_
        refine x_iloadn dX10_whyReturn_73 rfl ?_
        obtain ⟨v17, h18, h⟩ := b1_s h
        refine z_V1 [.int x1] [.int v15] (cs_X10_374 _) (ci := 8) rfl (MK.o H0) (dep (show d + 2 + 1 + 1 ≤ (d + 4) from by omega) (Nat.le_of_ble_eq_true rfl)) dX10_whyReturn_74 rfl rfl (Nat.le_of_ble_eq_true rfl) (c_X10_refundOf (d + 2) (K := K) (I := I) H0 h18) ?_
        refine x_icmp_ge 84 dX10_whyReturn_77 rfl (fun hc => ?_) (fun hc => ?_)
        · have h := ifT hc h
          refine x_iconst 0 dX10_whyReturn_84 rfl ?_
          cases h
          exact x_iret rfl dX10_whyReturn_85 ⟨rfl, rfl, rfl⟩
        have h := ifF hc h
        refine x_iconst 4 dX10_whyReturn_80 rfl ?_
        refine x_goto 85 dX10_whyReturn_81 rfl ?_
        cases h
        exact x_iret rfl dX10_whyReturn_85 ⟨rfl, rfl, rfl⟩
      have h := ifF hc h
      refine x_iconst 3 dX10_whyReturn_58 rfl ?_
      cases h
      exact x_iret rfl dX10_whyReturn_59 ⟨rfl, rfl, rfl⟩
    have h := ifF hc h
    refine x_iconst 2 dX10_whyReturn_42 rfl ?_
    cases h
    exact x_iret rfl dX10_whyReturn_43 ⟨rfl, rfl, rfl⟩
  have h := ifT hc h
  refine x_iconst 1 dX10_whyReturn_18 rfl ?_
  cases h
  exact x_iret rfl dX10_whyReturn_19 ⟨rfl, rfl, rfl⟩
noncomputable def l_X10_readsReturn_46 (I : Mem) (x0 : Nat) : Option (Mem) := b1 (f_X10_goes I x0) fun I8 => some (I8)
theorem tl_X10_readsReturn_46 (d : Nat) {K : Kt} : ∀ {I : Mem} {x0 : Nat} (H0 : MK K x0) {I9 : Mem}, l_X10_readsReturn_46 I x0 = some I9 → X (mX10_readsReturn (d + 5)) cX10_readsReturn 0 0 I K 46 [.ref x0, .retAddr 0] [] (Ro (.inl none) I9 K) := by
  intro I x0 H0 I9 h
  unfold l_X10_readsReturn_46 at h
  refine x_aloadn dX10_readsReturn_46 rfl ?_
  obtain ⟨I8, h9, h⟩ := b1_s h
  refine z_V0 [] [] (cs_X10_115 _) (ci := 8) rfl (MK.o H0) (dep (show d + 2 + 2 + 1 ≤ (d + 5) from by omega) (Nat.le_of_ble_eq_true rfl)) dX10_readsReturn_47 rfl rfl (Nat.le_of_ble_eq_true rfl) (c_X10_goes (d + 2) (K := K) (I := I) H0 h9) ?_
  cases h
  exact x_vret rfl dX10_readsReturn_50 ⟨rfl, rfl, rfl⟩
noncomputable def l_X10_readsReturn_30 (I : Mem) (x0 : Nat) (x1 : Int32) (y0 : Int32) : Option (Mem) := b1 (f_X10_refuses I x0 y0) fun I6 => if (I6 x0 10) = 0 then (b2 (f_X10_returns I6 x0 x1) fun v10 I11 => l_X10_readsReturn_46 I11 x0) else (l_X10_readsReturn_46 I6 x0)
theorem tl_X10_readsReturn_30 (d : Nat) {K : Kt} : ∀ {I : Mem} {x0 : Nat} (H0 : MK K x0) {x1 : Int32} {y0 : Int32} {I9 : Mem}, l_X10_readsReturn_30 I x0 x1 y0 = some I9 → X (mX10_readsReturn (d + 5)) cX10_readsReturn 0 0 I K 30 [.ref x0, .int x1] [.int y0, .ref x0] (Ro (.inl none) I9 K) := by
  intro I x0 H0 x1 y0 I9 h
  unfold l_X10_readsReturn_30 at h
  obtain ⟨I6, h7, h⟩ := b1_s h
  refine z_V0 [.int y0] [] (cs_X10_154 _) (ci := 8) rfl (MK.o H0) (dep (show d + 3 + 1 + 1 ≤ (d + 5) from by omega) (Nat.le_of_ble_eq_true rfl)) dX10_readsReturn_30 rfl rfl (Nat.le_of_ble_eq_true rfl) (c_X10_refuses (d + 3) (K := K) (I := I) H0 h7) ?_
  refine x_aloadn dX10_readsReturn_33 rfl ?_
  refine z_getI fs_X10_59 (MK.o H0) dX10_readsReturn_34 ?_
  refine x_if_ne 46 dX10_readsReturn_37 rfl (fun hc => ?_) (fun hc => ?_)
  · have h := ifF hc h
    exact X.forget (L' := [.ref x0, .retAddr 0]) ⟨Or.inl rfl, ⟨Or.inr rfl, trivial⟩⟩ (tl_X10_readsReturn_46 d H0 h)
  have h := ifT hc h
  refine x_aloadn dX10_readsReturn_40 rfl ?_
  refine x_iloadn dX10_readsReturn_41 rfl ?_
  obtain ⟨v10, I11, h12, h⟩ := b2_s h
  refine z_V1 [.int x1] [] (cs_X10_212 _) (ci := 8) rfl (MK.o H0) (dep (show d + 1 + 3 + 1 ≤ (d + 5) from by omega) (Nat.le_of_ble_eq_true rfl)) dX10_readsReturn_42 rfl rfl (Nat.le_of_ble_eq_true rfl) (c_X10_returns (d + 1) (K := K) (I := I6) H0 h12) ?_
  refine x_pop dX10_readsReturn_45 rfl ?_
  exact X.forget (L' := [.ref x0, .retAddr 0]) ⟨Or.inl rfl, ⟨Or.inr rfl, trivial⟩⟩ (tl_X10_readsReturn_46 d H0 h)
noncomputable def l_X10_readsReturn_29 (I : Mem) (x0 : Nat) (x1 : Int32) : Option (Mem) := l_X10_readsReturn_30 I x0 x1 0
theorem tl_X10_readsReturn_29 (d : Nat) {K : Kt} : ∀ {I : Mem} {x0 : Nat} (H0 : MK K x0) {x1 : Int32} {I9 : Mem}, l_X10_readsReturn_29 I x0 x1 = some I9 → X (mX10_readsReturn (d + 5)) cX10_readsReturn 0 0 I K 29 [.ref x0, .int x1] [.ref x0] (Ro (.inl none) I9 K) := by
  intro I x0 H0 x1 I9 h
  unfold l_X10_readsReturn_29 at h
  refine x_iconst 0 dX10_readsReturn_29 rfl ?_
  exact tl_X10_readsReturn_30 d H0 h
noncomputable def f_X10_readsReturn (I : Mem) (x0 : Nat) : Option (Mem) := b1 (f_X10_goes I x0) fun I1 => b2 (f_X10_wishHere I1 x0) fun v3 I4 => if (I4 x0 10) = 0 then (b1 (f_X10_whyReturn I4 x0 v3) fun v13 => if v13 = 0 then (l_X10_readsReturn_29 I4 x0 v3) else (l_X10_readsReturn_30 I4 x0 v3 1)) else (l_X10_readsReturn_29 I4 x0 v3)
theorem c_X10_readsReturn (d : Nat) {K : Kt} {I : Mem} {x0 : Nat} (H0 : MK K x0) {I9 : Mem} (h : f_X10_readsReturn I x0 = some I9) : Ct (mX10_readsReturn (d + 5)) cX10_readsReturn 0 0 [.ref x0] I K (Ro (.inl none) I9 K) := by
  refine Ct.of rfl pn_X10 (catR cat0) (Nat.le_of_ble_eq_true rfl) (show X _ _ _ _ _ _ 0 [.ref x0, .retAddr 0] [] _ from ?_)
  unfold f_X10_readsReturn at h
  refine x_aloadn dX10_readsReturn_0 rfl ?_
  obtain ⟨I1, h2, h⟩ := b1_s h
  refine z_V0 [] [] (cs_X10_115 _) (ci := 8) rfl (MK.o H0) (dep (show d + 2 + 2 + 1 ≤ (d + 5) from by omega) (Nat.le_of_ble_eq_true rfl)) dX10_readsReturn_1 rfl rfl (Nat.le_of_ble_eq_true rfl) (c_X10_goes (d + 2) (K := K) (I := I) H0 h2) ?_
  refine x_aloadn dX10_readsReturn_4 rfl ?_
  obtain ⟨v3, I4, h5, h⟩ := b2_s h
  refine z_V1 [] [] (cs_X10_194 _) (ci := 8) rfl (MK.o H0) (dep (show d + 2 + 2 + 1 ≤ (d + 5) from by omega) (Nat.le_of_ble_eq_true rfl)) dX10_readsReturn_5 rfl rfl (Nat.le_of_ble_eq_true rfl) (c_X10_wishHere (d + 2) (K := K) (I := I1) H0 h5) ?_
  refine x_istoren dX10_readsReturn_8 (Nat.le_of_ble_eq_true rfl) rfl rfl ?_
  refine x_aloadn dX10_readsReturn_9 rfl ?_
  refine x_aloadn dX10_readsReturn_10 rfl ?_
  refine z_getI fs_X10_59 (MK.o H0) dX10_readsReturn_11 ?_
  refine x_if_ne 29 dX10_readsReturn_14 rfl (fun hc => ?_) (fun hc => ?_)
  · have h := ifF hc h
    exact tl_X10_readsReturn_29 d H0 h
  have h := ifT hc h
  refine x_aloadn dX10_readsReturn_17 rfl ?_
  refine x_iloadn dX10_readsReturn_18 rfl ?_
  obtain ⟨v13, h14, h⟩ := b1_s h
  refine z_V1 [.int v3] [.ref x0] (cs_X10_209 _) (ci := 8) rfl (MK.o H0) (dep (show d + 0 + 4 + 1 ≤ (d + 5) from by omega) (Nat.le_of_ble_eq_true rfl)) dX10_readsReturn_19 rfl rfl (Nat.le_of_ble_eq_true rfl) (c_X10_whyReturn d (K := K) (I := I4) H0 h14) ?_
  refine x_if_eq 29 dX10_readsReturn_22 rfl (fun hc => ?_) (fun hc => ?_)
  · have h := ifT hc h
    exact tl_X10_readsReturn_29 d H0 h
  have h := ifF hc h
  refine x_iconst 1 dX10_readsReturn_25 rfl ?_
  refine x_goto 30 dX10_readsReturn_26 rfl ?_
  exact tl_X10_readsReturn_30 d H0 h
noncomputable def f_X10_valueOf (I : Mem) (x0 : Nat) (x1 : Int32) : Option (Int32) := b1 (f_X10_left I x0 x1) fun v1 => some ((v1 / 10))
theorem c_X10_valueOf (d : Nat) {K : Kt} {I : Mem} {x0 : Nat} (H0 : MK K x0) {x1 : Int32} {v : Int32} (h : f_X10_valueOf I x0 x1 = some v) : Ct (mX10_valueOf (d + 2)) cX10_valueOf 0 0 [.ref x0, .int x1] I K (Ro (.inl (some (.int v))) I K) := by
  refine Ct.of rfl pn_X10 (catR (catI cat0)) (Nat.le_of_ble_eq_true rfl) (show X _ _ _ _ _ _ 0 [.ref x0, .int x1] [] _ from ?_)
  unfold f_X10_valueOf at h
  refine x_aloadn dX10_valueOf_0 rfl ?_
  refine x_iloadn dX10_valueOf_1 rfl ?_
  obtain ⟨v1, h2, h⟩ := b1_s h
  refine z_V1 [.int x1] [] (cs_X10_359 _) (ci := 8) rfl (MK.o H0) (dep (show d + 0 + 1 + 1 ≤ (d + 2) from by omega) (Nat.le_of_ble_eq_true rfl)) dX10_valueOf_2 rfl rfl (Nat.le_of_ble_eq_true rfl) (c_X10_left d (K := K) (I := I) H0 h2) ?_
  refine x_bipush 10 dX10_valueOf_5 rfl ?_
  refine x_idiv dX10_valueOf_7 (by decide) ?_
  cases h
  exact x_iret rfl dX10_valueOf_8 ⟨rfl, rfl, rfl⟩
noncomputable def f_X10_grants (I : Mem) (x0 : Nat) (x1 : Int32) : Option (Int32 × Mem) := b1 (f_X10_ofWish I x0 x1 4) fun v1 => b1 (f_X10_ofPerson I x0 v1 3) fun v3 => b1 (f_X10_valueOf I x0 x1) fun v5 => b1 (f_X10_putsPerson I x0 v1 3 (v3 + v5)) fun I7 => b1 (f_X10_goesTo I7 x0 x1 2 (-1)) fun I9 => b1 (f_X10_ofPerson I9 x0 v1 3) fun v11 => some (v11, I9)
theorem c_X10_grants (d : Nat) {K : Kt} {I : Mem} {x0 : Nat} (H0 : MK K x0) {x1 : Int32} {v : Int32} {I9 : Mem} (h : f_X10_grants I x0 x1 = some (v, I9)) : Ct (mX10_grants (d + 3)) cX10_grants 0 0 [.ref x0, .int x1] I K (Ro (.inl (some (.int v))) I9 K) := by
  refine Ct.of rfl pn_X10 (catR (catI cat0)) (Nat.le_of_ble_eq_true rfl) (show X _ _ _ _ _ _ 0 [.ref x0, .int x1, .retAddr 0] [] _ from ?_)
  unfold f_X10_grants at h
  refine x_aloadn dX10_grants_0 rfl ?_
  refine x_iloadn dX10_grants_1 rfl ?_
  refine x_iconst 4 dX10_grants_2 rfl ?_
  obtain ⟨v1, h2, h⟩ := b1_s h
  refine z_V1 [.int x1, .int 4] [] (cs_X10_224 _) (ci := 8) rfl (MK.o H0) (dep (show d + 2 + 0 + 1 ≤ (d + 3) from by omega) (Nat.le_of_ble_eq_true rfl)) dX10_grants_3 rfl rfl (Nat.le_of_ble_eq_true rfl) (c_X10_ofWish (d + 2) (K := K) (I := I) H0 h2) ?_
  refine x_istoren dX10_grants_6 (Nat.le_of_ble_eq_true rfl) rfl rfl ?_
  refine x_aloadn dX10_grants_7 rfl ?_
  refine x_iloadn dX10_grants_8 rfl ?_
  refine x_iconst 3 dX10_grants_9 rfl ?_
  refine x_aloadn dX10_grants_10 rfl ?_
  refine x_iloadn dX10_grants_11 rfl ?_
  refine x_iconst 3 dX10_grants_12 rfl ?_
  obtain ⟨v3, h4, h⟩ := b1_s h
  refine z_V1 [.int v1, .int 3] [.int 3, .int v1, .ref x0] (cs_X10_141 _) (ci := 8) rfl (MK.o H0) (dep (show d + 2 + 0 + 1 ≤ (d + 3) from by omega) (Nat.le_of_ble_eq_true rfl)) dX10_grants_13 rfl rfl (Nat.le_of_ble_eq_true rfl) (c_X10_ofPerson (d + 2) (K := K) (I := I) H0 h4) ?_
  refine x_aloadn dX10_grants_16 rfl ?_
  refine x_iloadn dX10_grants_17 rfl ?_
  obtain ⟨v5, h6, h⟩ := b1_s h
  refine z_V1 [.int x1] [.int v3, .int 3, .int v1, .ref x0] (cs_X10_392 _) (ci := 8) rfl (MK.o H0) (dep (show d + 0 + 2 + 1 ≤ (d + 3) from by omega) (Nat.le_of_ble_eq_true rfl)) dX10_grants_18 rfl rfl (Nat.le_of_ble_eq_true rfl) (c_X10_valueOf d (K := K) (I := I) H0 h6) ?_
  refine x_iadd dX10_grants_21 ?_
  obtain ⟨I7, h8, h⟩ := b1_s h
  refine z_V0 [.int v1, .int 3, .int (v3 + v5)] [] (cs_X10_144 _) (ci := 8) rfl (MK.o H0) (dep (show d + 2 + 0 + 1 ≤ (d + 3) from by omega) (Nat.le_of_ble_eq_true rfl)) dX10_grants_22 rfl rfl (Nat.le_of_ble_eq_true rfl) (c_X10_putsPerson (d + 2) (K := K) (I := I) H0 h8) ?_
  refine x_aloadn dX10_grants_25 rfl ?_
  refine x_iloadn dX10_grants_26 rfl ?_
  refine x_iconst 2 dX10_grants_27 rfl ?_
  refine x_iconst (-1) dX10_grants_28 rfl ?_
  obtain ⟨I9, h10, h⟩ := b1_s h
  refine z_V0 [.int x1, .int 2, .int (-1)] [] (cs_X10_383 _) (ci := 8) rfl (MK.o H0) (dep (show d + 0 + 2 + 1 ≤ (d + 3) from by omega) (Nat.le_of_ble_eq_true rfl)) dX10_grants_29 rfl rfl (Nat.le_of_ble_eq_true rfl) (c_X10_goesTo d (K := K) (I := I7) H0 h10) ?_
  refine x_aloadn dX10_grants_32 rfl ?_
  refine x_iloadn dX10_grants_33 rfl ?_
  refine x_iconst 3 dX10_grants_34 rfl ?_
  obtain ⟨v11, h12, h⟩ := b1_s h
  refine z_V1 [.int v1, .int 3] [] (cs_X10_141 _) (ci := 8) rfl (MK.o H0) (dep (show d + 2 + 0 + 1 ≤ (d + 3) from by omega) (Nat.le_of_ble_eq_true rfl)) dX10_grants_35 rfl rfl (Nat.le_of_ble_eq_true rfl) (c_X10_ofPerson (d + 2) (K := K) (I := I9) H0 h12) ?_
  cases h
  exact x_iret rfl dX10_grants_38 ⟨rfl, rfl, rfl⟩
noncomputable def f_X10_today (I : Mem) (x0 : Nat) : Option (Int32) := b1 (ix 1 355) fun j1 => b1 (ix 0 355) fun j2 => b1 (nz (I (x0 + 1) j2)) fun _ => some (((I (x0 + 1) j1) - (I (x0 + 1) j1) / (I (x0 + 1) j2) * (I (x0 + 1) j2)))
theorem c_X10_today (d : Nat) {K : Kt} {I : Mem} {x0 : Nat} (H0 : MK K x0) {v : Int32} (h : f_X10_today I x0 = some v) : Ct (mX10_today d) cX10_today 0 0 [.ref x0] I K (Ro (.inl (some (.int v))) I K) := by
  refine Ct.of rfl pn_X10 (catR cat0) (Nat.le_of_ble_eq_true rfl) (show X _ _ _ _ _ _ 0 [.ref x0] [] _ from ?_)
  unfold f_X10_today at h
  refine x_aloadn dX10_today_0 rfl ?_
  refine z_getR fs_X10_9 (MK.o H0) (MK.g1 H0) dX10_today_1 ?_
  refine x_iconst 1 dX10_today_4 rfl ?_
  obtain ⟨j1, hj1, h⟩ := b1_s h
  refine z_iald (MK.l1 H0) hj1 dX10_today_5 ?_
  refine x_aloadn dX10_today_6 rfl ?_
  refine z_getR fs_X10_9 (MK.o H0) (MK.g1 H0) dX10_today_7 ?_
  refine x_iconst 0 dX10_today_10 rfl ?_
  obtain ⟨j2, hj2, h⟩ := b1_s h
  refine z_iald (MK.l1 H0) hj2 dX10_today_11 ?_
  obtain ⟨u3, hu3, h⟩ := b1_s h
  refine x_irem dX10_today_12 (nz_s hu3) ?_
  cases h
  exact x_iret rfl dX10_today_13 ⟨rfl, rfl, rfl⟩
noncomputable def f_X10_whyGrant (I : Mem) (x0 : Nat) (x1 : Int32) : Option (Int32) := b1 (f_X10_isOwned I x0 x1) fun v1 => if v1 = 0 then (some (1)) else (b1 (f_X10_ofWish I x0 x1 4) fun v3 => b1 (f_X10_ofPerson I x0 v3 1) fun v5 => b1 (f_X10_today I x0) fun v7 => if v5 = v7 then (b1 (f_X10_ofWish I x0 x1 4) fun v9 => b1 (f_X10_ofPerson I x0 v9 2) fun v11 => b1 (f_X10_ofWish I x0 x1 1) fun v13 => if v13 ≤ v11 then (some (0)) else (some (3))) else (some (2)))
theorem c_X10_whyGrant (d : Nat) {K : Kt} {I : Mem} {x0 : Nat} (H0 : MK K x0) {x1 : Int32} {v : Int32} (h : f_X10_whyGrant I x0 x1 = some v) : Ct (mX10_whyGrant (d + 2)) cX10_whyGrant 0 0 [.ref x0, .int x1] I K (Ro (.inl (some (.int v))) I K) := by
  refine Ct.of rfl pn_X10 (catR (catI cat0)) (Nat.le_of_ble_eq_true rfl) (show X _ _ _ _ _ _ 0 [.ref x0, .int x1] [] _ from ?_)
  unfold f_X10_whyGrant at h
  refine x_aloadn dX10_whyGrant_0 rfl ?_
  refine x_iloadn dX10_whyGrant_1 rfl ?_
  obtain ⟨v1, h2, h⟩ := b1_s h
  refine z_V1 [.int x1] [] (cs_X10_221 _) (ci := 8) rfl (MK.o H0) (dep (show d + 0 + 1 + 1 ≤ (d + 2) from by omega) (Nat.le_of_ble_eq_true rfl)) dX10_whyGrant_2 rfl rfl (Nat.le_of_ble_eq_true rfl) (c_X10_isOwned d (K := K) (I := I) H0 h2) ?_
  refine x_if_ne 10 dX10_whyGrant_5 rfl (fun hc => ?_) (fun hc => ?_)
  · have h := ifF hc h
    refine x_aloadn dX10_whyGrant_10 rfl ?_
    refine x_aloadn dX10_whyGrant_11 rfl ?_
    refine x_iloadn dX10_whyGrant_12 rfl ?_
    refine x_iconst 4 dX10_whyGrant_13 rfl ?_
    obtain ⟨v3, h4, h⟩ := b1_s h
    refine z_V1 [.int x1, .int 4] [.ref x0] (cs_X10_224 _) (ci := 8) rfl (MK.o H0) (dep (show d + 1 + 0 + 1 ≤ (d + 2) from by omega) (Nat.le_of_ble_eq_true rfl)) dX10_whyGrant_14 rfl rfl (Nat.le_of_ble_eq_true rfl) (c_X10_ofWish (d + 1) (K := K) (I := I) H0 h4) ?_
    refine x_iconst 1 dX10_whyGrant_17 rfl ?_
    obtain ⟨v5, h6, h⟩ := b1_s h
    refine z_V1 [.int v3, .int 1] [] (cs_X10_141 _) (ci := 8) rfl (MK.o H0) (dep (show d + 1 + 0 + 1 ≤ (d + 2) from by omega) (Nat.le_of_ble_eq_true rfl)) dX10_whyGrant_18 rfl rfl (Nat.le_of_ble_eq_true rfl) (c_X10_ofPerson (d + 1) (K := K) (I := I) H0 h6) ?_
    refine x_aloadn dX10_whyGrant_21 rfl ?_
    obtain ⟨v7, h8, h⟩ := b1_s h
    refine z_V1 [] [.int v5] (cs_X10_377 _) (ci := 8) rfl (MK.o H0) (dep (show d + 1 + 0 + 1 ≤ (d + 2) from by omega) (Nat.le_of_ble_eq_true rfl)) dX10_whyGrant_22 rfl rfl (Nat.le_of_ble_eq_true rfl) (c_X10_today (d + 1) (K := K) (I := I) H0 h8) ?_
    refine x_icmp_eq 30 dX10_whyGrant_25 rfl (fun hc => ?_) (fun hc => ?_)
    · have h := ifT hc h
      refine x_aloadn dX10_whyGrant_30 rfl ?_
      refine x_aloadn dX10_whyGrant_31 rfl ?_
      refine x_iloadn dX10_whyGrant_32 rfl ?_
      refine x_iconst 4 dX10_whyGrant_33 rfl ?_
      obtain ⟨v9, h10, h⟩ := b1_s h
      refine z_V1 [.int x1, .int 4] [.ref x0] (cs_X10_224 _) (ci := 8) rfl (MK.o H0) (dep (show d + 1 + 0 + 1 ≤ (d + 2) from by omega) (Nat.le_of_ble_eq_true rfl)) dX10_whyGrant_34 rfl rfl (Nat.le_of_ble_eq_true rfl) (c_X10_ofWish (d + 1) (K := K) (I := I) H0 h10) ?_
      refine x_iconst 2 dX10_whyGrant_37 rfl ?_
      obtain ⟨v11, h12, h⟩ := b1_s h
      refine z_V1 [.int v9, .int 2] [] (cs_X10_141 _) (ci := 8) rfl (MK.o H0) (dep (show d + 1 + 0 + 1 ≤ (d + 2) from by omega) (Nat.le_of_ble_eq_true rfl)) dX10_whyGrant_38 rfl rfl (Nat.le_of_ble_eq_true rfl) (c_X10_ofPerson (d + 1) (K := K) (I := I) H0 h12) ?_
      refine x_aloadn dX10_whyGrant_41 rfl ?_
      refine x_iloadn dX10_whyGrant_42 rfl ?_
      refine x_iconst 1 dX10_whyGrant_43 rfl ?_
      obtain ⟨v13, h14, h⟩ := b1_s h
      refine z_V1 [.int x1, .int 1] [.int v11] (cs_X10_224 _) (ci := 8) rfl (MK.o H0) (dep (show d + 1 + 0 + 1 ≤ (d + 2) from by omega) (Nat.le_of_ble_eq_true rfl)) dX10_whyGrant_44 rfl rfl (Nat.le_of_ble_eq_true rfl) (c_X10_ofWish (d + 1) (K := K) (I := I) H0 h14) ?_
      refine x_icmp_ge 54 dX10_whyGrant_47 rfl (fun hc => ?_) (fun hc => ?_)
      · have h := ifT hc h
        refine x_iconst 0 dX10_whyGrant_54 rfl ?_
        cases h
        exact x_iret rfl dX10_whyGrant_55 ⟨rfl, rfl, rfl⟩
      have h := ifF hc h
      refine x_iconst 3 dX10_whyGrant_50 rfl ?_
      refine x_goto 55 dX10_whyGrant_51 rfl ?_
      cases h
      exact x_iret rfl dX10_whyGrant_55 ⟨rfl, rfl, rfl⟩
    have h := ifF hc h
    refine x_iconst 2 dX10_whyGrant_28 rfl ?_
    cases h
    exact x_iret rfl dX10_whyGrant_29 ⟨rfl, rfl, rfl⟩
  have h := ifT hc h
  refine x_iconst 1 dX10_whyGrant_8 rfl ?_
  cases h
  exact x_iret rfl dX10_whyGrant_9 ⟨rfl, rfl, rfl⟩
noncomputable def l_X10_readsGrant_46 (I : Mem) (x0 : Nat) : Option (Mem) := b1 (f_X10_goes I x0) fun I8 => some (I8)
theorem tl_X10_readsGrant_46 (d : Nat) {K : Kt} : ∀ {I : Mem} {x0 : Nat} (H0 : MK K x0) {I9 : Mem}, l_X10_readsGrant_46 I x0 = some I9 → X (mX10_readsGrant (d + 4)) cX10_readsGrant 0 0 I K 46 [.ref x0, .retAddr 0] [] (Ro (.inl none) I9 K) := by
  intro I x0 H0 I9 h
  unfold l_X10_readsGrant_46 at h
  refine x_aloadn dX10_readsGrant_46 rfl ?_
  obtain ⟨I8, h9, h⟩ := b1_s h
  refine z_V0 [] [] (cs_X10_115 _) (ci := 8) rfl (MK.o H0) (dep (show d + 1 + 2 + 1 ≤ (d + 4) from by omega) (Nat.le_of_ble_eq_true rfl)) dX10_readsGrant_47 rfl rfl (Nat.le_of_ble_eq_true rfl) (c_X10_goes (d + 1) (K := K) (I := I) H0 h9) ?_
  cases h
  exact x_vret rfl dX10_readsGrant_50 ⟨rfl, rfl, rfl⟩
noncomputable def l_X10_readsGrant_30 (I : Mem) (x0 : Nat) (x1 : Int32) (y0 : Int32) : Option (Mem) := b1 (f_X10_refuses I x0 y0) fun I6 => if (I6 x0 10) = 0 then (b2 (f_X10_grants I6 x0 x1) fun v10 I11 => l_X10_readsGrant_46 I11 x0) else (l_X10_readsGrant_46 I6 x0)
theorem tl_X10_readsGrant_30 (d : Nat) {K : Kt} : ∀ {I : Mem} {x0 : Nat} (H0 : MK K x0) {x1 : Int32} {y0 : Int32} {I9 : Mem}, l_X10_readsGrant_30 I x0 x1 y0 = some I9 → X (mX10_readsGrant (d + 4)) cX10_readsGrant 0 0 I K 30 [.ref x0, .int x1] [.int y0, .ref x0] (Ro (.inl none) I9 K) := by
  intro I x0 H0 x1 y0 I9 h
  unfold l_X10_readsGrant_30 at h
  obtain ⟨I6, h7, h⟩ := b1_s h
  refine z_V0 [.int y0] [] (cs_X10_154 _) (ci := 8) rfl (MK.o H0) (dep (show d + 2 + 1 + 1 ≤ (d + 4) from by omega) (Nat.le_of_ble_eq_true rfl)) dX10_readsGrant_30 rfl rfl (Nat.le_of_ble_eq_true rfl) (c_X10_refuses (d + 2) (K := K) (I := I) H0 h7) ?_
  refine x_aloadn dX10_readsGrant_33 rfl ?_
  refine z_getI fs_X10_59 (MK.o H0) dX10_readsGrant_34 ?_
  refine x_if_ne 46 dX10_readsGrant_37 rfl (fun hc => ?_) (fun hc => ?_)
  · have h := ifF hc h
    exact X.forget (L' := [.ref x0, .retAddr 0]) ⟨Or.inl rfl, ⟨Or.inr rfl, trivial⟩⟩ (tl_X10_readsGrant_46 d H0 h)
  have h := ifT hc h
  refine x_aloadn dX10_readsGrant_40 rfl ?_
  refine x_iloadn dX10_readsGrant_41 rfl ?_
  obtain ⟨v10, I11, h12, h⟩ := b2_s h
  refine z_V1 [.int x1] [] (cs_X10_218 _) (ci := 8) rfl (MK.o H0) (dep (show d + 0 + 3 + 1 ≤ (d + 4) from by omega) (Nat.le_of_ble_eq_true rfl)) dX10_readsGrant_42 rfl rfl (Nat.le_of_ble_eq_true rfl) (c_X10_grants d (K := K) (I := I6) H0 h12) ?_
  refine x_pop dX10_readsGrant_45 rfl ?_
  exact X.forget (L' := [.ref x0, .retAddr 0]) ⟨Or.inl rfl, ⟨Or.inr rfl, trivial⟩⟩ (tl_X10_readsGrant_46 d H0 h)
noncomputable def l_X10_readsGrant_29 (I : Mem) (x0 : Nat) (x1 : Int32) : Option (Mem) := l_X10_readsGrant_30 I x0 x1 0
theorem tl_X10_readsGrant_29 (d : Nat) {K : Kt} : ∀ {I : Mem} {x0 : Nat} (H0 : MK K x0) {x1 : Int32} {I9 : Mem}, l_X10_readsGrant_29 I x0 x1 = some I9 → X (mX10_readsGrant (d + 4)) cX10_readsGrant 0 0 I K 29 [.ref x0, .int x1] [.ref x0] (Ro (.inl none) I9 K) := by
  intro I x0 H0 x1 I9 h
  unfold l_X10_readsGrant_29 at h
  refine x_iconst 0 dX10_readsGrant_29 rfl ?_
  exact tl_X10_readsGrant_30 d H0 h
noncomputable def f_X10_readsGrant (I : Mem) (x0 : Nat) : Option (Mem) := b1 (f_X10_goes I x0) fun I1 => b2 (f_X10_wishHere I1 x0) fun v3 I4 => if (I4 x0 10) = 0 then (b1 (f_X10_whyGrant I4 x0 v3) fun v13 => if v13 = 0 then (l_X10_readsGrant_29 I4 x0 v3) else (l_X10_readsGrant_30 I4 x0 v3 1)) else (l_X10_readsGrant_29 I4 x0 v3)
theorem c_X10_readsGrant (d : Nat) {K : Kt} {I : Mem} {x0 : Nat} (H0 : MK K x0) {I9 : Mem} (h : f_X10_readsGrant I x0 = some I9) : Ct (mX10_readsGrant (d + 4)) cX10_readsGrant 0 0 [.ref x0] I K (Ro (.inl none) I9 K) := by
  refine Ct.of rfl pn_X10 (catR cat0) (Nat.le_of_ble_eq_true rfl) (show X _ _ _ _ _ _ 0 [.ref x0, .retAddr 0] [] _ from ?_)
  unfold f_X10_readsGrant at h
  refine x_aloadn dX10_readsGrant_0 rfl ?_
  obtain ⟨I1, h2, h⟩ := b1_s h
  refine z_V0 [] [] (cs_X10_115 _) (ci := 8) rfl (MK.o H0) (dep (show d + 1 + 2 + 1 ≤ (d + 4) from by omega) (Nat.le_of_ble_eq_true rfl)) dX10_readsGrant_1 rfl rfl (Nat.le_of_ble_eq_true rfl) (c_X10_goes (d + 1) (K := K) (I := I) H0 h2) ?_
  refine x_aloadn dX10_readsGrant_4 rfl ?_
  obtain ⟨v3, I4, h5, h⟩ := b2_s h
  refine z_V1 [] [] (cs_X10_194 _) (ci := 8) rfl (MK.o H0) (dep (show d + 1 + 2 + 1 ≤ (d + 4) from by omega) (Nat.le_of_ble_eq_true rfl)) dX10_readsGrant_5 rfl rfl (Nat.le_of_ble_eq_true rfl) (c_X10_wishHere (d + 1) (K := K) (I := I1) H0 h5) ?_
  refine x_istoren dX10_readsGrant_8 (Nat.le_of_ble_eq_true rfl) rfl rfl ?_
  refine x_aloadn dX10_readsGrant_9 rfl ?_
  refine x_aloadn dX10_readsGrant_10 rfl ?_
  refine z_getI fs_X10_59 (MK.o H0) dX10_readsGrant_11 ?_
  refine x_if_ne 29 dX10_readsGrant_14 rfl (fun hc => ?_) (fun hc => ?_)
  · have h := ifF hc h
    exact tl_X10_readsGrant_29 d H0 h
  have h := ifT hc h
  refine x_aloadn dX10_readsGrant_17 rfl ?_
  refine x_iloadn dX10_readsGrant_18 rfl ?_
  obtain ⟨v13, h14, h⟩ := b1_s h
  refine z_V1 [.int v3] [.ref x0] (cs_X10_215 _) (ci := 8) rfl (MK.o H0) (dep (show d + 1 + 2 + 1 ≤ (d + 4) from by omega) (Nat.le_of_ble_eq_true rfl)) dX10_readsGrant_19 rfl rfl (Nat.le_of_ble_eq_true rfl) (c_X10_whyGrant (d + 1) (K := K) (I := I4) H0 h14) ?_
  refine x_if_eq 29 dX10_readsGrant_22 rfl (fun hc => ?_) (fun hc => ?_)
  · have h := ifT hc h
    exact tl_X10_readsGrant_29 d H0 h
  have h := ifF hc h
  refine x_iconst 1 dX10_readsGrant_25 rfl ?_
  refine x_goto 30 dX10_readsGrant_26 rfl ?_
  exact tl_X10_readsGrant_30 d H0 h
noncomputable def l_X10_readsRename_57 (I : Mem) (x0 : Nat) : Option (Mem) := b1 (f_X10_goes I x0) fun I15 => some (I15)
theorem tl_X10_readsRename_57 (d : Nat) {K : Kt} : ∀ {I : Mem} {x0 : Nat} (H0 : MK K x0) {I9 : Mem}, l_X10_readsRename_57 I x0 = some I9 → X (mX10_readsRename (d + 3)) cX10_readsRename 0 0 I K 57 [.ref x0, .retAddr 0] [] (Ro (.inl none) I9 K) := by
  intro I x0 H0 I9 h
  unfold l_X10_readsRename_57 at h
  refine x_aloadn dX10_readsRename_57 rfl ?_
  obtain ⟨I15, h16, h⟩ := b1_s h
  refine z_V0 [] [] (cs_X10_115 _) (ci := 8) rfl (MK.o H0) (dep (show d + 0 + 2 + 1 ≤ (d + 3) from by omega) (Nat.le_of_ble_eq_true rfl)) dX10_readsRename_58 rfl rfl (Nat.le_of_ble_eq_true rfl) (c_X10_goes d (K := K) (I := I) H0 h16) ?_
  cases h
  exact x_vret rfl dX10_readsRename_61 ⟨rfl, rfl, rfl⟩
noncomputable def f_X10_readsRename (I : Mem) (x0 : Nat) : Option (Mem) := b1 (f_X10_goes I x0) fun I1 => b2 (f_X10_wishHere I1 x0) fun v3 I4 => b1 (f_X10_goes I4 x0) fun I6 => b1 (f_X10_looksAtName I6 x0) fun I8 => b1 (ix 4 355) fun j10 => b1 (f_X10_isTaken I8 x0 (I8 (x0 + 1) j10) 123 15 v3) fun v11 => b1 (f_X10_refuses I8 x0 v11) fun I13 => if (I13 x0 10) = 0 then (b1 (f_X10_names I13 x0 ((115 + (15 * v3)) + 8)) fun I17 => l_X10_readsRename_57 I17 x0) else (l_X10_readsRename_57 I13 x0)
theorem c_X10_readsRename (d : Nat) {K : Kt} {I : Mem} {x0 : Nat} (H0 : MK K x0) {I9 : Mem} (h : f_X10_readsRename I x0 = some I9) : Ct (mX10_readsRename (d + 3)) cX10_readsRename 0 0 [.ref x0] I K (Ro (.inl none) I9 K) := by
  refine Ct.of rfl pn_X10 (catR cat0) (Nat.le_of_ble_eq_true rfl) (show X _ _ _ _ _ _ 0 [.ref x0, .retAddr 0] [] _ from ?_)
  unfold f_X10_readsRename at h
  refine x_aloadn dX10_readsRename_0 rfl ?_
  obtain ⟨I1, h2, h⟩ := b1_s h
  refine z_V0 [] [] (cs_X10_115 _) (ci := 8) rfl (MK.o H0) (dep (show d + 0 + 2 + 1 ≤ (d + 3) from by omega) (Nat.le_of_ble_eq_true rfl)) dX10_readsRename_1 rfl rfl (Nat.le_of_ble_eq_true rfl) (c_X10_goes d (K := K) (I := I) H0 h2) ?_
  refine x_aloadn dX10_readsRename_4 rfl ?_
  obtain ⟨v3, I4, h5, h⟩ := b2_s h
  refine z_V1 [] [] (cs_X10_194 _) (ci := 8) rfl (MK.o H0) (dep (show d + 0 + 2 + 1 ≤ (d + 3) from by omega) (Nat.le_of_ble_eq_true rfl)) dX10_readsRename_5 rfl rfl (Nat.le_of_ble_eq_true rfl) (c_X10_wishHere d (K := K) (I := I1) H0 h5) ?_
  refine x_istoren dX10_readsRename_8 (Nat.le_of_ble_eq_true rfl) rfl rfl ?_
  refine x_aloadn dX10_readsRename_9 rfl ?_
  obtain ⟨I6, h7, h⟩ := b1_s h
  refine z_V0 [] [] (cs_X10_115 _) (ci := 8) rfl (MK.o H0) (dep (show d + 0 + 2 + 1 ≤ (d + 3) from by omega) (Nat.le_of_ble_eq_true rfl)) dX10_readsRename_10 rfl rfl (Nat.le_of_ble_eq_true rfl) (c_X10_goes d (K := K) (I := I4) H0 h7) ?_
  refine x_aloadn dX10_readsRename_13 rfl ?_
  obtain ⟨I8, h9, h⟩ := b1_s h
  refine z_V0 [] [] (cs_X10_147 _) (ci := 8) rfl (MK.o H0) (dep (show d + 1 + 1 + 1 ≤ (d + 3) from by omega) (Nat.le_of_ble_eq_true rfl)) dX10_readsRename_14 rfl rfl (Nat.le_of_ble_eq_true rfl) (c_X10_looksAtName (d + 1) (K := K) (I := I6) H0 h9) ?_
  refine x_aloadn dX10_readsRename_17 rfl ?_
  refine x_aloadn dX10_readsRename_18 rfl ?_
  refine x_aloadn dX10_readsRename_19 rfl ?_
  refine z_getR fs_X10_9 (MK.o H0) (MK.g1 H0) dX10_readsRename_20 ?_
  refine x_iconst 4 dX10_readsRename_23 rfl ?_
  obtain ⟨j10, hj10, h⟩ := b1_s h
  refine z_iald (MK.l1 H0) hj10 dX10_readsRename_24 ?_
  refine x_bipush 123 dX10_readsRename_25 rfl ?_
  refine x_bipush 15 dX10_readsRename_27 rfl ?_
  refine x_iloadn dX10_readsRename_29 rfl ?_
  obtain ⟨v11, h12, h⟩ := b1_s h
  refine z_V1 [.int (I8 (x0 + 1) j10), .int 123, .int 15, .int v3] [.ref x0] (cs_X10_150 _) (ci := 8) rfl (MK.o H0) (dep (show d + 1 + 1 + 1 ≤ (d + 3) from by omega) (Nat.le_of_ble_eq_true rfl)) dX10_readsRename_30 rfl rfl (Nat.le_of_ble_eq_true rfl) (c_X10_isTaken (d + 1) (K := K) (I := I8) H0 h12) ?_
  obtain ⟨I13, h14, h⟩ := b1_s h
  refine z_V0 [.int v11] [] (cs_X10_154 _) (ci := 8) rfl (MK.o H0) (dep (show d + 1 + 1 + 1 ≤ (d + 3) from by omega) (Nat.le_of_ble_eq_true rfl)) dX10_readsRename_33 rfl rfl (Nat.le_of_ble_eq_true rfl) (c_X10_refuses (d + 1) (K := K) (I := I8) H0 h14) ?_
  refine x_aloadn dX10_readsRename_36 rfl ?_
  refine z_getI fs_X10_59 (MK.o H0) dX10_readsRename_37 ?_
  refine x_if_ne 57 dX10_readsRename_40 rfl (fun hc => ?_) (fun hc => ?_)
  · have h := ifF hc h
    exact X.forget (L' := [.ref x0, .retAddr 0]) ⟨Or.inl rfl, ⟨Or.inr rfl, trivial⟩⟩ (tl_X10_readsRename_57 d H0 h)
  have h := ifT hc h
  refine x_aloadn dX10_readsRename_43 rfl ?_
  refine x_bipush 115 dX10_readsRename_44 rfl ?_
  refine x_bipush 15 dX10_readsRename_46 rfl ?_
  refine x_iloadn dX10_readsRename_48 rfl ?_
  refine x_imul dX10_readsRename_49 ?_
  refine x_iadd dX10_readsRename_50 ?_
  refine x_bipush 8 dX10_readsRename_51 rfl ?_
  refine x_iadd dX10_readsRename_53 ?_
  obtain ⟨I17, h18, h⟩ := b1_s h
  refine z_V0 [.int ((115 + (15 * v3)) + 8)] [] (cs_X10_158 _) (ci := 8) rfl (MK.o H0) (dep (show d + 2 + 0 + 1 ≤ (d + 3) from by omega) (Nat.le_of_ble_eq_true rfl)) dX10_readsRename_54 rfl rfl (Nat.le_of_ble_eq_true rfl) (c_X10_names (d + 2) (K := K) (I := I13) H0 h18) ?_
  exact X.forget (L' := [.ref x0, .retAddr 0]) ⟨Or.inl rfl, ⟨Or.inr rfl, trivial⟩⟩ (tl_X10_readsRename_57 d H0 h)
noncomputable def l_X10_readsSwap_68 (I : Mem) (x0 : Nat) (x1 : Int32) (x2 : Int32) (y0 : Int32) : Option (Mem) := b1 (f_X10_refuses I x0 y0) fun I13 => b1 (f_X10_goes I13 x0) fun I15 => if (I15 x0 10) ≤ 0 then (b1 (f_X10_ofWish I15 x0 x1 4) fun v17 => b1 (f_X10_ofWish I15 x0 x2 4) fun v19 => b1 (f_X10_putsWish I15 x0 x1 4 v19) fun I21 => b1 (f_X10_putsWish I21 x0 x2 4 v17) fun I23 => b1 (f_X10_forgets I23 x0 x1) fun I25 => b1 (f_X10_forgets I25 x0 x2) fun I27 => some (I27)) else (some (I15))
theorem tl_X10_readsSwap_68 (d : Nat) {K : Kt} : ∀ {I : Mem} {x0 : Nat} (H0 : MK K x0) {x1 : Int32} {x2 : Int32} {y0 : Int32} {I9 : Mem}, l_X10_readsSwap_68 I x0 x1 x2 y0 = some I9 → X (mX10_readsSwap (d + 3)) cX10_readsSwap 0 0 I K 68 [.ref x0, .int x1, .int x2, .retAddr 0] [.int y0, .ref x0] (Ro (.inl none) I9 K) := by
  intro I x0 H0 x1 x2 y0 I9 h
  unfold l_X10_readsSwap_68 at h
  obtain ⟨I13, h14, h⟩ := b1_s h
  refine z_V0 [.int y0] [] (cs_X10_154 _) (ci := 8) rfl (MK.o H0) (dep (show d + 1 + 1 + 1 ≤ (d + 3) from by omega) (Nat.le_of_ble_eq_true rfl)) dX10_readsSwap_68 rfl rfl (Nat.le_of_ble_eq_true rfl) (c_X10_refuses (d + 1) (K := K) (I := I) H0 h14) ?_
  refine x_aloadn dX10_readsSwap_71 rfl ?_
  obtain ⟨I15, h16, h⟩ := b1_s h
  refine z_V0 [] [] (cs_X10_115 _) (ci := 8) rfl (MK.o H0) (dep (show d + 0 + 2 + 1 ≤ (d + 3) from by omega) (Nat.le_of_ble_eq_true rfl)) dX10_readsSwap_72 rfl rfl (Nat.le_of_ble_eq_true rfl) (c_X10_goes d (K := K) (I := I13) H0 h16) ?_
  refine x_aloadn dX10_readsSwap_75 rfl ?_
  refine z_getI fs_X10_59 (MK.o H0) dX10_readsSwap_76 ?_
  refine x_if_le 83 dX10_readsSwap_79 rfl (fun hc => ?_) (fun hc => ?_)
  · have h := ifT hc h
    refine x_aloadn dX10_readsSwap_83 rfl ?_
    refine x_iloadn dX10_readsSwap_84 rfl ?_
    refine x_iconst 4 dX10_readsSwap_85 rfl ?_
    obtain ⟨v17, h18, h⟩ := b1_s h
    refine z_V1 [.int x1, .int 4] [] (cs_X10_224 _) (ci := 8) rfl (MK.o H0) (dep (show d + 2 + 0 + 1 ≤ (d + 3) from by omega) (Nat.le_of_ble_eq_true rfl)) dX10_readsSwap_86 rfl rfl (Nat.le_of_ble_eq_true rfl) (c_X10_ofWish (d + 2) (K := K) (I := I15) H0 h18) ?_
    refine x_istoren dX10_readsSwap_89 (Nat.le_of_ble_eq_true rfl) rfl rfl ?_
    refine x_aloadn dX10_readsSwap_90 rfl ?_
    refine x_iloadn dX10_readsSwap_91 rfl ?_
    refine x_iconst 4 dX10_readsSwap_92 rfl ?_
    refine x_aloadn dX10_readsSwap_93 rfl ?_
    refine x_iloadn dX10_readsSwap_94 rfl ?_
    refine x_iconst 4 dX10_readsSwap_95 rfl ?_
    obtain ⟨v19, h20, h⟩ := b1_s h
    refine z_V1 [.int x2, .int 4] [.int 4, .int x1, .ref x0] (cs_X10_224 _) (ci := 8) rfl (MK.o H0) (dep (show d + 2 + 0 + 1 ≤ (d + 3) from by omega) (Nat.le_of_ble_eq_true rfl)) dX10_readsSwap_96 rfl rfl (Nat.le_of_ble_eq_true rfl) (c_X10_ofWish (d + 2) (K := K) (I := I15) H0 h20) ?_
    obtain ⟨I21, h22, h⟩ := b1_s h
    refine z_V0 [.int x1, .int 4, .int v19] [] (cs_X10_180 _) (ci := 8) rfl (MK.o H0) (dep (show d + 2 + 0 + 1 ≤ (d + 3) from by omega) (Nat.le_of_ble_eq_true rfl)) dX10_readsSwap_99 rfl rfl (Nat.le_of_ble_eq_true rfl) (c_X10_putsWish (d + 2) (K := K) (I := I15) H0 h22) ?_
    refine x_aloadn dX10_readsSwap_102 rfl ?_
    refine x_iloadn dX10_readsSwap_103 rfl ?_
    refine x_iconst 4 dX10_readsSwap_104 rfl ?_
    refine x_iloadn dX10_readsSwap_105 rfl ?_
    obtain ⟨I23, h24, h⟩ := b1_s h
    refine z_V0 [.int x2, .int 4, .int v17] [] (cs_X10_180 _) (ci := 8) rfl (MK.o H0) (dep (show d + 2 + 0 + 1 ≤ (d + 3) from by omega) (Nat.le_of_ble_eq_true rfl)) dX10_readsSwap_106 rfl rfl (Nat.le_of_ble_eq_true rfl) (c_X10_putsWish (d + 2) (K := K) (I := I21) H0 h24) ?_
    refine x_aloadn dX10_readsSwap_109 rfl ?_
    refine x_iloadn dX10_readsSwap_110 rfl ?_
    obtain ⟨I25, h26, h⟩ := b1_s h
    refine z_V0 [.int x1] [] (cs_X10_188 _) (ci := 8) rfl (MK.o H0) (dep (show d + 1 + 1 + 1 ≤ (d + 3) from by omega) (Nat.le_of_ble_eq_true rfl)) dX10_readsSwap_111 rfl rfl (Nat.le_of_ble_eq_true rfl) (c_X10_forgets (d + 1) (K := K) (I := I23) H0 h26) ?_
    refine x_aloadn dX10_readsSwap_114 rfl ?_
    refine x_iloadn dX10_readsSwap_115 rfl ?_
    obtain ⟨I27, h28, h⟩ := b1_s h
    refine z_V0 [.int x2] [] (cs_X10_188 _) (ci := 8) rfl (MK.o H0) (dep (show d + 1 + 1 + 1 ≤ (d + 3) from by omega) (Nat.le_of_ble_eq_true rfl)) dX10_readsSwap_116 rfl rfl (Nat.le_of_ble_eq_true rfl) (c_X10_forgets (d + 1) (K := K) (I := I25) H0 h28) ?_
    cases h
    exact x_vret rfl dX10_readsSwap_119 ⟨rfl, rfl, rfl⟩
  have h := ifF hc h
  cases h
  exact x_vret rfl dX10_readsSwap_82 ⟨rfl, rfl, rfl⟩
noncomputable def l_X10_readsSwap_67 (I : Mem) (x0 : Nat) (x1 : Int32) (x2 : Int32) : Option (Mem) := l_X10_readsSwap_68 I x0 x1 x2 0
theorem tl_X10_readsSwap_67 (d : Nat) {K : Kt} : ∀ {I : Mem} {x0 : Nat} (H0 : MK K x0) {x1 : Int32} {x2 : Int32} {I9 : Mem}, l_X10_readsSwap_67 I x0 x1 x2 = some I9 → X (mX10_readsSwap (d + 3)) cX10_readsSwap 0 0 I K 67 [.ref x0, .int x1, .int x2, .retAddr 0] [.ref x0] (Ro (.inl none) I9 K) := by
  intro I x0 H0 x1 x2 I9 h
  unfold l_X10_readsSwap_67 at h
  refine x_iconst 0 dX10_readsSwap_67 rfl ?_
  exact tl_X10_readsSwap_68 d H0 h
noncomputable def l_X10_readsSwap_63 (I : Mem) (x0 : Nat) (x1 : Int32) (x2 : Int32) : Option (Mem) := l_X10_readsSwap_68 I x0 x1 x2 1
theorem tl_X10_readsSwap_63 (d : Nat) {K : Kt} : ∀ {I : Mem} {x0 : Nat} (H0 : MK K x0) {x1 : Int32} {x2 : Int32} {I9 : Mem}, l_X10_readsSwap_63 I x0 x1 x2 = some I9 → X (mX10_readsSwap (d + 3)) cX10_readsSwap 0 0 I K 63 [.ref x0, .int x1, .int x2, .retAddr 0] [.ref x0] (Ro (.inl none) I9 K) := by
  intro I x0 H0 x1 x2 I9 h
  unfold l_X10_readsSwap_63 at h
  refine x_iconst 1 dX10_readsSwap_63 rfl ?_
  refine x_goto 68 dX10_readsSwap_64 rfl ?_
  exact tl_X10_readsSwap_68 d H0 h
noncomputable def l_X10_readsSwap_30 (I : Mem) (x0 : Nat) (x1 : Int32) (y0 : Int32) : Option (Mem) := b1 (f_X10_refuses I x0 y0) fun I6 => b1 (f_X10_goes I6 x0) fun I8 => b2 (f_X10_wishHere I8 x0) fun v10 I11 => if (I11 x0 10) = 0 then (b1 (f_X10_isOwned I11 x0 v10) fun v29 => if v29 = 0 then (l_X10_readsSwap_63 I11 x0 x1 v10) else (if v10 = x1 then (l_X10_readsSwap_63 I11 x0 x1 v10) else (l_X10_readsSwap_67 I11 x0 x1 v10))) else (l_X10_readsSwap_67 I11 x0 x1 v10)
theorem tl_X10_readsSwap_30 (d : Nat) {K : Kt} : ∀ {I : Mem} {x0 : Nat} (H0 : MK K x0) {x1 : Int32} {y0 : Int32} {I9 : Mem}, l_X10_readsSwap_30 I x0 x1 y0 = some I9 → X (mX10_readsSwap (d + 3)) cX10_readsSwap 0 0 I K 30 [.ref x0, .int x1, .retAddr 0, .retAddr 0] [.int y0, .ref x0] (Ro (.inl none) I9 K) := by
  intro I x0 H0 x1 y0 I9 h
  unfold l_X10_readsSwap_30 at h
  obtain ⟨I6, h7, h⟩ := b1_s h
  refine z_V0 [.int y0] [] (cs_X10_154 _) (ci := 8) rfl (MK.o H0) (dep (show d + 1 + 1 + 1 ≤ (d + 3) from by omega) (Nat.le_of_ble_eq_true rfl)) dX10_readsSwap_30 rfl rfl (Nat.le_of_ble_eq_true rfl) (c_X10_refuses (d + 1) (K := K) (I := I) H0 h7) ?_
  refine x_aloadn dX10_readsSwap_33 rfl ?_
  obtain ⟨I8, h9, h⟩ := b1_s h
  refine z_V0 [] [] (cs_X10_115 _) (ci := 8) rfl (MK.o H0) (dep (show d + 0 + 2 + 1 ≤ (d + 3) from by omega) (Nat.le_of_ble_eq_true rfl)) dX10_readsSwap_34 rfl rfl (Nat.le_of_ble_eq_true rfl) (c_X10_goes d (K := K) (I := I6) H0 h9) ?_
  refine x_aloadn dX10_readsSwap_37 rfl ?_
  obtain ⟨v10, I11, h12, h⟩ := b2_s h
  refine z_V1 [] [] (cs_X10_194 _) (ci := 8) rfl (MK.o H0) (dep (show d + 0 + 2 + 1 ≤ (d + 3) from by omega) (Nat.le_of_ble_eq_true rfl)) dX10_readsSwap_38 rfl rfl (Nat.le_of_ble_eq_true rfl) (c_X10_wishHere d (K := K) (I := I8) H0 h12) ?_
  refine x_istoren dX10_readsSwap_41 (Nat.le_of_ble_eq_true rfl) rfl rfl ?_
  refine x_aloadn dX10_readsSwap_42 rfl ?_
  refine x_aloadn dX10_readsSwap_43 rfl ?_
  refine z_getI fs_X10_59 (MK.o H0) dX10_readsSwap_44 ?_
  refine x_if_ne 67 dX10_readsSwap_47 rfl (fun hc => ?_) (fun hc => ?_)
  · have h := ifF hc h
    exact tl_X10_readsSwap_67 d H0 h
  have h := ifT hc h
  refine x_aloadn dX10_readsSwap_50 rfl ?_
  refine x_iloadn dX10_readsSwap_51 rfl ?_
  obtain ⟨v29, h30, h⟩ := b1_s h
  refine z_V1 [.int v10] [.ref x0] (cs_X10_221 _) (ci := 8) rfl (MK.o H0) (dep (show d + 1 + 1 + 1 ≤ (d + 3) from by omega) (Nat.le_of_ble_eq_true rfl)) dX10_readsSwap_52 rfl rfl (Nat.le_of_ble_eq_true rfl) (c_X10_isOwned (d + 1) (K := K) (I := I11) H0 h30) ?_
  refine x_if_eq 63 dX10_readsSwap_55 rfl (fun hc => ?_) (fun hc => ?_)
  · have h := ifT hc h
    exact tl_X10_readsSwap_63 d H0 h
  have h := ifF hc h
  refine x_iloadn dX10_readsSwap_58 rfl ?_
  refine x_iloadn dX10_readsSwap_59 rfl ?_
  refine x_icmp_ne 67 dX10_readsSwap_60 rfl (fun hc => ?_) (fun hc => ?_)
  · have h := ifF hc h
    exact tl_X10_readsSwap_67 d H0 h
  have h := ifT hc h
  exact tl_X10_readsSwap_63 d H0 h
noncomputable def l_X10_readsSwap_29 (I : Mem) (x0 : Nat) (x1 : Int32) : Option (Mem) := l_X10_readsSwap_30 I x0 x1 0
theorem tl_X10_readsSwap_29 (d : Nat) {K : Kt} : ∀ {I : Mem} {x0 : Nat} (H0 : MK K x0) {x1 : Int32} {I9 : Mem}, l_X10_readsSwap_29 I x0 x1 = some I9 → X (mX10_readsSwap (d + 3)) cX10_readsSwap 0 0 I K 29 [.ref x0, .int x1, .retAddr 0, .retAddr 0] [.ref x0] (Ro (.inl none) I9 K) := by
  intro I x0 H0 x1 I9 h
  unfold l_X10_readsSwap_29 at h
  refine x_iconst 0 dX10_readsSwap_29 rfl ?_
  exact tl_X10_readsSwap_30 d H0 h
noncomputable def f_X10_readsSwap (I : Mem) (x0 : Nat) : Option (Mem) := b1 (f_X10_goes I x0) fun I1 => b2 (f_X10_wishHere I1 x0) fun v3 I4 => if (I4 x0 10) = 0 then (b1 (f_X10_isOwned I4 x0 v3) fun v31 => if v31 = 0 then (l_X10_readsSwap_30 I4 x0 v3 1) else (l_X10_readsSwap_29 I4 x0 v3)) else (l_X10_readsSwap_29 I4 x0 v3)
theorem c_X10_readsSwap (d : Nat) {K : Kt} {I : Mem} {x0 : Nat} (H0 : MK K x0) {I9 : Mem} (h : f_X10_readsSwap I x0 = some I9) : Ct (mX10_readsSwap (d + 3)) cX10_readsSwap 0 0 [.ref x0] I K (Ro (.inl none) I9 K) := by
  refine Ct.of rfl pn_X10 (catR cat0) (Nat.le_of_ble_eq_true rfl) (show X _ _ _ _ _ _ 0 [.ref x0, .retAddr 0, .retAddr 0, .retAddr 0] [] _ from ?_)
  unfold f_X10_readsSwap at h
  refine x_aloadn dX10_readsSwap_0 rfl ?_
  obtain ⟨I1, h2, h⟩ := b1_s h
  refine z_V0 [] [] (cs_X10_115 _) (ci := 8) rfl (MK.o H0) (dep (show d + 0 + 2 + 1 ≤ (d + 3) from by omega) (Nat.le_of_ble_eq_true rfl)) dX10_readsSwap_1 rfl rfl (Nat.le_of_ble_eq_true rfl) (c_X10_goes d (K := K) (I := I) H0 h2) ?_
  refine x_aloadn dX10_readsSwap_4 rfl ?_
  obtain ⟨v3, I4, h5, h⟩ := b2_s h
  refine z_V1 [] [] (cs_X10_194 _) (ci := 8) rfl (MK.o H0) (dep (show d + 0 + 2 + 1 ≤ (d + 3) from by omega) (Nat.le_of_ble_eq_true rfl)) dX10_readsSwap_5 rfl rfl (Nat.le_of_ble_eq_true rfl) (c_X10_wishHere d (K := K) (I := I1) H0 h5) ?_
  refine x_istoren dX10_readsSwap_8 (Nat.le_of_ble_eq_true rfl) rfl rfl ?_
  refine x_aloadn dX10_readsSwap_9 rfl ?_
  refine x_aloadn dX10_readsSwap_10 rfl ?_
  refine z_getI fs_X10_59 (MK.o H0) dX10_readsSwap_11 ?_
  refine x_if_ne 29 dX10_readsSwap_14 rfl (fun hc => ?_) (fun hc => ?_)
  · have h := ifF hc h
    exact tl_X10_readsSwap_29 d H0 h
  have h := ifT hc h
  refine x_aloadn dX10_readsSwap_17 rfl ?_
  refine x_iloadn dX10_readsSwap_18 rfl ?_
  obtain ⟨v31, h32, h⟩ := b1_s h
  refine z_V1 [.int v3] [.ref x0] (cs_X10_221 _) (ci := 8) rfl (MK.o H0) (dep (show d + 1 + 1 + 1 ≤ (d + 3) from by omega) (Nat.le_of_ble_eq_true rfl)) dX10_readsSwap_19 rfl rfl (Nat.le_of_ble_eq_true rfl) (c_X10_isOwned (d + 1) (K := K) (I := I4) H0 h32) ?_
  refine x_if_ne 29 dX10_readsSwap_22 rfl (fun hc => ?_) (fun hc => ?_)
  · have h := ifF hc h
    exact tl_X10_readsSwap_29 d H0 h
  have h := ifT hc h
  refine x_iconst 1 dX10_readsSwap_25 rfl ?_
  refine x_goto 30 dX10_readsSwap_26 rfl ?_
  exact tl_X10_readsSwap_30 d H0 h
noncomputable def l_X10_readsGift_74 (I : Mem) (x0 : Nat) (x1 : Int32) (x2 : Int32) (y0 : Int32) : Option (Mem) := b1 (f_X10_refuses I x0 y0) fun I13 => b1 (f_X10_goes I13 x0) fun I15 => if (I15 x0 10) ≤ 0 then (b1 (f_X10_putsWish I15 x0 x1 4 x2) fun I17 => b1 (f_X10_forgets I17 x0 x1) fun I19 => some (I19)) else (some (I15))
theorem tl_X10_readsGift_74 (d : Nat) {K : Kt} : ∀ {I : Mem} {x0 : Nat} (H0 : MK K x0) {x1 : Int32} {x2 : Int32} {y0 : Int32} {I9 : Mem}, l_X10_readsGift_74 I x0 x1 x2 y0 = some I9 → X (mX10_readsGift (d + 4)) cX10_readsGift 0 0 I K 74 [.ref x0, .int x1, .int x2] [.int y0, .ref x0] (Ro (.inl none) I9 K) := by
  intro I x0 H0 x1 x2 y0 I9 h
  unfold l_X10_readsGift_74 at h
  obtain ⟨I13, h14, h⟩ := b1_s h
  refine z_V0 [.int y0] [] (cs_X10_154 _) (ci := 8) rfl (MK.o H0) (dep (show d + 2 + 1 + 1 ≤ (d + 4) from by omega) (Nat.le_of_ble_eq_true rfl)) dX10_readsGift_74 rfl rfl (Nat.le_of_ble_eq_true rfl) (c_X10_refuses (d + 2) (K := K) (I := I) H0 h14) ?_
  refine x_aloadn dX10_readsGift_77 rfl ?_
  obtain ⟨I15, h16, h⟩ := b1_s h
  refine z_V0 [] [] (cs_X10_115 _) (ci := 8) rfl (MK.o H0) (dep (show d + 1 + 2 + 1 ≤ (d + 4) from by omega) (Nat.le_of_ble_eq_true rfl)) dX10_readsGift_78 rfl rfl (Nat.le_of_ble_eq_true rfl) (c_X10_goes (d + 1) (K := K) (I := I13) H0 h16) ?_
  refine x_aloadn dX10_readsGift_81 rfl ?_
  refine z_getI fs_X10_59 (MK.o H0) dX10_readsGift_82 ?_
  refine x_if_le 89 dX10_readsGift_85 rfl (fun hc => ?_) (fun hc => ?_)
  · have h := ifT hc h
    refine x_aloadn dX10_readsGift_89 rfl ?_
    refine x_iloadn dX10_readsGift_90 rfl ?_
    refine x_iconst 4 dX10_readsGift_91 rfl ?_
    refine x_iloadn dX10_readsGift_92 rfl ?_
    obtain ⟨I17, h18, h⟩ := b1_s h
    refine z_V0 [.int x1, .int 4, .int x2] [] (cs_X10_180 _) (ci := 8) rfl (MK.o H0) (dep (show d + 3 + 0 + 1 ≤ (d + 4) from by omega) (Nat.le_of_ble_eq_true rfl)) dX10_readsGift_93 rfl rfl (Nat.le_of_ble_eq_true rfl) (c_X10_putsWish (d + 3) (K := K) (I := I15) H0 h18) ?_
    refine x_aloadn dX10_readsGift_96 rfl ?_
    refine x_iloadn dX10_readsGift_97 rfl ?_
    obtain ⟨I19, h20, h⟩ := b1_s h
    refine z_V0 [.int x1] [] (cs_X10_188 _) (ci := 8) rfl (MK.o H0) (dep (show d + 2 + 1 + 1 ≤ (d + 4) from by omega) (Nat.le_of_ble_eq_true rfl)) dX10_readsGift_98 rfl rfl (Nat.le_of_ble_eq_true rfl) (c_X10_forgets (d + 2) (K := K) (I := I17) H0 h20) ?_
    cases h
    exact x_vret rfl dX10_readsGift_101 ⟨rfl, rfl, rfl⟩
  have h := ifF hc h
  cases h
  exact x_vret rfl dX10_readsGift_88 ⟨rfl, rfl, rfl⟩
noncomputable def l_X10_readsGift_73 (I : Mem) (x0 : Nat) (x1 : Int32) (x2 : Int32) : Option (Mem) := l_X10_readsGift_74 I x0 x1 x2 0
theorem tl_X10_readsGift_73 (d : Nat) {K : Kt} : ∀ {I : Mem} {x0 : Nat} (H0 : MK K x0) {x1 : Int32} {x2 : Int32} {I9 : Mem}, l_X10_readsGift_73 I x0 x1 x2 = some I9 → X (mX10_readsGift (d + 4)) cX10_readsGift 0 0 I K 73 [.ref x0, .int x1, .int x2] [.ref x0] (Ro (.inl none) I9 K) := by
  intro I x0 H0 x1 x2 I9 h
  unfold l_X10_readsGift_73 at h
  refine x_iconst 0 dX10_readsGift_73 rfl ?_
  exact tl_X10_readsGift_74 d H0 h
noncomputable def l_X10_readsGift_69 (I : Mem) (x0 : Nat) (x1 : Int32) (x2 : Int32) : Option (Mem) := l_X10_readsGift_74 I x0 x1 x2 1
theorem tl_X10_readsGift_69 (d : Nat) {K : Kt} : ∀ {I : Mem} {x0 : Nat} (H0 : MK K x0) {x1 : Int32} {x2 : Int32} {I9 : Mem}, l_X10_readsGift_69 I x0 x1 x2 = some I9 → X (mX10_readsGift (d + 4)) cX10_readsGift 0 0 I K 69 [.ref x0, .int x1, .int x2] [.ref x0] (Ro (.inl none) I9 K) := by
  intro I x0 H0 x1 x2 I9 h
  unfold l_X10_readsGift_69 at h
  refine x_iconst 1 dX10_readsGift_69 rfl ?_
  refine x_goto 74 dX10_readsGift_70 rfl ?_
  exact tl_X10_readsGift_74 d H0 h
noncomputable def l_X10_readsGift_30 (I : Mem) (x0 : Nat) (x1 : Int32) (y0 : Int32) : Option (Mem) := b1 (f_X10_refuses I x0 y0) fun I6 => b1 (f_X10_goes I6 x0) fun I8 => b2 (f_X10_personHere I8 x0) fun v10 I11 => if (I11 x0 10) = 0 then (b1 (f_X10_ofWish I11 x0 x1 4) fun v21 => if v21 = v10 then (l_X10_readsGift_69 I11 x0 x1 v10) else (b1 (f_X10_owns I11 x0 v10) fun v23 => if v23 = 4 then (l_X10_readsGift_69 I11 x0 x1 v10) else (l_X10_readsGift_73 I11 x0 x1 v10))) else (l_X10_readsGift_73 I11 x0 x1 v10)
theorem tl_X10_readsGift_30 (d : Nat) {K : Kt} : ∀ {I : Mem} {x0 : Nat} (H0 : MK K x0) {x1 : Int32} {y0 : Int32} {I9 : Mem}, l_X10_readsGift_30 I x0 x1 y0 = some I9 → X (mX10_readsGift (d + 4)) cX10_readsGift 0 0 I K 30 [.ref x0, .int x1, .retAddr 0] [.int y0, .ref x0] (Ro (.inl none) I9 K) := by
  intro I x0 H0 x1 y0 I9 h
  unfold l_X10_readsGift_30 at h
  obtain ⟨I6, h7, h⟩ := b1_s h
  refine z_V0 [.int y0] [] (cs_X10_154 _) (ci := 8) rfl (MK.o H0) (dep (show d + 2 + 1 + 1 ≤ (d + 4) from by omega) (Nat.le_of_ble_eq_true rfl)) dX10_readsGift_30 rfl rfl (Nat.le_of_ble_eq_true rfl) (c_X10_refuses (d + 2) (K := K) (I := I) H0 h7) ?_
  refine x_aloadn dX10_readsGift_33 rfl ?_
  obtain ⟨I8, h9, h⟩ := b1_s h
  refine z_V0 [] [] (cs_X10_115 _) (ci := 8) rfl (MK.o H0) (dep (show d + 1 + 2 + 1 ≤ (d + 4) from by omega) (Nat.le_of_ble_eq_true rfl)) dX10_readsGift_34 rfl rfl (Nat.le_of_ble_eq_true rfl) (c_X10_goes (d + 1) (K := K) (I := I6) H0 h9) ?_
  refine x_aloadn dX10_readsGift_37 rfl ?_
  obtain ⟨v10, I11, h12, h⟩ := b2_s h
  refine z_V1 [] [] (cs_X10_171 _) (ci := 8) rfl (MK.o H0) (dep (show d + 1 + 2 + 1 ≤ (d + 4) from by omega) (Nat.le_of_ble_eq_true rfl)) dX10_readsGift_38 rfl rfl (Nat.le_of_ble_eq_true rfl) (c_X10_personHere (d + 1) (K := K) (I := I8) H0 h12) ?_
  refine x_istoren dX10_readsGift_41 (Nat.le_of_ble_eq_true rfl) rfl rfl ?_
  refine x_aloadn dX10_readsGift_42 rfl ?_
  refine x_aloadn dX10_readsGift_43 rfl ?_
  refine z_getI fs_X10_59 (MK.o H0) dX10_readsGift_44 ?_
  refine x_if_ne 73 dX10_readsGift_47 rfl (fun hc => ?_) (fun hc => ?_)
  · have h := ifF hc h
    exact tl_X10_readsGift_73 d H0 h
  have h := ifT hc h
  refine x_aloadn dX10_readsGift_50 rfl ?_
  refine x_iloadn dX10_readsGift_51 rfl ?_
  refine x_iconst 4 dX10_readsGift_52 rfl ?_
  obtain ⟨v21, h22, h⟩ := b1_s h
  refine z_V1 [.int x1, .int 4] [.ref x0] (cs_X10_224 _) (ci := 8) rfl (MK.o H0) (dep (show d + 3 + 0 + 1 ≤ (d + 4) from by omega) (Nat.le_of_ble_eq_true rfl)) dX10_readsGift_53 rfl rfl (Nat.le_of_ble_eq_true rfl) (c_X10_ofWish (d + 3) (K := K) (I := I11) H0 h22) ?_
  refine x_iloadn dX10_readsGift_56 rfl ?_
  refine x_icmp_eq 69 dX10_readsGift_57 rfl (fun hc => ?_) (fun hc => ?_)
  · have h := ifT hc h
    exact tl_X10_readsGift_69 d H0 h
  have h := ifF hc h
  refine x_aloadn dX10_readsGift_60 rfl ?_
  refine x_iloadn dX10_readsGift_61 rfl ?_
  obtain ⟨v23, h24, h⟩ := b1_s h
  refine z_V1 [.int v10] [.ref x0] (cs_X10_177 _) (ci := 8) rfl (MK.o H0) (dep (show d + 0 + 3 + 1 ≤ (d + 4) from by omega) (Nat.le_of_ble_eq_true rfl)) dX10_readsGift_62 rfl rfl (Nat.le_of_ble_eq_true rfl) (c_X10_owns d (K := K) (I := I11) H0 h24) ?_
  refine x_iconst 4 dX10_readsGift_65 rfl ?_
  refine x_icmp_ne 73 dX10_readsGift_66 rfl (fun hc => ?_) (fun hc => ?_)
  · have h := ifF hc h
    exact tl_X10_readsGift_73 d H0 h
  have h := ifT hc h
  exact tl_X10_readsGift_69 d H0 h
noncomputable def l_X10_readsGift_29 (I : Mem) (x0 : Nat) (x1 : Int32) : Option (Mem) := l_X10_readsGift_30 I x0 x1 0
theorem tl_X10_readsGift_29 (d : Nat) {K : Kt} : ∀ {I : Mem} {x0 : Nat} (H0 : MK K x0) {x1 : Int32} {I9 : Mem}, l_X10_readsGift_29 I x0 x1 = some I9 → X (mX10_readsGift (d + 4)) cX10_readsGift 0 0 I K 29 [.ref x0, .int x1, .retAddr 0] [.ref x0] (Ro (.inl none) I9 K) := by
  intro I x0 H0 x1 I9 h
  unfold l_X10_readsGift_29 at h
  refine x_iconst 0 dX10_readsGift_29 rfl ?_
  exact tl_X10_readsGift_30 d H0 h
noncomputable def f_X10_readsGift (I : Mem) (x0 : Nat) : Option (Mem) := b1 (f_X10_goes I x0) fun I1 => b2 (f_X10_wishHere I1 x0) fun v3 I4 => if (I4 x0 10) = 0 then (b1 (f_X10_isOwned I4 x0 v3) fun v25 => if v25 = 0 then (l_X10_readsGift_30 I4 x0 v3 1) else (l_X10_readsGift_29 I4 x0 v3)) else (l_X10_readsGift_29 I4 x0 v3)
theorem c_X10_readsGift (d : Nat) {K : Kt} {I : Mem} {x0 : Nat} (H0 : MK K x0) {I9 : Mem} (h : f_X10_readsGift I x0 = some I9) : Ct (mX10_readsGift (d + 4)) cX10_readsGift 0 0 [.ref x0] I K (Ro (.inl none) I9 K) := by
  refine Ct.of rfl pn_X10 (catR cat0) (Nat.le_of_ble_eq_true rfl) (show X _ _ _ _ _ _ 0 [.ref x0, .retAddr 0, .retAddr 0] [] _ from ?_)
  unfold f_X10_readsGift at h
  refine x_aloadn dX10_readsGift_0 rfl ?_
  obtain ⟨I1, h2, h⟩ := b1_s h
  refine z_V0 [] [] (cs_X10_115 _) (ci := 8) rfl (MK.o H0) (dep (show d + 1 + 2 + 1 ≤ (d + 4) from by omega) (Nat.le_of_ble_eq_true rfl)) dX10_readsGift_1 rfl rfl (Nat.le_of_ble_eq_true rfl) (c_X10_goes (d + 1) (K := K) (I := I) H0 h2) ?_
  refine x_aloadn dX10_readsGift_4 rfl ?_
  obtain ⟨v3, I4, h5, h⟩ := b2_s h
  refine z_V1 [] [] (cs_X10_194 _) (ci := 8) rfl (MK.o H0) (dep (show d + 1 + 2 + 1 ≤ (d + 4) from by omega) (Nat.le_of_ble_eq_true rfl)) dX10_readsGift_5 rfl rfl (Nat.le_of_ble_eq_true rfl) (c_X10_wishHere (d + 1) (K := K) (I := I1) H0 h5) ?_
  refine x_istoren dX10_readsGift_8 (Nat.le_of_ble_eq_true rfl) rfl rfl ?_
  refine x_aloadn dX10_readsGift_9 rfl ?_
  refine x_aloadn dX10_readsGift_10 rfl ?_
  refine z_getI fs_X10_59 (MK.o H0) dX10_readsGift_11 ?_
  refine x_if_ne 29 dX10_readsGift_14 rfl (fun hc => ?_) (fun hc => ?_)
  · have h := ifF hc h
    exact tl_X10_readsGift_29 d H0 h
  have h := ifT hc h
  refine x_aloadn dX10_readsGift_17 rfl ?_
  refine x_iloadn dX10_readsGift_18 rfl ?_
  obtain ⟨v25, h26, h⟩ := b1_s h
  refine z_V1 [.int v3] [.ref x0] (cs_X10_221 _) (ci := 8) rfl (MK.o H0) (dep (show d + 2 + 1 + 1 ≤ (d + 4) from by omega) (Nat.le_of_ble_eq_true rfl)) dX10_readsGift_19 rfl rfl (Nat.le_of_ble_eq_true rfl) (c_X10_isOwned (d + 2) (K := K) (I := I4) H0 h26) ?_
  refine x_if_ne 29 dX10_readsGift_22 rfl (fun hc => ?_) (fun hc => ?_)
  · have h := ifF hc h
    exact tl_X10_readsGift_29 d H0 h
  have h := ifT hc h
  refine x_iconst 1 dX10_readsGift_25 rfl ?_
  refine x_goto 30 dX10_readsGift_26 rfl ?_
  exact tl_X10_readsGift_30 d H0 h
noncomputable def f_X10_readsSale (I : Mem) (x0 : Nat) : Option (Mem) := b1 (f_X10_goes I x0) fun I1 => b2 (f_X10_stallHere I1 x0) fun v3 I4 => b1 (f_X10_goes I4 x0) fun I6 => b2 (f_X10_readNumber I6 x0 0 100) fun v8 I9 => if (I9 x0 10) = 0 then (b1 (f_X10_putsStall I9 x0 v3 3 v8) fun I11 => some (I11)) else (some (I9))
theorem c_X10_readsSale (d : Nat) {K : Kt} {I : Mem} {x0 : Nat} (H0 : MK K x0) {I9 : Mem} (h : f_X10_readsSale I x0 = some I9) : Ct (mX10_readsSale (d + 4)) cX10_readsSale 0 0 [.ref x0] I K (Ro (.inl none) I9 K) := by
  refine Ct.of rfl pn_X10 (catR cat0) (Nat.le_of_ble_eq_true rfl) (show X _ _ _ _ _ _ 0 [.ref x0, .retAddr 0, .retAddr 0] [] _ from ?_)
  unfold f_X10_readsSale at h
  refine x_aloadn dX10_readsSale_0 rfl ?_
  obtain ⟨I1, h2, h⟩ := b1_s h
  refine z_V0 [] [] (cs_X10_115 _) (ci := 8) rfl (MK.o H0) (dep (show d + 1 + 2 + 1 ≤ (d + 4) from by omega) (Nat.le_of_ble_eq_true rfl)) dX10_readsSale_1 rfl rfl (Nat.le_of_ble_eq_true rfl) (c_X10_goes (d + 1) (K := K) (I := I) H0 h2) ?_
  refine x_aloadn dX10_readsSale_4 rfl ?_
  obtain ⟨v3, I4, h5, h⟩ := b2_s h
  refine z_V1 [] [] (cs_X10_168 _) (ci := 8) rfl (MK.o H0) (dep (show d + 1 + 2 + 1 ≤ (d + 4) from by omega) (Nat.le_of_ble_eq_true rfl)) dX10_readsSale_5 rfl rfl (Nat.le_of_ble_eq_true rfl) (c_X10_stallHere (d + 1) (K := K) (I := I1) H0 h5) ?_
  refine x_istoren dX10_readsSale_8 (Nat.le_of_ble_eq_true rfl) rfl rfl ?_
  refine x_aloadn dX10_readsSale_9 rfl ?_
  obtain ⟨I6, h7, h⟩ := b1_s h
  refine z_V0 [] [] (cs_X10_115 _) (ci := 8) rfl (MK.o H0) (dep (show d + 1 + 2 + 1 ≤ (d + 4) from by omega) (Nat.le_of_ble_eq_true rfl)) dX10_readsSale_10 rfl rfl (Nat.le_of_ble_eq_true rfl) (c_X10_goes (d + 1) (K := K) (I := I4) H0 h7) ?_
  refine x_aloadn dX10_readsSale_13 rfl ?_
  refine x_iconst 0 dX10_readsSale_14 rfl ?_
  refine x_bipush 100 dX10_readsSale_15 rfl ?_
  obtain ⟨v8, I9, h10, h⟩ := b2_s h
  refine z_V1 [.int 0, .int 100] [] (cs_X10_126 _) (ci := 8) rfl (MK.o H0) (dep (show d + 0 + 3 + 1 ≤ (d + 4) from by omega) (Nat.le_of_ble_eq_true rfl)) dX10_readsSale_17 rfl rfl (Nat.le_of_ble_eq_true rfl) (c_X10_readNumber d (K := K) (I := I6) H0 h10) ?_
  refine x_istoren dX10_readsSale_20 (Nat.le_of_ble_eq_true rfl) rfl rfl ?_
  refine x_aloadn dX10_readsSale_21 rfl ?_
  refine z_getI fs_X10_59 (MK.o H0) dX10_readsSale_22 ?_
  refine x_if_ne 35 dX10_readsSale_25 rfl (fun hc => ?_) (fun hc => ?_)
  · have h := ifF hc h
    cases h
    exact x_vret rfl dX10_readsSale_35 ⟨rfl, rfl, rfl⟩
  have h := ifT hc h
  refine x_aloadn dX10_readsSale_28 rfl ?_
  refine x_iloadn dX10_readsSale_29 rfl ?_
  refine x_iconst 3 dX10_readsSale_30 rfl ?_
  refine x_iloadn dX10_readsSale_31 rfl ?_
  obtain ⟨I11, h12, h⟩ := b1_s h
  refine z_V0 [.int v3, .int 3, .int v8] [] (cs_X10_129 _) (ci := 8) rfl (MK.o H0) (dep (show d + 3 + 0 + 1 ≤ (d + 4) from by omega) (Nat.le_of_ble_eq_true rfl)) dX10_readsSale_32 rfl rfl (Nat.le_of_ble_eq_true rfl) (c_X10_putsStall (d + 3) (K := K) (I := I9) H0 h12) ?_
  cases h
  exact x_vret rfl dX10_readsSale_35 ⟨rfl, rfl, rfl⟩
noncomputable def f_X10_bidOf (I : Mem) (x0 : Nat) (x1 : Int32) (x2 : Int32) : Option (Int32) := b1 (f_X10_ofPerson I x0 x1 0) fun v1 => b1 (f_X10_valueOf I x0 x2) fun v3 => some ((if v3 < (v1 / 2) then v3 else (v1 / 2)))
theorem c_X10_bidOf (d : Nat) {K : Kt} {I : Mem} {x0 : Nat} (H0 : MK K x0) {x1 : Int32} {x2 : Int32} {v : Int32} (h : f_X10_bidOf I x0 x1 x2 = some v) : Ct (mX10_bidOf (d + 3)) cX10_bidOf 0 0 [.ref x0, .int x1, .int x2] I K (Ro (.inl (some (.int v))) I K) := by
  refine Ct.of rfl pn_X10 (catR (catI (catI cat0))) (Nat.le_of_ble_eq_true rfl) (show X _ _ _ _ _ _ 0 [.ref x0, .int x1, .int x2] [] _ from ?_)
  unfold f_X10_bidOf at h
  refine x_aloadn dX10_bidOf_0 rfl ?_
  refine x_iloadn dX10_bidOf_1 rfl ?_
  refine x_iconst 0 dX10_bidOf_2 rfl ?_
  obtain ⟨v1, h2, h⟩ := b1_s h
  refine z_V1 [.int x1, .int 0] [] (cs_X10_141 _) (ci := 8) rfl (MK.o H0) (dep (show d + 2 + 0 + 1 ≤ (d + 3) from by omega) (Nat.le_of_ble_eq_true rfl)) dX10_bidOf_3 rfl rfl (Nat.le_of_ble_eq_true rfl) (c_X10_ofPerson (d + 2) (K := K) (I := I) H0 h2) ?_
  refine x_iconst 2 dX10_bidOf_6 rfl ?_
  refine x_idiv dX10_bidOf_7 (by decide) ?_
  refine x_aloadn dX10_bidOf_8 rfl ?_
  refine x_iloadn dX10_bidOf_9 rfl ?_
  obtain ⟨v3, h4, h⟩ := b1_s h
  refine z_V1 [.int x2] [.int (v1 / 2)] (cs_X10_392 _) (ci := 8) rfl (MK.o H0) (dep (show d + 0 + 2 + 1 ≤ (d + 3) from by omega) (Nat.le_of_ble_eq_true rfl)) dX10_bidOf_10 rfl rfl (Nat.le_of_ble_eq_true rfl) (c_X10_valueOf d (K := K) (I := I) H0 h4) ?_
  refine x_mmin ms_X10_389 (Nat.le_of_ble_eq_true rfl) (by show 1 ≤ (d + 3); omega) dX10_bidOf_13 ?_
  cases h
  exact x_iret rfl dX10_bidOf_16 ⟨rfl, rfl, rfl⟩
noncomputable def l_X10_bidder_4 (n : Nat) (I : Mem) (x0 : Nat) (x1 : Int32) (x2 : Int32) (x3 : Int32) : Option (Int32) := match n with
  | 0 => none
  | n + 1 => b1 (ix 2 355) fun j1 => if (I (x0 + 1) j1) ≤ x3 then (some (x2)) else (b1 (f_X10_owns I x0 x3) fun v2 => if v2 = 4 then (l_X10_bidder_4 n I x0 x1 x2 (x3 + 1)) else (if x2 = (-1) then (l_X10_bidder_4 n I x0 x1 x3 (x3 + 1)) else (b1 (f_X10_bidOf I x0 x3 x1) fun v4 => b1 (f_X10_bidOf I x0 x2 x1) fun v6 => if v4 ≤ v6 then (l_X10_bidder_4 n I x0 x1 x2 (x3 + 1)) else (l_X10_bidder_4 n I x0 x1 x3 (x3 + 1)))))
theorem tl_X10_bidder_4 (d : Nat) {K : Kt} (n : Nat) : ∀ {I : Mem} {x0 : Nat} (H0 : MK K x0) {x1 : Int32} {x2 : Int32} {x3 : Int32} {v : Int32}, l_X10_bidder_4 n I x0 x1 x2 x3 = some v → X (mX10_bidder (d + 4)) cX10_bidder 0 0 I K 4 [.ref x0, .int x1, .int x2, .int x3] [] (Ro (.inl (some (.int v))) I K) := by
  induction n with
  | zero =>
    intro I x0 H0 x1 x2 x3 v h
    cases h
  | succ n ih =>
    intro I x0 H0 x1 x2 x3 v h
    unfold l_X10_bidder_4 at h
    refine x_iloadn dX10_bidder_4 rfl ?_
    refine x_aloadn dX10_bidder_5 rfl ?_
    refine z_getR fs_X10_9 (MK.o H0) (MK.g1 H0) dX10_bidder_6 ?_
    refine x_iconst 2 dX10_bidder_9 rfl ?_
    obtain ⟨j1, hj1, h⟩ := b1_s h
    refine z_iald (MK.l1 H0) hj1 dX10_bidder_10 ?_
    refine x_icmp_ge 54 dX10_bidder_11 rfl (fun hc => ?_) (fun hc => ?_)
    · have h := ifT hc h
      refine x_iloadn dX10_bidder_54 rfl ?_
      cases h
      exact x_iret rfl dX10_bidder_55 ⟨rfl, rfl, rfl⟩
    have h := ifF hc h
    refine x_aloadn dX10_bidder_14 rfl ?_
    refine x_iloadn dX10_bidder_15 rfl ?_
    obtain ⟨v2, h3, h⟩ := b1_s h
    refine z_V1 [.int x3] [] (cs_X10_177 _) (ci := 8) rfl (MK.o H0) (dep (show d + 0 + 3 + 1 ≤ (d + 4) from by omega) (Nat.le_of_ble_eq_true rfl)) dX10_bidder_16 rfl rfl (Nat.le_of_ble_eq_true rfl) (c_X10_owns d (K := K) (I := I) H0 h3) ?_
    refine x_iconst 4 dX10_bidder_19 rfl ?_
    refine x_icmp_ne 26 dX10_bidder_20 rfl (fun hc => ?_) (fun hc => ?_)
    · have h := ifF hc h
      refine x_iloadn dX10_bidder_26 rfl ?_
      refine x_iconst (-1) dX10_bidder_27 rfl ?_
      refine x_icmp_eq 46 dX10_bidder_28 rfl (fun hc => ?_) (fun hc => ?_)
      · have h := ifT hc h
        refine x_iloadn dX10_bidder_46 rfl ?_
        refine x_istoren dX10_bidder_47 (Nat.le_of_ble_eq_true rfl) rfl rfl ?_
        refine z_iinc 1 (by decide) dX10_bidder_48 rfl rfl rfl ?_
        refine x_goto 4 dX10_bidder_51 rfl ?_
        exact ih H0 h
      have h := ifF hc h
      refine x_aloadn dX10_bidder_31 rfl ?_
      refine x_iloadn dX10_bidder_32 rfl ?_
      refine x_iloadn dX10_bidder_33 rfl ?_
      obtain ⟨v4, h5, h⟩ := b1_s h
      refine z_V1 [.int x3, .int x1] [] (cs_X10_407 _) (ci := 8) rfl (MK.o H0) (dep (show d + 0 + 3 + 1 ≤ (d + 4) from by omega) (Nat.le_of_ble_eq_true rfl)) dX10_bidder_34 rfl rfl (Nat.le_of_ble_eq_true rfl) (c_X10_bidOf d (K := K) (I := I) H0 h5) ?_
      refine x_aloadn dX10_bidder_37 rfl ?_
      refine x_iloadn dX10_bidder_38 rfl ?_
      refine x_iloadn dX10_bidder_39 rfl ?_
      obtain ⟨v6, h7, h⟩ := b1_s h
      refine z_V1 [.int x2, .int x1] [.int v4] (cs_X10_407 _) (ci := 8) rfl (MK.o H0) (dep (show d + 0 + 3 + 1 ≤ (d + 4) from by omega) (Nat.le_of_ble_eq_true rfl)) dX10_bidder_40 rfl rfl (Nat.le_of_ble_eq_true rfl) (c_X10_bidOf d (K := K) (I := I) H0 h7) ?_
      refine x_icmp_le 48 dX10_bidder_43 rfl (fun hc => ?_) (fun hc => ?_)
      · have h := ifT hc h
        refine z_iinc 1 (by decide) dX10_bidder_48 rfl rfl rfl ?_
        refine x_goto 4 dX10_bidder_51 rfl ?_
        exact ih H0 h
      have h := ifF hc h
      refine x_iloadn dX10_bidder_46 rfl ?_
      refine x_istoren dX10_bidder_47 (Nat.le_of_ble_eq_true rfl) rfl rfl ?_
      refine z_iinc 1 (by decide) dX10_bidder_48 rfl rfl rfl ?_
      refine x_goto 4 dX10_bidder_51 rfl ?_
      exact ih H0 h
    have h := ifT hc h
    refine x_goto 48 dX10_bidder_23 rfl ?_
    refine z_iinc 1 (by decide) dX10_bidder_48 rfl rfl rfl ?_
    refine x_goto 4 dX10_bidder_51 rfl ?_
    exact ih H0 h
noncomputable def f_X10_bidder (I : Mem) (x0 : Nat) (x1 : Int32) : Option (Int32) := l_X10_bidder_4 FU I x0 x1 (-1) 0
theorem c_X10_bidder (d : Nat) {K : Kt} {I : Mem} {x0 : Nat} (H0 : MK K x0) {x1 : Int32} {v : Int32} (h : f_X10_bidder I x0 x1 = some v) : Ct (mX10_bidder (d + 4)) cX10_bidder 0 0 [.ref x0, .int x1] I K (Ro (.inl (some (.int v))) I K) := by
  refine Ct.of rfl pn_X10 (catR (catI cat0)) (Nat.le_of_ble_eq_true rfl) (show X _ _ _ _ _ _ 0 [.ref x0, .int x1, .retAddr 0, .retAddr 0] [] _ from ?_)
  unfold f_X10_bidder at h
  refine x_iconst (-1) dX10_bidder_0 rfl ?_
  refine x_istoren dX10_bidder_1 (Nat.le_of_ble_eq_true rfl) rfl rfl ?_
  refine x_iconst 0 dX10_bidder_2 rfl ?_
  refine x_istoren dX10_bidder_3 (Nat.le_of_ble_eq_true rfl) rfl rfl ?_
  exact tl_X10_bidder_4 d FU H0 h
noncomputable def l_X10_dearest_4 (n : Nat) (I : Mem) (x0 : Nat) (x1 : Int32) (x2 : Int32) (x3 : Int32) : Option (Int32) := match n with
  | 0 => none
  | n + 1 => b1 (ix 4 355) fun j1 => if (I (x0 + 1) j1) ≤ x3 then (some (x2)) else (b1 (f_X10_isInStall I x0 x3) fun v2 => if v2 = 0 then (l_X10_dearest_4 n I x0 x1 x2 (x3 + 1)) else (b1 (f_X10_ofWish I x0 x3 4) fun v4 => if v4 = x1 then (if x2 = (-1) then (l_X10_dearest_4 n I x0 x1 x3 (x3 + 1)) else (b1 (f_X10_valueOf I x0 x3) fun v6 => b1 (f_X10_valueOf I x0 x2) fun v8 => if v6 ≤ v8 then (l_X10_dearest_4 n I x0 x1 x2 (x3 + 1)) else (l_X10_dearest_4 n I x0 x1 x3 (x3 + 1)))) else (l_X10_dearest_4 n I x0 x1 x2 (x3 + 1))))
theorem tl_X10_dearest_4 (d : Nat) {K : Kt} (n : Nat) : ∀ {I : Mem} {x0 : Nat} (H0 : MK K x0) {x1 : Int32} {x2 : Int32} {x3 : Int32} {v : Int32}, l_X10_dearest_4 n I x0 x1 x2 x3 = some v → X (mX10_dearest (d + 3)) cX10_dearest 0 0 I K 4 [.ref x0, .int x1, .int x2, .int x3] [] (Ro (.inl (some (.int v))) I K) := by
  induction n with
  | zero =>
    intro I x0 H0 x1 x2 x3 v h
    cases h
  | succ n ih =>
    intro I x0 H0 x1 x2 x3 v h
    unfold l_X10_dearest_4 at h
    refine x_iloadn dX10_dearest_4 rfl ?_
    refine x_aloadn dX10_dearest_5 rfl ?_
    refine z_getR fs_X10_9 (MK.o H0) (MK.g1 H0) dX10_dearest_6 ?_
    refine x_iconst 4 dX10_dearest_9 rfl ?_
    obtain ⟨j1, hj1, h⟩ := b1_s h
    refine z_iald (MK.l1 H0) hj1 dX10_dearest_10 ?_
    refine x_icmp_ge 61 dX10_dearest_11 rfl (fun hc => ?_) (fun hc => ?_)
    · have h := ifT hc h
      refine x_iloadn dX10_dearest_61 rfl ?_
      cases h
      exact x_iret rfl dX10_dearest_62 ⟨rfl, rfl, rfl⟩
    have h := ifF hc h
    refine x_aloadn dX10_dearest_14 rfl ?_
    refine x_iloadn dX10_dearest_15 rfl ?_
    obtain ⟨v2, h3, h⟩ := b1_s h
    refine z_V1 [.int x3] [] (cs_X10_350 _) (ci := 8) rfl (MK.o H0) (dep (show d + 1 + 1 + 1 ≤ (d + 3) from by omega) (Nat.le_of_ble_eq_true rfl)) dX10_dearest_16 rfl rfl (Nat.le_of_ble_eq_true rfl) (c_X10_isInStall (d + 1) (K := K) (I := I) H0 h3) ?_
    refine x_if_eq 55 dX10_dearest_19 rfl (fun hc => ?_) (fun hc => ?_)
    · have h := ifT hc h
      refine z_iinc 1 (by decide) dX10_dearest_55 rfl rfl rfl ?_
      refine x_goto 4 dX10_dearest_58 rfl ?_
      exact ih H0 h
    have h := ifF hc h
    refine x_aloadn dX10_dearest_22 rfl ?_
    refine x_iloadn dX10_dearest_23 rfl ?_
    refine x_iconst 4 dX10_dearest_24 rfl ?_
    obtain ⟨v4, h5, h⟩ := b1_s h
    refine z_V1 [.int x3, .int 4] [] (cs_X10_224 _) (ci := 8) rfl (MK.o H0) (dep (show d + 2 + 0 + 1 ≤ (d + 3) from by omega) (Nat.le_of_ble_eq_true rfl)) dX10_dearest_25 rfl rfl (Nat.le_of_ble_eq_true rfl) (c_X10_ofWish (d + 2) (K := K) (I := I) H0 h5) ?_
    refine x_iloadn dX10_dearest_28 rfl ?_
    refine x_icmp_eq 35 dX10_dearest_29 rfl (fun hc => ?_) (fun hc => ?_)
    · have h := ifT hc h
      refine x_iloadn dX10_dearest_35 rfl ?_
      refine x_iconst (-1) dX10_dearest_36 rfl ?_
      refine x_icmp_eq 53 dX10_dearest_37 rfl (fun hc => ?_) (fun hc => ?_)
      · have h := ifT hc h
        refine x_iloadn dX10_dearest_53 rfl ?_
        refine x_istoren dX10_dearest_54 (Nat.le_of_ble_eq_true rfl) rfl rfl ?_
        refine z_iinc 1 (by decide) dX10_dearest_55 rfl rfl rfl ?_
        refine x_goto 4 dX10_dearest_58 rfl ?_
        exact ih H0 h
      have h := ifF hc h
      refine x_aloadn dX10_dearest_40 rfl ?_
      refine x_iloadn dX10_dearest_41 rfl ?_
      obtain ⟨v6, h7, h⟩ := b1_s h
      refine z_V1 [.int x3] [] (cs_X10_392 _) (ci := 8) rfl (MK.o H0) (dep (show d + 0 + 2 + 1 ≤ (d + 3) from by omega) (Nat.le_of_ble_eq_true rfl)) dX10_dearest_42 rfl rfl (Nat.le_of_ble_eq_true rfl) (c_X10_valueOf d (K := K) (I := I) H0 h7) ?_
      refine x_aloadn dX10_dearest_45 rfl ?_
      refine x_iloadn dX10_dearest_46 rfl ?_
      obtain ⟨v8, h9, h⟩ := b1_s h
      refine z_V1 [.int x2] [.int v6] (cs_X10_392 _) (ci := 8) rfl (MK.o H0) (dep (show d + 0 + 2 + 1 ≤ (d + 3) from by omega) (Nat.le_of_ble_eq_true rfl)) dX10_dearest_47 rfl rfl (Nat.le_of_ble_eq_true rfl) (c_X10_valueOf d (K := K) (I := I) H0 h9) ?_
      refine x_icmp_le 55 dX10_dearest_50 rfl (fun hc => ?_) (fun hc => ?_)
      · have h := ifT hc h
        refine z_iinc 1 (by decide) dX10_dearest_55 rfl rfl rfl ?_
        refine x_goto 4 dX10_dearest_58 rfl ?_
        exact ih H0 h
      have h := ifF hc h
      refine x_iloadn dX10_dearest_53 rfl ?_
      refine x_istoren dX10_dearest_54 (Nat.le_of_ble_eq_true rfl) rfl rfl ?_
      refine z_iinc 1 (by decide) dX10_dearest_55 rfl rfl rfl ?_
      refine x_goto 4 dX10_dearest_58 rfl ?_
      exact ih H0 h
    have h := ifF hc h
    refine x_goto 55 dX10_dearest_32 rfl ?_
    refine z_iinc 1 (by decide) dX10_dearest_55 rfl rfl rfl ?_
    refine x_goto 4 dX10_dearest_58 rfl ?_
    exact ih H0 h
noncomputable def f_X10_dearest (I : Mem) (x0 : Nat) (x1 : Int32) : Option (Int32) := l_X10_dearest_4 FU I x0 x1 (-1) 0
theorem c_X10_dearest (d : Nat) {K : Kt} {I : Mem} {x0 : Nat} (H0 : MK K x0) {x1 : Int32} {v : Int32} (h : f_X10_dearest I x0 x1 = some v) : Ct (mX10_dearest (d + 3)) cX10_dearest 0 0 [.ref x0, .int x1] I K (Ro (.inl (some (.int v))) I K) := by
  refine Ct.of rfl pn_X10 (catR (catI cat0)) (Nat.le_of_ble_eq_true rfl) (show X _ _ _ _ _ _ 0 [.ref x0, .int x1, .retAddr 0, .retAddr 0] [] _ from ?_)
  unfold f_X10_dearest at h
  refine x_iconst (-1) dX10_dearest_0 rfl ?_
  refine x_istoren dX10_dearest_1 (Nat.le_of_ble_eq_true rfl) rfl rfl ?_
  refine x_iconst 0 dX10_dearest_2 rfl ?_
  refine x_istoren dX10_dearest_3 (Nat.le_of_ble_eq_true rfl) rfl rfl ?_
  exact tl_X10_dearest_4 d FU H0 h
noncomputable def l_X10_auctions_20 (I : Mem) (x0 : Nat) (x2 : Int32) (y0 : Int32) : Option (Mem) := if y0 = (-1) then (some (I)) else (b1 (f_X10_bidOf I x0 y0 x2) fun v5 => b1 (f_X10_valueOf I x0 x2) fun v7 => if (if 1 < (v7 / 2) then (v7 / 2) else 1) ≤ v5 then (b1 (f_X10_bidOf I x0 y0 x2) fun v9 => b1 (f_X10_gets I x0 y0 x2 v9) fun I11 => some (I11)) else (some (I)))
theorem tl_X10_auctions_20 (d : Nat) {K : Kt} : ∀ {I : Mem} {x0 : Nat} (H0 : MK K x0) {x2 : Int32} {y0 : Int32} {I9 : Mem}, l_X10_auctions_20 I x0 x2 y0 = some I9 → X (mX10_auctions (d + 5)) cX10_auctions 0 0 I K 20 [.ref x0, .retAddr 0, .int x2, .retAddr 0] [.int y0] (Ro (.inl none) I9 K) := by
  intro I x0 H0 x2 y0 I9 h
  unfold l_X10_auctions_20 at h
  refine x_istoren dX10_auctions_20 (Nat.le_of_ble_eq_true rfl) rfl rfl ?_
  refine x_iloadn dX10_auctions_21 rfl ?_
  refine x_iconst (-1) dX10_auctions_22 rfl ?_
  refine x_icmp_eq 46 dX10_auctions_23 rfl (fun hc => ?_) (fun hc => ?_)
  · have h := ifT hc h
    cases h
    exact x_vret rfl dX10_auctions_46 ⟨rfl, rfl, rfl⟩
  have h := ifF hc h
  refine x_aloadn dX10_auctions_26 rfl ?_
  refine x_iloadn dX10_auctions_27 rfl ?_
  refine x_iloadn dX10_auctions_28 rfl ?_
  obtain ⟨v5, h6, h⟩ := b1_s h
  refine z_V1 [.int y0, .int x2] [] (cs_X10_407 _) (ci := 8) rfl (MK.o H0) (dep (show d + 1 + 3 + 1 ≤ (d + 5) from by omega) (Nat.le_of_ble_eq_true rfl)) dX10_auctions_29 rfl rfl (Nat.le_of_ble_eq_true rfl) (c_X10_bidOf (d + 1) (K := K) (I := I) H0 h6) ?_
  refine x_iconst 1 dX10_auctions_32 rfl ?_
  refine x_aloadn dX10_auctions_33 rfl ?_
  refine x_iloadn dX10_auctions_34 rfl ?_
  obtain ⟨v7, h8, h⟩ := b1_s h
  refine z_V1 [.int x2] [.int 1, .int v5] (cs_X10_392 _) (ci := 8) rfl (MK.o H0) (dep (show d + 2 + 2 + 1 ≤ (d + 5) from by omega) (Nat.le_of_ble_eq_true rfl)) dX10_auctions_35 rfl rfl (Nat.le_of_ble_eq_true rfl) (c_X10_valueOf (d + 2) (K := K) (I := I) H0 h8) ?_
  refine x_iconst 2 dX10_auctions_38 rfl ?_
  refine x_idiv dX10_auctions_39 (by decide) ?_
  refine x_mmax ms_X10_363 (Nat.le_of_ble_eq_true rfl) (by show 1 ≤ (d + 5); omega) dX10_auctions_40 ?_
  refine x_icmp_ge 47 dX10_auctions_43 rfl (fun hc => ?_) (fun hc => ?_)
  · have h := ifT hc h
    refine x_aloadn dX10_auctions_47 rfl ?_
    refine x_iloadn dX10_auctions_48 rfl ?_
    refine x_iloadn dX10_auctions_49 rfl ?_
    refine x_aloadn dX10_auctions_50 rfl ?_
    refine x_iloadn dX10_auctions_51 rfl ?_
    refine x_iloadn dX10_auctions_52 rfl ?_
    obtain ⟨v9, h10, h⟩ := b1_s h
    refine z_V1 [.int y0, .int x2] [.int x2, .int y0, .ref x0] (cs_X10_407 _) (ci := 8) rfl (MK.o H0) (dep (show d + 1 + 3 + 1 ≤ (d + 5) from by omega) (Nat.le_of_ble_eq_true rfl)) dX10_auctions_53 rfl rfl (Nat.le_of_ble_eq_true rfl) (c_X10_bidOf (d + 1) (K := K) (I := I) H0 h10) ?_
    obtain ⟨I11, h12, h⟩ := b1_s h
    refine z_V0 [.int y0, .int x2, .int v9] [] (cs_X10_386 _) (ci := 8) rfl (MK.o H0) (dep (show d + 1 + 3 + 1 ≤ (d + 5) from by omega) (Nat.le_of_ble_eq_true rfl)) dX10_auctions_56 rfl rfl (Nat.le_of_ble_eq_true rfl) (c_X10_gets (d + 1) (K := K) (I := I) H0 h12) ?_
    cases h
    exact x_vret rfl dX10_auctions_59 ⟨rfl, rfl, rfl⟩
  have h := ifF hc h
  cases h
  exact x_vret rfl dX10_auctions_46 ⟨rfl, rfl, rfl⟩
noncomputable def f_X10_auctions (I : Mem) (x0 : Nat) (x1 : Int32) : Option (Mem) := b1 (f_X10_dearest I x0 x1) fun v1 => if v1 = (-1) then (l_X10_auctions_20 I x0 v1 (-1)) else (b1 (f_X10_bidder I x0 v1) fun v3 => l_X10_auctions_20 I x0 v1 v3)
theorem c_X10_auctions (d : Nat) {K : Kt} {I : Mem} {x0 : Nat} (H0 : MK K x0) {x1 : Int32} {I9 : Mem} (h : f_X10_auctions I x0 x1 = some I9) : Ct (mX10_auctions (d + 5)) cX10_auctions 0 0 [.ref x0, .int x1] I K (Ro (.inl none) I9 K) := by
  refine Ct.of rfl pn_X10 (catR (catI cat0)) (Nat.le_of_ble_eq_true rfl) (show X _ _ _ _ _ _ 0 [.ref x0, .int x1, .retAddr 0, .retAddr 0] [] _ from ?_)
  unfold f_X10_auctions at h
  refine x_aloadn dX10_auctions_0 rfl ?_
  refine x_iloadn dX10_auctions_1 rfl ?_
  obtain ⟨v1, h2, h⟩ := b1_s h
  refine z_V1 [.int x1] [] (cs_X10_410 _) (ci := 8) rfl (MK.o H0) (dep (show d + 1 + 3 + 1 ≤ (d + 5) from by omega) (Nat.le_of_ble_eq_true rfl)) dX10_auctions_2 rfl rfl (Nat.le_of_ble_eq_true rfl) (c_X10_dearest (d + 1) (K := K) (I := I) H0 h2) ?_
  refine x_istoren dX10_auctions_5 (Nat.le_of_ble_eq_true rfl) rfl rfl ?_
  refine x_iloadn dX10_auctions_6 rfl ?_
  refine x_iconst (-1) dX10_auctions_7 rfl ?_
  refine x_icmp_ne 15 dX10_auctions_8 rfl (fun hc => ?_) (fun hc => ?_)
  · have h := ifF hc h
    refine x_aloadn dX10_auctions_15 rfl ?_
    refine x_iloadn dX10_auctions_16 rfl ?_
    obtain ⟨v3, h4, h⟩ := b1_s h
    refine z_V1 [.int v1] [] (cs_X10_413 _) (ci := 8) rfl (MK.o H0) (dep (show d + 0 + 4 + 1 ≤ (d + 5) from by omega) (Nat.le_of_ble_eq_true rfl)) dX10_auctions_17 rfl rfl (Nat.le_of_ble_eq_true rfl) (c_X10_bidder d (K := K) (I := I) H0 h4) ?_
    exact X.forget (L' := [.ref x0, .retAddr 0, .int v1, .retAddr 0]) ⟨Or.inl rfl, ⟨Or.inr rfl, ⟨Or.inl rfl, ⟨Or.inl rfl, trivial⟩⟩⟩⟩ (tl_X10_auctions_20 d H0 h)
  have h := ifT hc h
  refine x_iconst (-1) dX10_auctions_11 rfl ?_
  refine x_goto 20 dX10_auctions_12 rfl ?_
  exact X.forget (L' := [.ref x0, .retAddr 0, .int v1, .retAddr 0]) ⟨Or.inl rfl, ⟨Or.inr rfl, ⟨Or.inl rfl, ⟨Or.inl rfl, trivial⟩⟩⟩⟩ (tl_X10_auctions_20 d H0 h)
noncomputable def l_X10_greatestOffer_4 (n : Nat) (I : Mem) (x0 : Nat) (x1 : Int32) (x2 : Int32) (x3 : Int32) : Option (Int32) := match n with
  | 0 => none
  | n + 1 => b1 (ix 3 355) fun j1 => if (I (x0 + 1) j1) ≤ x3 then (some (x2)) else (b1 (f_X10_whySell I x0 x1 x3) fun v2 => if v2 = 0 then (if x2 = (-1) then (l_X10_greatestOffer_4 n I x0 x1 x3 (x3 + 1)) else (b1 (f_X10_offerOf I x0 x1 x3) fun v4 => b1 (f_X10_offerOf I x0 x1 x2) fun v6 => if v4 ≤ v6 then (l_X10_greatestOffer_4 n I x0 x1 x2 (x3 + 1)) else (l_X10_greatestOffer_4 n I x0 x1 x3 (x3 + 1)))) else (l_X10_greatestOffer_4 n I x0 x1 x2 (x3 + 1)))
theorem tl_X10_greatestOffer_4 (d : Nat) {K : Kt} (n : Nat) : ∀ {I : Mem} {x0 : Nat} (H0 : MK K x0) {x1 : Int32} {x2 : Int32} {x3 : Int32} {v : Int32}, l_X10_greatestOffer_4 n I x0 x1 x2 x3 = some v → X (mX10_greatestOffer (d + 5)) cX10_greatestOffer 0 0 I K 4 [.ref x0, .int x1, .int x2, .int x3] [] (Ro (.inl (some (.int v))) I K) := by
  induction n with
  | zero =>
    intro I x0 H0 x1 x2 x3 v h
    cases h
  | succ n ih =>
    intro I x0 H0 x1 x2 x3 v h
    unfold l_X10_greatestOffer_4 at h
    refine x_iloadn dX10_greatestOffer_4 rfl ?_
    refine x_aloadn dX10_greatestOffer_5 rfl ?_
    refine z_getR fs_X10_9 (MK.o H0) (MK.g1 H0) dX10_greatestOffer_6 ?_
    refine x_iconst 3 dX10_greatestOffer_9 rfl ?_
    obtain ⟨j1, hj1, h⟩ := b1_s h
    refine z_iald (MK.l1 H0) hj1 dX10_greatestOffer_10 ?_
    refine x_icmp_ge 51 dX10_greatestOffer_11 rfl (fun hc => ?_) (fun hc => ?_)
    · have h := ifT hc h
      refine x_iloadn dX10_greatestOffer_51 rfl ?_
      cases h
      exact x_iret rfl dX10_greatestOffer_52 ⟨rfl, rfl, rfl⟩
    have h := ifF hc h
    refine x_aloadn dX10_greatestOffer_14 rfl ?_
    refine x_iloadn dX10_greatestOffer_15 rfl ?_
    refine x_iloadn dX10_greatestOffer_16 rfl ?_
    obtain ⟨v2, h3, h⟩ := b1_s h
    refine z_V1 [.int x1, .int x3] [] (cs_X10_203 _) (ci := 8) rfl (MK.o H0) (dep (show d + 0 + 4 + 1 ≤ (d + 5) from by omega) (Nat.le_of_ble_eq_true rfl)) dX10_greatestOffer_17 rfl rfl (Nat.le_of_ble_eq_true rfl) (c_X10_whySell d (K := K) (I := I) H0 h3) ?_
    refine x_if_ne 45 dX10_greatestOffer_20 rfl (fun hc => ?_) (fun hc => ?_)
    · have h := ifF hc h
      refine z_iinc 1 (by decide) dX10_greatestOffer_45 rfl rfl rfl ?_
      refine x_goto 4 dX10_greatestOffer_48 rfl ?_
      exact ih H0 h
    have h := ifT hc h
    refine x_iloadn dX10_greatestOffer_23 rfl ?_
    refine x_iconst (-1) dX10_greatestOffer_24 rfl ?_
    refine x_icmp_eq 43 dX10_greatestOffer_25 rfl (fun hc => ?_) (fun hc => ?_)
    · have h := ifT hc h
      refine x_iloadn dX10_greatestOffer_43 rfl ?_
      refine x_istoren dX10_greatestOffer_44 (Nat.le_of_ble_eq_true rfl) rfl rfl ?_
      refine z_iinc 1 (by decide) dX10_greatestOffer_45 rfl rfl rfl ?_
      refine x_goto 4 dX10_greatestOffer_48 rfl ?_
      exact ih H0 h
    have h := ifF hc h
    refine x_aloadn dX10_greatestOffer_28 rfl ?_
    refine x_iloadn dX10_greatestOffer_29 rfl ?_
    refine x_iloadn dX10_greatestOffer_30 rfl ?_
    obtain ⟨v4, h5, h⟩ := b1_s h
    refine z_V1 [.int x1, .int x3] [] (cs_X10_371 _) (ci := 8) rfl (MK.o H0) (dep (show d + 2 + 2 + 1 ≤ (d + 5) from by omega) (Nat.le_of_ble_eq_true rfl)) dX10_greatestOffer_31 rfl rfl (Nat.le_of_ble_eq_true rfl) (c_X10_offerOf (d + 2) (K := K) (I := I) H0 h5) ?_
    refine x_aloadn dX10_greatestOffer_34 rfl ?_
    refine x_iloadn dX10_greatestOffer_35 rfl ?_
    refine x_iloadn dX10_greatestOffer_36 rfl ?_
    obtain ⟨v6, h7, h⟩ := b1_s h
    refine z_V1 [.int x1, .int x2] [.int v4] (cs_X10_371 _) (ci := 8) rfl (MK.o H0) (dep (show d + 2 + 2 + 1 ≤ (d + 5) from by omega) (Nat.le_of_ble_eq_true rfl)) dX10_greatestOffer_37 rfl rfl (Nat.le_of_ble_eq_true rfl) (c_X10_offerOf (d + 2) (K := K) (I := I) H0 h7) ?_
    refine x_icmp_le 45 dX10_greatestOffer_40 rfl (fun hc => ?_) (fun hc => ?_)
    · have h := ifT hc h
      refine z_iinc 1 (by decide) dX10_greatestOffer_45 rfl rfl rfl ?_
      refine x_goto 4 dX10_greatestOffer_48 rfl ?_
      exact ih H0 h
    have h := ifF hc h
    refine x_iloadn dX10_greatestOffer_43 rfl ?_
    refine x_istoren dX10_greatestOffer_44 (Nat.le_of_ble_eq_true rfl) rfl rfl ?_
    refine z_iinc 1 (by decide) dX10_greatestOffer_45 rfl rfl rfl ?_
    refine x_goto 4 dX10_greatestOffer_48 rfl ?_
    exact ih H0 h
noncomputable def f_X10_greatestOffer (I : Mem) (x0 : Nat) (x1 : Int32) : Option (Int32) := l_X10_greatestOffer_4 FU I x0 x1 (-1) 0
theorem c_X10_greatestOffer (d : Nat) {K : Kt} {I : Mem} {x0 : Nat} (H0 : MK K x0) {x1 : Int32} {v : Int32} (h : f_X10_greatestOffer I x0 x1 = some v) : Ct (mX10_greatestOffer (d + 5)) cX10_greatestOffer 0 0 [.ref x0, .int x1] I K (Ro (.inl (some (.int v))) I K) := by
  refine Ct.of rfl pn_X10 (catR (catI cat0)) (Nat.le_of_ble_eq_true rfl) (show X _ _ _ _ _ _ 0 [.ref x0, .int x1, .retAddr 0, .retAddr 0] [] _ from ?_)
  unfold f_X10_greatestOffer at h
  refine x_iconst (-1) dX10_greatestOffer_0 rfl ?_
  refine x_istoren dX10_greatestOffer_1 (Nat.le_of_ble_eq_true rfl) rfl rfl ?_
  refine x_iconst 0 dX10_greatestOffer_2 rfl ?_
  refine x_istoren dX10_greatestOffer_3 (Nat.le_of_ble_eq_true rfl) rfl rfl ?_
  exact tl_X10_greatestOffer_4 d FU H0 h
noncomputable def l_X10_bargains_31 (I : Mem) (x0 : Nat) (x1 : Int32) (x2 : Int32) (y0 : Int32) : Option (Int32 × Mem) := if x2 = (-1) then (some (0, I)) else (b1 (f_X10_offerOf I x0 x1 x2) fun v7 => if y0 < v7 then (b2 (f_X10_sells I x0 x1 x2) fun v9 I10 => some (1, I10)) else (some (0, I)))
theorem tl_X10_bargains_31 (d : Nat) {K : Kt} : ∀ {I : Mem} {x0 : Nat} (H0 : MK K x0) {x1 : Int32} {x2 : Int32} {y0 : Int32} {v : Int32} {I9 : Mem}, l_X10_bargains_31 I x0 x1 x2 y0 = some (v, I9) → X (mX10_bargains (d + 6)) cX10_bargains 0 0 I K 31 [.ref x0, .int x1, .int x2, .retAddr 0, .retAddr 0] [.int y0] (Ro (.inl (some (.int v))) I9 K) := by
  intro I x0 H0 x1 x2 y0 v I9 h
  unfold l_X10_bargains_31 at h
  refine x_istoren dX10_bargains_31 (Nat.le_of_ble_eq_true rfl) rfl rfl ?_
  refine x_iloadn dX10_bargains_32 rfl ?_
  refine x_iconst (-1) dX10_bargains_33 rfl ?_
  refine x_icmp_eq 47 dX10_bargains_34 rfl (fun hc => ?_) (fun hc => ?_)
  · have h := ifT hc h
    refine x_iconst 0 dX10_bargains_47 rfl ?_
    cases h
    exact x_zret rfl rfl dX10_bargains_48 ⟨rfl, rfl, rfl⟩
  have h := ifF hc h
  refine x_aloadn dX10_bargains_37 rfl ?_
  refine x_iloadn dX10_bargains_38 rfl ?_
  refine x_iloadn dX10_bargains_39 rfl ?_
  obtain ⟨v7, h8, h⟩ := b1_s h
  refine z_V1 [.int x1, .int x2] [] (cs_X10_371 _) (ci := 8) rfl (MK.o H0) (dep (show d + 3 + 2 + 1 ≤ (d + 6) from by omega) (Nat.le_of_ble_eq_true rfl)) dX10_bargains_40 rfl rfl (Nat.le_of_ble_eq_true rfl) (c_X10_offerOf (d + 3) (K := K) (I := I) H0 h8) ?_
  refine x_iloadn dX10_bargains_43 rfl ?_
  refine x_icmp_gt 49 dX10_bargains_44 rfl (fun hc => ?_) (fun hc => ?_)
  · have h := ifT hc h
    refine x_aloadn dX10_bargains_49 rfl ?_
    refine x_iloadn dX10_bargains_50 rfl ?_
    refine x_iloadn dX10_bargains_51 rfl ?_
    obtain ⟨v9, I10, h11, h⟩ := b2_s h
    refine z_V1 [.int x1, .int x2] [] (cs_X10_206 _) (ci := 8) rfl (MK.o H0) (dep (show d + 2 + 3 + 1 ≤ (d + 6) from by omega) (Nat.le_of_ble_eq_true rfl)) dX10_bargains_52 rfl rfl (Nat.le_of_ble_eq_true rfl) (c_X10_sells (d + 2) (K := K) (I := I) H0 h11) ?_
    refine x_istore dX10_bargains_55 (Nat.le_of_ble_eq_true rfl) rfl rfl ?_
    refine x_iconst 1 dX10_bargains_57 rfl ?_
    cases h
    exact x_zret rfl rfl dX10_bargains_58 ⟨rfl, rfl, rfl⟩
  have h := ifF hc h
  refine x_iconst 0 dX10_bargains_47 rfl ?_
  cases h
  exact x_zret rfl rfl dX10_bargains_48 ⟨rfl, rfl, rfl⟩
noncomputable def f_X10_bargains (I : Mem) (x0 : Nat) (x1 : Int32) : Option (Int32 × Mem) := b1 (f_X10_greatestOffer I x0 x1) fun v1 => b1 (f_X10_ofWish I x0 x1 5) fun v3 => if v3 = (-1) then (b1 (f_X10_valueOf I x0 x1) fun v12 => l_X10_bargains_31 I x0 x1 v1 v12) else (b1 (f_X10_ofWish I x0 x1 6) fun v5 => l_X10_bargains_31 I x0 x1 v1 v5)
theorem c_X10_bargains (d : Nat) {K : Kt} {I : Mem} {x0 : Nat} (H0 : MK K x0) {x1 : Int32} {v : Int32} {I9 : Mem} (h : f_X10_bargains I x0 x1 = some (v, I9)) : Ct (mX10_bargains (d + 6)) cX10_bargains 0 0 [.ref x0, .int x1] I K (Ro (.inl (some (.int v))) I9 K) := by
  refine Ct.of rfl pn_X10 (catR (catI cat0)) (Nat.le_of_ble_eq_true rfl) (show X _ _ _ _ _ _ 0 [.ref x0, .int x1, .retAddr 0, .retAddr 0, .retAddr 0] [] _ from ?_)
  unfold f_X10_bargains at h
  refine x_aloadn dX10_bargains_0 rfl ?_
  refine x_iloadn dX10_bargains_1 rfl ?_
  obtain ⟨v1, h2, h⟩ := b1_s h
  refine z_V1 [.int x1] [] (cs_X10_401 _) (ci := 8) rfl (MK.o H0) (dep (show d + 0 + 5 + 1 ≤ (d + 6) from by omega) (Nat.le_of_ble_eq_true rfl)) dX10_bargains_2 rfl rfl (Nat.le_of_ble_eq_true rfl) (c_X10_greatestOffer d (K := K) (I := I) H0 h2) ?_
  refine x_istoren dX10_bargains_5 (Nat.le_of_ble_eq_true rfl) rfl rfl ?_
  refine x_aloadn dX10_bargains_6 rfl ?_
  refine x_iloadn dX10_bargains_7 rfl ?_
  refine x_iconst 5 dX10_bargains_8 rfl ?_
  obtain ⟨v3, h4, h⟩ := b1_s h
  refine z_V1 [.int x1, .int 5] [] (cs_X10_224 _) (ci := 8) rfl (MK.o H0) (dep (show d + 5 + 0 + 1 ≤ (d + 6) from by omega) (Nat.le_of_ble_eq_true rfl)) dX10_bargains_9 rfl rfl (Nat.le_of_ble_eq_true rfl) (c_X10_ofWish (d + 5) (K := K) (I := I) H0 h4) ?_
  refine x_iconst (-1) dX10_bargains_12 rfl ?_
  refine x_icmp_ne 24 dX10_bargains_13 rfl (fun hc => ?_) (fun hc => ?_)
  · have h := ifF hc h
    refine x_aloadn dX10_bargains_24 rfl ?_
    refine x_iloadn dX10_bargains_25 rfl ?_
    refine x_bipush 6 dX10_bargains_26 rfl ?_
    obtain ⟨v5, h6, h⟩ := b1_s h
    refine z_V1 [.int x1, .int 6] [] (cs_X10_224 _) (ci := 8) rfl (MK.o H0) (dep (show d + 5 + 0 + 1 ≤ (d + 6) from by omega) (Nat.le_of_ble_eq_true rfl)) dX10_bargains_28 rfl rfl (Nat.le_of_ble_eq_true rfl) (c_X10_ofWish (d + 5) (K := K) (I := I) H0 h6) ?_
    exact tl_X10_bargains_31 d H0 h
  have h := ifT hc h
  refine x_aloadn dX10_bargains_16 rfl ?_
  refine x_iloadn dX10_bargains_17 rfl ?_
  obtain ⟨v12, h13, h⟩ := b1_s h
  refine z_V1 [.int x1] [] (cs_X10_392 _) (ci := 8) rfl (MK.o H0) (dep (show d + 3 + 2 + 1 ≤ (d + 6) from by omega) (Nat.le_of_ble_eq_true rfl)) dX10_bargains_18 rfl rfl (Nat.le_of_ble_eq_true rfl) (c_X10_valueOf (d + 3) (K := K) (I := I) H0 h13) ?_
  refine x_goto 31 dX10_bargains_21 rfl ?_
  exact tl_X10_bargains_31 d H0 h
noncomputable def l_X10_bargainsOnce_18 (n : Nat) (I : Mem) (x0 : Nat) (x1 : Int32) (x2 : Int32) (x3 : Int32) : Option (Mem) := match n with
  | 0 => none
  | n + 1 => b1 (ix 4 355) fun j3 => if (I (x0 + 1) j3) ≤ x3 then (some (I)) else (if x2 = 0 then (b1 (f_X10_isOwnedBy I x0 x3 x1) fun v4 => if v4 = 0 then (l_X10_bargainsOnce_18 n I x0 x1 x2 (x3 + 1)) else (b2 (f_X10_bargains I x0 x3) fun v6 I7 => l_X10_bargainsOnce_18 n I7 x0 x1 v6 (x3 + 1))) else (some (I)))
theorem tl_X10_bargainsOnce_18 (d : Nat) {K : Kt} (n : Nat) : ∀ {I : Mem} {x0 : Nat} (H0 : MK K x0) {x1 : Int32} {x2 : Int32} {x3 : Int32} {I9 : Mem}, l_X10_bargainsOnce_18 n I x0 x1 x2 x3 = some I9 → X (mX10_bargainsOnce (d + 7)) cX10_bargainsOnce 0 0 I K 18 [.ref x0, .int x1, .int x2, .int x3] [] (Ro (.inl none) I9 K) := by
  induction n with
  | zero =>
    intro I x0 H0 x1 x2 x3 I9 h
    cases h
  | succ n ih =>
    intro I x0 H0 x1 x2 x3 I9 h
    unfold l_X10_bargainsOnce_18 at h
    refine x_iloadn dX10_bargainsOnce_18 rfl ?_
    refine x_aloadn dX10_bargainsOnce_19 rfl ?_
    refine z_getR fs_X10_9 (MK.o H0) (MK.g1 H0) dX10_bargainsOnce_20 ?_
    refine x_iconst 4 dX10_bargainsOnce_23 rfl ?_
    obtain ⟨j3, hj3, h⟩ := b1_s h
    refine z_iald (MK.l1 H0) hj3 dX10_bargainsOnce_24 ?_
    refine x_icmp_ge 53 dX10_bargainsOnce_25 rfl (fun hc => ?_) (fun hc => ?_)
    · have h := ifT hc h
      cases h
      exact x_vret rfl dX10_bargainsOnce_53 ⟨rfl, rfl, rfl⟩
    have h := ifF hc h
    refine x_iloadn dX10_bargainsOnce_28 rfl ?_
    refine x_if_ne 53 dX10_bargainsOnce_29 rfl (fun hc => ?_) (fun hc => ?_)
    · have h := ifF hc h
      cases h
      exact x_vret rfl dX10_bargainsOnce_53 ⟨rfl, rfl, rfl⟩
    have h := ifT hc h
    refine x_aloadn dX10_bargainsOnce_32 rfl ?_
    refine x_iloadn dX10_bargainsOnce_33 rfl ?_
    refine x_iloadn dX10_bargainsOnce_34 rfl ?_
    obtain ⟨v4, h5, h⟩ := b1_s h
    refine z_V1 [.int x3, .int x1] [] (cs_X10_343 _) (ci := 8) rfl (MK.o H0) (dep (show d + 4 + 2 + 1 ≤ (d + 7) from by omega) (Nat.le_of_ble_eq_true rfl)) dX10_bargainsOnce_35 rfl rfl (Nat.le_of_ble_eq_true rfl) (c_X10_isOwnedBy (d + 4) (K := K) (I := I) H0 h5) ?_
    refine x_if_eq 47 dX10_bargainsOnce_38 rfl (fun hc => ?_) (fun hc => ?_)
    · have h := ifT hc h
      refine z_iinc 1 (by decide) dX10_bargainsOnce_47 rfl rfl rfl ?_
      refine x_goto 18 dX10_bargainsOnce_50 rfl ?_
      exact ih H0 h
    have h := ifF hc h
    refine x_aloadn dX10_bargainsOnce_41 rfl ?_
    refine x_iloadn dX10_bargainsOnce_42 rfl ?_
    obtain ⟨v6, I7, h8, h⟩ := b2_s h
    refine z_V1 [.int x3] [] (cs_X10_404 _) (ci := 8) rfl (MK.o H0) (dep (show d + 0 + 6 + 1 ≤ (d + 7) from by omega) (Nat.le_of_ble_eq_true rfl)) dX10_bargainsOnce_43 rfl rfl (Nat.le_of_ble_eq_true rfl) (c_X10_bargains d (K := K) (I := I) H0 h8) ?_
    refine x_istoren dX10_bargainsOnce_46 (Nat.le_of_ble_eq_true rfl) rfl rfl ?_
    refine z_iinc 1 (by decide) dX10_bargainsOnce_47 rfl rfl rfl ?_
    refine x_goto 18 dX10_bargainsOnce_50 rfl ?_
    exact ih H0 h
noncomputable def f_X10_bargainsOnce (I : Mem) (x0 : Nat) (x1 : Int32) : Option (Mem) := b1 (f_X10_ofPerson I x0 x1 6) fun v1 => if v1 = 0 then (l_X10_bargainsOnce_18 FU I x0 x1 1 0) else (l_X10_bargainsOnce_18 FU I x0 x1 0 0)
theorem c_X10_bargainsOnce (d : Nat) {K : Kt} {I : Mem} {x0 : Nat} (H0 : MK K x0) {x1 : Int32} {I9 : Mem} (h : f_X10_bargainsOnce I x0 x1 = some I9) : Ct (mX10_bargainsOnce (d + 7)) cX10_bargainsOnce 0 0 [.ref x0, .int x1] I K (Ro (.inl none) I9 K) := by
  refine Ct.of rfl pn_X10 (catR (catI cat0)) (Nat.le_of_ble_eq_true rfl) (show X _ _ _ _ _ _ 0 [.ref x0, .int x1, .retAddr 0, .retAddr 0] [] _ from ?_)
  unfold f_X10_bargainsOnce at h
  refine x_aloadn dX10_bargainsOnce_0 rfl ?_
  refine x_iloadn dX10_bargainsOnce_1 rfl ?_
  refine x_bipush 6 dX10_bargainsOnce_2 rfl ?_
  obtain ⟨v1, h2, h⟩ := b1_s h
  refine z_V1 [.int x1, .int 6] [] (cs_X10_141 _) (ci := 8) rfl (MK.o H0) (dep (show d + 6 + 0 + 1 ≤ (d + 7) from by omega) (Nat.le_of_ble_eq_true rfl)) dX10_bargainsOnce_4 rfl rfl (Nat.le_of_ble_eq_true rfl) (c_X10_ofPerson (d + 6) (K := K) (I := I) H0 h2) ?_
  refine x_if_ne 14 dX10_bargainsOnce_7 rfl (fun hc => ?_) (fun hc => ?_)
  · have h := ifF hc h
    refine x_iconst 0 dX10_bargainsOnce_14 rfl ?_
    refine x_istoren dX10_bargainsOnce_15 (Nat.le_of_ble_eq_true rfl) rfl rfl ?_
    refine x_iconst 0 dX10_bargainsOnce_16 rfl ?_
    refine x_istoren dX10_bargainsOnce_17 (Nat.le_of_ble_eq_true rfl) rfl rfl ?_
    exact tl_X10_bargainsOnce_18 d FU H0 h
  have h := ifT hc h
  refine x_iconst 1 dX10_bargainsOnce_10 rfl ?_
  refine x_goto 15 dX10_bargainsOnce_11 rfl ?_
  refine x_istoren dX10_bargainsOnce_15 (Nat.le_of_ble_eq_true rfl) rfl rfl ?_
  refine x_iconst 0 dX10_bargainsOnce_16 rfl ?_
  refine x_istoren dX10_bargainsOnce_17 (Nat.le_of_ble_eq_true rfl) rfl rfl ?_
  exact tl_X10_bargainsOnce_18 d FU H0 h
noncomputable def l_X10_greatestGrant_4 (n : Nat) (I : Mem) (x0 : Nat) (x1 : Int32) (x2 : Int32) (x3 : Int32) : Option (Int32) := match n with
  | 0 => none
  | n + 1 => b1 (ix 4 355) fun j1 => if (I (x0 + 1) j1) ≤ x3 then (some (x2)) else (b1 (f_X10_isOwnedBy I x0 x3 x1) fun v2 => if v2 = 0 then (l_X10_greatestGrant_4 n I x0 x1 x2 (x3 + 1)) else (b1 (f_X10_whyGrant I x0 x3) fun v4 => if v4 = 0 then (if x2 = (-1) then (l_X10_greatestGrant_4 n I x0 x1 x3 (x3 + 1)) else (b1 (f_X10_valueOf I x0 x3) fun v6 => b1 (f_X10_valueOf I x0 x2) fun v8 => if v6 ≤ v8 then (l_X10_greatestGrant_4 n I x0 x1 x2 (x3 + 1)) else (l_X10_greatestGrant_4 n I x0 x1 x3 (x3 + 1)))) else (l_X10_greatestGrant_4 n I x0 x1 x2 (x3 + 1))))
theorem tl_X10_greatestGrant_4 (d : Nat) {K : Kt} (n : Nat) : ∀ {I : Mem} {x0 : Nat} (H0 : MK K x0) {x1 : Int32} {x2 : Int32} {x3 : Int32} {v : Int32}, l_X10_greatestGrant_4 n I x0 x1 x2 x3 = some v → X (mX10_greatestGrant (d + 3)) cX10_greatestGrant 0 0 I K 4 [.ref x0, .int x1, .int x2, .int x3] [] (Ro (.inl (some (.int v))) I K) := by
  induction n with
  | zero =>
    intro I x0 H0 x1 x2 x3 v h
    cases h
  | succ n ih =>
    intro I x0 H0 x1 x2 x3 v h
    unfold l_X10_greatestGrant_4 at h
    refine x_iloadn dX10_greatestGrant_4 rfl ?_
    refine x_aloadn dX10_greatestGrant_5 rfl ?_
    refine z_getR fs_X10_9 (MK.o H0) (MK.g1 H0) dX10_greatestGrant_6 ?_
    refine x_iconst 4 dX10_greatestGrant_9 rfl ?_
    obtain ⟨j1, hj1, h⟩ := b1_s h
    refine z_iald (MK.l1 H0) hj1 dX10_greatestGrant_10 ?_
    refine x_icmp_ge 60 dX10_greatestGrant_11 rfl (fun hc => ?_) (fun hc => ?_)
    · have h := ifT hc h
      refine x_iloadn dX10_greatestGrant_60 rfl ?_
      cases h
      exact x_iret rfl dX10_greatestGrant_61 ⟨rfl, rfl, rfl⟩
    have h := ifF hc h
    refine x_aloadn dX10_greatestGrant_14 rfl ?_
    refine x_iloadn dX10_greatestGrant_15 rfl ?_
    refine x_iloadn dX10_greatestGrant_16 rfl ?_
    obtain ⟨v2, h3, h⟩ := b1_s h
    refine z_V1 [.int x3, .int x1] [] (cs_X10_343 _) (ci := 8) rfl (MK.o H0) (dep (show d + 0 + 2 + 1 ≤ (d + 3) from by omega) (Nat.le_of_ble_eq_true rfl)) dX10_greatestGrant_17 rfl rfl (Nat.le_of_ble_eq_true rfl) (c_X10_isOwnedBy d (K := K) (I := I) H0 h3) ?_
    refine x_if_eq 54 dX10_greatestGrant_20 rfl (fun hc => ?_) (fun hc => ?_)
    · have h := ifT hc h
      refine z_iinc 1 (by decide) dX10_greatestGrant_54 rfl rfl rfl ?_
      refine x_goto 4 dX10_greatestGrant_57 rfl ?_
      exact ih H0 h
    have h := ifF hc h
    refine x_aloadn dX10_greatestGrant_23 rfl ?_
    refine x_iloadn dX10_greatestGrant_24 rfl ?_
    obtain ⟨v4, h5, h⟩ := b1_s h
    refine z_V1 [.int x3] [] (cs_X10_215 _) (ci := 8) rfl (MK.o H0) (dep (show d + 0 + 2 + 1 ≤ (d + 3) from by omega) (Nat.le_of_ble_eq_true rfl)) dX10_greatestGrant_25 rfl rfl (Nat.le_of_ble_eq_true rfl) (c_X10_whyGrant d (K := K) (I := I) H0 h5) ?_
    refine x_if_eq 34 dX10_greatestGrant_28 rfl (fun hc => ?_) (fun hc => ?_)
    · have h := ifT hc h
      refine x_iloadn dX10_greatestGrant_34 rfl ?_
      refine x_iconst (-1) dX10_greatestGrant_35 rfl ?_
      refine x_icmp_eq 52 dX10_greatestGrant_36 rfl (fun hc => ?_) (fun hc => ?_)
      · have h := ifT hc h
        refine x_iloadn dX10_greatestGrant_52 rfl ?_
        refine x_istoren dX10_greatestGrant_53 (Nat.le_of_ble_eq_true rfl) rfl rfl ?_
        refine z_iinc 1 (by decide) dX10_greatestGrant_54 rfl rfl rfl ?_
        refine x_goto 4 dX10_greatestGrant_57 rfl ?_
        exact ih H0 h
      have h := ifF hc h
      refine x_aloadn dX10_greatestGrant_39 rfl ?_
      refine x_iloadn dX10_greatestGrant_40 rfl ?_
      obtain ⟨v6, h7, h⟩ := b1_s h
      refine z_V1 [.int x3] [] (cs_X10_392 _) (ci := 8) rfl (MK.o H0) (dep (show d + 0 + 2 + 1 ≤ (d + 3) from by omega) (Nat.le_of_ble_eq_true rfl)) dX10_greatestGrant_41 rfl rfl (Nat.le_of_ble_eq_true rfl) (c_X10_valueOf d (K := K) (I := I) H0 h7) ?_
      refine x_aloadn dX10_greatestGrant_44 rfl ?_
      refine x_iloadn dX10_greatestGrant_45 rfl ?_
      obtain ⟨v8, h9, h⟩ := b1_s h
      refine z_V1 [.int x2] [.int v6] (cs_X10_392 _) (ci := 8) rfl (MK.o H0) (dep (show d + 0 + 2 + 1 ≤ (d + 3) from by omega) (Nat.le_of_ble_eq_true rfl)) dX10_greatestGrant_46 rfl rfl (Nat.le_of_ble_eq_true rfl) (c_X10_valueOf d (K := K) (I := I) H0 h9) ?_
      refine x_icmp_le 54 dX10_greatestGrant_49 rfl (fun hc => ?_) (fun hc => ?_)
      · have h := ifT hc h
        refine z_iinc 1 (by decide) dX10_greatestGrant_54 rfl rfl rfl ?_
        refine x_goto 4 dX10_greatestGrant_57 rfl ?_
        exact ih H0 h
      have h := ifF hc h
      refine x_iloadn dX10_greatestGrant_52 rfl ?_
      refine x_istoren dX10_greatestGrant_53 (Nat.le_of_ble_eq_true rfl) rfl rfl ?_
      refine z_iinc 1 (by decide) dX10_greatestGrant_54 rfl rfl rfl ?_
      refine x_goto 4 dX10_greatestGrant_57 rfl ?_
      exact ih H0 h
    have h := ifF hc h
    refine x_goto 54 dX10_greatestGrant_31 rfl ?_
    refine z_iinc 1 (by decide) dX10_greatestGrant_54 rfl rfl rfl ?_
    refine x_goto 4 dX10_greatestGrant_57 rfl ?_
    exact ih H0 h
noncomputable def f_X10_greatestGrant (I : Mem) (x0 : Nat) (x1 : Int32) : Option (Int32) := l_X10_greatestGrant_4 FU I x0 x1 (-1) 0
theorem c_X10_greatestGrant (d : Nat) {K : Kt} {I : Mem} {x0 : Nat} (H0 : MK K x0) {x1 : Int32} {v : Int32} (h : f_X10_greatestGrant I x0 x1 = some v) : Ct (mX10_greatestGrant (d + 3)) cX10_greatestGrant 0 0 [.ref x0, .int x1] I K (Ro (.inl (some (.int v))) I K) := by
  refine Ct.of rfl pn_X10 (catR (catI cat0)) (Nat.le_of_ble_eq_true rfl) (show X _ _ _ _ _ _ 0 [.ref x0, .int x1, .retAddr 0, .retAddr 0] [] _ from ?_)
  unfold f_X10_greatestGrant at h
  refine x_iconst (-1) dX10_greatestGrant_0 rfl ?_
  refine x_istoren dX10_greatestGrant_1 (Nat.le_of_ble_eq_true rfl) rfl rfl ?_
  refine x_iconst 0 dX10_greatestGrant_2 rfl ?_
  refine x_istoren dX10_greatestGrant_3 (Nat.le_of_ble_eq_true rfl) rfl rfl ?_
  exact tl_X10_greatestGrant_4 d FU H0 h
