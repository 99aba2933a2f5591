noncomputable def f_X3_startAnew (I : Mem) (x0 : Nat) (x1 : Int32) : Option (Mem) := b1 (pu I x0 3 0) fun I1 => b1 (pu I1 x0 4 0) fun I2 => b1 (pu I2 x0 5 0) fun I3 => b1 (pu I3 x0 6 0) fun I4 => b1 (pu I4 x0 7 x1) fun I5 => b1 (pu I5 x0 8 3) fun I6 => b1 (pu I6 x0 9 10) fun I7 => b1 (pu I7 x0 10 (-1)) fun I8 => b1 (pu I8 x0 11 (-1)) fun I9 => b1 (pu I9 x0 12 0) fun I10 => b1 (pu I10 x0 13 0) fun I11 => some (I11)
theorem c_X3_startAnew (d : Nat) {K : Kt} {I : Mem} {x0 : Nat} (H0 : LM K x0) {x1 : Int32} {I9 : Mem} (h : f_X3_startAnew I x0 x1 = some I9) : Ct (mX3_startAnew d) cX3_startAnew 0 0 [.ref x0, .int x1] I K (Ro (.inl none) I9 K) := by
  refine Ct.of rfl pn_X3 (catR (catI cat0)) (Nat.le_of_ble_eq_true rfl) (show X _ _ _ _ _ _ 0 [.ref x0, .int x1] [] _ from ?_)
  unfold f_X3_startAnew at h
  refine x_aloadn dX3_startAnew_0 rfl ?_
  refine x_iconst 0 dX3_startAnew_1 rfl ?_
  obtain ⟨I1, hI1, h⟩ := b1_s h
  refine z_putI fs_X3_32 (LM.o H0) hI1 dX3_startAnew_2 ?_
  refine x_aloadn dX3_startAnew_5 rfl ?_
  refine x_iconst 0 dX3_startAnew_6 rfl ?_
  obtain ⟨I2, hI2, h⟩ := b1_s h
  refine z_putI fs_X3_36 (LM.o H0) hI2 dX3_startAnew_7 ?_
  refine x_aloadn dX3_startAnew_10 rfl ?_
  refine x_iconst 0 dX3_startAnew_11 rfl ?_
  obtain ⟨I3, hI3, h⟩ := b1_s h
  refine z_putI fs_X3_39 (LM.o H0) hI3 dX3_startAnew_12 ?_
  refine x_aloadn dX3_startAnew_15 rfl ?_
  refine x_iconst 0 dX3_startAnew_16 rfl ?_
  obtain ⟨I4, hI4, h⟩ := b1_s h
  refine z_putI fs_X3_42 (LM.o H0) hI4 dX3_startAnew_17 ?_
  refine x_aloadn dX3_startAnew_20 rfl ?_
  refine x_iloadn dX3_startAnew_21 rfl ?_
  obtain ⟨I5, hI5, h⟩ := b1_s h
  refine z_putI fs_X3_45 (LM.o H0) hI5 dX3_startAnew_22 ?_
  refine x_aloadn dX3_startAnew_25 rfl ?_
  refine x_iconst 3 dX3_startAnew_26 rfl ?_
  obtain ⟨I6, hI6, h⟩ := b1_s h
  refine z_putI fs_X3_48 (LM.o H0) hI6 dX3_startAnew_27 ?_
  refine x_aloadn dX3_startAnew_30 rfl ?_
  refine x_bipush 10 dX3_startAnew_31 rfl ?_
  obtain ⟨I7, hI7, h⟩ := b1_s h
  refine z_putI fs_X3_51 (LM.o H0) hI7 dX3_startAnew_33 ?_
  refine x_aloadn dX3_startAnew_36 rfl ?_
  refine x_iconst (-1) dX3_startAnew_37 rfl ?_
  obtain ⟨I8, hI8, h⟩ := b1_s h
  refine z_putI fs_X3_54 (LM.o H0) hI8 dX3_startAnew_38 ?_
  refine x_aloadn dX3_startAnew_41 rfl ?_
  refine x_iconst (-1) dX3_startAnew_42 rfl ?_
  obtain ⟨I9, hI9, h⟩ := b1_s h
  refine z_putI fs_X3_57 (LM.o H0) hI9 dX3_startAnew_43 ?_
  refine x_aloadn dX3_startAnew_46 rfl ?_
  refine x_iconst 0 dX3_startAnew_47 rfl ?_
  obtain ⟨I10, hI10, h⟩ := b1_s h
  refine z_putI fs_X3_60 (LM.o H0) hI10 dX3_startAnew_48 ?_
  refine x_aloadn dX3_startAnew_51 rfl ?_
  refine x_iconst 0 dX3_startAnew_52 rfl ?_
  obtain ⟨I11, hI11, h⟩ := b1_s h
  refine z_putI fs_X3_63 (LM.o H0) hI11 dX3_startAnew_53 ?_
  cases h
  exact x_vret rfl dX3_startAnew_56 ⟨rfl, rfl, rfl⟩
noncomputable def f_X4_copyFrom (I : Mem) (x0 : Nat) (x1 : Nat) : Option (Mem) := b1 (pu I x0 0 (I x1 0)) fun I1 => b1 (pu I1 x0 1 (I1 x1 1)) fun I2 => b1 (pu I2 x0 2 (I2 x1 2)) fun I3 => b1 (pu I3 x0 3 (I3 x1 3)) fun I4 => b1 (pu I4 x0 4 (I4 x1 4)) fun I5 => b1 (pu I5 x0 5 (I5 x1 5)) fun I6 => b1 (cB (I6 x1 6)) fun _ => b1 (pu I6 x0 6 (I6 x1 6)) fun I7 => b1 (cB (I7 x1 7)) fun _ => b1 (pu I7 x0 7 (I7 x1 7)) fun I8 => some (I8)
theorem c_X4_copyFrom (d : Nat) {K : Kt} {I : Mem} {x0 : Nat} (H0 : LO K 2 x0) {x1 : Nat} (H1 : LO K 2 x1) {I9 : Mem} (h : f_X4_copyFrom I x0 x1 = some I9) : Ct (mX4_copyFrom d) cX4_copyFrom 0 0 [.ref x0, .ref x1] I K (Ro (.inl none) I9 K) := by
  refine Ct.of rfl pn_X4 (catR (catR cat0)) (Nat.le_of_ble_eq_true rfl) (show X _ _ _ _ _ _ 0 [.ref x0, .ref x1] [] _ from ?_)
  unfold f_X4_copyFrom at h
  refine x_aloadn dX4_copyFrom_0 rfl ?_
  refine x_aloadn dX4_copyFrom_1 rfl ?_
  refine z_getI fs_X4_7 H1 dX4_copyFrom_2 ?_
  obtain ⟨I1, hI1, h⟩ := b1_s h
  refine z_putI fs_X4_7 H0 hI1 dX4_copyFrom_5 ?_
  refine x_aloadn dX4_copyFrom_8 rfl ?_
  refine x_aloadn dX4_copyFrom_9 rfl ?_
  refine z_getI fs_X4_13 H1 dX4_copyFrom_10 ?_
  obtain ⟨I2, hI2, h⟩ := b1_s h
  refine z_putI fs_X4_13 H0 hI2 dX4_copyFrom_13 ?_
  refine x_aloadn dX4_copyFrom_16 rfl ?_
  refine x_aloadn dX4_copyFrom_17 rfl ?_
  refine z_getI fs_X4_16 H1 dX4_copyFrom_18 ?_
  obtain ⟨I3, hI3, h⟩ := b1_s h
  refine z_putI fs_X4_16 H0 hI3 dX4_copyFrom_21 ?_
  refine x_aloadn dX4_copyFrom_24 rfl ?_
  refine x_aloadn dX4_copyFrom_25 rfl ?_
  refine z_getI fs_X4_19 H1 dX4_copyFrom_26 ?_
  obtain ⟨I4, hI4, h⟩ := b1_s h
  refine z_putI fs_X4_19 H0 hI4 dX4_copyFrom_29 ?_
  refine x_aloadn dX4_copyFrom_32 rfl ?_
  refine x_aloadn dX4_copyFrom_33 rfl ?_
  refine z_getI fs_X4_22 H1 dX4_copyFrom_34 ?_
  obtain ⟨I5, hI5, h⟩ := b1_s h
  refine z_putI fs_X4_22 H0 hI5 dX4_copyFrom_37 ?_
  refine x_aloadn dX4_copyFrom_40 rfl ?_
  refine x_aloadn dX4_copyFrom_41 rfl ?_
  refine z_getI fs_X4_25 H1 dX4_copyFrom_42 ?_
  obtain ⟨I6, hI6, h⟩ := b1_s h
  refine z_putI fs_X4_25 H0 hI6 dX4_copyFrom_45 ?_
  refine x_aloadn dX4_copyFrom_48 rfl ?_
  refine x_aloadn dX4_copyFrom_49 rfl ?_
  refine z_getI fs_X4_28 H1 dX4_copyFrom_50 ?_
  obtain ⟨u10, hu10, h⟩ := b1_s h
  obtain ⟨I7, hI7, h⟩ := b1_s h
  refine z_putZ fs_X4_28 H0 hu10 hI7 dX4_copyFrom_53 ?_
  refine x_aloadn dX4_copyFrom_56 rfl ?_
  refine x_aloadn dX4_copyFrom_57 rfl ?_
  refine z_getI fs_X4_32 H1 dX4_copyFrom_58 ?_
  obtain ⟨u9, hu9, h⟩ := b1_s h
  obtain ⟨I8, hI8, h⟩ := b1_s h
  refine z_putZ fs_X4_32 H0 hu9 hI8 dX4_copyFrom_61 ?_
  cases h
  exact x_vret rfl dX4_copyFrom_64 ⟨rfl, rfl, rfl⟩
noncomputable def f_X6_copyFrom (I : Mem) (x0 : Nat) (x1 : Nat) : Option (Mem) := b1 (pu I x0 0 (I x1 0)) fun I1 => b1 (pu I1 x0 1 (I1 x1 1)) fun I2 => b1 (pu I2 x0 2 (I2 x1 2)) fun I3 => b1 (pu I3 x0 3 (I3 x1 3)) fun I4 => some (I4)
theorem c_X6_copyFrom (d : Nat) {K : Kt} {I : Mem} {x0 : Nat} (H0 : LO K 4 x0) {x1 : Nat} (H1 : LO K 4 x1) {I9 : Mem} (h : f_X6_copyFrom I x0 x1 = some I9) : Ct (mX6_copyFrom d) cX6_copyFrom 0 0 [.ref x0, .ref x1] I K (Ro (.inl none) I9 K) := by
  refine Ct.of rfl pn_X6 (catR (catR cat0)) (Nat.le_of_ble_eq_true rfl) (show X _ _ _ _ _ _ 0 [.ref x0, .ref x1] [] _ from ?_)
  unfold f_X6_copyFrom at h
  refine x_aloadn dX6_copyFrom_0 rfl ?_
  refine x_aloadn dX6_copyFrom_1 rfl ?_
  refine z_getI fs_X6_7 H1 dX6_copyFrom_2 ?_
  obtain ⟨I1, hI1, h⟩ := b1_s h
  refine z_putI fs_X6_7 H0 hI1 dX6_copyFrom_5 ?_
  refine x_aloadn dX6_copyFrom_8 rfl ?_
  refine x_aloadn dX6_copyFrom_9 rfl ?_
  refine z_getI fs_X6_13 H1 dX6_copyFrom_10 ?_
  obtain ⟨I2, hI2, h⟩ := b1_s h
  refine z_putI fs_X6_13 H0 hI2 dX6_copyFrom_13 ?_
  refine x_aloadn dX6_copyFrom_16 rfl ?_
  refine x_aloadn dX6_copyFrom_17 rfl ?_
  refine z_getI fs_X6_16 H1 dX6_copyFrom_18 ?_
  obtain ⟨I3, hI3, h⟩ := b1_s h
  refine z_putI fs_X6_16 H0 hI3 dX6_copyFrom_21 ?_
  refine x_aloadn dX6_copyFrom_24 rfl ?_
  refine x_aloadn dX6_copyFrom_25 rfl ?_
  refine z_getI fs_X6_19 H1 dX6_copyFrom_26 ?_
  obtain ⟨I4, hI4, h⟩ := b1_s h
  refine z_putI fs_X6_19 H0 hI4 dX6_copyFrom_29 ?_
  cases h
  exact x_vret rfl dX6_copyFrom_32 ⟨rfl, rfl, rfl⟩
noncomputable def f_X8_copyFrom (I : Mem) (x0 : Nat) (x1 : Nat) : Option (Mem) := b1 (pu I x0 0 (I x1 0)) fun I1 => b1 (pu I1 x0 1 (I1 x1 1)) fun I2 => b1 (pu I2 x0 2 (I2 x1 2)) fun I3 => b1 (pu I3 x0 3 (I3 x1 3)) fun I4 => b1 (pu I4 x0 4 (I4 x1 4)) fun I5 => b1 (pu I5 x0 5 (I5 x1 5)) fun I6 => b1 (cB (I6 x1 6)) fun _ => b1 (pu I6 x0 6 (I6 x1 6)) fun I7 => b1 (cB (I7 x1 7)) fun _ => b1 (pu I7 x0 7 (I7 x1 7)) fun I8 => b1 (pu I8 x0 8 (I8 x1 8)) fun I9 => b1 (pu I9 x0 9 (I9 x1 9)) fun I10 => b1 (pu I10 x0 10 (I10 x1 10)) fun I11 => some (I11)
theorem c_X8_copyFrom (d : Nat) {K : Kt} {I : Mem} {x0 : Nat} (H0 : LO K 6 x0) {x1 : Nat} (H1 : LO K 6 x1) {I9 : Mem} (h : f_X8_copyFrom I x0 x1 = some I9) : Ct (mX8_copyFrom d) cX8_copyFrom 0 0 [.ref x0, .ref x1] I K (Ro (.inl none) I9 K) := by
  refine Ct.of rfl pn_X8 (catR (catR cat0)) (Nat.le_of_ble_eq_true rfl) (show X _ _ _ _ _ _ 0 [.ref x0, .ref x1] [] _ from ?_)
  unfold f_X8_copyFrom at h
  refine x_aloadn dX8_copyFrom_0 rfl ?_
  refine x_aloadn dX8_copyFrom_1 rfl ?_
  refine z_getI fs_X8_33 H1 dX8_copyFrom_2 ?_
  obtain ⟨I1, hI1, h⟩ := b1_s h
  refine z_putI fs_X8_33 H0 hI1 dX8_copyFrom_5 ?_
  refine x_aloadn dX8_copyFrom_8 rfl ?_
  refine x_aloadn dX8_copyFrom_9 rfl ?_
  refine z_getI fs_X8_9 H1 dX8_copyFrom_10 ?_
  obtain ⟨I2, hI2, h⟩ := b1_s h
  refine z_putI fs_X8_9 H0 hI2 dX8_copyFrom_13 ?_
  refine x_aloadn dX8_copyFrom_16 rfl ?_
  refine x_aloadn dX8_copyFrom_17 rfl ?_
  refine z_getI fs_X8_36 H1 dX8_copyFrom_18 ?_
  obtain ⟨I3, hI3, h⟩ := b1_s h
  refine z_putI fs_X8_36 H0 hI3 dX8_copyFrom_21 ?_
  refine x_aloadn dX8_copyFrom_24 rfl ?_
  refine x_aloadn dX8_copyFrom_25 rfl ?_
  refine z_getI fs_X8_15 H1 dX8_copyFrom_26 ?_
  obtain ⟨I4, hI4, h⟩ := b1_s h
  refine z_putI fs_X8_15 H0 hI4 dX8_copyFrom_29 ?_
  refine x_aloadn dX8_copyFrom_32 rfl ?_
  refine x_aloadn dX8_copyFrom_33 rfl ?_
  refine z_getI fs_X8_18 H1 dX8_copyFrom_34 ?_
  obtain ⟨I5, hI5, h⟩ := b1_s h
  refine z_putI fs_X8_18 H0 hI5 dX8_copyFrom_37 ?_
  refine x_aloadn dX8_copyFrom_40 rfl ?_
  refine x_aloadn dX8_copyFrom_41 rfl ?_
  refine z_getI fs_X8_21 H1 dX8_copyFrom_42 ?_
  obtain ⟨I6, hI6, h⟩ := b1_s h
  refine z_putI fs_X8_21 H0 hI6 dX8_copyFrom_45 ?_
  refine x_aloadn dX8_copyFrom_48 rfl ?_
  refine x_aloadn dX8_copyFrom_49 rfl ?_
  refine z_getI fs_X8_39 H1 dX8_copyFrom_50 ?_
  obtain ⟨u13, hu13, h⟩ := b1_s h
  obtain ⟨I7, hI7, h⟩ := b1_s h
  refine z_putZ fs_X8_39 H0 hu13 hI7 dX8_copyFrom_53 ?_
  refine x_aloadn dX8_copyFrom_56 rfl ?_
  refine x_aloadn dX8_copyFrom_57 rfl ?_
  refine z_getI fs_X8_43 H1 dX8_copyFrom_58 ?_
  obtain ⟨u12, hu12, h⟩ := b1_s h
  obtain ⟨I8, hI8, h⟩ := b1_s h
  refine z_putZ fs_X8_43 H0 hu12 hI8 dX8_copyFrom_61 ?_
  refine x_aloadn dX8_copyFrom_64 rfl ?_
  refine x_aloadn dX8_copyFrom_65 rfl ?_
  refine z_getI fs_X8_24 H1 dX8_copyFrom_66 ?_
  obtain ⟨I9, hI9, h⟩ := b1_s h
  refine z_putI fs_X8_24 H0 hI9 dX8_copyFrom_69 ?_
  refine x_aloadn dX8_copyFrom_72 rfl ?_
  refine x_aloadn dX8_copyFrom_73 rfl ?_
  refine z_getI fs_X8_27 H1 dX8_copyFrom_74 ?_
  obtain ⟨I10, hI10, h⟩ := b1_s h
  refine z_putI fs_X8_27 H0 hI10 dX8_copyFrom_77 ?_
  refine x_aloadn dX8_copyFrom_80 rfl ?_
  refine x_aloadn dX8_copyFrom_81 rfl ?_
  refine z_getI fs_X8_30 H1 dX8_copyFrom_82 ?_
  obtain ⟨I11, hI11, h⟩ := b1_s h
  refine z_putI fs_X8_30 H0 hI11 dX8_copyFrom_85 ?_
  cases h
  exact x_vret rfl dX8_copyFrom_88 ⟨rfl, rfl, rfl⟩
noncomputable def l_X3_copyFrom_59 (n : Nat) (I : Mem) (x0 : Nat) (x1 : Nat) (x2 : Int32) : Option (Mem) := match n with
  | 0 => none
  | n + 1 => if 16 ≤ x2 then (b1 (pu I x0 3 (I x1 3)) fun I1 => b1 (pu I1 x0 4 (I1 x1 4)) fun I2 => b1 (pu I2 x0 5 (I2 x1 5)) fun I3 => b1 (pu I3 x0 6 (I3 x1 6)) fun I4 => b1 (pu I4 x0 7 (I4 x1 7)) fun I5 => b1 (pu I5 x0 8 (I5 x1 8)) fun I6 => b1 (pu I6 x0 9 (I6 x1 9)) fun I7 => b1 (pu I7 x0 10 (I7 x1 10)) fun I8 => b1 (pu I8 x0 11 (I8 x1 11)) fun I9 => b1 (pu I9 x0 12 (I9 x1 12)) fun I10 => b1 (pu I10 x0 13 (I10 x1 13)) fun I11 => some (I11)) else (b1 (ix x2 16) fun j12 => b1 (ix x2 16) fun j13 => b1 (f_X8_copyFrom I (x0 + 15 + j12) (x1 + 15 + j13)) fun I14 => l_X3_copyFrom_59 n I14 x0 x1 (x2 + 1))
theorem tl_X3_copyFrom_59 (d : Nat) {K : Kt} (n : Nat) : ∀ {I : Mem} {x0 : Nat} (H0 : LM K x0) {x1 : Nat} (H1 : LM K x1) {x2 : Int32} {I9 : Mem}, l_X3_copyFrom_59 n I x0 x1 x2 = some I9 → X (mX3_copyFrom (d + 1)) cX3_copyFrom 0 0 I K 59 [.ref x0, .ref x1, .int x2] [] (Ro (.inl none) I9 K) := by
  induction n with
  | zero =>
    intro I x0 H0 x1 H1 x2 I9 h
    cases h
  | succ n ih =>
    intro I x0 H0 x1 H1 x2 I9 h
    unfold l_X3_copyFrom_59 at h
    refine x_iloadn dX3_copyFrom_59 rfl ?_
    refine x_bipush 16 dX3_copyFrom_60 rfl ?_
    refine x_icmp_ge 86 dX3_copyFrom_62 rfl (fun hc => ?_) (fun hc => ?_)
    · have h := ifT hc h
      refine x_aloadn dX3_copyFrom_86 rfl ?_
      refine x_aloadn dX3_copyFrom_87 rfl ?_
      refine z_getI fs_X3_32 (LM.o H1) dX3_copyFrom_88 ?_
      obtain ⟨I1, hI1, h⟩ := b1_s h
      refine z_putI fs_X3_32 (LM.o H0) hI1 dX3_copyFrom_91 ?_
      refine x_aloadn dX3_copyFrom_94 rfl ?_
      refine x_aloadn dX3_copyFrom_95 rfl ?_
      refine z_getI fs_X3_36 (LM.o H1) dX3_copyFrom_96 ?_
      obtain ⟨I2, hI2, h⟩ := b1_s h
      refine z_putI fs_X3_36 (LM.o H0) hI2 dX3_copyFrom_99 ?_
      refine x_aloadn dX3_copyFrom_102 rfl ?_
      refine x_aloadn dX3_copyFrom_103 rfl ?_
      refine z_getI fs_X3_39 (LM.o H1) dX3_copyFrom_104 ?_
      obtain ⟨I3, hI3, h⟩ := b1_s h
      refine z_putI fs_X3_39 (LM.o H0) hI3 dX3_copyFrom_107 ?_
      refine x_aloadn dX3_copyFrom_110 rfl ?_
      refine x_aloadn dX3_copyFrom_111 rfl ?_
      refine z_getI fs_X3_42 (LM.o H1) dX3_copyFrom_112 ?_
      obtain ⟨I4, hI4, h⟩ := b1_s h
      refine z_putI fs_X3_42 (LM.o H0) hI4 dX3_copyFrom_115 ?_
      refine x_aloadn dX3_copyFrom_118 rfl ?_
      refine x_aloadn dX3_copyFrom_119 rfl ?_
      refine z_getI fs_X3_45 (LM.o H1) dX3_copyFrom_120 ?_
      obtain ⟨I5, hI5, h⟩ := b1_s h
      refine z_putI fs_X3_45 (LM.o H0) hI5 dX3_copyFrom_123 ?_
      refine x_aloadn dX3_copyFrom_126 rfl ?_
      refine x_aloadn dX3_copyFrom_127 rfl ?_
      refine z_getI fs_X3_48 (LM.o H1) dX3_copyFrom_128 ?_
      obtain ⟨I6, hI6, h⟩ := b1_s h
      refine z_putI fs_X3_48 (LM.o H0) hI6 dX3_copyFrom_131 ?_
      refine x_aloadn dX3_copyFrom_134 rfl ?_
      refine x_aloadn dX3_copyFrom_135 rfl ?_
      refine z_getI fs_X3_51 (LM.o H1) dX3_copyFrom_136 ?_
      obtain ⟨I7, hI7, h⟩ := b1_s h
      refine z_putI fs_X3_51 (LM.o H0) hI7 dX3_copyFrom_139 ?_
      refine x_aloadn dX3_copyFrom_142 rfl ?_
      refine x_aloadn dX3_copyFrom_143 rfl ?_
      refine z_getI fs_X3_54 (LM.o H1) dX3_copyFrom_144 ?_
      obtain ⟨I8, hI8, h⟩ := b1_s h
      refine z_putI fs_X3_54 (LM.o H0) hI8 dX3_copyFrom_147 ?_
      refine x_aloadn dX3_copyFrom_150 rfl ?_
      refine x_aloadn dX3_copyFrom_151 rfl ?_
      refine z_getI fs_X3_57 (LM.o H1) dX3_copyFrom_152 ?_
      obtain ⟨I9, hI9, h⟩ := b1_s h
      refine z_putI fs_X3_57 (LM.o H0) hI9 dX3_copyFrom_155 ?_
      refine x_aloadn dX3_copyFrom_158 rfl ?_
      refine x_aloadn dX3_copyFrom_159 rfl ?_
      refine z_getI fs_X3_60 (LM.o H1) dX3_copyFrom_160 ?_
      obtain ⟨I10, hI10, h⟩ := b1_s h
      refine z_putI fs_X3_60 (LM.o H0) hI10 dX3_copyFrom_163 ?_
      refine x_aloadn dX3_copyFrom_166 rfl ?_
      refine x_aloadn dX3_copyFrom_167 rfl ?_
      refine z_getI fs_X3_63 (LM.o H1) dX3_copyFrom_168 ?_
      obtain ⟨I11, hI11, h⟩ := b1_s h
      refine z_putI fs_X3_63 (LM.o H0) hI11 dX3_copyFrom_171 ?_
      cases h
      exact x_vret rfl dX3_copyFrom_174 ⟨rfl, rfl, rfl⟩
    have h := ifF hc h
    refine x_aloadn dX3_copyFrom_65 rfl ?_
    refine z_getR fs_X3_25 (LM.o H0) (LM.g2 H0) dX3_copyFrom_66 ?_
    refine x_iloadn dX3_copyFrom_69 rfl ?_
    obtain ⟨j12, hj12, h⟩ := b1_s h
    refine z_aald (LM.l2 H0) ⟨by decide, by decide⟩ hj12 (LM.w H0 (ix_s hj12).2.1) dX3_copyFrom_70 ?_
    refine x_aloadn dX3_copyFrom_71 rfl ?_
    refine z_getR fs_X3_25 (LM.o H1) (LM.g2 H1) dX3_copyFrom_72 ?_
    refine x_iloadn dX3_copyFrom_75 rfl ?_
    obtain ⟨j13, hj13, h⟩ := b1_s h
    refine z_aald (LM.l2 H1) ⟨by decide, by decide⟩ hj13 (LM.w H1 (ix_s hj13).2.1) dX3_copyFrom_76 ?_
    obtain ⟨I14, h15, h⟩ := b1_s h
    refine z_V0 [.ref (x1 + 15 + j13)] [] (cs_X3_73 _) (ci := 6) rfl (LM.wo H0 (ix_s hj12).2.1) (dep (show d + 0 + 0 + 1 ≤ (d + 1) from by omega) (Nat.le_of_ble_eq_true rfl)) dX3_copyFrom_77 rfl rfl (Nat.le_of_ble_eq_true rfl) (c_X8_copyFrom d (K := K) (I := I) (LM.wo H0 (ix_s hj12).2.1) (LM.wo H1 (ix_s hj13).2.1) h15) ?_
    refine z_iinc 1 (by decide) dX3_copyFrom_80 rfl rfl rfl ?_
    refine x_goto 59 dX3_copyFrom_83 rfl ?_
    exact ih H0 H1 h
noncomputable def l_X3_copyFrom_31 (n : Nat) (I : Mem) (x0 : Nat) (x1 : Nat) (x2 : Int32) : Option (Mem) := match n with
  | 0 => none
  | n + 1 => if 5 ≤ x2 then (l_X3_copyFrom_59 FU I x0 x1 0) else (b1 (ix x2 5) fun j16 => b1 (ix x2 5) fun j17 => b1 (f_X6_copyFrom I (x0 + 10 + j16) (x1 + 10 + j17)) fun I18 => l_X3_copyFrom_31 n I18 x0 x1 (x2 + 1))
theorem tl_X3_copyFrom_31 (d : Nat) {K : Kt} (n : Nat) : ∀ {I : Mem} {x0 : Nat} (H0 : LM K x0) {x1 : Nat} (H1 : LM K x1) {x2 : Int32} {I9 : Mem}, l_X3_copyFrom_31 n I x0 x1 x2 = some I9 → X (mX3_copyFrom (d + 1)) cX3_copyFrom 0 0 I K 31 [.ref x0, .ref x1, .int x2] [] (Ro (.inl none) I9 K) := by
  induction n with
  | zero =>
    intro I x0 H0 x1 H1 x2 I9 h
    cases h
  | succ n ih =>
    intro I x0 H0 x1 H1 x2 I9 h
    unfold l_X3_copyFrom_31 at h
    refine x_iloadn dX3_copyFrom_31 rfl ?_
    refine x_iconst 5 dX3_copyFrom_32 rfl ?_
    refine x_icmp_ge 57 dX3_copyFrom_33 rfl (fun hc => ?_) (fun hc => ?_)
    · have h := ifT hc h
      refine x_iconst 0 dX3_copyFrom_57 rfl ?_
      refine x_istoren dX3_copyFrom_58 (Nat.le_of_ble_eq_true rfl) rfl rfl ?_
      exact tl_X3_copyFrom_59 d FU H0 H1 h
    have h := ifF hc h
    refine x_aloadn dX3_copyFrom_36 rfl ?_
    refine z_getR fs_X3_19 (LM.o H0) (LM.g1 H0) dX3_copyFrom_37 ?_
    refine x_iloadn dX3_copyFrom_40 rfl ?_
    obtain ⟨j16, hj16, h⟩ := b1_s h
    refine z_aald (LM.l1 H0) ⟨by decide, by decide⟩ hj16 (LM.s H0 (ix_s hj16).2.1) dX3_copyFrom_41 ?_
    refine x_aloadn dX3_copyFrom_42 rfl ?_
    refine z_getR fs_X3_19 (LM.o H1) (LM.g1 H1) dX3_copyFrom_43 ?_
    refine x_iloadn dX3_copyFrom_46 rfl ?_
    obtain ⟨j17, hj17, h⟩ := b1_s h
    refine z_aald (LM.l1 H1) ⟨by decide, by decide⟩ hj17 (LM.s H1 (ix_s hj17).2.1) dX3_copyFrom_47 ?_
    obtain ⟨I18, h19, h⟩ := b1_s h
    refine z_V0 [.ref (x1 + 10 + j17)] [] (cs_X3_70 _) (ci := 4) rfl (LM.so H0 (ix_s hj16).2.1) (dep (show d + 0 + 0 + 1 ≤ (d + 1) from by omega) (Nat.le_of_ble_eq_true rfl)) dX3_copyFrom_48 rfl rfl (Nat.le_of_ble_eq_true rfl) (c_X6_copyFrom d (K := K) (I := I) (LM.so H0 (ix_s hj16).2.1) (LM.so H1 (ix_s hj17).2.1) h19) ?_
    refine z_iinc 1 (by decide) dX3_copyFrom_51 rfl rfl rfl ?_
    refine x_goto 31 dX3_copyFrom_54 rfl ?_
    exact ih H0 H1 h
noncomputable def l_X3_copyFrom_2 (n : Nat) (I : Mem) (x0 : Nat) (x1 : Nat) (x2 : Int32) : Option (Mem) := match n with
  | 0 => none
  | n + 1 => if 6 ≤ x2 then (l_X3_copyFrom_31 FU I x0 x1 0) else (b1 (ix x2 6) fun j20 => b1 (ix x2 6) fun j21 => b1 (f_X4_copyFrom I (x0 + 4 + j20) (x1 + 4 + j21)) fun I22 => l_X3_copyFrom_2 n I22 x0 x1 (x2 + 1))
theorem tl_X3_copyFrom_2 (d : Nat) {K : Kt} (n : Nat) : ∀ {I : Mem} {x0 : Nat} (H0 : LM K x0) {x1 : Nat} (H1 : LM K x1) {x2 : Int32} {I9 : Mem}, l_X3_copyFrom_2 n I x0 x1 x2 = some I9 → X (mX3_copyFrom (d + 1)) cX3_copyFrom 0 0 I K 2 [.ref x0, .ref x1, .int x2] [] (Ro (.inl none) I9 K) := by
  induction n with
  | zero =>
    intro I x0 H0 x1 H1 x2 I9 h
    cases h
  | succ n ih =>
    intro I x0 H0 x1 H1 x2 I9 h
    unfold l_X3_copyFrom_2 at h
    refine x_iloadn dX3_copyFrom_2 rfl ?_
    refine x_bipush 6 dX3_copyFrom_3 rfl ?_
    refine x_icmp_ge 29 dX3_copyFrom_5 rfl (fun hc => ?_) (fun hc => ?_)
    · have h := ifT hc h
      refine x_iconst 0 dX3_copyFrom_29 rfl ?_
      refine x_istoren dX3_copyFrom_30 (Nat.le_of_ble_eq_true rfl) rfl rfl ?_
      exact tl_X3_copyFrom_31 d FU H0 H1 h
    have h := ifF hc h
    refine x_aloadn dX3_copyFrom_8 rfl ?_
    refine z_getR fs_X3_11 (LM.o H0) (LM.g0 H0) dX3_copyFrom_9 ?_
    refine x_iloadn dX3_copyFrom_12 rfl ?_
    obtain ⟨j20, hj20, h⟩ := b1_s h
    refine z_aald (LM.l0 H0) ⟨by decide, by decide⟩ hj20 (LM.p H0 (ix_s hj20).2.1) dX3_copyFrom_13 ?_
    refine x_aloadn dX3_copyFrom_14 rfl ?_
    refine z_getR fs_X3_11 (LM.o H1) (LM.g0 H1) dX3_copyFrom_15 ?_
    refine x_iloadn dX3_copyFrom_18 rfl ?_
    obtain ⟨j21, hj21, h⟩ := b1_s h
    refine z_aald (LM.l0 H1) ⟨by decide, by decide⟩ hj21 (LM.p H1 (ix_s hj21).2.1) dX3_copyFrom_19 ?_
    obtain ⟨I22, h23, h⟩ := b1_s h
    refine z_V0 [.ref (x1 + 4 + j21)] [] (cs_X3_66 _) (ci := 2) rfl (LM.po H0 (ix_s hj20).2.1) (dep (show d + 0 + 0 + 1 ≤ (d + 1) from by omega) (Nat.le_of_ble_eq_true rfl)) dX3_copyFrom_20 rfl rfl (Nat.le_of_ble_eq_true rfl) (c_X4_copyFrom d (K := K) (I := I) (LM.po H0 (ix_s hj20).2.1) (LM.po H1 (ix_s hj21).2.1) h23) ?_
    refine z_iinc 1 (by decide) dX3_copyFrom_23 rfl rfl rfl ?_
    refine x_goto 2 dX3_copyFrom_26 rfl ?_
    exact ih H0 H1 h
noncomputable def f_X3_copyFrom (I : Mem) (x0 : Nat) (x1 : Nat) : Option (Mem) := l_X3_copyFrom_2 FU I x0 x1 0
theorem c_X3_copyFrom (d : Nat) {K : Kt} {I : Mem} {x0 : Nat} (H0 : LM K x0) {x1 : Nat} (H1 : LM K x1) {I9 : Mem} (h : f_X3_copyFrom I x0 x1 = some I9) : Ct (mX3_copyFrom (d + 1)) cX3_copyFrom 0 0 [.ref x0, .ref x1] I K (Ro (.inl none) I9 K) := by
  refine Ct.of rfl pn_X3 (catR (catR cat0)) (Nat.le_of_ble_eq_true rfl) (show X _ _ _ _ _ _ 0 [.ref x0, .ref x1, .retAddr 0] [] _ from ?_)
  unfold f_X3_copyFrom at h
  refine x_iconst 0 dX3_copyFrom_0 rfl ?_
  refine x_istoren dX3_copyFrom_1 (Nat.le_of_ble_eq_true rfl) rfl rfl ?_
  exact tl_X3_copyFrom_2 d FU H0 H1 h
noncomputable def f_X3_today (I : Mem) (x0 : Nat) : Option (Int32) := if (I x0 7) ≤ 0 then (some (0)) else (b1 (nz (I x0 7)) fun _ => some (((I x0 6) - (I x0 6) / (I x0 7) * (I x0 7))))
theorem c_X3_today (d : Nat) {K : Kt} {I : Mem} {x0 : Nat} (H0 : LM K x0) {v : Int32} (h : f_X3_today I x0 = some v) : Ct (mX3_today d) cX3_today 0 0 [.ref x0] I K (Ro (.inl (some (.int v))) I K) := by
  refine Ct.of rfl pn_X3 (catR cat0) (Nat.le_of_ble_eq_true rfl) (show X _ _ _ _ _ _ 0 [.ref x0] [] _ from ?_)
  unfold f_X3_today at h
  refine x_aloadn dX3_today_0 rfl ?_
  refine z_getI fs_X3_45 (LM.o H0) dX3_today_1 ?_
  refine x_if_le 19 dX3_today_4 rfl (fun hc => ?_) (fun hc => ?_)
  · have h := ifT hc h
    refine x_iconst 0 dX3_today_19 rfl ?_
    cases h
    exact x_iret rfl dX3_today_20 ⟨rfl, rfl, rfl⟩
  have h := ifF hc h
  refine x_aloadn dX3_today_7 rfl ?_
  refine z_getI fs_X3_42 (LM.o H0) dX3_today_8 ?_
  refine x_aloadn dX3_today_11 rfl ?_
  refine z_getI fs_X3_45 (LM.o H0) dX3_today_12 ?_
  obtain ⟨u1, hu1, h⟩ := b1_s h
  refine x_irem dX3_today_15 (nz_s hu1) ?_
  refine x_goto 20 dX3_today_16 rfl ?_
  cases h
  exact x_iret rfl dX3_today_20 ⟨rfl, rfl, rfl⟩
noncomputable def l_X3_ownedBy_4 (n : Nat) (I : Mem) (x0 : Nat) (x1 : Int32) (x2 : Int32) (x3 : Int32) : Option (Int32) := match n with
  | 0 => none
  | n + 1 => if (I x0 5) ≤ x3 then (some (x2)) else (b1 (ix x3 16) fun j1 => if (I (x0 + 15 + j1) 5) = x1 then (l_X3_ownedBy_4 n I x0 x1 (x2 + 1) (x3 + 1)) else (l_X3_ownedBy_4 n I x0 x1 x2 (x3 + 1)))
theorem tl_X3_ownedBy_4 (d : Nat) {K : Kt} (n : Nat) : ∀ {I : Mem} {x0 : Nat} (H0 : LM K x0) {x1 : Int32} {x2 : Int32} {x3 : Int32} {v : Int32}, l_X3_ownedBy_4 n I x0 x1 x2 x3 = some v → X (mX3_ownedBy d) cX3_ownedBy 0 0 I K 4 [.ref x0, .int x1, .int x2, .int x3] [] (Ro (.inl (some (.int v))) I K) := by
  induction n with
  | zero =>
    intro I x0 H0 x1 x2 x3 v h
    cases h
  | succ n ih =>
    intro I x0 H0 x1 x2 x3 v h
    unfold l_X3_ownedBy_4 at h
    refine x_iloadn dX3_ownedBy_4 rfl ?_
    refine x_aloadn dX3_ownedBy_5 rfl ?_
    refine z_getI fs_X3_39 (LM.o H0) dX3_ownedBy_6 ?_
    refine x_icmp_ge 34 dX3_ownedBy_9 rfl (fun hc => ?_) (fun hc => ?_)
    · have h := ifT hc h
      refine x_iloadn dX3_ownedBy_34 rfl ?_
      cases h
      exact x_iret rfl dX3_ownedBy_35 ⟨rfl, rfl, rfl⟩
    have h := ifF hc h
    refine x_aloadn dX3_ownedBy_12 rfl ?_
    refine z_getR fs_X3_25 (LM.o H0) (LM.g2 H0) dX3_ownedBy_13 ?_
    refine x_iloadn dX3_ownedBy_16 rfl ?_
    obtain ⟨j1, hj1, h⟩ := b1_s h
    refine z_aald (LM.l2 H0) ⟨by decide, by decide⟩ hj1 (LM.w H0 (ix_s hj1).2.1) dX3_ownedBy_17 ?_
    refine z_getI fs_X3_76 (LM.wo H0 (ix_s hj1).2.1) dX3_ownedBy_18 ?_
    refine x_iloadn dX3_ownedBy_21 rfl ?_
    refine x_icmp_ne 28 dX3_ownedBy_22 rfl (fun hc => ?_) (fun hc => ?_)
    · have h := ifF hc h
      refine z_iinc 1 (by decide) dX3_ownedBy_28 rfl rfl rfl ?_
      refine x_goto 4 dX3_ownedBy_31 rfl ?_
      exact ih H0 h
    have h := ifT hc h
    refine z_iinc 1 (by decide) dX3_ownedBy_25 rfl rfl rfl ?_
    refine z_iinc 1 (by decide) dX3_ownedBy_28 rfl rfl rfl ?_
    refine x_goto 4 dX3_ownedBy_31 rfl ?_
    exact ih H0 h
noncomputable def f_X3_ownedBy (I : Mem) (x0 : Nat) (x1 : Int32) : Option (Int32) := l_X3_ownedBy_4 FU I x0 x1 0 0
theorem c_X3_ownedBy (d : Nat) {K : Kt} {I : Mem} {x0 : Nat} (H0 : LM K x0) {x1 : Int32} {v : Int32} (h : f_X3_ownedBy I x0 x1 = some v) : Ct (mX3_ownedBy d) cX3_ownedBy 0 0 [.ref x0, .int x1] I K (Ro (.inl (some (.int v))) I K) := by
  refine Ct.of rfl pn_X3 (catR (catI cat0)) (Nat.le_of_ble_eq_true rfl) (show X _ _ _ _ _ _ 0 [.ref x0, .int x1, .retAddr 0, .retAddr 0] [] _ from ?_)
  unfold f_X3_ownedBy at h
  refine x_iconst 0 dX3_ownedBy_0 rfl ?_
  refine x_istoren dX3_ownedBy_1 (Nat.le_of_ble_eq_true rfl) rfl rfl ?_
  refine x_iconst 0 dX3_ownedBy_2 rfl ?_
  refine x_istoren dX3_ownedBy_3 (Nat.le_of_ble_eq_true rfl) rfl rfl ?_
  exact tl_X3_ownedBy_4 d FU H0 h
noncomputable def l_X3_stockOf_4 (n : Nat) (I : Mem) (x0 : Nat) (x1 : Int32) (x2 : Int32) (x3 : Int32) : Option (Int32) := match n with
  | 0 => none
  | n + 1 => if (I x0 5) ≤ x3 then (some (x2)) else (b1 (ix x3 16) fun j1 => if (I (x0 + 15 + j1) 4) = x1 then (l_X3_stockOf_4 n I x0 x1 (x2 + 1) (x3 + 1)) else (l_X3_stockOf_4 n I x0 x1 x2 (x3 + 1)))
theorem tl_X3_stockOf_4 (d : Nat) {K : Kt} (n : Nat) : ∀ {I : Mem} {x0 : Nat} (H0 : LM K x0) {x1 : Int32} {x2 : Int32} {x3 : Int32} {v : Int32}, l_X3_stockOf_4 n I x0 x1 x2 x3 = some v → X (mX3_stockOf d) cX3_stockOf 0 0 I K 4 [.ref x0, .int x1, .int x2, .int x3] [] (Ro (.inl (some (.int v))) I K) := by
  induction n with
  | zero =>
    intro I x0 H0 x1 x2 x3 v h
    cases h
  | succ n ih =>
    intro I x0 H0 x1 x2 x3 v h
    unfold l_X3_stockOf_4 at h
    refine x_iloadn dX3_stockOf_4 rfl ?_
    refine x_aloadn dX3_stockOf_5 rfl ?_
    refine z_getI fs_X3_39 (LM.o H0) dX3_stockOf_6 ?_
    refine x_icmp_ge 34 dX3_stockOf_9 rfl (fun hc => ?_) (fun hc => ?_)
    · have h := ifT hc h
      refine x_iloadn dX3_stockOf_34 rfl ?_
      cases h
      exact x_iret rfl dX3_stockOf_35 ⟨rfl, rfl, rfl⟩
    have h := ifF hc h
    refine x_aloadn dX3_stockOf_12 rfl ?_
    refine z_getR fs_X3_25 (LM.o H0) (LM.g2 H0) dX3_stockOf_13 ?_
    refine x_iloadn dX3_stockOf_16 rfl ?_
    obtain ⟨j1, hj1, h⟩ := b1_s h
    refine z_aald (LM.l2 H0) ⟨by decide, by decide⟩ hj1 (LM.w H0 (ix_s hj1).2.1) dX3_stockOf_17 ?_
    refine z_getI fs_X3_79 (LM.wo H0 (ix_s hj1).2.1) dX3_stockOf_18 ?_
    refine x_iloadn dX3_stockOf_21 rfl ?_
    refine x_icmp_ne 28 dX3_stockOf_22 rfl (fun hc => ?_) (fun hc => ?_)
    · have h := ifF hc h
      refine z_iinc 1 (by decide) dX3_stockOf_28 rfl rfl rfl ?_
      refine x_goto 4 dX3_stockOf_31 rfl ?_
      exact ih H0 h
    have h := ifT hc h
    refine z_iinc 1 (by decide) dX3_stockOf_25 rfl rfl rfl ?_
    refine z_iinc 1 (by decide) dX3_stockOf_28 rfl rfl rfl ?_
    refine x_goto 4 dX3_stockOf_31 rfl ?_
    exact ih H0 h
noncomputable def f_X3_stockOf (I : Mem) (x0 : Nat) (x1 : Int32) : Option (Int32) := l_X3_stockOf_4 FU I x0 x1 0 0
theorem c_X3_stockOf (d : Nat) {K : Kt} {I : Mem} {x0 : Nat} (H0 : LM K x0) {x1 : Int32} {v : Int32} (h : f_X3_stockOf I x0 x1 = some v) : Ct (mX3_stockOf d) cX3_stockOf 0 0 [.ref x0, .int x1] I K (Ro (.inl (some (.int v))) I K) := by
  refine Ct.of rfl pn_X3 (catR (catI cat0)) (Nat.le_of_ble_eq_true rfl) (show X _ _ _ _ _ _ 0 [.ref x0, .int x1, .retAddr 0, .retAddr 0] [] _ from ?_)
  unfold f_X3_stockOf at h
  refine x_iconst 0 dX3_stockOf_0 rfl ?_
  refine x_istoren dX3_stockOf_1 (Nat.le_of_ble_eq_true rfl) rfl rfl ?_
  refine x_iconst 0 dX3_stockOf_2 rfl ?_
  refine x_istoren dX3_stockOf_3 (Nat.le_of_ble_eq_true rfl) rfl rfl ?_
  exact tl_X3_stockOf_4 d FU H0 h
noncomputable def l_X3_countGranted_4 (n : Nat) (I : Mem) (x0 : Nat) (x1 : Int32) (x2 : Int32) : Option (Int32) := match n with
  | 0 => none
  | n + 1 => if (I x0 5) ≤ x2 then (some (x1)) else (b1 (ix x2 16) fun j1 => if (I (x0 + 15 + j1) 6) = 0 then (l_X3_countGranted_4 n I x0 x1 (x2 + 1)) else (l_X3_countGranted_4 n I x0 (x1 + 1) (x2 + 1)))
theorem tl_X3_countGranted_4 (d : Nat) {K : Kt} (n : Nat) : ∀ {I : Mem} {x0 : Nat} (H0 : LM K x0) {x1 : Int32} {x2 : Int32} {v : Int32}, l_X3_countGranted_4 n I x0 x1 x2 = some v → X (mX3_countGranted d) cX3_countGranted 0 0 I K 4 [.ref x0, .int x1, .int x2] [] (Ro (.inl (some (.int v))) I K) := by
  induction n with
  | zero =>
    intro I x0 H0 x1 x2 v h
    cases h
  | succ n ih =>
    intro I x0 H0 x1 x2 v h
    unfold l_X3_countGranted_4 at h
    refine x_iloadn dX3_countGranted_4 rfl ?_
    refine x_aloadn dX3_countGranted_5 rfl ?_
    refine z_getI fs_X3_39 (LM.o H0) dX3_countGranted_6 ?_
    refine x_icmp_ge 33 dX3_countGranted_9 rfl (fun hc => ?_) (fun hc => ?_)
    · have h := ifT hc h
      refine x_iloadn dX3_countGranted_33 rfl ?_
      cases h
      exact x_iret rfl dX3_countGranted_34 ⟨rfl, rfl, rfl⟩
    have h := ifF hc h
    refine x_aloadn dX3_countGranted_12 rfl ?_
    refine z_getR fs_X3_25 (LM.o H0) (LM.g2 H0) dX3_countGranted_13 ?_
    refine x_iloadn dX3_countGranted_16 rfl ?_
    obtain ⟨j1, hj1, h⟩ := b1_s h
    refine z_aald (LM.l2 H0) ⟨by decide, by decide⟩ hj1 (LM.w H0 (ix_s hj1).2.1) dX3_countGranted_17 ?_
    refine z_getI fs_X3_82 (LM.wo H0 (ix_s hj1).2.1) dX3_countGranted_18 ?_
    refine x_if_eq 27 dX3_countGranted_21 rfl (fun hc => ?_) (fun hc => ?_)
    · have h := ifT hc h
      refine z_iinc 1 (by decide) dX3_countGranted_27 rfl rfl rfl ?_
      refine x_goto 4 dX3_countGranted_30 rfl ?_
      exact ih H0 h
    have h := ifF hc h
    refine z_iinc 1 (by decide) dX3_countGranted_24 rfl rfl rfl ?_
    refine z_iinc 1 (by decide) dX3_countGranted_27 rfl rfl rfl ?_
    refine x_goto 4 dX3_countGranted_30 rfl ?_
    exact ih H0 h
noncomputable def f_X3_countGranted (I : Mem) (x0 : Nat) : Option (Int32) := l_X3_countGranted_4 FU I x0 0 0
theorem c_X3_countGranted (d : Nat) {K : Kt} {I : Mem} {x0 : Nat} (H0 : LM K x0) {v : Int32} (h : f_X3_countGranted I x0 = some v) : Ct (mX3_countGranted d) cX3_countGranted 0 0 [.ref x0] I K (Ro (.inl (some (.int v))) I K) := by
  refine Ct.of rfl pn_X3 (catR cat0) (Nat.le_of_ble_eq_true rfl) (show X _ _ _ _ _ _ 0 [.ref x0, .retAddr 0, .retAddr 0] [] _ from ?_)
  unfold f_X3_countGranted at h
  refine x_iconst 0 dX3_countGranted_0 rfl ?_
  refine x_istoren dX3_countGranted_1 (Nat.le_of_ble_eq_true rfl) rfl rfl ?_
  refine x_iconst 0 dX3_countGranted_2 rfl ?_
  refine x_istoren dX3_countGranted_3 (Nat.le_of_ble_eq_true rfl) rfl rfl ?_
  exact tl_X3_countGranted_4 d FU H0 h
noncomputable def l_X3_countFaded_4 (n : Nat) (I : Mem) (x0 : Nat) (x1 : Int32) (x2 : Int32) : Option (Int32) := match n with
  | 0 => none
  | n + 1 => if (I x0 5) ≤ x2 then (some (x1)) else (b1 (ix x2 16) fun j1 => if (I (x0 + 15 + j1) 7) = 0 then (l_X3_countFaded_4 n I x0 x1 (x2 + 1)) else (l_X3_countFaded_4 n I x0 (x1 + 1) (x2 + 1)))
theorem tl_X3_countFaded_4 (d : Nat) {K : Kt} (n : Nat) : ∀ {I : Mem} {x0 : Nat} (H0 : LM K x0) {x1 : Int32} {x2 : Int32} {v : Int32}, l_X3_countFaded_4 n I x0 x1 x2 = some v → X (mX3_countFaded d) cX3_countFaded 0 0 I K 4 [.ref x0, .int x1, .int x2] [] (Ro (.inl (some (.int v))) I K) := by
  induction n with
  | zero =>
    intro I x0 H0 x1 x2 v h
    cases h
  | succ n ih =>
    intro I x0 H0 x1 x2 v h
    unfold l_X3_countFaded_4 at h
    refine x_iloadn dX3_countFaded_4 rfl ?_
    refine x_aloadn dX3_countFaded_5 rfl ?_
    refine z_getI fs_X3_39 (LM.o H0) dX3_countFaded_6 ?_
    refine x_icmp_ge 33 dX3_countFaded_9 rfl (fun hc => ?_) (fun hc => ?_)
    · have h := ifT hc h
      refine x_iloadn dX3_countFaded_33 rfl ?_
      cases h
      exact x_iret rfl dX3_countFaded_34 ⟨rfl, rfl, rfl⟩
    have h := ifF hc h
    refine x_aloadn dX3_countFaded_12 rfl ?_
    refine z_getR fs_X3_25 (LM.o H0) (LM.g2 H0) dX3_countFaded_13 ?_
    refine x_iloadn dX3_countFaded_16 rfl ?_
    obtain ⟨j1, hj1, h⟩ := b1_s h
    refine z_aald (LM.l2 H0) ⟨by decide, by decide⟩ hj1 (LM.w H0 (ix_s hj1).2.1) dX3_countFaded_17 ?_
    refine z_getI fs_X3_86 (LM.wo H0 (ix_s hj1).2.1) dX3_countFaded_18 ?_
    refine x_if_eq 27 dX3_countFaded_21 rfl (fun hc => ?_) (fun hc => ?_)
    · have h := ifT hc h
      refine z_iinc 1 (by decide) dX3_countFaded_27 rfl rfl rfl ?_
      refine x_goto 4 dX3_countFaded_30 rfl ?_
      exact ih H0 h
    have h := ifF hc h
    refine z_iinc 1 (by decide) dX3_countFaded_24 rfl rfl rfl ?_
    refine z_iinc 1 (by decide) dX3_countFaded_27 rfl rfl rfl ?_
    refine x_goto 4 dX3_countFaded_30 rfl ?_
    exact ih H0 h
noncomputable def f_X3_countFaded (I : Mem) (x0 : Nat) : Option (Int32) := l_X3_countFaded_4 FU I x0 0 0
theorem c_X3_countFaded (d : Nat) {K : Kt} {I : Mem} {x0 : Nat} (H0 : LM K x0) {v : Int32} (h : f_X3_countFaded I x0 = some v) : Ct (mX3_countFaded d) cX3_countFaded 0 0 [.ref x0] I K (Ro (.inl (some (.int v))) I K) := by
  refine Ct.of rfl pn_X3 (catR cat0) (Nat.le_of_ble_eq_true rfl) (show X _ _ _ _ _ _ 0 [.ref x0, .retAddr 0, .retAddr 0] [] _ from ?_)
  unfold f_X3_countFaded at h
  refine x_iconst 0 dX3_countFaded_0 rfl ?_
  refine x_istoren dX3_countFaded_1 (Nat.le_of_ble_eq_true rfl) rfl rfl ?_
  refine x_iconst 0 dX3_countFaded_2 rfl ?_
  refine x_istoren dX3_countFaded_3 (Nat.le_of_ble_eq_true rfl) rfl rfl ?_
  exact tl_X3_countFaded_4 d FU H0 h
noncomputable def l_X3_money_32 (n : Nat) (I : Mem) (x0 : Nat) (x1 : Int32) (x2 : Int32) : Option (Int32) := match n with
  | 0 => none
  | n + 1 => if (I x0 4) ≤ x2 then (some (x1)) else (b1 (ix x2 5) fun j1 => l_X3_money_32 n I x0 (x1 + (I (x0 + 10 + j1) 1)) (x2 + 1))
theorem tl_X3_money_32 (d : Nat) {K : Kt} (n : Nat) : ∀ {I : Mem} {x0 : Nat} (H0 : LM K x0) {x1 : Int32} {x2 : Int32} {v : Int32}, l_X3_money_32 n I x0 x1 x2 = some v → X (mX3_money d) cX3_money 0 0 I K 32 [.ref x0, .int x1, .int x2] [] (Ro (.inl (some (.int v))) I K) := by
  induction n with
  | zero =>
    intro I x0 H0 x1 x2 v h
    cases h
  | succ n ih =>
    intro I x0 H0 x1 x2 v h
    unfold l_X3_money_32 at h
    refine x_iloadn dX3_money_32 rfl ?_
    refine x_aloadn dX3_money_33 rfl ?_
    refine z_getI fs_X3_36 (LM.o H0) dX3_money_34 ?_
    refine x_icmp_ge 58 dX3_money_37 rfl (fun hc => ?_) (fun hc => ?_)
    · have h := ifT hc h
      refine x_iloadn dX3_money_58 rfl ?_
      cases h
      exact x_iret rfl dX3_money_59 ⟨rfl, rfl, rfl⟩
    have h := ifF hc h
    refine x_iloadn dX3_money_40 rfl ?_
    refine x_aloadn dX3_money_41 rfl ?_
    refine z_getR fs_X3_19 (LM.o H0) (LM.g1 H0) dX3_money_42 ?_
    refine x_iloadn dX3_money_45 rfl ?_
    obtain ⟨j1, hj1, h⟩ := b1_s h
    refine z_aald (LM.l1 H0) ⟨by decide, by decide⟩ hj1 (LM.s H0 (ix_s hj1).2.1) dX3_money_46 ?_
    refine z_getI fs_X3_92 (LM.so H0 (ix_s hj1).2.1) dX3_money_47 ?_
    refine x_iadd dX3_money_50 ?_
    refine x_istoren dX3_money_51 (Nat.le_of_ble_eq_true rfl) rfl rfl ?_
    refine z_iinc 1 (by decide) dX3_money_52 rfl rfl rfl ?_
    refine x_goto 32 dX3_money_55 rfl ?_
    exact ih H0 h
noncomputable def l_X3_money_4 (n : Nat) (I : Mem) (x0 : Nat) (x1 : Int32) (x2 : Int32) : Option (Int32) := match n with
  | 0 => none
  | n + 1 => if (I x0 3) ≤ x2 then (l_X3_money_32 FU I x0 x1 0) else (b1 (ix x2 6) fun j2 => l_X3_money_4 n I x0 (x1 + (I (x0 + 4 + j2) 1)) (x2 + 1))
theorem tl_X3_money_4 (d : Nat) {K : Kt} (n : Nat) : ∀ {I : Mem} {x0 : Nat} (H0 : LM K x0) {x1 : Int32} {x2 : Int32} {v : Int32}, l_X3_money_4 n I x0 x1 x2 = some v → X (mX3_money d) cX3_money 0 0 I K 4 [.ref x0, .int x1, .int x2] [] (Ro (.inl (some (.int v))) I K) := by
  induction n with
  | zero =>
    intro I x0 H0 x1 x2 v h
    cases h
  | succ n ih =>
    intro I x0 H0 x1 x2 v h
    unfold l_X3_money_4 at h
    refine x_iloadn dX3_money_4 rfl ?_
    refine x_aloadn dX3_money_5 rfl ?_
    refine z_getI fs_X3_32 (LM.o H0) dX3_money_6 ?_
    refine x_icmp_ge 30 dX3_money_9 rfl (fun hc => ?_) (fun hc => ?_)
    · have h := ifT hc h
      refine x_iconst 0 dX3_money_30 rfl ?_
      refine x_istoren dX3_money_31 (Nat.le_of_ble_eq_true rfl) rfl rfl ?_
      exact tl_X3_money_32 d FU H0 h
    have h := ifF hc h
    refine x_iloadn dX3_money_12 rfl ?_
    refine x_aloadn dX3_money_13 rfl ?_
    refine z_getR fs_X3_11 (LM.o H0) (LM.g0 H0) dX3_money_14 ?_
    refine x_iloadn dX3_money_17 rfl ?_
    obtain ⟨j2, hj2, h⟩ := b1_s h
    refine z_aald (LM.l0 H0) ⟨by decide, by decide⟩ hj2 (LM.p H0 (ix_s hj2).2.1) dX3_money_18 ?_
    refine z_getI fs_X3_89 (LM.po H0 (ix_s hj2).2.1) dX3_money_19 ?_
    refine x_iadd dX3_money_22 ?_
    refine x_istoren dX3_money_23 (Nat.le_of_ble_eq_true rfl) rfl rfl ?_
    refine z_iinc 1 (by decide) dX3_money_24 rfl rfl rfl ?_
    refine x_goto 4 dX3_money_27 rfl ?_
    exact ih H0 h
noncomputable def f_X3_money (I : Mem) (x0 : Nat) : Option (Int32) := l_X3_money_4 FU I x0 0 0
theorem c_X3_money (d : Nat) {K : Kt} {I : Mem} {x0 : Nat} (H0 : LM K x0) {v : Int32} (h : f_X3_money I x0 = some v) : Ct (mX3_money d) cX3_money 0 0 [.ref x0] I K (Ro (.inl (some (.int v))) I K) := by
  refine Ct.of rfl pn_X3 (catR cat0) (Nat.le_of_ble_eq_true rfl) (show X _ _ _ _ _ _ 0 [.ref x0, .retAddr 0, .retAddr 0] [] _ from ?_)
  unfold f_X3_money at h
  refine x_iconst 0 dX3_money_0 rfl ?_
  refine x_istoren dX3_money_1 (Nat.le_of_ble_eq_true rfl) rfl rfl ?_
  refine x_iconst 0 dX3_money_2 rfl ?_
  refine x_istoren dX3_money_3 (Nat.le_of_ble_eq_true rfl) rfl rfl ?_
  exact tl_X3_money_4 d FU H0 h
noncomputable def l_X3_countMisplaced_71 (c4 : Mem → Nat → Int32 → Int32 → Option (Int32)) (I : Mem) (x0 : Nat) (x1 : Int32) (x2 : Int32) (y0 : Int32) (y1 : Int32) : Option (Int32) := if (y1 + y0) = 1 then (c4 I x0 x1 (x2 + 1)) else (c4 I x0 (x1 + 1) (x2 + 1))
theorem tl_X3_countMisplaced_71 (d : Nat) {K : Kt} {c4 : Mem → Nat → Int32 → Int32 → Option (Int32)} (hc4 : ∀ {I : Mem} {x0 : Nat} (H0 : LM K x0) {x1 : Int32} {x2 : Int32} {v : Int32}, c4 I x0 x1 x2 = some v → X (mX3_countMisplaced d) cX3_countMisplaced 0 0 I K 4 [.ref x0, .int x1, .int x2, .retAddr 0, .retAddr 0] [] (Ro (.inl (some (.int v))) I K)) : ∀ {I : Mem} {x0 : Nat} (H0 : LM K x0) {x1 : Int32} {x2 : Int32} {y0 : Int32} {y1 : Int32} {v : Int32}, l_X3_countMisplaced_71 c4 I x0 x1 x2 y0 y1 = some v → X (mX3_countMisplaced d) cX3_countMisplaced 0 0 I K 71 [.ref x0, .int x1, .int x2, .retAddr 0, .retAddr 0] [.int y0, .int y1] (Ro (.inl (some (.int v))) I K) := by
  intro I x0 H0 x1 x2 y0 y1 v h
  unfold l_X3_countMisplaced_71 at h
  refine x_iadd dX3_countMisplaced_71 ?_
  refine x_istore dX3_countMisplaced_72 (Nat.le_of_ble_eq_true rfl) rfl rfl ?_
  refine x_iload dX3_countMisplaced_74 rfl ?_
  refine x_iconst 1 dX3_countMisplaced_76 rfl ?_
  refine x_icmp_eq 83 dX3_countMisplaced_77 rfl (fun hc => ?_) (fun hc => ?_)
  · have h := ifT hc h
    refine z_iinc 1 (by decide) dX3_countMisplaced_83 rfl rfl rfl ?_
    refine x_goto 4 dX3_countMisplaced_86 rfl ?_
    exact X.forget (L' := [.ref x0, .int x1, .int (x2 + 1), .retAddr 0, .retAddr 0]) ⟨Or.inl rfl, ⟨Or.inl rfl, ⟨Or.inl rfl, ⟨Or.inl rfl, ⟨Or.inr rfl, trivial⟩⟩⟩⟩⟩ (hc4 H0 h)
  have h := ifF hc h
  refine z_iinc 1 (by decide) dX3_countMisplaced_80 rfl rfl rfl ?_
  refine z_iinc 1 (by decide) dX3_countMisplaced_83 rfl rfl rfl ?_
  refine x_goto 4 dX3_countMisplaced_86 rfl ?_
  exact X.forget (L' := [.ref x0, .int (x1 + 1), .int (x2 + 1), .retAddr 0, .retAddr 0]) ⟨Or.inl rfl, ⟨Or.inl rfl, ⟨Or.inl rfl, ⟨Or.inl rfl, ⟨Or.inr rfl, trivial⟩⟩⟩⟩⟩ (hc4 H0 h)
noncomputable def l_X3_countMisplaced_58 (c4 : Mem → Nat → Int32 → Int32 → Option (Int32)) (I : Mem) (x0 : Nat) (x1 : Int32) (x2 : Int32) (x3 : Nat) (y0 : Int32) (y1 : Int32) : Option (Int32) := if (I x3 7) = 0 then (l_X3_countMisplaced_71 c4 I x0 x1 x2 0 (y1 + y0)) else (l_X3_countMisplaced_71 c4 I x0 x1 x2 1 (y1 + y0))
theorem tl_X3_countMisplaced_58 (d : Nat) {K : Kt} {c4 : Mem → Nat → Int32 → Int32 → Option (Int32)} (hc4 : ∀ {I : Mem} {x0 : Nat} (H0 : LM K x0) {x1 : Int32} {x2 : Int32} {v : Int32}, c4 I x0 x1 x2 = some v → X (mX3_countMisplaced d) cX3_countMisplaced 0 0 I K 4 [.ref x0, .int x1, .int x2, .retAddr 0, .retAddr 0] [] (Ro (.inl (some (.int v))) I K)) : ∀ {I : Mem} {x0 : Nat} (H0 : LM K x0) {x1 : Int32} {x2 : Int32} {x3 : Nat} (H3 : LO K 6 x3) {y0 : Int32} {y1 : Int32} {v : Int32}, l_X3_countMisplaced_58 c4 I x0 x1 x2 x3 y0 y1 = some v → X (mX3_countMisplaced d) cX3_countMisplaced 0 0 I K 58 [.ref x0, .int x1, .int x2, .ref x3, .retAddr 0] [.int y0, .int y1] (Ro (.inl (some (.int v))) I K) := by
  intro I x0 H0 x1 x2 x3 H3 y0 y1 v h
  unfold l_X3_countMisplaced_58 at h
  refine x_iadd dX3_countMisplaced_58 ?_
  refine x_aloadn dX3_countMisplaced_59 rfl ?_
  refine z_getI fs_X3_86 H3 dX3_countMisplaced_60 ?_
  refine x_if_eq 70 dX3_countMisplaced_63 rfl (fun hc => ?_) (fun hc => ?_)
  · have h := ifT hc h
    refine x_iconst 0 dX3_countMisplaced_70 rfl ?_
    exact X.forget (L' := [.ref x0, .int x1, .int x2, .retAddr 0, .retAddr 0]) ⟨Or.inl rfl, ⟨Or.inl rfl, ⟨Or.inl rfl, ⟨Or.inr rfl, ⟨Or.inl rfl, trivial⟩⟩⟩⟩⟩ (tl_X3_countMisplaced_71 d hc4 H0 h)
  have h := ifF hc h
  refine x_iconst 1 dX3_countMisplaced_66 rfl ?_
  refine x_goto 71 dX3_countMisplaced_67 rfl ?_
  exact X.forget (L' := [.ref x0, .int x1, .int x2, .retAddr 0, .retAddr 0]) ⟨Or.inl rfl, ⟨Or.inl rfl, ⟨Or.inl rfl, ⟨Or.inr rfl, ⟨Or.inl rfl, trivial⟩⟩⟩⟩⟩ (tl_X3_countMisplaced_71 d hc4 H0 h)
noncomputable def l_X3_countMisplaced_45 (c4 : Mem → Nat → Int32 → Int32 → Option (Int32)) (I : Mem) (x0 : Nat) (x1 : Int32) (x2 : Int32) (x3 : Nat) (y0 : Int32) (y1 : Int32) : Option (Int32) := if (I x3 6) = 0 then (l_X3_countMisplaced_58 c4 I x0 x1 x2 x3 0 (y1 + y0)) else (l_X3_countMisplaced_58 c4 I x0 x1 x2 x3 1 (y1 + y0))
theorem tl_X3_countMisplaced_45 (d : Nat) {K : Kt} {c4 : Mem → Nat → Int32 → Int32 → Option (Int32)} (hc4 : ∀ {I : Mem} {x0 : Nat} (H0 : LM K x0) {x1 : Int32} {x2 : Int32} {v : Int32}, c4 I x0 x1 x2 = some v → X (mX3_countMisplaced d) cX3_countMisplaced 0 0 I K 4 [.ref x0, .int x1, .int x2, .retAddr 0, .retAddr 0] [] (Ro (.inl (some (.int v))) I K)) : ∀ {I : Mem} {x0 : Nat} (H0 : LM K x0) {x1 : Int32} {x2 : Int32} {x3 : Nat} (H3 : LO K 6 x3) {y0 : Int32} {y1 : Int32} {v : Int32}, l_X3_countMisplaced_45 c4 I x0 x1 x2 x3 y0 y1 = some v → X (mX3_countMisplaced d) cX3_countMisplaced 0 0 I K 45 [.ref x0, .int x1, .int x2, .ref x3, .retAddr 0] [.int y0, .int y1] (Ro (.inl (some (.int v))) I K) := by
  intro I x0 H0 x1 x2 x3 H3 y0 y1 v h
  unfold l_X3_countMisplaced_45 at h
  refine x_iadd dX3_countMisplaced_45 ?_
  refine x_aloadn dX3_countMisplaced_46 rfl ?_
  refine z_getI fs_X3_82 H3 dX3_countMisplaced_47 ?_
  refine x_if_eq 57 dX3_countMisplaced_50 rfl (fun hc => ?_) (fun hc => ?_)
  · have h := ifT hc h
    refine x_iconst 0 dX3_countMisplaced_57 rfl ?_
    exact tl_X3_countMisplaced_58 d hc4 H0 H3 h
  have h := ifF hc h
  refine x_iconst 1 dX3_countMisplaced_53 rfl ?_
  refine x_goto 58 dX3_countMisplaced_54 rfl ?_
  exact tl_X3_countMisplaced_58 d hc4 H0 H3 h
noncomputable def l_X3_countMisplaced_32 (c4 : Mem → Nat → Int32 → Int32 → Option (Int32)) (I : Mem) (x0 : Nat) (x1 : Int32) (x2 : Int32) (x3 : Nat) (y0 : Int32) : Option (Int32) := if (I x3 5) = (-1) then (l_X3_countMisplaced_45 c4 I x0 x1 x2 x3 0 y0) else (l_X3_countMisplaced_45 c4 I x0 x1 x2 x3 1 y0)
theorem tl_X3_countMisplaced_32 (d : Nat) {K : Kt} {c4 : Mem → Nat → Int32 → Int32 → Option (Int32)} (hc4 : ∀ {I : Mem} {x0 : Nat} (H0 : LM K x0) {x1 : Int32} {x2 : Int32} {v : Int32}, c4 I x0 x1 x2 = some v → X (mX3_countMisplaced d) cX3_countMisplaced 0 0 I K 4 [.ref x0, .int x1, .int x2, .retAddr 0, .retAddr 0] [] (Ro (.inl (some (.int v))) I K)) : ∀ {I : Mem} {x0 : Nat} (H0 : LM K x0) {x1 : Int32} {x2 : Int32} {x3 : Nat} (H3 : LO K 6 x3) {y0 : Int32} {v : Int32}, l_X3_countMisplaced_32 c4 I x0 x1 x2 x3 y0 = some v → X (mX3_countMisplaced d) cX3_countMisplaced 0 0 I K 32 [.ref x0, .int x1, .int x2, .ref x3, .retAddr 0] [.int y0] (Ro (.inl (some (.int v))) I K) := by
  intro I x0 H0 x1 x2 x3 H3 y0 v h
  unfold l_X3_countMisplaced_32 at h
  refine x_aloadn dX3_countMisplaced_32 rfl ?_
  refine z_getI fs_X3_76 H3 dX3_countMisplaced_33 ?_
  refine x_iconst (-1) dX3_countMisplaced_36 rfl ?_
  refine x_icmp_eq 44 dX3_countMisplaced_37 rfl (fun hc => ?_) (fun hc => ?_)
  · have h := ifT hc h
    refine x_iconst 0 dX3_countMisplaced_44 rfl ?_
    exact tl_X3_countMisplaced_45 d hc4 H0 H3 h
  have h := ifF hc h
  refine x_iconst 1 dX3_countMisplaced_40 rfl ?_
  refine x_goto 45 dX3_countMisplaced_41 rfl ?_
  exact tl_X3_countMisplaced_45 d hc4 H0 H3 h
noncomputable def l_X3_countMisplaced_4 (n : Nat) (I : Mem) (x0 : Nat) (x1 : Int32) (x2 : Int32) : Option (Int32) := match n with
  | 0 => none
  | n + 1 => if (I x0 5) ≤ x2 then (some (x1)) else (b1 (ix x2 16) fun j1 => if (I (x0 + 15 + j1) 4) = (-1) then (l_X3_countMisplaced_32 (l_X3_countMisplaced_4 n) I x0 x1 x2 (x0 + 15 + j1) 0) else (l_X3_countMisplaced_32 (l_X3_countMisplaced_4 n) I x0 x1 x2 (x0 + 15 + j1) 1))
theorem tl_X3_countMisplaced_4 (d : Nat) {K : Kt} (n : Nat) : ∀ {I : Mem} {x0 : Nat} (H0 : LM K x0) {x1 : Int32} {x2 : Int32} {v : Int32}, l_X3_countMisplaced_4 n I x0 x1 x2 = some v → X (mX3_countMisplaced d) cX3_countMisplaced 0 0 I K 4 [.ref x0, .int x1, .int x2, .retAddr 0, .retAddr 0] [] (Ro (.inl (some (.int v))) I K) := by
  induction n with
  | zero =>
    intro I x0 H0 x1 x2 v h
    cases h
  | succ n ih =>
    intro I x0 H0 x1 x2 v h
    unfold l_X3_countMisplaced_4 at h
    refine x_iloadn dX3_countMisplaced_4 rfl ?_
    refine x_aloadn dX3_countMisplaced_5 rfl ?_
    refine z_getI fs_X3_39 (LM.o H0) dX3_countMisplaced_6 ?_
    refine x_icmp_ge 89 dX3_countMisplaced_9 rfl (fun hc => ?_) (fun hc => ?_)
    · have h := ifT hc h
      refine x_iloadn dX3_countMisplaced_89 rfl ?_
      cases h
      exact x_iret rfl dX3_countMisplaced_90 ⟨rfl, rfl, rfl⟩
    have h := ifF hc h
    refine x_aloadn dX3_countMisplaced_12 rfl ?_
    refine z_getR fs_X3_25 (LM.o H0) (LM.g2 H0) dX3_countMisplaced_13 ?_
    refine x_iloadn dX3_countMisplaced_16 rfl ?_
    obtain ⟨j1, hj1, h⟩ := b1_s h
    refine z_aald (LM.l2 H0) ⟨by decide, by decide⟩ hj1 (LM.w H0 (ix_s hj1).2.1) dX3_countMisplaced_17 ?_
    refine x_astoren dX3_countMisplaced_18 (Nat.le_of_ble_eq_true rfl) rfl rfl ?_
    refine x_aloadn dX3_countMisplaced_19 rfl ?_
    refine z_getI fs_X3_79 (LM.wo H0 (ix_s hj1).2.1) dX3_countMisplaced_20 ?_
    refine x_iconst (-1) dX3_countMisplaced_23 rfl ?_
    refine x_icmp_eq 31 dX3_countMisplaced_24 rfl (fun hc => ?_) (fun hc => ?_)
    · have h := ifT hc h
      refine x_iconst 0 dX3_countMisplaced_31 rfl ?_
      exact tl_X3_countMisplaced_32 d ih H0 (LM.wo H0 (ix_s hj1).2.1) h
    have h := ifF hc h
    refine x_iconst 1 dX3_countMisplaced_27 rfl ?_
    refine x_goto 32 dX3_countMisplaced_28 rfl ?_
    exact tl_X3_countMisplaced_32 d ih H0 (LM.wo H0 (ix_s hj1).2.1) h
noncomputable def f_X3_countMisplaced (I : Mem) (x0 : Nat) : Option (Int32) := l_X3_countMisplaced_4 FU I x0 0 0
theorem c_X3_countMisplaced (d : Nat) {K : Kt} {I : Mem} {x0 : Nat} (H0 : LM K x0) {v : Int32} (h : f_X3_countMisplaced I x0 = some v) : Ct (mX3_countMisplaced d) cX3_countMisplaced 0 0 [.ref x0] I K (Ro (.inl (some (.int v))) I K) := by
  refine Ct.of rfl pn_X3 (catR cat0) (Nat.le_of_ble_eq_true rfl) (show X _ _ _ _ _ _ 0 [.ref x0, .retAddr 0, .retAddr 0, .retAddr 0, .retAddr 0] [] _ from ?_)
  unfold f_X3_countMisplaced at h
  refine x_iconst 0 dX3_countMisplaced_0 rfl ?_
  refine x_istoren dX3_countMisplaced_1 (Nat.le_of_ble_eq_true rfl) rfl rfl ?_
  refine x_iconst 0 dX3_countMisplaced_2 rfl ?_
  refine x_istoren dX3_countMisplaced_3 (Nat.le_of_ble_eq_true rfl) rfl rfl ?_
  exact tl_X3_countMisplaced_4 d FU H0 h
noncomputable def l_X3_hasPersonNamed_2 (n : Nat) (I : Mem) (x0 : Nat) (x1 : Int32) (x2 : Int32) : Option (Int32) := match n with
  | 0 => none
  | n + 1 => if (I x0 3) ≤ x2 then (some (0)) else (b1 (ix x2 6) fun j1 => if (I (x0 + 4 + j1) 0) = x1 then (some (1)) else (l_X3_hasPersonNamed_2 n I x0 x1 (x2 + 1)))
theorem tl_X3_hasPersonNamed_2 (d : Nat) {K : Kt} (n : Nat) : ∀ {I : Mem} {x0 : Nat} (H0 : LM K x0) {x1 : Int32} {x2 : Int32} {v : Int32}, l_X3_hasPersonNamed_2 n I x0 x1 x2 = some v → X (mX3_hasPersonNamed d) cX3_hasPersonNamed 0 0 I K 2 [.ref x0, .int x1, .int x2] [] (Ro (.inl (some (.int v))) I K) := by
  induction n with
  | zero =>
    intro I x0 H0 x1 x2 v h
    cases h
  | succ n ih =>
    intro I x0 H0 x1 x2 v h
    unfold l_X3_hasPersonNamed_2 at h
    refine x_iloadn dX3_hasPersonNamed_2 rfl ?_
    refine x_aloadn dX3_hasPersonNamed_3 rfl ?_
    refine z_getI fs_X3_32 (LM.o H0) dX3_hasPersonNamed_4 ?_
    refine x_icmp_ge 31 dX3_hasPersonNamed_7 rfl (fun hc => ?_) (fun hc => ?_)
    · have h := ifT hc h
      refine x_iconst 0 dX3_hasPersonNamed_31 rfl ?_
      cases h
      exact x_zret rfl rfl dX3_hasPersonNamed_32 ⟨rfl, rfl, rfl⟩
    have h := ifF hc h
    refine x_aloadn dX3_hasPersonNamed_10 rfl ?_
    refine z_getR fs_X3_11 (LM.o H0) (LM.g0 H0) dX3_hasPersonNamed_11 ?_
    refine x_iloadn dX3_hasPersonNamed_14 rfl ?_
    obtain ⟨j1, hj1, h⟩ := b1_s h
    refine z_aald (LM.l0 H0) ⟨by decide, by decide⟩ hj1 (LM.p H0 (ix_s hj1).2.1) dX3_hasPersonNamed_15 ?_
    refine z_getI fs_X3_105 (LM.po H0 (ix_s hj1).2.1) dX3_hasPersonNamed_16 ?_
    refine x_iloadn dX3_hasPersonNamed_19 rfl ?_
    refine x_icmp_ne 25 dX3_hasPersonNamed_20 rfl (fun hc => ?_) (fun hc => ?_)
    · have h := ifF hc h
      refine z_iinc 1 (by decide) dX3_hasPersonNamed_25 rfl rfl rfl ?_
      refine x_goto 2 dX3_hasPersonNamed_28 rfl ?_
      exact ih H0 h
    have h := ifT hc h
    refine x_iconst 1 dX3_hasPersonNamed_23 rfl ?_
    cases h
    exact x_zret rfl rfl dX3_hasPersonNamed_24 ⟨rfl, rfl, rfl⟩
noncomputable def f_X3_hasPersonNamed (I : Mem) (x0 : Nat) (x1 : Int32) : Option (Int32) := l_X3_hasPersonNamed_2 FU I x0 x1 0
theorem c_X3_hasPersonNamed (d : Nat) {K : Kt} {I : Mem} {x0 : Nat} (H0 : LM K x0) {x1 : Int32} {v : Int32} (h : f_X3_hasPersonNamed I x0 x1 = some v) : Ct (mX3_hasPersonNamed d) cX3_hasPersonNamed 0 0 [.ref x0, .int x1] I K (Ro (.inl (some (.int v))) I K) := by
  refine Ct.of rfl pn_X3 (catR (catI cat0)) (Nat.le_of_ble_eq_true rfl) (show X _ _ _ _ _ _ 0 [.ref x0, .int x1, .retAddr 0] [] _ from ?_)
  unfold f_X3_hasPersonNamed at h
  refine x_iconst 0 dX3_hasPersonNamed_0 rfl ?_
  refine x_istoren dX3_hasPersonNamed_1 (Nat.le_of_ble_eq_true rfl) rfl rfl ?_
  exact tl_X3_hasPersonNamed_2 d FU H0 h
noncomputable def l_X3_hasWishNamed_2 (n : Nat) (I : Mem) (x0 : Nat) (x1 : Int32) (x2 : Int32) (x3 : Int32) : Option (Int32) := match n with
  | 0 => none
  | n + 1 => if (I x0 5) ≤ x3 then (some (0)) else (if x3 = x2 then (l_X3_hasWishNamed_2 n I x0 x1 x2 (x3 + 1)) else (b1 (ix x3 16) fun j1 => if (I (x0 + 15 + j1) 0) = x1 then (some (1)) else (l_X3_hasWishNamed_2 n I x0 x1 x2 (x3 + 1))))
theorem tl_X3_hasWishNamed_2 (d : Nat) {K : Kt} (n : Nat) : ∀ {I : Mem} {x0 : Nat} (H0 : LM K x0) {x1 : Int32} {x2 : Int32} {x3 : Int32} {v : Int32}, l_X3_hasWishNamed_2 n I x0 x1 x2 x3 = some v → X (mX3_hasWishNamed d) cX3_hasWishNamed 0 0 I K 2 [.ref x0, .int x1, .int x2, .int x3] [] (Ro (.inl (some (.int v))) I K) := by
  induction n with
  | zero =>
    intro I x0 H0 x1 x2 x3 v h
    cases h
  | succ n ih =>
    intro I x0 H0 x1 x2 x3 v h
    unfold l_X3_hasWishNamed_2 at h
    refine x_iloadn dX3_hasWishNamed_2 rfl ?_
    refine x_aloadn dX3_hasWishNamed_3 rfl ?_
    refine z_getI fs_X3_39 (LM.o H0) dX3_hasWishNamed_4 ?_
    refine x_icmp_ge 36 dX3_hasWishNamed_7 rfl (fun hc => ?_) (fun hc => ?_)
    · have h := ifT hc h
      refine x_iconst 0 dX3_hasWishNamed_36 rfl ?_
      cases h
      exact x_zret rfl rfl dX3_hasWishNamed_37 ⟨rfl, rfl, rfl⟩
    have h := ifF hc h
    refine x_iloadn dX3_hasWishNamed_10 rfl ?_
    refine x_iloadn dX3_hasWishNamed_11 rfl ?_
    refine x_icmp_eq 30 dX3_hasWishNamed_12 rfl (fun hc => ?_) (fun hc => ?_)
    · have h := ifT hc h
      refine z_iinc 1 (by decide) dX3_hasWishNamed_30 rfl rfl rfl ?_
      refine x_goto 2 dX3_hasWishNamed_33 rfl ?_
      exact ih H0 h
    have h := ifF hc h
    refine x_aloadn dX3_hasWishNamed_15 rfl ?_
    refine z_getR fs_X3_25 (LM.o H0) (LM.g2 H0) dX3_hasWishNamed_16 ?_
    refine x_iloadn dX3_hasWishNamed_19 rfl ?_
    obtain ⟨j1, hj1, h⟩ := b1_s h
    refine z_aald (LM.l2 H0) ⟨by decide, by decide⟩ hj1 (LM.w H0 (ix_s hj1).2.1) dX3_hasWishNamed_20 ?_
    refine z_getI fs_X3_108 (LM.wo H0 (ix_s hj1).2.1) dX3_hasWishNamed_21 ?_
    refine x_iloadn dX3_hasWishNamed_24 rfl ?_
    refine x_icmp_ne 30 dX3_hasWishNamed_25 rfl (fun hc => ?_) (fun hc => ?_)
    · have h := ifF hc h
      refine z_iinc 1 (by decide) dX3_hasWishNamed_30 rfl rfl rfl ?_
      refine x_goto 2 dX3_hasWishNamed_33 rfl ?_
      exact ih H0 h
    have h := ifT hc h
    refine x_iconst 1 dX3_hasWishNamed_28 rfl ?_
    cases h
    exact x_zret rfl rfl dX3_hasWishNamed_29 ⟨rfl, rfl, rfl⟩
noncomputable def f_X3_hasWishNamed (I : Mem) (x0 : Nat) (x1 : Int32) (x2 : Int32) : Option (Int32) := l_X3_hasWishNamed_2 FU I x0 x1 x2 0
theorem c_X3_hasWishNamed (d : Nat) {K : Kt} {I : Mem} {x0 : Nat} (H0 : LM K x0) {x1 : Int32} {x2 : Int32} {v : Int32} (h : f_X3_hasWishNamed I x0 x1 x2 = some v) : Ct (mX3_hasWishNamed d) cX3_hasWishNamed 0 0 [.ref x0, .int x1, .int x2] I K (Ro (.inl (some (.int v))) I K) := by
  refine Ct.of rfl pn_X3 (catR (catI (catI cat0))) (Nat.le_of_ble_eq_true rfl) (show X _ _ _ _ _ _ 0 [.ref x0, .int x1, .int x2, .retAddr 0] [] _ from ?_)
  unfold f_X3_hasWishNamed at h
  refine x_iconst 0 dX3_hasWishNamed_0 rfl ?_
  refine x_istoren dX3_hasWishNamed_1 (Nat.le_of_ble_eq_true rfl) rfl rfl ?_
  exact tl_X3_hasWishNamed_2 d FU H0 h
noncomputable def f_X3_priceOf (I : Mem) (x0 : Nat) (x1 : Int32) : Option (Int32) := b1 (ix x1 16) fun j1 => if (I (x0 + 15 + j1) 4) = (-1) then (some ((-1))) else (b1 (ix (I (x0 + 15 + j1) 4) 5) fun j2 => if (((((I (x0 + 15 + j1) 1) * (10 - (I (x0 + 15 + j1) 3))) * (100 + (I (x0 + 10 + j2) 3))) * (50 + (I (x0 + 10 + j2) 2))) / 100000) = 0 then (some (1)) else (some ((((((I (x0 + 15 + j1) 1) * (10 - (I (x0 + 15 + j1) 3))) * (100 + (I (x0 + 10 + j2) 3))) * (50 + (I (x0 + 10 + j2) 2))) / 100000))))
theorem c_X3_priceOf (d : Nat) {K : Kt} {I : Mem} {x0 : Nat} (H0 : LM K x0) {x1 : Int32} {v : Int32} (h : f_X3_priceOf I x0 x1 = some v) : Ct (mX3_priceOf d) cX3_priceOf 0 0 [.ref x0, .int x1] I K (Ro (.inl (some (.int v))) I K) := by
  refine Ct.of rfl pn_X3 (catR (catI cat0)) (Nat.le_of_ble_eq_true rfl) (show X _ _ _ _ _ _ 0 [.ref x0, .int x1, .retAddr 0, .retAddr 0, .retAddr 0] [] _ from ?_)
  unfold f_X3_priceOf at h
  refine x_aloadn dX3_priceOf_0 rfl ?_
  refine z_getR fs_X3_25 (LM.o H0) (LM.g2 H0) dX3_priceOf_1 ?_
  refine x_iloadn dX3_priceOf_4 rfl ?_
  obtain ⟨j1, hj1, h⟩ := b1_s h
  refine z_aald (LM.l2 H0) ⟨by decide, by decide⟩ hj1 (LM.w H0 (ix_s hj1).2.1) dX3_priceOf_5 ?_
  refine x_astoren dX3_priceOf_6 (Nat.le_of_ble_eq_true rfl) rfl rfl ?_
  refine x_aloadn dX3_priceOf_7 rfl ?_
  refine z_getI fs_X3_79 (LM.wo H0 (ix_s hj1).2.1) dX3_priceOf_8 ?_
  refine x_iconst (-1) dX3_priceOf_11 rfl ?_
  refine x_icmp_ne 17 dX3_priceOf_12 rfl (fun hc => ?_) (fun hc => ?_)
  · have h := ifF hc h
    refine x_aloadn dX3_priceOf_17 rfl ?_
    refine z_getR fs_X3_19 (LM.o H0) (LM.g1 H0) dX3_priceOf_18 ?_
    refine x_aloadn dX3_priceOf_21 rfl ?_
    refine z_getI fs_X3_79 (LM.wo H0 (ix_s hj1).2.1) dX3_priceOf_22 ?_
    obtain ⟨j2, hj2, h⟩ := b1_s h
    refine z_aald (LM.l1 H0) ⟨by decide, by decide⟩ hj2 (LM.s H0 (ix_s hj2).2.1) dX3_priceOf_25 ?_
    refine x_astoren dX3_priceOf_26 (Nat.le_of_ble_eq_true rfl) rfl rfl ?_
    refine x_aloadn dX3_priceOf_27 rfl ?_
    refine z_getI fs_X3_109 (LM.wo H0 (ix_s hj1).2.1) dX3_priceOf_28 ?_
    refine x_bipush 10 dX3_priceOf_31 rfl ?_
    refine x_aloadn dX3_priceOf_33 rfl ?_
    refine z_getI fs_X3_99 (LM.wo H0 (ix_s hj1).2.1) dX3_priceOf_34 ?_
    refine x_isub dX3_priceOf_37 ?_
    refine x_imul dX3_priceOf_38 ?_
    refine x_bipush 100 dX3_priceOf_39 rfl ?_
    refine x_aloadn dX3_priceOf_41 rfl ?_
    refine z_getI fs_X3_112 (LM.so H0 (ix_s hj2).2.1) dX3_priceOf_42 ?_
    refine x_iadd dX3_priceOf_45 ?_
    refine x_imul dX3_priceOf_46 ?_
    refine x_bipush 50 dX3_priceOf_47 rfl ?_
    refine x_aloadn dX3_priceOf_49 rfl ?_
    refine z_getI fs_X3_102 (LM.so H0 (ix_s hj2).2.1) dX3_priceOf_50 ?_
    refine x_iadd dX3_priceOf_53 ?_
    refine x_imul dX3_priceOf_54 ?_
    refine x_ldc 100000 (show Cond.constant RX3 115 100000 ∈ wsG from inT3 235 rfl rfl) dX3_priceOf_55 ?_
    refine x_idiv dX3_priceOf_57 (by decide) ?_
    refine x_istore dX3_priceOf_58 (Nat.le_of_ble_eq_true rfl) rfl rfl ?_
    refine x_iload dX3_priceOf_60 rfl ?_
    refine x_if_ne 69 dX3_priceOf_62 rfl (fun hc => ?_) (fun hc => ?_)
    · have h := ifF hc h
      refine x_iload dX3_priceOf_69 rfl ?_
      cases h
      exact x_iret rfl dX3_priceOf_71 ⟨rfl, rfl, rfl⟩
    have h := ifT hc h
    refine x_iconst 1 dX3_priceOf_65 rfl ?_
    refine x_goto 71 dX3_priceOf_66 rfl ?_
    cases h
    exact x_iret rfl dX3_priceOf_71 ⟨rfl, rfl, rfl⟩
  have h := ifT hc h
  refine x_iconst (-1) dX3_priceOf_15 rfl ?_
  cases h
  exact x_iret rfl dX3_priceOf_16 ⟨rfl, rfl, rfl⟩
noncomputable def f_X3_offerFor (I : Mem) (x0 : Nat) (x1 : Int32) (x2 : Int32) : Option (Int32) := b1 (ix x1 16) fun j1 => b1 (ix x2 5) fun j2 => some (((((I (x0 + 15 + j1) 1) * (10 - (I (x0 + 15 + j1) 3))) * (50 + (I (x0 + 10 + j2) 2))) / 1000))
theorem c_X3_offerFor (d : Nat) {K : Kt} {I : Mem} {x0 : Nat} (H0 : LM K x0) {x1 : Int32} {x2 : Int32} {v : Int32} (h : f_X3_offerFor I x0 x1 x2 = some v) : Ct (mX3_offerFor d) cX3_offerFor 0 0 [.ref x0, .int x1, .int x2] I K (Ro (.inl (some (.int v))) I K) := by
  refine Ct.of rfl pn_X3 (catR (catI (catI cat0))) (Nat.le_of_ble_eq_true rfl) (show X _ _ _ _ _ _ 0 [.ref x0, .int x1, .int x2, .retAddr 0] [] _ from ?_)
  unfold f_X3_offerFor at h
  refine x_aloadn dX3_offerFor_0 rfl ?_
  refine z_getR fs_X3_25 (LM.o H0) (LM.g2 H0) dX3_offerFor_1 ?_
  refine x_iloadn dX3_offerFor_4 rfl ?_
  obtain ⟨j1, hj1, h⟩ := b1_s h
  refine z_aald (LM.l2 H0) ⟨by decide, by decide⟩ hj1 (LM.w H0 (ix_s hj1).2.1) dX3_offerFor_5 ?_
  refine x_astoren dX3_offerFor_6 (Nat.le_of_ble_eq_true rfl) rfl rfl ?_
  refine x_aloadn dX3_offerFor_7 rfl ?_
  refine z_getI fs_X3_109 (LM.wo H0 (ix_s hj1).2.1) dX3_offerFor_8 ?_
  refine x_bipush 10 dX3_offerFor_11 rfl ?_
  refine x_aloadn dX3_offerFor_13 rfl ?_
  refine z_getI fs_X3_99 (LM.wo H0 (ix_s hj1).2.1) dX3_offerFor_14 ?_
  refine x_isub dX3_offerFor_17 ?_
  refine x_imul dX3_offerFor_18 ?_
  refine x_bipush 50 dX3_offerFor_19 rfl ?_
  refine x_aloadn dX3_offerFor_21 rfl ?_
  refine z_getR fs_X3_19 (LM.o H0) (LM.g1 H0) dX3_offerFor_22 ?_
  refine x_iloadn dX3_offerFor_25 rfl ?_
  obtain ⟨j2, hj2, h⟩ := b1_s h
  refine z_aald (LM.l1 H0) ⟨by decide, by decide⟩ hj2 (LM.s H0 (ix_s hj2).2.1) dX3_offerFor_26 ?_
  refine z_getI fs_X3_102 (LM.so H0 (ix_s hj2).2.1) dX3_offerFor_27 ?_
  refine x_iadd dX3_offerFor_30 ?_
  refine x_imul dX3_offerFor_31 ?_
  refine x_sipush 1000 dX3_offerFor_32 rfl ?_
  refine x_idiv dX3_offerFor_35 (by decide) ?_
  cases h
  exact x_iret rfl dX3_offerFor_36 ⟨rfl, rfl, rfl⟩
noncomputable def f_X3_refundFor (I : Mem) (x0 : Nat) (x1 : Int32) : Option (Int32) := b1 (ix x1 16) fun j1 => if (I (x0 + 15 + j1) 8) = (-1) then (some ((-1))) else (some ((((I (x0 + 15 + j1) 9) * (100 - (I x0 9))) / 100)))
theorem c_X3_refundFor (d : Nat) {K : Kt} {I : Mem} {x0 : Nat} (H0 : LM K x0) {x1 : Int32} {v : Int32} (h : f_X3_refundFor I x0 x1 = some v) : Ct (mX3_refundFor d) cX3_refundFor 0 0 [.ref x0, .int x1] I K (Ro (.inl (some (.int v))) I K) := by
  refine Ct.of rfl pn_X3 (catR (catI cat0)) (Nat.le_of_ble_eq_true rfl) (show X _ _ _ _ _ _ 0 [.ref x0, .int x1, .retAddr 0] [] _ from ?_)
  unfold f_X3_refundFor at h
  refine x_aloadn dX3_refundFor_0 rfl ?_
  refine z_getR fs_X3_25 (LM.o H0) (LM.g2 H0) dX3_refundFor_1 ?_
  refine x_iloadn dX3_refundFor_4 rfl ?_
  obtain ⟨j1, hj1, h⟩ := b1_s h
  refine z_aald (LM.l2 H0) ⟨by decide, by decide⟩ hj1 (LM.w H0 (ix_s hj1).2.1) dX3_refundFor_5 ?_
  refine x_astoren dX3_refundFor_6 (Nat.le_of_ble_eq_true rfl) rfl rfl ?_
  refine x_aloadn dX3_refundFor_7 rfl ?_
  refine z_getI fs_X3_116 (LM.wo H0 (ix_s hj1).2.1) dX3_refundFor_8 ?_
  refine x_iconst (-1) dX3_refundFor_11 rfl ?_
  refine x_icmp_ne 19 dX3_refundFor_12 rfl (fun hc => ?_) (fun hc => ?_)
  · have h := ifF hc h
    refine x_aloadn dX3_refundFor_19 rfl ?_
    refine z_getI fs_X3_119 (LM.wo H0 (ix_s hj1).2.1) dX3_refundFor_20 ?_
    refine x_bipush 100 dX3_refundFor_23 rfl ?_
    refine x_aloadn dX3_refundFor_25 rfl ?_
    refine z_getI fs_X3_51 (LM.o H0) dX3_refundFor_26 ?_
    refine x_isub dX3_refundFor_29 ?_
    refine x_imul dX3_refundFor_30 ?_
    refine x_bipush 100 dX3_refundFor_31 rfl ?_
    refine x_idiv dX3_refundFor_33 (by decide) ?_
    cases h
    exact x_iret rfl dX3_refundFor_34 ⟨rfl, rfl, rfl⟩
  have h := ifT hc h
  refine x_iconst (-1) dX3_refundFor_15 rfl ?_
  refine x_goto 34 dX3_refundFor_16 rfl ?_
  cases h
  exact x_iret rfl dX3_refundFor_34 ⟨rfl, rfl, rfl⟩
noncomputable def f_X3_obstacleToBuy (I : Mem) (x0 : Nat) (x1 : Int32) (x2 : Int32) : Option (Int32) := b1 (ix x2 16) fun j1 => if (I (x0 + 15 + j1) 4) = (-1) then (some (1)) else (b1 (ix x1 6) fun j2 => b1 (f_X3_priceOf I x0 x2) fun v3 => if v3 ≤ (I (x0 + 4 + j2) 1) then (b1 (f_X3_ownedBy I x0 x1) fun v5 => if v5 < 4 then (some (0)) else (some (3))) else (some (2)))
theorem c_X3_obstacleToBuy (d : Nat) {K : Kt} {I : Mem} {x0 : Nat} (H0 : LM K x0) {x1 : Int32} {x2 : Int32} {v : Int32} (h : f_X3_obstacleToBuy I x0 x1 x2 = some v) : Ct (mX3_obstacleToBuy (d + 1)) cX3_obstacleToBuy 0 0 [.ref x0, .int x1, .int x2] I K (Ro (.inl (some (.int v))) I K) := by
  refine Ct.of rfl pn_X3 (catR (catI (catI cat0))) (Nat.le_of_ble_eq_true rfl) (show X _ _ _ _ _ _ 0 [.ref x0, .int x1, .int x2] [] _ from ?_)
  unfold f_X3_obstacleToBuy at h
  refine x_aloadn dX3_obstacleToBuy_0 rfl ?_
  refine z_getR fs_X3_25 (LM.o H0) (LM.g2 H0) dX3_obstacleToBuy_1 ?_
  refine x_iloadn dX3_obstacleToBuy_4 rfl ?_
  obtain ⟨j1, hj1, h⟩ := b1_s h
  refine z_aald (LM.l2 H0) ⟨by decide, by decide⟩ hj1 (LM.w H0 (ix_s hj1).2.1) dX3_obstacleToBuy_5 ?_
  refine z_getI fs_X3_79 (LM.wo H0 (ix_s hj1).2.1) dX3_obstacleToBuy_6 ?_
  refine x_iconst (-1) dX3_obstacleToBuy_9 rfl ?_
  refine x_icmp_ne 15 dX3_obstacleToBuy_10 rfl (fun hc => ?_) (fun hc => ?_)
  · have h := ifF hc h
    refine x_aloadn dX3_obstacleToBuy_15 rfl ?_
    refine z_getR fs_X3_11 (LM.o H0) (LM.g0 H0) dX3_obstacleToBuy_16 ?_
    refine x_iloadn dX3_obstacleToBuy_19 rfl ?_
    obtain ⟨j2, hj2, h⟩ := b1_s h
    refine z_aald (LM.l0 H0) ⟨by decide, by decide⟩ hj2 (LM.p H0 (ix_s hj2).2.1) dX3_obstacleToBuy_20 ?_
    refine z_getI fs_X3_89 (LM.po H0 (ix_s hj2).2.1) dX3_obstacleToBuy_21 ?_
    refine x_aloadn dX3_obstacleToBuy_24 rfl ?_
    refine x_iloadn dX3_obstacleToBuy_25 rfl ?_
    obtain ⟨v3, h4, h⟩ := b1_s h
    refine z_V1 [.int x2] [.int (I (x0 + 4 + j2) 1)] (cs_X3_122 _) (ci := 1) rfl (LM.o H0) (dep (show d + 0 + 0 + 1 ≤ (d + 1) from by omega) (Nat.le_of_ble_eq_true rfl)) dX3_obstacleToBuy_26 rfl rfl (Nat.le_of_ble_eq_true rfl) (c_X3_priceOf d (K := K) (I := I) H0 h4) ?_
    refine x_icmp_ge 34 dX3_obstacleToBuy_29 rfl (fun hc => ?_) (fun hc => ?_)
    · have h := ifT hc h
      refine x_aloadn dX3_obstacleToBuy_34 rfl ?_
      refine x_iloadn dX3_obstacleToBuy_35 rfl ?_
      obtain ⟨v5, h6, h⟩ := b1_s h
      refine z_V1 [.int x1] [] (cs_X3_126 _) (ci := 1) rfl (LM.o H0) (dep (show d + 0 + 0 + 1 ≤ (d + 1) from by omega) (Nat.le_of_ble_eq_true rfl)) dX3_obstacleToBuy_36 rfl rfl (Nat.le_of_ble_eq_true rfl) (c_X3_ownedBy d (K := K) (I := I) H0 h6) ?_
      refine x_iconst 4 dX3_obstacleToBuy_39 rfl ?_
      refine x_icmp_lt 47 dX3_obstacleToBuy_40 rfl (fun hc => ?_) (fun hc => ?_)
      · have h := ifT hc h
        refine x_iconst 0 dX3_obstacleToBuy_47 rfl ?_
        cases h
        exact x_iret rfl dX3_obstacleToBuy_48 ⟨rfl, rfl, rfl⟩
      have h := ifF hc h
      refine x_iconst 3 dX3_obstacleToBuy_43 rfl ?_
      refine x_goto 48 dX3_obstacleToBuy_44 rfl ?_
      cases h
      exact x_iret rfl dX3_obstacleToBuy_48 ⟨rfl, rfl, rfl⟩
    have h := ifF hc h
    refine x_iconst 2 dX3_obstacleToBuy_32 rfl ?_
    cases h
    exact x_iret rfl dX3_obstacleToBuy_33 ⟨rfl, rfl, rfl⟩
  have h := ifT hc h
  refine x_iconst 1 dX3_obstacleToBuy_13 rfl ?_
  cases h
  exact x_iret rfl dX3_obstacleToBuy_14 ⟨rfl, rfl, rfl⟩
noncomputable def f_X3_obstacleToSell (I : Mem) (x0 : Nat) (x1 : Int32) (x2 : Int32) : Option (Int32) := b1 (ix x1 16) fun j1 => if (I (x0 + 15 + j1) 5) = (-1) then (some (1)) else (b1 (f_X3_stockOf I x0 x2) fun v2 => b1 (ix x2 5) fun j4 => if v2 < (I (x0 + 10 + j4) 0) then (b1 (ix x2 5) fun j5 => b1 (f_X3_offerFor I x0 x1 x2) fun v6 => if v6 ≤ (I (x0 + 10 + j5) 1) then (some (0)) else (some (3))) else (some (2)))
theorem c_X3_obstacleToSell (d : Nat) {K : Kt} {I : Mem} {x0 : Nat} (H0 : LM K x0) {x1 : Int32} {x2 : Int32} {v : Int32} (h : f_X3_obstacleToSell I x0 x1 x2 = some v) : Ct (mX3_obstacleToSell (d + 1)) cX3_obstacleToSell 0 0 [.ref x0, .int x1, .int x2] I K (Ro (.inl (some (.int v))) I K) := by
  refine Ct.of rfl pn_X3 (catR (catI (catI cat0))) (Nat.le_of_ble_eq_true rfl) (show X _ _ _ _ _ _ 0 [.ref x0, .int x1, .int x2] [] _ from ?_)
  unfold f_X3_obstacleToSell at h
  refine x_aloadn dX3_obstacleToSell_0 rfl ?_
  refine z_getR fs_X3_25 (LM.o H0) (LM.g2 H0) dX3_obstacleToSell_1 ?_
  refine x_iloadn dX3_obstacleToSell_4 rfl ?_
  obtain ⟨j1, hj1, h⟩ := b1_s h
  refine z_aald (LM.l2 H0) ⟨by decide, by decide⟩ hj1 (LM.w H0 (ix_s hj1).2.1) dX3_obstacleToSell_5 ?_
  refine z_getI fs_X3_76 (LM.wo H0 (ix_s hj1).2.1) dX3_obstacleToSell_6 ?_
  refine x_iconst (-1) dX3_obstacleToSell_9 rfl ?_
  refine x_icmp_ne 15 dX3_obstacleToSell_10 rfl (fun hc => ?_) (fun hc => ?_)
  · have h := ifF hc h
    refine x_aloadn dX3_obstacleToSell_15 rfl ?_
    refine x_iloadn dX3_obstacleToSell_16 rfl ?_
    obtain ⟨v2, h3, h⟩ := b1_s h
    refine z_V1 [.int x2] [] (cs_X3_129 _) (ci := 1) rfl (LM.o H0) (dep (show d + 0 + 0 + 1 ≤ (d + 1) from by omega) (Nat.le_of_ble_eq_true rfl)) dX3_obstacleToSell_17 rfl rfl (Nat.le_of_ble_eq_true rfl) (c_X3_stockOf d (K := K) (I := I) H0 h3) ?_
    refine x_aloadn dX3_obstacleToSell_20 rfl ?_
    refine z_getR fs_X3_19 (LM.o H0) (LM.g1 H0) dX3_obstacleToSell_21 ?_
    refine x_iloadn dX3_obstacleToSell_24 rfl ?_
    obtain ⟨j4, hj4, h⟩ := b1_s h
    refine z_aald (LM.l1 H0) ⟨by decide, by decide⟩ hj4 (LM.s H0 (ix_s hj4).2.1) dX3_obstacleToSell_25 ?_
    refine z_getI fs_X3_132 (LM.so H0 (ix_s hj4).2.1) dX3_obstacleToSell_26 ?_
    refine x_icmp_lt 34 dX3_obstacleToSell_29 rfl (fun hc => ?_) (fun hc => ?_)
    · have h := ifT hc h
      refine x_aloadn dX3_obstacleToSell_34 rfl ?_
      refine z_getR fs_X3_19 (LM.o H0) (LM.g1 H0) dX3_obstacleToSell_35 ?_
      refine x_iloadn dX3_obstacleToSell_38 rfl ?_
      obtain ⟨j5, hj5, h⟩ := b1_s h
      refine z_aald (LM.l1 H0) ⟨by decide, by decide⟩ hj5 (LM.s H0 (ix_s hj5).2.1) dX3_obstacleToSell_39 ?_
      refine z_getI fs_X3_92 (LM.so H0 (ix_s hj5).2.1) dX3_obstacleToSell_40 ?_
      refine x_aloadn dX3_obstacleToSell_43 rfl ?_
      refine x_iloadn dX3_obstacleToSell_44 rfl ?_
      refine x_iloadn dX3_obstacleToSell_45 rfl ?_
      obtain ⟨v6, h7, h⟩ := b1_s h
      refine z_V1 [.int x1, .int x2] [.int (I (x0 + 10 + j5) 1)] (cs_X3_135 _) (ci := 1) rfl (LM.o H0) (dep (show d + 0 + 0 + 1 ≤ (d + 1) from by omega) (Nat.le_of_ble_eq_true rfl)) dX3_obstacleToSell_46 rfl rfl (Nat.le_of_ble_eq_true rfl) (c_X3_offerFor d (K := K) (I := I) H0 h7) ?_
      refine x_icmp_ge 56 dX3_obstacleToSell_49 rfl (fun hc => ?_) (fun hc => ?_)
      · have h := ifT hc h
        refine x_iconst 0 dX3_obstacleToSell_56 rfl ?_
        cases h
        exact x_iret rfl dX3_obstacleToSell_57 ⟨rfl, rfl, rfl⟩
      have h := ifF hc h
      refine x_iconst 3 dX3_obstacleToSell_52 rfl ?_
      refine x_goto 57 dX3_obstacleToSell_53 rfl ?_
      cases h
      exact x_iret rfl dX3_obstacleToSell_57 ⟨rfl, rfl, rfl⟩
    have h := ifF hc h
    refine x_iconst 2 dX3_obstacleToSell_32 rfl ?_
    cases h
    exact x_iret rfl dX3_obstacleToSell_33 ⟨rfl, rfl, rfl⟩
  have h := ifT hc h
  refine x_iconst 1 dX3_obstacleToSell_13 rfl ?_
  cases h
  exact x_iret rfl dX3_obstacleToSell_14 ⟨rfl, rfl, rfl⟩
noncomputable def f_X3_obstacleToReturn (I : Mem) (x0 : Nat) (x1 : Int32) : Option (Int32) := b1 (ix x1 16) fun j1 => if (I (x0 + 15 + j1) 5) = (-1) then (some (1)) else (if (I (x0 + 15 + j1) 8) = (-1) then (some (1)) else (if ((I x0 6) - (I (x0 + 15 + j1) 8)) ≤ (I x0 8) then (b1 (ix (I (x0 + 15 + j1) 10) 5) fun j2 => b1 (f_X3_stockOf I x0 (I (x0 + 15 + j1) 10)) fun v3 => if v3 < (I (x0 + 10 + j2) 0) then (b1 (f_X3_refundFor I x0 x1) fun v5 => if v5 ≤ (I (x0 + 10 + j2) 1) then (some (0)) else (some (4))) else (some (3))) else (some (2))))
theorem c_X3_obstacleToReturn (d : Nat) {K : Kt} {I : Mem} {x0 : Nat} (H0 : LM K x0) {x1 : Int32} {v : Int32} (h : f_X3_obstacleToReturn I x0 x1 = some v) : Ct (mX3_obstacleToReturn (d + 1)) cX3_obstacleToReturn 0 0 [.ref x0, .int x1] I K (Ro (.inl (some (.int v))) I K) := by
  refine Ct.of rfl pn_X3 (catR (catI cat0)) (Nat.le_of_ble_eq_true rfl) (show X _ _ _ _ _ _ 0 [.ref x0, .int x1, .retAddr 0, .retAddr 0] [] _ from ?_)
  unfold f_X3_obstacleToReturn at h
  refine x_aloadn dX3_obstacleToReturn_0 rfl ?_
  refine z_getR fs_X3_25 (LM.o H0) (LM.g2 H0) dX3_obstacleToReturn_1 ?_
  refine x_iloadn dX3_obstacleToReturn_4 rfl ?_
  obtain ⟨j1, hj1, h⟩ := b1_s h
  refine z_aald (LM.l2 H0) ⟨by decide, by decide⟩ hj1 (LM.w H0 (ix_s hj1).2.1) dX3_obstacleToReturn_5 ?_
  refine x_astoren dX3_obstacleToReturn_6 (Nat.le_of_ble_eq_true rfl) rfl rfl ?_
  refine x_aloadn dX3_obstacleToReturn_7 rfl ?_
  refine z_getI fs_X3_76 (LM.wo H0 (ix_s hj1).2.1) dX3_obstacleToReturn_8 ?_
  refine x_iconst (-1) dX3_obstacleToReturn_11 rfl ?_
  refine x_icmp_eq 23 dX3_obstacleToReturn_12 rfl (fun hc => ?_) (fun hc => ?_)
  · have h := ifT hc h
    refine x_iconst 1 dX3_obstacleToReturn_23 rfl ?_
    cases h
    exact x_iret rfl dX3_obstacleToReturn_24 ⟨rfl, rfl, rfl⟩
  have h := ifF hc h
  refine x_aloadn dX3_obstacleToReturn_15 rfl ?_
  refine z_getI fs_X3_116 (LM.wo H0 (ix_s hj1).2.1) dX3_obstacleToReturn_16 ?_
  refine x_iconst (-1) dX3_obstacleToReturn_19 rfl ?_
  refine x_icmp_ne 25 dX3_obstacleToReturn_20 rfl (fun hc => ?_) (fun hc => ?_)
  · have h := ifF hc h
    refine x_aloadn dX3_obstacleToReturn_25 rfl ?_
    refine z_getI fs_X3_42 (LM.o H0) dX3_obstacleToReturn_26 ?_
    refine x_aloadn dX3_obstacleToReturn_29 rfl ?_
    refine z_getI fs_X3_116 (LM.wo H0 (ix_s hj1).2.1) dX3_obstacleToReturn_30 ?_
    refine x_isub dX3_obstacleToReturn_33 ?_
    refine x_aloadn dX3_obstacleToReturn_34 rfl ?_
    refine z_getI fs_X3_48 (LM.o H0) dX3_obstacleToReturn_35 ?_
    refine x_icmp_le 43 dX3_obstacleToReturn_38 rfl (fun hc => ?_) (fun hc => ?_)
    · have h := ifT hc h
      refine x_aloadn dX3_obstacleToReturn_43 rfl ?_
      refine z_getR fs_X3_19 (LM.o H0) (LM.g1 H0) dX3_obstacleToReturn_44 ?_
      refine x_aloadn dX3_obstacleToReturn_47 rfl ?_
      refine z_getI fs_X3_139 (LM.wo H0 (ix_s hj1).2.1) dX3_obstacleToReturn_48 ?_
      obtain ⟨j2, hj2, h⟩ := b1_s h
      refine z_aald (LM.l1 H0) ⟨by decide, by decide⟩ hj2 (LM.s H0 (ix_s hj2).2.1) dX3_obstacleToReturn_51 ?_
      refine x_astoren dX3_obstacleToReturn_52 (Nat.le_of_ble_eq_true rfl) rfl rfl ?_
      refine x_aloadn dX3_obstacleToReturn_53 rfl ?_
      refine x_aloadn dX3_obstacleToReturn_54 rfl ?_
      refine z_getI fs_X3_139 (LM.wo H0 (ix_s hj1).2.1) dX3_obstacleToReturn_55 ?_
      obtain ⟨v3, h4, h⟩ := b1_s h
      refine z_V1 [.int (I (x0 + 15 + j1) 10)] [] (cs_X3_129 _) (ci := 1) rfl (LM.o H0) (dep (show d + 0 + 0 + 1 ≤ (d + 1) from by omega) (Nat.le_of_ble_eq_true rfl)) dX3_obstacleToReturn_58 rfl rfl (Nat.le_of_ble_eq_true rfl) (c_X3_stockOf d (K := K) (I := I) H0 h4) ?_
      refine x_aloadn dX3_obstacleToReturn_61 rfl ?_
      refine z_getI fs_X3_132 (LM.so H0 (ix_s hj2).2.1) dX3_obstacleToReturn_62 ?_
      refine x_icmp_lt 70 dX3_obstacleToReturn_65 rfl (fun hc => ?_) (fun hc => ?_)
      · have h := ifT hc h
        refine x_aloadn dX3_obstacleToReturn_70 rfl ?_
        refine z_getI fs_X3_92 (LM.so H0 (ix_s hj2).2.1) dX3_obstacleToReturn_71 ?_
        refine x_aloadn dX3_obstacleToReturn_74 rfl ?_
        refine x_iloadn dX3_obstacleToReturn_75 rfl ?_
        obtain ⟨v5, h6, h⟩ := b1_s h
        refine z_V1 [.int x1] [.int (I (x0 + 10 + j2) 1)] (cs_X3_142 _) (ci := 1) rfl (LM.o H0) (dep (show d + 0 + 0 + 1 ≤ (d + 1) from by omega) (Nat.le_of_ble_eq_true rfl)) dX3_obstacleToReturn_76 rfl rfl (Nat.le_of_ble_eq_true rfl) (c_X3_refundFor d (K := K) (I := I) H0 h6) ?_
        refine x_icmp_ge 86 dX3_obstacleToReturn_79 rfl (fun hc => ?_) (fun hc => ?_)
        · have h := ifT hc h
          refine x_iconst 0 dX3_obstacleToReturn_86 rfl ?_
          cases h
          exact x_iret rfl dX3_obstacleToReturn_87 ⟨rfl, rfl, rfl⟩
        have h := ifF hc h
        refine x_iconst 4 dX3_obstacleToReturn_82 rfl ?_
        refine x_goto 87 dX3_obstacleToReturn_83 rfl ?_
        cases h
        exact x_iret rfl dX3_obstacleToReturn_87 ⟨rfl, rfl, rfl⟩
      have h := ifF hc h
      refine x_iconst 3 dX3_obstacleToReturn_68 rfl ?_
      cases h
      exact x_iret rfl dX3_obstacleToReturn_69 ⟨rfl, rfl, rfl⟩
    have h := ifF hc h
    refine x_iconst 2 dX3_obstacleToReturn_41 rfl ?_
    cases h
    exact x_iret rfl dX3_obstacleToReturn_42 ⟨rfl, rfl, rfl⟩
  have h := ifT hc h
  refine x_iconst 1 dX3_obstacleToReturn_23 rfl ?_
  cases h
  exact x_iret rfl dX3_obstacleToReturn_24 ⟨rfl, rfl, rfl⟩
noncomputable def f_X3_obstacleToGrant (I : Mem) (x0 : Nat) (x1 : Int32) : Option (Int32) := b1 (ix x1 16) fun j1 => if (I (x0 + 15 + j1) 5) = (-1) then (some (1)) else (b1 (ix (I (x0 + 15 + j1) 5) 6) fun j2 => b1 (f_X3_today I x0) fun v3 => if (I (x0 + 4 + j2) 2) = v3 then (b1 (ix (I (x0 + 15 + j1) 5) 6) fun j5 => b1 (ix x1 16) fun j6 => if (I (x0 + 15 + j6) 2) ≤ (I (x0 + 4 + j5) 3) then (some (0)) else (some (3))) else (some (2)))
theorem c_X3_obstacleToGrant (d : Nat) {K : Kt} {I : Mem} {x0 : Nat} (H0 : LM K x0) {x1 : Int32} {v : Int32} (h : f_X3_obstacleToGrant I x0 x1 = some v) : Ct (mX3_obstacleToGrant (d + 1)) cX3_obstacleToGrant 0 0 [.ref x0, .int x1] I K (Ro (.inl (some (.int v))) I K) := by
  refine Ct.of rfl pn_X3 (catR (catI cat0)) (Nat.le_of_ble_eq_true rfl) (show X _ _ _ _ _ _ 0 [.ref x0, .int x1, .retAddr 0] [] _ from ?_)
  unfold f_X3_obstacleToGrant at h
  refine x_aloadn dX3_obstacleToGrant_0 rfl ?_
  refine z_getR fs_X3_25 (LM.o H0) (LM.g2 H0) dX3_obstacleToGrant_1 ?_
  refine x_iloadn dX3_obstacleToGrant_4 rfl ?_
  obtain ⟨j1, hj1, h⟩ := b1_s h
  refine z_aald (LM.l2 H0) ⟨by decide, by decide⟩ hj1 (LM.w H0 (ix_s hj1).2.1) dX3_obstacleToGrant_5 ?_
  refine z_getI fs_X3_76 (LM.wo H0 (ix_s hj1).2.1) dX3_obstacleToGrant_6 ?_
  refine x_istoren dX3_obstacleToGrant_9 (Nat.le_of_ble_eq_true rfl) rfl rfl ?_
  refine x_iloadn dX3_obstacleToGrant_10 rfl ?_
  refine x_iconst (-1) dX3_obstacleToGrant_11 rfl ?_
  refine x_icmp_ne 17 dX3_obstacleToGrant_12 rfl (fun hc => ?_) (fun hc => ?_)
  · have h := ifF hc h
    refine x_aloadn dX3_obstacleToGrant_17 rfl ?_
    refine z_getR fs_X3_11 (LM.o H0) (LM.g0 H0) dX3_obstacleToGrant_18 ?_
    refine x_iloadn dX3_obstacleToGrant_21 rfl ?_
    obtain ⟨j2, hj2, h⟩ := b1_s h
    refine z_aald (LM.l0 H0) ⟨by decide, by decide⟩ hj2 (LM.p H0 (ix_s hj2).2.1) dX3_obstacleToGrant_22 ?_
    refine z_getI fs_X3_145 (LM.po H0 (ix_s hj2).2.1) dX3_obstacleToGrant_23 ?_
    refine x_aloadn dX3_obstacleToGrant_26 rfl ?_
    obtain ⟨v3, h4, h⟩ := b1_s h
    refine z_V1 [] [.int (I (x0 + 4 + j2) 2)] (cs_X3_148 _) (ci := 1) rfl (LM.o H0) (dep (show d + 0 + 0 + 1 ≤ (d + 1) from by omega) (Nat.le_of_ble_eq_true rfl)) dX3_obstacleToGrant_27 rfl rfl (Nat.le_of_ble_eq_true rfl) (c_X3_today d (K := K) (I := I) H0 h4) ?_
    refine x_icmp_eq 35 dX3_obstacleToGrant_30 rfl (fun hc => ?_) (fun hc => ?_)
    · have h := ifT hc h
      refine x_aloadn dX3_obstacleToGrant_35 rfl ?_
      refine z_getR fs_X3_11 (LM.o H0) (LM.g0 H0) dX3_obstacleToGrant_36 ?_
      refine x_iloadn dX3_obstacleToGrant_39 rfl ?_
      obtain ⟨j5, hj5, h⟩ := b1_s h
      refine z_aald (LM.l0 H0) ⟨by decide, by decide⟩ hj5 (LM.p H0 (ix_s hj5).2.1) dX3_obstacleToGrant_40 ?_
      refine z_getI fs_X3_152 (LM.po H0 (ix_s hj5).2.1) dX3_obstacleToGrant_41 ?_
      refine x_aloadn dX3_obstacleToGrant_44 rfl ?_
      refine z_getR fs_X3_25 (LM.o H0) (LM.g2 H0) dX3_obstacleToGrant_45 ?_
      refine x_iloadn dX3_obstacleToGrant_48 rfl ?_
      obtain ⟨j6, hj6, h⟩ := b1_s h
      refine z_aald (LM.l2 H0) ⟨by decide, by decide⟩ hj6 (LM.w H0 (ix_s hj6).2.1) dX3_obstacleToGrant_49 ?_
      refine z_getI fs_X3_155 (LM.wo H0 (ix_s hj6).2.1) dX3_obstacleToGrant_50 ?_
      refine x_icmp_ge 60 dX3_obstacleToGrant_53 rfl (fun hc => ?_) (fun hc => ?_)
      · have h := ifT hc h
        refine x_iconst 0 dX3_obstacleToGrant_60 rfl ?_
        cases h
        exact x_iret rfl dX3_obstacleToGrant_61 ⟨rfl, rfl, rfl⟩
      have h := ifF hc h
      refine x_iconst 3 dX3_obstacleToGrant_56 rfl ?_
      refine x_goto 61 dX3_obstacleToGrant_57 rfl ?_
      cases h
      exact x_iret rfl dX3_obstacleToGrant_61 ⟨rfl, rfl, rfl⟩
    have h := ifF hc h
    refine x_iconst 2 dX3_obstacleToGrant_33 rfl ?_
    cases h
    exact x_iret rfl dX3_obstacleToGrant_34 ⟨rfl, rfl, rfl⟩
  have h := ifT hc h
  refine x_iconst 1 dX3_obstacleToGrant_15 rfl ?_
  cases h
  exact x_iret rfl dX3_obstacleToGrant_16 ⟨rfl, rfl, rfl⟩
noncomputable def l_X3_cheapestFor_5 (n : Nat) (I : Mem) (x0 : Nat) (x1 : Int32) (x2 : Int32) (x3 : Int32) (x4 : Int32) : Option (Int32) := match n with
  | 0 => none
  | n + 1 => if (I x0 5) ≤ x4 then (some (x3)) else (b1 (f_X3_obstacleToBuy I x0 x1 x4) fun v1 => if v1 = 0 then (b1 (f_X3_priceOf I x0 x4) fun v3 => if x2 < v3 then (l_X3_cheapestFor_5 n I x0 x1 x2 x3 (x4 + 1)) else (if x3 = (-1) then (l_X3_cheapestFor_5 n I x0 x1 x2 x4 (x4 + 1)) else (b1 (f_X3_priceOf I x0 x4) fun v5 => b1 (f_X3_priceOf I x0 x3) fun v7 => if v7 ≤ v5 then (l_X3_cheapestFor_5 n I x0 x1 x2 x3 (x4 + 1)) else (l_X3_cheapestFor_5 n I x0 x1 x2 x4 (x4 + 1))))) else (l_X3_cheapestFor_5 n I x0 x1 x2 x3 (x4 + 1)))
theorem tl_X3_cheapestFor_5 (d : Nat) {K : Kt} (n : Nat) : ∀ {I : Mem} {x0 : Nat} (H0 : LM K x0) {x1 : Int32} {x2 : Int32} {x3 : Int32} {x4 : Int32} {v : Int32}, l_X3_cheapestFor_5 n I x0 x1 x2 x3 x4 = some v → X (mX3_cheapestFor (d + 2)) cX3_cheapestFor 0 0 I K 5 [.ref x0, .int x1, .int x2, .int x3, .int x4] [] (Ro (.inl (some (.int v))) I K) := by
  induction n with
  | zero =>
    intro I x0 H0 x1 x2 x3 x4 v h
    cases h
  | succ n ih =>
    intro I x0 H0 x1 x2 x3 x4 v h
    unfold l_X3_cheapestFor_5 at h
    refine x_iload dX3_cheapestFor_5 rfl ?_
    refine x_aloadn dX3_cheapestFor_7 rfl ?_
    refine z_getI fs_X3_39 (LM.o H0) dX3_cheapestFor_8 ?_
    refine x_icmp_ge 62 dX3_cheapestFor_11 rfl (fun hc => ?_) (fun hc => ?_)
    · have h := ifT hc h
      refine x_iloadn dX3_cheapestFor_62 rfl ?_
      cases h
      exact x_iret rfl dX3_cheapestFor_63 ⟨rfl, rfl, rfl⟩
    have h := ifF hc h
    refine x_aloadn dX3_cheapestFor_14 rfl ?_
    refine x_iloadn dX3_cheapestFor_15 rfl ?_
    refine x_iload dX3_cheapestFor_16 rfl ?_
    obtain ⟨v1, h2, h⟩ := b1_s h
    refine z_V1 [.int x1, .int x4] [] (cs_X3_158 _) (ci := 1) rfl (LM.o H0) (dep (show d + 0 + 1 + 1 ≤ (d + 2) from by omega) (Nat.le_of_ble_eq_true rfl)) dX3_cheapestFor_18 rfl rfl (Nat.le_of_ble_eq_true rfl) (c_X3_obstacleToBuy d (K := K) (I := I) H0 h2) ?_
    refine x_if_ne 56 dX3_cheapestFor_21 rfl (fun hc => ?_) (fun hc => ?_)
    · have h := ifF hc h
      refine z_iinc 1 (by decide) dX3_cheapestFor_56 rfl rfl rfl ?_
      refine x_goto 5 dX3_cheapestFor_59 rfl ?_
      exact ih H0 h
    have h := ifT hc h
    refine x_aloadn dX3_cheapestFor_24 rfl ?_
    refine x_iload dX3_cheapestFor_25 rfl ?_
    obtain ⟨v3, h4, h⟩ := b1_s h
    refine z_V1 [.int x4] [] (cs_X3_122 _) (ci := 1) rfl (LM.o H0) (dep (show d + 1 + 0 + 1 ≤ (d + 2) from by omega) (Nat.le_of_ble_eq_true rfl)) dX3_cheapestFor_27 rfl rfl (Nat.le_of_ble_eq_true rfl) (c_X3_priceOf (d + 1) (K := K) (I := I) H0 h4) ?_
    refine x_iloadn dX3_cheapestFor_30 rfl ?_
    refine x_icmp_gt 56 dX3_cheapestFor_31 rfl (fun hc => ?_) (fun hc => ?_)
    · have h := ifT hc h
      refine z_iinc 1 (by decide) dX3_cheapestFor_56 rfl rfl rfl ?_
      refine x_goto 5 dX3_cheapestFor_59 rfl ?_
      exact ih H0 h
    have h := ifF hc h
    refine x_iloadn dX3_cheapestFor_34 rfl ?_
    refine x_iconst (-1) dX3_cheapestFor_35 rfl ?_
    refine x_icmp_eq 53 dX3_cheapestFor_36 rfl (fun hc => ?_) (fun hc => ?_)
    · have h := ifT hc h
      refine x_iload dX3_cheapestFor_53 rfl ?_
      refine x_istoren dX3_cheapestFor_55 (Nat.le_of_ble_eq_true rfl) rfl rfl ?_
      refine z_iinc 1 (by decide) dX3_cheapestFor_56 rfl rfl rfl ?_
      refine x_goto 5 dX3_cheapestFor_59 rfl ?_
      exact ih H0 h
    have h := ifF hc h
    refine x_aloadn dX3_cheapestFor_39 rfl ?_
    refine x_iload dX3_cheapestFor_40 rfl ?_
    obtain ⟨v5, h6, h⟩ := b1_s h
    refine z_V1 [.int x4] [] (cs_X3_122 _) (ci := 1) rfl (LM.o H0) (dep (show d + 1 + 0 + 1 ≤ (d + 2) from by omega) (Nat.le_of_ble_eq_true rfl)) dX3_cheapestFor_42 rfl rfl (Nat.le_of_ble_eq_true rfl) (c_X3_priceOf (d + 1) (K := K) (I := I) H0 h6) ?_
    refine x_aloadn dX3_cheapestFor_45 rfl ?_
    refine x_iloadn dX3_cheapestFor_46 rfl ?_
    obtain ⟨v7, h8, h⟩ := b1_s h
    refine z_V1 [.int x3] [.int v5] (cs_X3_122 _) (ci := 1) rfl (LM.o H0) (dep (show d + 1 + 0 + 1 ≤ (d + 2) from by omega) (Nat.le_of_ble_eq_true rfl)) dX3_cheapestFor_47 rfl rfl (Nat.le_of_ble_eq_true rfl) (c_X3_priceOf (d + 1) (K := K) (I := I) H0 h8) ?_
    refine x_icmp_ge 56 dX3_cheapestFor_50 rfl (fun hc => ?_) (fun hc => ?_)
    · have h := ifT hc h
      refine z_iinc 1 (by decide) dX3_cheapestFor_56 rfl rfl rfl ?_
      refine x_goto 5 dX3_cheapestFor_59 rfl ?_
      exact ih H0 h
    have h := ifF hc h
    refine x_iload dX3_cheapestFor_53 rfl ?_
    refine x_istoren dX3_cheapestFor_55 (Nat.le_of_ble_eq_true rfl) rfl rfl ?_
    refine z_iinc 1 (by decide) dX3_cheapestFor_56 rfl rfl rfl ?_
    refine x_goto 5 dX3_cheapestFor_59 rfl ?_
    exact ih H0 h
noncomputable def f_X3_cheapestFor (I : Mem) (x0 : Nat) (x1 : Int32) (x2 : Int32) : Option (Int32) := l_X3_cheapestFor_5 FU I x0 x1 x2 (-1) 0
theorem c_X3_cheapestFor (d : Nat) {K : Kt} {I : Mem} {x0 : Nat} (H0 : LM K x0) {x1 : Int32} {x2 : Int32} {v : Int32} (h : f_X3_cheapestFor I x0 x1 x2 = some v) : Ct (mX3_cheapestFor (d + 2)) cX3_cheapestFor 0 0 [.ref x0, .int x1, .int x2] I K (Ro (.inl (some (.int v))) I K) := by
  refine Ct.of rfl pn_X3 (catR (catI (catI cat0))) (Nat.le_of_ble_eq_true rfl) (show X _ _ _ _ _ _ 0 [.ref x0, .int x1, .int x2, .retAddr 0, .retAddr 0] [] _ from ?_)
  unfold f_X3_cheapestFor at h
  refine x_iconst (-1) dX3_cheapestFor_0 rfl ?_
  refine x_istoren dX3_cheapestFor_1 (Nat.le_of_ble_eq_true rfl) rfl rfl ?_
  refine x_iconst 0 dX3_cheapestFor_2 rfl ?_
  refine x_istore dX3_cheapestFor_3 (Nat.le_of_ble_eq_true rfl) rfl rfl ?_
  exact tl_X3_cheapestFor_5 d FU H0 h
noncomputable def f_X8_worth (I : Mem) (x0 : Nat) : Option (Int32) := some ((((I x0 1) * (10 - (I x0 3))) / 10))
theorem c_X8_worth (d : Nat) {K : Kt} {I : Mem} {x0 : Nat} (H0 : LO K 6 x0) {v : Int32} (h : f_X8_worth I x0 = some v) : Ct (mX8_worth d) cX8_worth 0 0 [.ref x0] I K (Ro (.inl (some (.int v))) I K) := by
  refine Ct.of rfl pn_X8 (catR cat0) (Nat.le_of_ble_eq_true rfl) (show X _ _ _ _ _ _ 0 [.ref x0] [] _ from ?_)
  unfold f_X8_worth at h
  refine x_aloadn dX8_worth_0 rfl ?_
  refine z_getI fs_X8_9 H0 dX8_worth_1 ?_
  refine x_bipush 10 dX8_worth_4 rfl ?_
  refine x_aloadn dX8_worth_6 rfl ?_
  refine z_getI fs_X8_15 H0 dX8_worth_7 ?_
  refine x_isub dX8_worth_10 ?_
  refine x_imul dX8_worth_11 ?_
  refine x_bipush 10 dX8_worth_12 rfl ?_
  refine x_idiv dX8_worth_14 (by decide) ?_
  cases h
  exact x_iret rfl dX8_worth_15 ⟨rfl, rfl, rfl⟩
noncomputable def l_X3_bestGrantFor_4 (n : Nat) (I : Mem) (x0 : Nat) (x1 : Int32) (x2 : Int32) (x3 : Int32) : Option (Int32) := match n with
  | 0 => none
  | n + 1 => if (I x0 5) ≤ x3 then (some (x2)) else (b1 (ix x3 16) fun j1 => if (I (x0 + 15 + j1) 5) = x1 then (b1 (f_X3_obstacleToGrant I x0 x3) fun v2 => if v2 = 0 then (if x2 = (-1) then (l_X3_bestGrantFor_4 n I x0 x1 x3 (x3 + 1)) else (b1 (ix x3 16) fun j4 => b1 (f_X8_worth I (x0 + 15 + j4)) fun v5 => b1 (ix x2 16) fun j7 => b1 (f_X8_worth I (x0 + 15 + j7)) fun v8 => if v5 ≤ v8 then (l_X3_bestGrantFor_4 n I x0 x1 x2 (x3 + 1)) else (l_X3_bestGrantFor_4 n I x0 x1 x3 (x3 + 1)))) else (l_X3_bestGrantFor_4 n I x0 x1 x2 (x3 + 1))) else (l_X3_bestGrantFor_4 n I x0 x1 x2 (x3 + 1)))
theorem tl_X3_bestGrantFor_4 (d : Nat) {K : Kt} (n : Nat) : ∀ {I : Mem} {x0 : Nat} (H0 : LM K x0) {x1 : Int32} {x2 : Int32} {x3 : Int32} {v : Int32}, l_X3_bestGrantFor_4 n I x0 x1 x2 x3 = some v → X (mX3_bestGrantFor (d + 2)) cX3_bestGrantFor 0 0 I K 4 [.ref x0, .int x1, .int x2, .int x3] [] (Ro (.inl (some (.int v))) I K) := by
  induction n with
  | zero =>
    intro I x0 H0 x1 x2 x3 v h
    cases h
  | succ n ih =>
    intro I x0 H0 x1 x2 x3 v h
    unfold l_X3_bestGrantFor_4 at h
    refine x_iloadn dX3_bestGrantFor_4 rfl ?_
    refine x_aloadn dX3_bestGrantFor_5 rfl ?_
    refine z_getI fs_X3_39 (LM.o H0) dX3_bestGrantFor_6 ?_
    refine x_icmp_ge 67 dX3_bestGrantFor_9 rfl (fun hc => ?_) (fun hc => ?_)
    · have h := ifT hc h
      refine x_iloadn dX3_bestGrantFor_67 rfl ?_
      cases h
      exact x_iret rfl dX3_bestGrantFor_68 ⟨rfl, rfl, rfl⟩
    have h := ifF hc h
    refine x_aloadn dX3_bestGrantFor_12 rfl ?_
    refine z_getR fs_X3_25 (LM.o H0) (LM.g2 H0) dX3_bestGrantFor_13 ?_
    refine x_iloadn dX3_bestGrantFor_16 rfl ?_
    obtain ⟨j1, hj1, h⟩ := b1_s h
    refine z_aald (LM.l2 H0) ⟨by decide, by decide⟩ hj1 (LM.w H0 (ix_s hj1).2.1) dX3_bestGrantFor_17 ?_
    refine z_getI fs_X3_76 (LM.wo H0 (ix_s hj1).2.1) dX3_bestGrantFor_18 ?_
    refine x_iloadn dX3_bestGrantFor_21 rfl ?_
    refine x_icmp_ne 61 dX3_bestGrantFor_22 rfl (fun hc => ?_) (fun hc => ?_)
    · have h := ifF hc h
      refine z_iinc 1 (by decide) dX3_bestGrantFor_61 rfl rfl rfl ?_
      refine x_goto 4 dX3_bestGrantFor_64 rfl ?_
      exact ih H0 h
    have h := ifT hc h
    refine x_aloadn dX3_bestGrantFor_25 rfl ?_
    refine x_iloadn dX3_bestGrantFor_26 rfl ?_
    obtain ⟨v2, h3, h⟩ := b1_s h
    refine z_V1 [.int x3] [] (cs_X3_161 _) (ci := 1) rfl (LM.o H0) (dep (show d + 0 + 1 + 1 ≤ (d + 2) from by omega) (Nat.le_of_ble_eq_true rfl)) dX3_bestGrantFor_27 rfl rfl (Nat.le_of_ble_eq_true rfl) (c_X3_obstacleToGrant d (K := K) (I := I) H0 h3) ?_
    refine x_if_ne 61 dX3_bestGrantFor_30 rfl (fun hc => ?_) (fun hc => ?_)
    · have h := ifF hc h
      refine z_iinc 1 (by decide) dX3_bestGrantFor_61 rfl rfl rfl ?_
      refine x_goto 4 dX3_bestGrantFor_64 rfl ?_
      exact ih H0 h
    have h := ifT hc h
    refine x_iloadn dX3_bestGrantFor_33 rfl ?_
    refine x_iconst (-1) dX3_bestGrantFor_34 rfl ?_
    refine x_icmp_eq 59 dX3_bestGrantFor_35 rfl (fun hc => ?_) (fun hc => ?_)
    · have h := ifT hc h
      refine x_iloadn dX3_bestGrantFor_59 rfl ?_
      refine x_istoren dX3_bestGrantFor_60 (Nat.le_of_ble_eq_true rfl) rfl rfl ?_
      refine z_iinc 1 (by decide) dX3_bestGrantFor_61 rfl rfl rfl ?_
      refine x_goto 4 dX3_bestGrantFor_64 rfl ?_
      exact ih H0 h
    have h := ifF hc h
    refine x_aloadn dX3_bestGrantFor_38 rfl ?_
    refine z_getR fs_X3_25 (LM.o H0) (LM.g2 H0) dX3_bestGrantFor_39 ?_
    refine x_iloadn dX3_bestGrantFor_42 rfl ?_
    obtain ⟨j4, hj4, h⟩ := b1_s h
    refine z_aald (LM.l2 H0) ⟨by decide, by decide⟩ hj4 (LM.w H0 (ix_s hj4).2.1) dX3_bestGrantFor_43 ?_
    obtain ⟨v5, h6, h⟩ := b1_s h
    refine z_V1 [] [] (cs_X3_164 _) (ci := 6) rfl (LM.wo H0 (ix_s hj4).2.1) (dep (show d + 1 + 0 + 1 ≤ (d + 2) from by omega) (Nat.le_of_ble_eq_true rfl)) dX3_bestGrantFor_44 rfl rfl (Nat.le_of_ble_eq_true rfl) (c_X8_worth (d + 1) (K := K) (I := I) (LM.wo H0 (ix_s hj4).2.1) h6) ?_
    refine x_aloadn dX3_bestGrantFor_47 rfl ?_
    refine z_getR fs_X3_25 (LM.o H0) (LM.g2 H0) dX3_bestGrantFor_48 ?_
    refine x_iloadn dX3_bestGrantFor_51 rfl ?_
    obtain ⟨j7, hj7, h⟩ := b1_s h
    refine z_aald (LM.l2 H0) ⟨by decide, by decide⟩ hj7 (LM.w H0 (ix_s hj7).2.1) dX3_bestGrantFor_52 ?_
    obtain ⟨v8, h9, h⟩ := b1_s h
    refine z_V1 [] [.int v5] (cs_X3_164 _) (ci := 6) rfl (LM.wo H0 (ix_s hj7).2.1) (dep (show d + 1 + 0 + 1 ≤ (d + 2) from by omega) (Nat.le_of_ble_eq_true rfl)) dX3_bestGrantFor_53 rfl rfl (Nat.le_of_ble_eq_true rfl) (c_X8_worth (d + 1) (K := K) (I := I) (LM.wo H0 (ix_s hj7).2.1) h9) ?_
    refine x_icmp_le 61 dX3_bestGrantFor_56 rfl (fun hc => ?_) (fun hc => ?_)
    · have h := ifT hc h
      refine z_iinc 1 (by decide) dX3_bestGrantFor_61 rfl rfl rfl ?_
      refine x_goto 4 dX3_bestGrantFor_64 rfl ?_
      exact ih H0 h
    have h := ifF hc h
    refine x_iloadn dX3_bestGrantFor_59 rfl ?_
    refine x_istoren dX3_bestGrantFor_60 (Nat.le_of_ble_eq_true rfl) rfl rfl ?_
    refine z_iinc 1 (by decide) dX3_bestGrantFor_61 rfl rfl rfl ?_
    refine x_goto 4 dX3_bestGrantFor_64 rfl ?_
    exact ih H0 h
noncomputable def f_X3_bestGrantFor (I : Mem) (x0 : Nat) (x1 : Int32) : Option (Int32) := l_X3_bestGrantFor_4 FU I x0 x1 (-1) 0
theorem c_X3_bestGrantFor (d : Nat) {K : Kt} {I : Mem} {x0 : Nat} (H0 : LM K x0) {x1 : Int32} {v : Int32} (h : f_X3_bestGrantFor I x0 x1 = some v) : Ct (mX3_bestGrantFor (d + 2)) cX3_bestGrantFor 0 0 [.ref x0, .int x1] I K (Ro (.inl (some (.int v))) I K) := by
  refine Ct.of rfl pn_X3 (catR (catI cat0)) (Nat.le_of_ble_eq_true rfl) (show X _ _ _ _ _ _ 0 [.ref x0, .int x1, .retAddr 0, .retAddr 0] [] _ from ?_)
  unfold f_X3_bestGrantFor at h
  refine x_iconst (-1) dX3_bestGrantFor_0 rfl ?_
  refine x_istoren dX3_bestGrantFor_1 (Nat.le_of_ble_eq_true rfl) rfl rfl ?_
  refine x_iconst 0 dX3_bestGrantFor_2 rfl ?_
  refine x_istoren dX3_bestGrantFor_3 (Nat.le_of_ble_eq_true rfl) rfl rfl ?_
  exact tl_X3_bestGrantFor_4 d FU H0 h
noncomputable def l_X3_bestStallFor_4 (n : Nat) (I : Mem) (x0 : Nat) (x1 : Int32) (x2 : Int32) (x3 : Int32) : Option (Int32) := match n with
  | 0 => none
  | n + 1 => if (I x0 4) ≤ x3 then (some (x2)) else (b1 (f_X3_obstacleToSell I x0 x1 x3) fun v1 => if v1 = 0 then (if x2 = (-1) then (l_X3_bestStallFor_4 n I x0 x1 x3 (x3 + 1)) else (b1 (f_X3_offerFor I x0 x1 x3) fun v3 => b1 (f_X3_offerFor I x0 x1 x2) fun v5 => if v3 ≤ v5 then (l_X3_bestStallFor_4 n I x0 x1 x2 (x3 + 1)) else (l_X3_bestStallFor_4 n I x0 x1 x3 (x3 + 1)))) else (l_X3_bestStallFor_4 n I x0 x1 x2 (x3 + 1)))
theorem tl_X3_bestStallFor_4 (d : Nat) {K : Kt} (n : Nat) : ∀ {I : Mem} {x0 : Nat} (H0 : LM K x0) {x1 : Int32} {x2 : Int32} {x3 : Int32} {v : Int32}, l_X3_bestStallFor_4 n I x0 x1 x2 x3 = some v → X (mX3_bestStallFor (d + 2)) cX3_bestStallFor 0 0 I K 4 [.ref x0, .int x1, .int x2, .int x3] [] (Ro (.inl (some (.int v))) I K) := by
  induction n with
  | zero =>
    intro I x0 H0 x1 x2 x3 v h
    cases h
  | succ n ih =>
    intro I x0 H0 x1 x2 x3 v h
    unfold l_X3_bestStallFor_4 at h
    refine x_iloadn dX3_bestStallFor_4 rfl ?_
    refine x_aloadn dX3_bestStallFor_5 rfl ?_
    refine z_getI fs_X3_36 (LM.o H0) dX3_bestStallFor_6 ?_
    refine x_icmp_ge 49 dX3_bestStallFor_9 rfl (fun hc => ?_) (fun hc => ?_)
    · have h := ifT hc h
      refine x_iloadn dX3_bestStallFor_49 rfl ?_
      cases h
      exact x_iret rfl dX3_bestStallFor_50 ⟨rfl, rfl, rfl⟩
    have h := ifF hc h
    refine x_aloadn dX3_bestStallFor_12 rfl ?_
    refine x_iloadn dX3_bestStallFor_13 rfl ?_
    refine x_iloadn dX3_bestStallFor_14 rfl ?_
    obtain ⟨v1, h2, h⟩ := b1_s h
    refine z_V1 [.int x1, .int x3] [] (cs_X3_167 _) (ci := 1) rfl (LM.o H0) (dep (show d + 0 + 1 + 1 ≤ (d + 2) from by omega) (Nat.le_of_ble_eq_true rfl)) dX3_bestStallFor_15 rfl rfl (Nat.le_of_ble_eq_true rfl) (c_X3_obstacleToSell d (K := K) (I := I) H0 h2) ?_
    refine x_if_ne 43 dX3_bestStallFor_18 rfl (fun hc => ?_) (fun hc => ?_)
    · have h := ifF hc h
      refine z_iinc 1 (by decide) dX3_bestStallFor_43 rfl rfl rfl ?_
      refine x_goto 4 dX3_bestStallFor_46 rfl ?_
      exact ih H0 h
    have h := ifT hc h
    refine x_iloadn dX3_bestStallFor_21 rfl ?_
    refine x_iconst (-1) dX3_bestStallFor_22 rfl ?_
    refine x_icmp_eq 41 dX3_bestStallFor_23 rfl (fun hc => ?_) (fun hc => ?_)
    · have h := ifT hc h
      refine x_iloadn dX3_bestStallFor_41 rfl ?_
      refine x_istoren dX3_bestStallFor_42 (Nat.le_of_ble_eq_true rfl) rfl rfl ?_
      refine z_iinc 1 (by decide) dX3_bestStallFor_43 rfl rfl rfl ?_
      refine x_goto 4 dX3_bestStallFor_46 rfl ?_
      exact ih H0 h
    have h := ifF hc h
    refine x_aloadn dX3_bestStallFor_26 rfl ?_
    refine x_iloadn dX3_bestStallFor_27 rfl ?_
    refine x_iloadn dX3_bestStallFor_28 rfl ?_
    obtain ⟨v3, h4, h⟩ := b1_s h
    refine z_V1 [.int x1, .int x3] [] (cs_X3_135 _) (ci := 1) rfl (LM.o H0) (dep (show d + 1 + 0 + 1 ≤ (d + 2) from by omega) (Nat.le_of_ble_eq_true rfl)) dX3_bestStallFor_29 rfl rfl (Nat.le_of_ble_eq_true rfl) (c_X3_offerFor (d + 1) (K := K) (I := I) H0 h4) ?_
    refine x_aloadn dX3_bestStallFor_32 rfl ?_
    refine x_iloadn dX3_bestStallFor_33 rfl ?_
    refine x_iloadn dX3_bestStallFor_34 rfl ?_
    obtain ⟨v5, h6, h⟩ := b1_s h
    refine z_V1 [.int x1, .int x2] [.int v3] (cs_X3_135 _) (ci := 1) rfl (LM.o H0) (dep (show d + 1 + 0 + 1 ≤ (d + 2) from by omega) (Nat.le_of_ble_eq_true rfl)) dX3_bestStallFor_35 rfl rfl (Nat.le_of_ble_eq_true rfl) (c_X3_offerFor (d + 1) (K := K) (I := I) H0 h6) ?_
    refine x_icmp_le 43 dX3_bestStallFor_38 rfl (fun hc => ?_) (fun hc => ?_)
    · have h := ifT hc h
      refine z_iinc 1 (by decide) dX3_bestStallFor_43 rfl rfl rfl ?_
      refine x_goto 4 dX3_bestStallFor_46 rfl ?_
      exact ih H0 h
    have h := ifF hc h
    refine x_iloadn dX3_bestStallFor_41 rfl ?_
    refine x_istoren dX3_bestStallFor_42 (Nat.le_of_ble_eq_true rfl) rfl rfl ?_
    refine z_iinc 1 (by decide) dX3_bestStallFor_43 rfl rfl rfl ?_
    refine x_goto 4 dX3_bestStallFor_46 rfl ?_
    exact ih H0 h
noncomputable def f_X3_bestStallFor (I : Mem) (x0 : Nat) (x1 : Int32) : Option (Int32) := l_X3_bestStallFor_4 FU I x0 x1 (-1) 0
theorem c_X3_bestStallFor (d : Nat) {K : Kt} {I : Mem} {x0 : Nat} (H0 : LM K x0) {x1 : Int32} {v : Int32} (h : f_X3_bestStallFor I x0 x1 = some v) : Ct (mX3_bestStallFor (d + 2)) cX3_bestStallFor 0 0 [.ref x0, .int x1] I K (Ro (.inl (some (.int v))) I K) := by
  refine Ct.of rfl pn_X3 (catR (catI cat0)) (Nat.le_of_ble_eq_true rfl) (show X _ _ _ _ _ _ 0 [.ref x0, .int x1, .retAddr 0, .retAddr 0] [] _ from ?_)
  unfold f_X3_bestStallFor at h
  refine x_iconst (-1) dX3_bestStallFor_0 rfl ?_
  refine x_istoren dX3_bestStallFor_1 (Nat.le_of_ble_eq_true rfl) rfl rfl ?_
  refine x_iconst 0 dX3_bestStallFor_2 rfl ?_
  refine x_istoren dX3_bestStallFor_3 (Nat.le_of_ble_eq_true rfl) rfl rfl ?_
  exact tl_X3_bestStallFor_4 d FU H0 h
noncomputable def f_X8_moveTo (I : Mem) (x0 : Nat) (x1 : Int32) (x2 : Int32) : Option (Mem) := b1 (pu I x0 4 x1) fun I1 => b1 (pu I1 x0 5 x2) fun I2 => b1 (pu I2 x0 8 (-1)) fun I3 => b1 (pu I3 x0 9 (-1)) fun I4 => b1 (pu I4 x0 10 (-1)) fun I5 => some (I5)
theorem c_X8_moveTo (d : Nat) {K : Kt} {I : Mem} {x0 : Nat} (H0 : LO K 6 x0) {x1 : Int32} {x2 : Int32} {I9 : Mem} (h : f_X8_moveTo I x0 x1 x2 = some I9) : Ct (mX8_moveTo d) cX8_moveTo 0 0 [.ref x0, .int x1, .int x2] I K (Ro (.inl none) I9 K) := by
  refine Ct.of rfl pn_X8 (catR (catI (catI cat0))) (Nat.le_of_ble_eq_true rfl) (show X _ _ _ _ _ _ 0 [.ref x0, .int x1, .int x2] [] _ from ?_)
  unfold f_X8_moveTo at h
  refine x_aloadn dX8_moveTo_0 rfl ?_
  refine x_iloadn dX8_moveTo_1 rfl ?_
  obtain ⟨I1, hI1, h⟩ := b1_s h
  refine z_putI fs_X8_18 H0 hI1 dX8_moveTo_2 ?_
  refine x_aloadn dX8_moveTo_5 rfl ?_
  refine x_iloadn dX8_moveTo_6 rfl ?_
  obtain ⟨I2, hI2, h⟩ := b1_s h
  refine z_putI fs_X8_21 H0 hI2 dX8_moveTo_7 ?_
  refine x_aloadn dX8_moveTo_10 rfl ?_
  refine x_iconst (-1) dX8_moveTo_11 rfl ?_
  obtain ⟨I3, hI3, h⟩ := b1_s h
  refine z_putI fs_X8_24 H0 hI3 dX8_moveTo_12 ?_
  refine x_aloadn dX8_moveTo_15 rfl ?_
  refine x_iconst (-1) dX8_moveTo_16 rfl ?_
  obtain ⟨I4, hI4, h⟩ := b1_s h
  refine z_putI fs_X8_27 H0 hI4 dX8_moveTo_17 ?_
  refine x_aloadn dX8_moveTo_20 rfl ?_
  refine x_iconst (-1) dX8_moveTo_21 rfl ?_
  obtain ⟨I5, hI5, h⟩ := b1_s h
  refine z_putI fs_X8_30 H0 hI5 dX8_moveTo_22 ?_
  cases h
  exact x_vret rfl dX8_moveTo_25 ⟨rfl, rfl, rfl⟩
noncomputable def f_X3_handOver (I : Mem) (x0 : Nat) (x1 : Int32) (x2 : Int32) (x3 : Int32) : Option (Mem) := b1 (ix x2 16) fun j1 => b1 (ix x1 6) fun j2 => b1 (pu I (x0 + 4 + j2) 1 ((I (x0 + 4 + j2) 1) - x3)) fun I3 => b1 (ix (I (x0 + 15 + j1) 4) 5) fun j4 => b1 (pu I3 (x0 + 10 + j4) 1 ((I3 (x0 + 10 + j4) 1) + x3)) fun I5 => b1 (f_X8_moveTo I5 (x0 + 15 + j1) (-1) x1) fun I6 => b1 (pu I6 (x0 + 15 + j1) 8 (I6 x0 6)) fun I8 => b1 (pu I8 (x0 + 15 + j1) 9 x3) fun I9 => b1 (pu I9 (x0 + 15 + j1) 10 (I (x0 + 15 + j1) 4)) fun I10 => some (I10)
theorem c_X3_handOver (d : Nat) {K : Kt} {I : Mem} {x0 : Nat} (H0 : LM K x0) {x1 : Int32} {x2 : Int32} {x3 : Int32} {I9 : Mem} (h : f_X3_handOver I x0 x1 x2 x3 = some I9) : Ct (mX3_handOver (d + 1)) cX3_handOver 0 0 [.ref x0, .int x1, .int x2, .int x3] I K (Ro (.inl none) I9 K) := by
  refine Ct.of rfl pn_X3 (catR (catI (catI (catI cat0)))) (Nat.le_of_ble_eq_true rfl) (show X _ _ _ _ _ _ 0 [.ref x0, .int x1, .int x2, .int x3, .retAddr 0, .retAddr 0] [] _ from ?_)
  unfold f_X3_handOver at h
  refine x_aloadn dX3_handOver_0 rfl ?_
  refine z_getR fs_X3_25 (LM.o H0) (LM.g2 H0) dX3_handOver_1 ?_
  refine x_iloadn dX3_handOver_4 rfl ?_
  obtain ⟨j1, hj1, h⟩ := b1_s h
  refine z_aald (LM.l2 H0) ⟨by decide, by decide⟩ hj1 (LM.w H0 (ix_s hj1).2.1) dX3_handOver_5 ?_
  refine x_astore dX3_handOver_6 (Nat.le_of_ble_eq_true rfl) rfl rfl ?_
  refine x_aload dX3_handOver_8 rfl ?_
  refine z_getI fs_X3_79 (LM.wo H0 (ix_s hj1).2.1) dX3_handOver_10 ?_
  refine x_istore dX3_handOver_13 (Nat.le_of_ble_eq_true rfl) rfl rfl ?_
  refine x_aloadn dX3_handOver_15 rfl ?_
  refine z_getR fs_X3_11 (LM.o H0) (LM.g0 H0) dX3_handOver_16 ?_
  refine x_iloadn dX3_handOver_19 rfl ?_
  obtain ⟨j2, hj2, h⟩ := b1_s h
  refine z_aald (LM.l0 H0) ⟨by decide, by decide⟩ hj2 (LM.p H0 (ix_s hj2).2.1) dX3_handOver_20 ?_
  refine x_dup dX3_handOver_21 rfl ?_
  refine z_getI fs_X3_89 (LM.po H0 (ix_s hj2).2.1) dX3_handOver_22 ?_
  refine x_iloadn dX3_handOver_25 rfl ?_
  refine x_isub dX3_handOver_26 ?_
  obtain ⟨I3, hI3, h⟩ := b1_s h
  refine z_putI fs_X3_89 (LM.po H0 (ix_s hj2).2.1) hI3 dX3_handOver_27 ?_
  refine x_aloadn dX3_handOver_30 rfl ?_
  refine z_getR fs_X3_19 (LM.o H0) (LM.g1 H0) dX3_handOver_31 ?_
  refine x_iload dX3_handOver_34 rfl ?_
  obtain ⟨j4, hj4, h⟩ := b1_s h
  refine z_aald (LM.l1 H0) ⟨by decide, by decide⟩ hj4 (LM.s H0 (ix_s hj4).2.1) dX3_handOver_36 ?_
  refine x_dup dX3_handOver_37 rfl ?_
  refine z_getI fs_X3_92 (LM.so H0 (ix_s hj4).2.1) dX3_handOver_38 ?_
  refine x_iloadn dX3_handOver_41 rfl ?_
  refine x_iadd dX3_handOver_42 ?_
  obtain ⟨I5, hI5, h⟩ := b1_s h
  refine z_putI fs_X3_92 (LM.so H0 (ix_s hj4).2.1) hI5 dX3_handOver_43 ?_
  refine x_aload dX3_handOver_46 rfl ?_
  refine x_iconst (-1) dX3_handOver_48 rfl ?_
  refine x_iloadn dX3_handOver_49 rfl ?_
  obtain ⟨I6, h7, h⟩ := b1_s h
  refine z_V0 [.int (-1), .int x1] [] (cs_X3_179 _) (ci := 6) rfl (LM.wo H0 (ix_s hj1).2.1) (dep (show d + 0 + 0 + 1 ≤ (d + 1) from by omega) (Nat.le_of_ble_eq_true rfl)) dX3_handOver_50 rfl rfl (Nat.le_of_ble_eq_true rfl) (c_X8_moveTo d (K := K) (I := I5) (LM.wo H0 (ix_s hj1).2.1) h7) ?_
  refine x_aload dX3_handOver_53 rfl ?_
  refine x_aloadn dX3_handOver_55 rfl ?_
  refine z_getI fs_X3_42 (LM.o H0) dX3_handOver_56 ?_
  obtain ⟨I8, hI8, h⟩ := b1_s h
  refine z_putI fs_X3_116 (LM.wo H0 (ix_s hj1).2.1) hI8 dX3_handOver_59 ?_
  refine x_aload dX3_handOver_62 rfl ?_
  refine x_iloadn dX3_handOver_64 rfl ?_
  obtain ⟨I9, hI9, h⟩ := b1_s h
  refine z_putI fs_X3_119 (LM.wo H0 (ix_s hj1).2.1) hI9 dX3_handOver_65 ?_
  refine x_aload dX3_handOver_68 rfl ?_
  refine x_iload dX3_handOver_70 rfl ?_
  obtain ⟨I10, hI10, h⟩ := b1_s h
  refine z_putI fs_X3_139 (LM.wo H0 (ix_s hj1).2.1) hI10 dX3_handOver_72 ?_
  cases h
  exact x_vret rfl dX3_handOver_75 ⟨rfl, rfl, rfl⟩
noncomputable def f_X3_carryOutPurchase (I : Mem) (x0 : Nat) (x1 : Int32) (x2 : Int32) : Option (Int32 × Mem) := b1 (f_X3_priceOf I x0 x2) fun v1 => b1 (ix x2 16) fun j3 => b1 (f_X3_handOver I x0 x1 x2 v1) fun I4 => b1 (ix (I (x0 + 15 + j3) 4) 5) fun j6 => b1 (ix (I (x0 + 15 + j3) 4) 5) fun j7 => b1 (pu I4 (x0 + 10 + j6) 2 (if 50 < ((I4 (x0 + 10 + j7) 2) + 1) then 50 else ((I4 (x0 + 10 + j7) 2) + 1))) fun I8 => some (v1, I8)
theorem c_X3_carryOutPurchase (d : Nat) {K : Kt} {I : Mem} {x0 : Nat} (H0 : LM K x0) {x1 : Int32} {x2 : Int32} {v : Int32} {I9 : Mem} (h : f_X3_carryOutPurchase I x0 x1 x2 = some (v, I9)) : Ct (mX3_carryOutPurchase (d + 2)) cX3_carryOutPurchase 0 0 [.ref x0, .int x1, .int x2] I K (Ro (.inl (some (.int v))) I9 K) := by
  refine Ct.of rfl pn_X3 (catR (catI (catI cat0))) (Nat.le_of_ble_eq_true rfl) (show X _ _ _ _ _ _ 0 [.ref x0, .int x1, .int x2, .retAddr 0, .retAddr 0] [] _ from ?_)
  unfold f_X3_carryOutPurchase at h
  refine x_aloadn dX3_carryOutPurchase_0 rfl ?_
  refine x_iloadn dX3_carryOutPurchase_1 rfl ?_
  obtain ⟨v1, h2, h⟩ := b1_s h
  refine z_V1 [.int x2] [] (cs_X3_122 _) (ci := 1) rfl (LM.o H0) (dep (show d + 1 + 0 + 1 ≤ (d + 2) from by omega) (Nat.le_of_ble_eq_true rfl)) dX3_carryOutPurchase_2 rfl rfl (Nat.le_of_ble_eq_true rfl) (c_X3_priceOf (d + 1) (K := K) (I := I) H0 h2) ?_
  refine x_istoren dX3_carryOutPurchase_5 (Nat.le_of_ble_eq_true rfl) rfl rfl ?_
  refine x_aloadn dX3_carryOutPurchase_6 rfl ?_
  refine z_getR fs_X3_25 (LM.o H0) (LM.g2 H0) dX3_carryOutPurchase_7 ?_
  refine x_iloadn dX3_carryOutPurchase_10 rfl ?_
  obtain ⟨j3, hj3, h⟩ := b1_s h
  refine z_aald (LM.l2 H0) ⟨by decide, by decide⟩ hj3 (LM.w H0 (ix_s hj3).2.1) dX3_carryOutPurchase_11 ?_
  refine z_getI fs_X3_79 (LM.wo H0 (ix_s hj3).2.1) dX3_carryOutPurchase_12 ?_
  refine x_istore dX3_carryOutPurchase_15 (Nat.le_of_ble_eq_true rfl) rfl rfl ?_
  refine x_aloadn dX3_carryOutPurchase_17 rfl ?_
  refine x_iloadn dX3_carryOutPurchase_18 rfl ?_
  refine x_iloadn dX3_carryOutPurchase_19 rfl ?_
  refine x_iloadn dX3_carryOutPurchase_20 rfl ?_
  obtain ⟨I4, h5, h⟩ := b1_s h
  refine z_V0 [.int x1, .int x2, .int v1] [] (cs_X3_170 _) (ci := 1) rfl (LM.o H0) (dep (show d + 0 + 1 + 1 ≤ (d + 2) from by omega) (Nat.le_of_ble_eq_true rfl)) dX3_carryOutPurchase_21 rfl rfl (Nat.le_of_ble_eq_true rfl) (c_X3_handOver d (K := K) (I := I) H0 h5) ?_
  refine x_aloadn dX3_carryOutPurchase_24 rfl ?_
  refine z_getR fs_X3_19 (LM.o H0) (LM.g1 H0) dX3_carryOutPurchase_25 ?_
  refine x_iload dX3_carryOutPurchase_28 rfl ?_
  obtain ⟨j6, hj6, h⟩ := b1_s h
  refine z_aald (LM.l1 H0) ⟨by decide, by decide⟩ hj6 (LM.s H0 (ix_s hj6).2.1) dX3_carryOutPurchase_30 ?_
  refine x_aloadn dX3_carryOutPurchase_31 rfl ?_
  refine z_getR fs_X3_19 (LM.o H0) (LM.g1 H0) dX3_carryOutPurchase_32 ?_
  refine x_iload dX3_carryOutPurchase_35 rfl ?_
  obtain ⟨j7, hj7, h⟩ := b1_s h
  refine z_aald (LM.l1 H0) ⟨by decide, by decide⟩ hj7 (LM.s H0 (ix_s hj7).2.1) dX3_carryOutPurchase_37 ?_
  refine z_getI fs_X3_102 (LM.so H0 (ix_s hj7).2.1) dX3_carryOutPurchase_38 ?_
  refine x_iconst 1 dX3_carryOutPurchase_41 rfl ?_
  refine x_iadd dX3_carryOutPurchase_42 ?_
  refine x_bipush 50 dX3_carryOutPurchase_43 rfl ?_
  refine x_mmin ms_X3_174 (Nat.le_of_ble_eq_true rfl) (by show 1 ≤ (d + 2); omega) dX3_carryOutPurchase_45 ?_
  obtain ⟨I8, hI8, h⟩ := b1_s h
  refine z_putI fs_X3_102 (LM.so H0 (ix_s hj6).2.1) hI8 dX3_carryOutPurchase_48 ?_
  refine x_iloadn dX3_carryOutPurchase_51 rfl ?_
  cases h
  exact x_iret rfl dX3_carryOutPurchase_52 ⟨rfl, rfl, rfl⟩
noncomputable def f_X3_takeBack (I : Mem) (x0 : Nat) (x1 : Int32) (x2 : Int32) (x3 : Int32) : Option (Mem) := b1 (ix x2 5) fun j1 => b1 (pu I (x0 + 10 + j1) 1 ((I (x0 + 10 + j1) 1) - x3)) fun I2 => b1 (ix x1 16) fun j3 => b1 (ix (I2 (x0 + 15 + j3) 5) 6) fun j4 => b1 (pu I2 (x0 + 4 + j4) 1 ((I2 (x0 + 4 + j4) 1) + x3)) fun I5 => b1 (ix x1 16) fun j6 => b1 (f_X8_moveTo I5 (x0 + 15 + j6) x2 (-1)) fun I7 => some (I7)
theorem c_X3_takeBack (d : Nat) {K : Kt} {I : Mem} {x0 : Nat} (H0 : LM K x0) {x1 : Int32} {x2 : Int32} {x3 : Int32} {I9 : Mem} (h : f_X3_takeBack I x0 x1 x2 x3 = some I9) : Ct (mX3_takeBack (d + 1)) cX3_takeBack 0 0 [.ref x0, .int x1, .int x2, .int x3] I K (Ro (.inl none) I9 K) := by
  refine Ct.of rfl pn_X3 (catR (catI (catI (catI cat0)))) (Nat.le_of_ble_eq_true rfl) (show X _ _ _ _ _ _ 0 [.ref x0, .int x1, .int x2, .int x3] [] _ from ?_)
  unfold f_X3_takeBack at h
  refine x_aloadn dX3_takeBack_0 rfl ?_
  refine z_getR fs_X3_19 (LM.o H0) (LM.g1 H0) dX3_takeBack_1 ?_
  refine x_iloadn dX3_takeBack_4 rfl ?_
  obtain ⟨j1, hj1, h⟩ := b1_s h
  refine z_aald (LM.l1 H0) ⟨by decide, by decide⟩ hj1 (LM.s H0 (ix_s hj1).2.1) dX3_takeBack_5 ?_
  refine x_dup dX3_takeBack_6 rfl ?_
  refine z_getI fs_X3_92 (LM.so H0 (ix_s hj1).2.1) dX3_takeBack_7 ?_
  refine x_iloadn dX3_takeBack_10 rfl ?_
  refine x_isub dX3_takeBack_11 ?_
  obtain ⟨I2, hI2, h⟩ := b1_s h
  refine z_putI fs_X3_92 (LM.so H0 (ix_s hj1).2.1) hI2 dX3_takeBack_12 ?_
  refine x_aloadn dX3_takeBack_15 rfl ?_
  refine z_getR fs_X3_11 (LM.o H0) (LM.g0 H0) dX3_takeBack_16 ?_
  refine x_aloadn dX3_takeBack_19 rfl ?_
  refine z_getR fs_X3_25 (LM.o H0) (LM.g2 H0) dX3_takeBack_20 ?_
  refine x_iloadn dX3_takeBack_23 rfl ?_
  obtain ⟨j3, hj3, h⟩ := b1_s h
  refine z_aald (LM.l2 H0) ⟨by decide, by decide⟩ hj3 (LM.w H0 (ix_s hj3).2.1) dX3_takeBack_24 ?_
  refine z_getI fs_X3_76 (LM.wo H0 (ix_s hj3).2.1) dX3_takeBack_25 ?_
  obtain ⟨j4, hj4, h⟩ := b1_s h
  refine z_aald (LM.l0 H0) ⟨by decide, by decide⟩ hj4 (LM.p H0 (ix_s hj4).2.1) dX3_takeBack_28 ?_
  refine x_dup dX3_takeBack_29 rfl ?_
  refine z_getI fs_X3_89 (LM.po H0 (ix_s hj4).2.1) dX3_takeBack_30 ?_
  refine x_iloadn dX3_takeBack_33 rfl ?_
  refine x_iadd dX3_takeBack_34 ?_
  obtain ⟨I5, hI5, h⟩ := b1_s h
  refine z_putI fs_X3_89 (LM.po H0 (ix_s hj4).2.1) hI5 dX3_takeBack_35 ?_
  refine x_aloadn dX3_takeBack_38 rfl ?_
  refine z_getR fs_X3_25 (LM.o H0) (LM.g2 H0) dX3_takeBack_39 ?_
  refine x_iloadn dX3_takeBack_42 rfl ?_
  obtain ⟨j6, hj6, h⟩ := b1_s h
  refine z_aald (LM.l2 H0) ⟨by decide, by decide⟩ hj6 (LM.w H0 (ix_s hj6).2.1) dX3_takeBack_43 ?_
  refine x_iloadn dX3_takeBack_44 rfl ?_
  refine x_iconst (-1) dX3_takeBack_45 rfl ?_
  obtain ⟨I7, h8, h⟩ := b1_s h
  refine z_V0 [.int x2, .int (-1)] [] (cs_X3_179 _) (ci := 6) rfl (LM.wo H0 (ix_s hj6).2.1) (dep (show d + 0 + 0 + 1 ≤ (d + 1) from by omega) (Nat.le_of_ble_eq_true rfl)) dX3_takeBack_46 rfl rfl (Nat.le_of_ble_eq_true rfl) (c_X8_moveTo d (K := K) (I := I5) (LM.wo H0 (ix_s hj6).2.1) h8) ?_
  cases h
  exact x_vret rfl dX3_takeBack_49 ⟨rfl, rfl, rfl⟩
noncomputable def f_X3_carryOutSale (I : Mem) (x0 : Nat) (x1 : Int32) (x2 : Int32) : Option (Int32 × Mem) := b1 (f_X3_offerFor I x0 x1 x2) fun v1 => b1 (f_X3_takeBack I x0 x1 x2 v1) fun I3 => some (v1, I3)
theorem c_X3_carryOutSale (d : Nat) {K : Kt} {I : Mem} {x0 : Nat} (H0 : LM K x0) {x1 : Int32} {x2 : Int32} {v : Int32} {I9 : Mem} (h : f_X3_carryOutSale I x0 x1 x2 = some (v, I9)) : Ct (mX3_carryOutSale (d + 2)) cX3_carryOutSale 0 0 [.ref x0, .int x1, .int x2] I K (Ro (.inl (some (.int v))) I9 K) := by
  refine Ct.of rfl pn_X3 (catR (catI (catI cat0))) (Nat.le_of_ble_eq_true rfl) (show X _ _ _ _ _ _ 0 [.ref x0, .int x1, .int x2, .retAddr 0] [] _ from ?_)
  unfold f_X3_carryOutSale at h
  refine x_aloadn dX3_carryOutSale_0 rfl ?_
  refine x_iloadn dX3_carryOutSale_1 rfl ?_
  refine x_iloadn dX3_carryOutSale_2 rfl ?_
  obtain ⟨v1, h2, h⟩ := b1_s h
  refine z_V1 [.int x1, .int x2] [] (cs_X3_135 _) (ci := 1) rfl (LM.o H0) (dep (show d + 1 + 0 + 1 ≤ (d + 2) from by omega) (Nat.le_of_ble_eq_true rfl)) dX3_carryOutSale_3 rfl rfl (Nat.le_of_ble_eq_true rfl) (c_X3_offerFor (d + 1) (K := K) (I := I) H0 h2) ?_
  refine x_istoren dX3_carryOutSale_6 (Nat.le_of_ble_eq_true rfl) rfl rfl ?_
  refine x_aloadn dX3_carryOutSale_7 rfl ?_
  refine x_iloadn dX3_carryOutSale_8 rfl ?_
  refine x_iloadn dX3_carryOutSale_9 rfl ?_
  refine x_iloadn dX3_carryOutSale_10 rfl ?_
  obtain ⟨I3, h4, h⟩ := b1_s h
  refine z_V0 [.int x1, .int x2, .int v1] [] (cs_X3_183 _) (ci := 1) rfl (LM.o H0) (dep (show d + 0 + 1 + 1 ≤ (d + 2) from by omega) (Nat.le_of_ble_eq_true rfl)) dX3_carryOutSale_11 rfl rfl (Nat.le_of_ble_eq_true rfl) (c_X3_takeBack d (K := K) (I := I) H0 h4) ?_
  refine x_iloadn dX3_carryOutSale_14 rfl ?_
  cases h
  exact x_iret rfl dX3_carryOutSale_15 ⟨rfl, rfl, rfl⟩
noncomputable def f_X3_carryOutReturn (I : Mem) (x0 : Nat) (x1 : Int32) : Option (Int32 × Mem) := b1 (f_X3_refundFor I x0 x1) fun v1 => b1 (ix x1 16) fun j3 => b1 (f_X3_takeBack I x0 x1 (I (x0 + 15 + j3) 10) v1) fun I4 => b1 (ix (I (x0 + 15 + j3) 10) 5) fun j6 => b1 (ix (I (x0 + 15 + j3) 10) 5) fun j7 => b1 (pu I4 (x0 + 10 + j6) 2 (if ((I4 (x0 + 10 + j7) 2) - 2) < 0 then 0 else ((I4 (x0 + 10 + j7) 2) - 2))) fun I8 => some (v1, I8)
theorem c_X3_carryOutReturn (d : Nat) {K : Kt} {I : Mem} {x0 : Nat} (H0 : LM K x0) {x1 : Int32} {v : Int32} {I9 : Mem} (h : f_X3_carryOutReturn I x0 x1 = some (v, I9)) : Ct (mX3_carryOutReturn (d + 2)) cX3_carryOutReturn 0 0 [.ref x0, .int x1] I K (Ro (.inl (some (.int v))) I9 K) := by
  refine Ct.of rfl pn_X3 (catR (catI cat0)) (Nat.le_of_ble_eq_true rfl) (show X _ _ _ _ _ _ 0 [.ref x0, .int x1, .retAddr 0, .retAddr 0] [] _ from ?_)
  unfold f_X3_carryOutReturn at h
  refine x_aloadn dX3_carryOutReturn_0 rfl ?_
  refine x_iloadn dX3_carryOutReturn_1 rfl ?_
  obtain ⟨v1, h2, h⟩ := b1_s h
  refine z_V1 [.int x1] [] (cs_X3_142 _) (ci := 1) rfl (LM.o H0) (dep (show d + 1 + 0 + 1 ≤ (d + 2) from by omega) (Nat.le_of_ble_eq_true rfl)) dX3_carryOutReturn_2 rfl rfl (Nat.le_of_ble_eq_true rfl) (c_X3_refundFor (d + 1) (K := K) (I := I) H0 h2) ?_
  refine x_istoren dX3_carryOutReturn_5 (Nat.le_of_ble_eq_true rfl) rfl rfl ?_
  refine x_aloadn dX3_carryOutReturn_6 rfl ?_
  refine z_getR fs_X3_25 (LM.o H0) (LM.g2 H0) dX3_carryOutReturn_7 ?_
  refine x_iloadn dX3_carryOutReturn_10 rfl ?_
  obtain ⟨j3, hj3, h⟩ := b1_s h
  refine z_aald (LM.l2 H0) ⟨by decide, by decide⟩ hj3 (LM.w H0 (ix_s hj3).2.1) dX3_carryOutReturn_11 ?_
  refine z_getI fs_X3_139 (LM.wo H0 (ix_s hj3).2.1) dX3_carryOutReturn_12 ?_
  refine x_istoren dX3_carryOutReturn_15 (Nat.le_of_ble_eq_true rfl) rfl rfl ?_
  refine x_aloadn dX3_carryOutReturn_16 rfl ?_
  refine x_iloadn dX3_carryOutReturn_17 rfl ?_
  refine x_iloadn dX3_carryOutReturn_18 rfl ?_
  refine x_iloadn dX3_carryOutReturn_19 rfl ?_
  obtain ⟨I4, h5, h⟩ := b1_s h
  refine z_V0 [.int x1, .int (I (x0 + 15 + j3) 10), .int v1] [] (cs_X3_183 _) (ci := 1) rfl (LM.o H0) (dep (show d + 0 + 1 + 1 ≤ (d + 2) from by omega) (Nat.le_of_ble_eq_true rfl)) dX3_carryOutReturn_20 rfl rfl (Nat.le_of_ble_eq_true rfl) (c_X3_takeBack d (K := K) (I := I) H0 h5) ?_
  refine x_aloadn dX3_carryOutReturn_23 rfl ?_
  refine z_getR fs_X3_19 (LM.o H0) (LM.g1 H0) dX3_carryOutReturn_24 ?_
  refine x_iloadn dX3_carryOutReturn_27 rfl ?_
  obtain ⟨j6, hj6, h⟩ := b1_s h
  refine z_aald (LM.l1 H0) ⟨by decide, by decide⟩ hj6 (LM.s H0 (ix_s hj6).2.1) dX3_carryOutReturn_28 ?_
  refine x_aloadn dX3_carryOutReturn_29 rfl ?_
  refine z_getR fs_X3_19 (LM.o H0) (LM.g1 H0) dX3_carryOutReturn_30 ?_
  refine x_iloadn dX3_carryOutReturn_33 rfl ?_
  obtain ⟨j7, hj7, h⟩ := b1_s h
  refine z_aald (LM.l1 H0) ⟨by decide, by decide⟩ hj7 (LM.s H0 (ix_s hj7).2.1) dX3_carryOutReturn_34 ?_
  refine z_getI fs_X3_102 (LM.so H0 (ix_s hj7).2.1) dX3_carryOutReturn_35 ?_
  refine x_iconst 2 dX3_carryOutReturn_38 rfl ?_
  refine x_isub dX3_carryOutReturn_39 ?_
  refine x_iconst 0 dX3_carryOutReturn_40 rfl ?_
  refine x_mmax ms_X3_186 (Nat.le_of_ble_eq_true rfl) (by show 1 ≤ (d + 2); omega) dX3_carryOutReturn_41 ?_
  obtain ⟨I8, hI8, h⟩ := b1_s h
  refine z_putI fs_X3_102 (LM.so H0 (ix_s hj6).2.1) hI8 dX3_carryOutReturn_44 ?_
  refine x_iloadn dX3_carryOutReturn_47 rfl ?_
  cases h
  exact x_iret rfl dX3_carryOutReturn_48 ⟨rfl, rfl, rfl⟩
noncomputable def f_X3_carryOutGrant (I : Mem) (x0 : Nat) (x1 : Int32) : Option (Int32 × Mem) := b1 (ix x1 16) fun j1 => b1 (ix (I (x0 + 15 + j1) 5) 6) fun j2 => b1 (ix x1 16) fun j3 => b1 (f_X8_worth I (x0 + 15 + j3)) fun v4 => b1 (pu I (x0 + 4 + j2) 4 ((I (x0 + 4 + j2) 4) + v4)) fun I6 => b1 (ix x1 16) fun j7 => b1 (f_X8_moveTo I6 (x0 + 15 + j7) (-1) (-1)) fun I8 => b1 (ix x1 16) fun j10 => b1 (pu I8 (x0 + 15 + j10) 6 1) fun I11 => some ((I11 (x0 + 4 + j2) 4), I11)
theorem c_X3_carryOutGrant (d : Nat) {K : Kt} {I : Mem} {x0 : Nat} (H0 : LM K x0) {x1 : Int32} {v : Int32} {I9 : Mem} (h : f_X3_carryOutGrant I x0 x1 = some (v, I9)) : Ct (mX3_carryOutGrant (d + 1)) cX3_carryOutGrant 0 0 [.ref x0, .int x1] I K (Ro (.inl (some (.int v))) I9 K) := by
  refine Ct.of rfl pn_X3 (catR (catI cat0)) (Nat.le_of_ble_eq_true rfl) (show X _ _ _ _ _ _ 0 [.ref x0, .int x1, .retAddr 0] [] _ from ?_)
  unfold f_X3_carryOutGrant at h
  refine x_aloadn dX3_carryOutGrant_0 rfl ?_
  refine z_getR fs_X3_11 (LM.o H0) (LM.g0 H0) dX3_carryOutGrant_1 ?_
  refine x_aloadn dX3_carryOutGrant_4 rfl ?_
  refine z_getR fs_X3_25 (LM.o H0) (LM.g2 H0) dX3_carryOutGrant_5 ?_
  refine x_iloadn dX3_carryOutGrant_8 rfl ?_
  obtain ⟨j1, hj1, h⟩ := b1_s h
  refine z_aald (LM.l2 H0) ⟨by decide, by decide⟩ hj1 (LM.w H0 (ix_s hj1).2.1) dX3_carryOutGrant_9 ?_
  refine z_getI fs_X3_76 (LM.wo H0 (ix_s hj1).2.1) dX3_carryOutGrant_10 ?_
  obtain ⟨j2, hj2, h⟩ := b1_s h
  refine z_aald (LM.l0 H0) ⟨by decide, by decide⟩ hj2 (LM.p H0 (ix_s hj2).2.1) dX3_carryOutGrant_13 ?_
  refine x_astoren dX3_carryOutGrant_14 (Nat.le_of_ble_eq_true rfl) rfl rfl ?_
  refine x_aloadn dX3_carryOutGrant_15 rfl ?_
  refine x_dup dX3_carryOutGrant_16 rfl ?_
  refine z_getI fs_X3_189 (LM.po H0 (ix_s hj2).2.1) dX3_carryOutGrant_17 ?_
  refine x_aloadn dX3_carryOutGrant_20 rfl ?_
  refine z_getR fs_X3_25 (LM.o H0) (LM.g2 H0) dX3_carryOutGrant_21 ?_
  refine x_iloadn dX3_carryOutGrant_24 rfl ?_
  obtain ⟨j3, hj3, h⟩ := b1_s h
  refine z_aald (LM.l2 H0) ⟨by decide, by decide⟩ hj3 (LM.w H0 (ix_s hj3).2.1) dX3_carryOutGrant_25 ?_
  obtain ⟨v4, h5, h⟩ := b1_s h
  refine z_V1 [] [.int (I (x0 + 4 + j2) 4), .ref (x0 + 4 + j2)] (cs_X3_164 _) (ci := 6) rfl (LM.wo H0 (ix_s hj3).2.1) (dep (show d + 0 + 0 + 1 ≤ (d + 1) from by omega) (Nat.le_of_ble_eq_true rfl)) dX3_carryOutGrant_26 rfl rfl (Nat.le_of_ble_eq_true rfl) (c_X8_worth d (K := K) (I := I) (LM.wo H0 (ix_s hj3).2.1) h5) ?_
  refine x_iadd dX3_carryOutGrant_29 ?_
  obtain ⟨I6, hI6, h⟩ := b1_s h
  refine z_putI fs_X3_189 (LM.po H0 (ix_s hj2).2.1) hI6 dX3_carryOutGrant_30 ?_
  refine x_aloadn dX3_carryOutGrant_33 rfl ?_
  refine z_getR fs_X3_25 (LM.o H0) (LM.g2 H0) dX3_carryOutGrant_34 ?_
  refine x_iloadn dX3_carryOutGrant_37 rfl ?_
  obtain ⟨j7, hj7, h⟩ := b1_s h
  refine z_aald (LM.l2 H0) ⟨by decide, by decide⟩ hj7 (LM.w H0 (ix_s hj7).2.1) dX3_carryOutGrant_38 ?_
  refine x_iconst (-1) dX3_carryOutGrant_39 rfl ?_
  refine x_iconst (-1) dX3_carryOutGrant_40 rfl ?_
  obtain ⟨I8, h9, h⟩ := b1_s h
  refine z_V0 [.int (-1), .int (-1)] [] (cs_X3_179 _) (ci := 6) rfl (LM.wo H0 (ix_s hj7).2.1) (dep (show d + 0 + 0 + 1 ≤ (d + 1) from by omega) (Nat.le_of_ble_eq_true rfl)) dX3_carryOutGrant_41 rfl rfl (Nat.le_of_ble_eq_true rfl) (c_X8_moveTo d (K := K) (I := I6) (LM.wo H0 (ix_s hj7).2.1) h9) ?_
  refine x_aloadn dX3_carryOutGrant_44 rfl ?_
  refine z_getR fs_X3_25 (LM.o H0) (LM.g2 H0) dX3_carryOutGrant_45 ?_
  refine x_iloadn dX3_carryOutGrant_48 rfl ?_
  obtain ⟨j10, hj10, h⟩ := b1_s h
  refine z_aald (LM.l2 H0) ⟨by decide, by decide⟩ hj10 (LM.w H0 (ix_s hj10).2.1) dX3_carryOutGrant_49 ?_
  refine x_iconst 1 dX3_carryOutGrant_50 rfl ?_
  obtain ⟨I11, hI11, h⟩ := b1_s h
  refine z_putZ (u := ()) fs_X3_82 (LM.wo H0 (ix_s hj10).2.1) rfl hI11 dX3_carryOutGrant_51 ?_
  refine x_aloadn dX3_carryOutGrant_54 rfl ?_
  refine z_getI fs_X3_189 (LM.po H0 (ix_s hj2).2.1) dX3_carryOutGrant_55 ?_
  cases h
  exact x_iret rfl dX3_carryOutGrant_58 ⟨rfl, rfl, rfl⟩
noncomputable def f_X3_costOf (I : Mem) (x0 : Nat) (x1 : Int32) : Option (Int32) := b1 (ix x1 16) fun j1 => if (I (x0 + 15 + j1) 8) = (-1) then (b1 (ix x1 16) fun j3 => b1 (f_X8_worth I (x0 + 15 + j3)) fun v4 => some (v4)) else (b1 (ix x1 16) fun j2 => some ((I (x0 + 15 + j2) 9)))
theorem c_X3_costOf (d : Nat) {K : Kt} {I : Mem} {x0 : Nat} (H0 : LM K x0) {x1 : Int32} {v : Int32} (h : f_X3_costOf I x0 x1 = some v) : Ct (mX3_costOf (d + 1)) cX3_costOf 0 0 [.ref x0, .int x1] I K (Ro (.inl (some (.int v))) I K) := by
  refine Ct.of rfl pn_X3 (catR (catI cat0)) (Nat.le_of_ble_eq_true rfl) (show X _ _ _ _ _ _ 0 [.ref x0, .int x1] [] _ from ?_)
  unfold f_X3_costOf at h
  refine x_aloadn dX3_costOf_0 rfl ?_
  refine z_getR fs_X3_25 (LM.o H0) (LM.g2 H0) dX3_costOf_1 ?_
  refine x_iloadn dX3_costOf_4 rfl ?_
  obtain ⟨j1, hj1, h⟩ := b1_s h
  refine z_aald (LM.l2 H0) ⟨by decide, by decide⟩ hj1 (LM.w H0 (ix_s hj1).2.1) dX3_costOf_5 ?_
  refine z_getI fs_X3_116 (LM.wo H0 (ix_s hj1).2.1) dX3_costOf_6 ?_
  refine x_iconst (-1) dX3_costOf_9 rfl ?_
  refine x_icmp_ne 25 dX3_costOf_10 rfl (fun hc => ?_) (fun hc => ?_)
  · have h := ifF hc h
    refine x_aloadn dX3_costOf_25 rfl ?_
    refine z_getR fs_X3_25 (LM.o H0) (LM.g2 H0) dX3_costOf_26 ?_
    refine x_iloadn dX3_costOf_29 rfl ?_
    obtain ⟨j2, hj2, h⟩ := b1_s h
    refine z_aald (LM.l2 H0) ⟨by decide, by decide⟩ hj2 (LM.w H0 (ix_s hj2).2.1) dX3_costOf_30 ?_
    refine z_getI fs_X3_119 (LM.wo H0 (ix_s hj2).2.1) dX3_costOf_31 ?_
    cases h
    exact x_iret rfl dX3_costOf_34 ⟨rfl, rfl, rfl⟩
  have h := ifT hc h
  refine x_aloadn dX3_costOf_13 rfl ?_
  refine z_getR fs_X3_25 (LM.o H0) (LM.g2 H0) dX3_costOf_14 ?_
  refine x_iloadn dX3_costOf_17 rfl ?_
  obtain ⟨j3, hj3, h⟩ := b1_s h
  refine z_aald (LM.l2 H0) ⟨by decide, by decide⟩ hj3 (LM.w H0 (ix_s hj3).2.1) dX3_costOf_18 ?_
  obtain ⟨v4, h5, h⟩ := b1_s h
  refine z_V1 [] [] (cs_X3_164 _) (ci := 6) rfl (LM.wo H0 (ix_s hj3).2.1) (dep (show d + 0 + 0 + 1 ≤ (d + 1) from by omega) (Nat.le_of_ble_eq_true rfl)) dX3_costOf_19 rfl rfl (Nat.le_of_ble_eq_true rfl) (c_X8_worth d (K := K) (I := I) (LM.wo H0 (ix_s hj3).2.1) h5) ?_
  refine x_goto 34 dX3_costOf_22 rfl ?_
  cases h
  exact x_iret rfl dX3_costOf_34 ⟨rfl, rfl, rfl⟩
noncomputable def l_X3_bargain_56 (c22 : Mem → Nat → Int32 → Int32 → Int32 → Option (Mem)) (I : Mem) (x0 : Nat) (x1 : Int32) (x2 : Int32) (x3 : Int32) (y0 : Int32) : Option (Mem) := if y0 = (-1) then (c22 I x0 x1 x2 (x3 + 1)) else (b1 (f_X3_offerFor I x0 x3 y0) fun v3 => b1 (f_X3_costOf I x0 x3) fun v5 => if v3 ≤ v5 then (c22 I x0 x1 x2 (x3 + 1)) else (b2 (f_X3_carryOutSale I x0 x3 y0) fun v7 I8 => c22 I8 x0 x1 0 (x3 + 1)))
theorem tl_X3_bargain_56 (d : Nat) {K : Kt} {c22 : Mem → Nat → Int32 → Int32 → Int32 → Option (Mem)} (hc22 : ∀ {I : Mem} {x0 : Nat} (H0 : LM K x0) {x1 : Int32} {x2 : Int32} {x3 : Int32} {I9 : Mem}, c22 I x0 x1 x2 x3 = some I9 → X (mX3_bargain (d + 3)) cX3_bargain 0 0 I K 22 [.ref x0, .int x1, .int x2, .int x3, .retAddr 0] [] (Ro (.inl none) I9 K)) : ∀ {I : Mem} {x0 : Nat} (H0 : LM K x0) {x1 : Int32} {x2 : Int32} {x3 : Int32} {y0 : Int32} {I9 : Mem}, l_X3_bargain_56 c22 I x0 x1 x2 x3 y0 = some I9 → X (mX3_bargain (d + 3)) cX3_bargain 0 0 I K 56 [.ref x0, .int x1, .int x2, .int x3, .retAddr 0] [.int y0] (Ro (.inl none) I9 K) := by
  intro I x0 H0 x1 x2 x3 y0 I9 h
  unfold l_X3_bargain_56 at h
  refine x_istore dX3_bargain_56 (Nat.le_of_ble_eq_true rfl) rfl rfl ?_
  refine x_iload dX3_bargain_58 rfl ?_
  refine x_iconst (-1) dX3_bargain_60 rfl ?_
  refine x_icmp_eq 89 dX3_bargain_61 rfl (fun hc => ?_) (fun hc => ?_)
  · have h := ifT hc h
    refine z_iinc 1 (by decide) dX3_bargain_89 rfl rfl rfl ?_
    refine x_goto 22 dX3_bargain_92 rfl ?_
    exact X.forget (L' := [.ref x0, .int x1, .int x2, .int (x3 + 1), .retAddr 0]) ⟨Or.inl rfl, ⟨Or.inl rfl, ⟨Or.inl rfl, ⟨Or.inl rfl, ⟨Or.inr rfl, trivial⟩⟩⟩⟩⟩ (hc22 H0 h)
  have h := ifF hc h
  refine x_aloadn dX3_bargain_64 rfl ?_
  refine x_iloadn dX3_bargain_65 rfl ?_
  refine x_iload dX3_bargain_66 rfl ?_
  obtain ⟨v3, h4, h⟩ := b1_s h
  refine z_V1 [.int x3, .int y0] [] (cs_X3_135 _) (ci := 1) rfl (LM.o H0) (dep (show d + 2 + 0 + 1 ≤ (d + 3) from by omega) (Nat.le_of_ble_eq_true rfl)) dX3_bargain_68 rfl rfl (Nat.le_of_ble_eq_true rfl) (c_X3_offerFor (d + 2) (K := K) (I := I) H0 h4) ?_
  refine x_aloadn dX3_bargain_71 rfl ?_
  refine x_iloadn dX3_bargain_72 rfl ?_
  obtain ⟨v5, h6, h⟩ := b1_s h
  refine z_V1 [.int x3] [.int v3] (cs_X3_234 _) (ci := 1) rfl (LM.o H0) (dep (show d + 1 + 1 + 1 ≤ (d + 3) from by omega) (Nat.le_of_ble_eq_true rfl)) dX3_bargain_73 rfl rfl (Nat.le_of_ble_eq_true rfl) (c_X3_costOf (d + 1) (K := K) (I := I) H0 h6) ?_
  refine x_icmp_le 89 dX3_bargain_76 rfl (fun hc => ?_) (fun hc => ?_)
  · have h := ifT hc h
    refine z_iinc 1 (by decide) dX3_bargain_89 rfl rfl rfl ?_
    refine x_goto 22 dX3_bargain_92 rfl ?_
    exact X.forget (L' := [.ref x0, .int x1, .int x2, .int (x3 + 1), .retAddr 0]) ⟨Or.inl rfl, ⟨Or.inl rfl, ⟨Or.inl rfl, ⟨Or.inl rfl, ⟨Or.inr rfl, trivial⟩⟩⟩⟩⟩ (hc22 H0 h)
  have h := ifF hc h
  refine x_aloadn dX3_bargain_79 rfl ?_
  refine x_iloadn dX3_bargain_80 rfl ?_
  refine x_iload dX3_bargain_81 rfl ?_
  obtain ⟨v7, I8, h9, h⟩ := b2_s h
  refine z_V1 [.int x3, .int y0] [] (cs_X3_237 _) (ci := 1) rfl (LM.o H0) (dep (show d + 0 + 2 + 1 ≤ (d + 3) from by omega) (Nat.le_of_ble_eq_true rfl)) dX3_bargain_83 rfl rfl (Nat.le_of_ble_eq_true rfl) (c_X3_carryOutSale d (K := K) (I := I) H0 h9) ?_
  refine x_pop dX3_bargain_86 rfl ?_
  refine x_iconst 0 dX3_bargain_87 rfl ?_
  refine x_istoren dX3_bargain_88 (Nat.le_of_ble_eq_true rfl) rfl rfl ?_
  refine z_iinc 1 (by decide) dX3_bargain_89 rfl rfl rfl ?_
  refine x_goto 22 dX3_bargain_92 rfl ?_
  exact X.forget (L' := [.ref x0, .int x1, .int 0, .int (x3 + 1), .retAddr 0]) ⟨Or.inl rfl, ⟨Or.inl rfl, ⟨Or.inl rfl, ⟨Or.inl rfl, ⟨Or.inr rfl, trivial⟩⟩⟩⟩⟩ (hc22 H0 h)
noncomputable def l_X3_bargain_22 (c2 : Mem → Nat → Int32 → Option (Mem)) (n : Nat) (I : Mem) (x0 : Nat) (x1 : Int32) (x2 : Int32) (x3 : Int32) : Option (Mem) := match n with
  | 0 => none
  | n + 1 => if x2 = 0 then (c2 I x0 (x1 + 1)) else (if (I x0 5) ≤ x3 then (c2 I x0 (x1 + 1)) else (b1 (ix x3 16) fun j2 => if (I (x0 + 15 + j2) 5) = x1 then (b1 (f_X3_bestStallFor I x0 x3) fun v10 => l_X3_bargain_56 (l_X3_bargain_22 c2 n) I x0 x1 x2 x3 v10) else (l_X3_bargain_56 (l_X3_bargain_22 c2 n) I x0 x1 x2 x3 (-1))))
theorem tl_X3_bargain_22 (d : Nat) {K : Kt} {c2 : Mem → Nat → Int32 → Option (Mem)} (hc2 : ∀ {I : Mem} {x0 : Nat} (H0 : LM K x0) {x1 : Int32} {I9 : Mem}, c2 I x0 x1 = some I9 → X (mX3_bargain (d + 3)) cX3_bargain 0 0 I K 2 [.ref x0, .int x1, .retAddr 0, .retAddr 0, .retAddr 0] [] (Ro (.inl none) I9 K)) (n : Nat) : ∀ {I : Mem} {x0 : Nat} (H0 : LM K x0) {x1 : Int32} {x2 : Int32} {x3 : Int32} {I9 : Mem}, l_X3_bargain_22 c2 n I x0 x1 x2 x3 = some I9 → X (mX3_bargain (d + 3)) cX3_bargain 0 0 I K 22 [.ref x0, .int x1, .int x2, .int x3, .retAddr 0] [] (Ro (.inl none) I9 K) := by
  induction n with
  | zero =>
    intro I x0 H0 x1 x2 x3 I9 h
    cases h
  | succ n ih =>
    intro I x0 H0 x1 x2 x3 I9 h
    unfold l_X3_bargain_22 at h
    refine x_iloadn dX3_bargain_22 rfl ?_
    refine x_if_eq 95 dX3_bargain_23 rfl (fun hc => ?_) (fun hc => ?_)
    · have h := ifT hc h
      refine z_iinc 1 (by decide) dX3_bargain_95 rfl rfl rfl ?_
      refine x_goto 2 dX3_bargain_98 rfl ?_
      exact X.forget (L' := [.ref x0, .int (x1 + 1), .retAddr 0, .retAddr 0, .retAddr 0]) ⟨Or.inl rfl, ⟨Or.inl rfl, ⟨Or.inr rfl, ⟨Or.inr rfl, ⟨Or.inl rfl, trivial⟩⟩⟩⟩⟩ (hc2 H0 h)
    have h := ifF hc h
    refine x_iloadn dX3_bargain_26 rfl ?_
    refine x_aloadn dX3_bargain_27 rfl ?_
    refine z_getI fs_X3_39 (LM.o H0) dX3_bargain_28 ?_
    refine x_icmp_ge 95 dX3_bargain_31 rfl (fun hc => ?_) (fun hc => ?_)
    · have h := ifT hc h
      refine z_iinc 1 (by decide) dX3_bargain_95 rfl rfl rfl ?_
      refine x_goto 2 dX3_bargain_98 rfl ?_
      exact X.forget (L' := [.ref x0, .int (x1 + 1), .retAddr 0, .retAddr 0, .retAddr 0]) ⟨Or.inl rfl, ⟨Or.inl rfl, ⟨Or.inr rfl, ⟨Or.inr rfl, ⟨Or.inl rfl, trivial⟩⟩⟩⟩⟩ (hc2 H0 h)
    have h := ifF hc h
    refine x_aloadn dX3_bargain_34 rfl ?_
    refine z_getR fs_X3_25 (LM.o H0) (LM.g2 H0) dX3_bargain_35 ?_
    refine x_iloadn dX3_bargain_38 rfl ?_
    obtain ⟨j2, hj2, h⟩ := b1_s h
    refine z_aald (LM.l2 H0) ⟨by decide, by decide⟩ hj2 (LM.w H0 (ix_s hj2).2.1) dX3_bargain_39 ?_
    refine z_getI fs_X3_76 (LM.wo H0 (ix_s hj2).2.1) dX3_bargain_40 ?_
    refine x_iloadn dX3_bargain_43 rfl ?_
    refine x_icmp_ne 55 dX3_bargain_44 rfl (fun hc => ?_) (fun hc => ?_)
    · have h := ifF hc h
      refine x_iconst (-1) dX3_bargain_55 rfl ?_
      exact tl_X3_bargain_56 d ih H0 h
    have h := ifT hc h
    refine x_aloadn dX3_bargain_47 rfl ?_
    refine x_iloadn dX3_bargain_48 rfl ?_
    obtain ⟨v10, h11, h⟩ := b1_s h
    refine z_V1 [.int x3] [] (cs_X3_231 _) (ci := 1) rfl (LM.o H0) (dep (show d + 0 + 2 + 1 ≤ (d + 3) from by omega) (Nat.le_of_ble_eq_true rfl)) dX3_bargain_49 rfl rfl (Nat.le_of_ble_eq_true rfl) (c_X3_bestStallFor d (K := K) (I := I) H0 h11) ?_
    refine x_goto 56 dX3_bargain_52 rfl ?_
    exact tl_X3_bargain_56 d ih H0 h
noncomputable def l_X3_bargain_2 (n : Nat) (I : Mem) (x0 : Nat) (x1 : Int32) : Option (Mem) := match n with
  | 0 => none
  | n + 1 => if (I x0 3) ≤ x1 then (some (I)) else (b1 (ix x1 6) fun j1 => l_X3_bargain_22 (l_X3_bargain_2 n) FU I x0 x1 (I (x0 + 4 + j1) 7) 0)
theorem tl_X3_bargain_2 (d : Nat) {K : Kt} (n : Nat) : ∀ {I : Mem} {x0 : Nat} (H0 : LM K x0) {x1 : Int32} {I9 : Mem}, l_X3_bargain_2 n I x0 x1 = some I9 → X (mX3_bargain (d + 3)) cX3_bargain 0 0 I K 2 [.ref x0, .int x1, .retAddr 0, .retAddr 0, .retAddr 0] [] (Ro (.inl none) I9 K) := by
  induction n with
  | zero =>
    intro I x0 H0 x1 I9 h
    cases h
  | succ n ih =>
    intro I x0 H0 x1 I9 h
    unfold l_X3_bargain_2 at h
    refine x_iloadn dX3_bargain_2 rfl ?_
    refine x_aloadn dX3_bargain_3 rfl ?_
    refine z_getI fs_X3_32 (LM.o H0) dX3_bargain_4 ?_
    refine x_icmp_ge 101 dX3_bargain_7 rfl (fun hc => ?_) (fun hc => ?_)
    · have h := ifT hc h
      cases h
      exact x_vret rfl dX3_bargain_101 ⟨rfl, rfl, rfl⟩
    have h := ifF hc h
    refine x_aloadn dX3_bargain_10 rfl ?_
    refine z_getR fs_X3_11 (LM.o H0) (LM.g0 H0) dX3_bargain_11 ?_
    refine x_iloadn dX3_bargain_14 rfl ?_
    obtain ⟨j1, hj1, h⟩ := b1_s h
    refine z_aald (LM.l0 H0) ⟨by decide, by decide⟩ hj1 (LM.p H0 (ix_s hj1).2.1) dX3_bargain_15 ?_
    refine z_getI fs_X3_228 (LM.po H0 (ix_s hj1).2.1) dX3_bargain_16 ?_
    refine x_istoren dX3_bargain_19 (Nat.le_of_ble_eq_true rfl) rfl rfl ?_
    refine x_iconst 0 dX3_bargain_20 rfl ?_
    refine x_istoren dX3_bargain_21 (Nat.le_of_ble_eq_true rfl) rfl rfl ?_
    exact tl_X3_bargain_22 d ih FU H0 h
noncomputable def f_X3_bargain (I : Mem) (x0 : Nat) : Option (Mem) := l_X3_bargain_2 FU I x0 0
theorem c_X3_bargain (d : Nat) {K : Kt} {I : Mem} {x0 : Nat} (H0 : LM K x0) {I9 : Mem} (h : f_X3_bargain I x0 = some I9) : Ct (mX3_bargain (d + 3)) cX3_bargain 0 0 [.ref x0] I K (Ro (.inl none) I9 K) := by
  refine Ct.of rfl pn_X3 (catR cat0) (Nat.le_of_ble_eq_true rfl) (show X _ _ _ _ _ _ 0 [.ref x0, .retAddr 0, .retAddr 0, .retAddr 0, .retAddr 0] [] _ from ?_)
  unfold f_X3_bargain at h
  refine x_iconst 0 dX3_bargain_0 rfl ?_
  refine x_istoren dX3_bargain_1 (Nat.le_of_ble_eq_true rfl) rfl rfl ?_
  exact tl_X3_bargain_2 d FU H0 h
noncomputable def l_X3_celebrate_64 (c4 : Mem → Nat → Int32 → Int32 → Option (Int32 × Mem)) (I : Mem) (x0 : Nat) (x1 : Int32) (x2 : Int32) (y0 : Int32) : Option (Int32 × Mem) := if y0 = (-1) then (c4 I x0 x1 (x2 + 1)) else (b2 (f_X3_carryOutGrant I x0 y0) fun v7 I8 => c4 I8 x0 (x1 + 1) (x2 + 1))
theorem tl_X3_celebrate_64 (d : Nat) {K : Kt} {c4 : Mem → Nat → Int32 → Int32 → Option (Int32 × Mem)} (hc4 : ∀ {I : Mem} {x0 : Nat} (H0 : LM K x0) {x1 : Int32} {x2 : Int32} {v : Int32} {I9 : Mem}, c4 I x0 x1 x2 = some (v, I9) → X (mX3_celebrate (d + 3)) cX3_celebrate 0 0 I K 4 [.ref x0, .int x1, .int x2, .retAddr 0] [] (Ro (.inl (some (.int v))) I9 K)) : ∀ {I : Mem} {x0 : Nat} (H0 : LM K x0) {x1 : Int32} {x2 : Int32} {y0 : Int32} {v : Int32} {I9 : Mem}, l_X3_celebrate_64 c4 I x0 x1 x2 y0 = some (v, I9) → X (mX3_celebrate (d + 3)) cX3_celebrate 0 0 I K 64 [.ref x0, .int x1, .int x2, .retAddr 0] [.int y0] (Ro (.inl (some (.int v))) I9 K) := by
  intro I x0 H0 x1 x2 y0 v I9 h
  unfold l_X3_celebrate_64 at h
  refine x_istoren dX3_celebrate_64 (Nat.le_of_ble_eq_true rfl) rfl rfl ?_
  refine x_iloadn dX3_celebrate_65 rfl ?_
  refine x_iconst (-1) dX3_celebrate_66 rfl ?_
  refine x_icmp_eq 79 dX3_celebrate_67 rfl (fun hc => ?_) (fun hc => ?_)
  · have h := ifT hc h
    refine z_iinc 1 (by decide) dX3_celebrate_79 rfl rfl rfl ?_
    refine x_goto 4 dX3_celebrate_82 rfl ?_
    exact X.forget (L' := [.ref x0, .int x1, .int (x2 + 1), .retAddr 0]) ⟨Or.inl rfl, ⟨Or.inl rfl, ⟨Or.inl rfl, ⟨Or.inr rfl, trivial⟩⟩⟩⟩ (hc4 H0 h)
  have h := ifF hc h
  refine x_aloadn dX3_celebrate_70 rfl ?_
  refine x_iloadn dX3_celebrate_71 rfl ?_
  obtain ⟨v7, I8, h9, h⟩ := b2_s h
  refine z_V1 [.int y0] [] (cs_X3_216 _) (ci := 1) rfl (LM.o H0) (dep (show d + 1 + 1 + 1 ≤ (d + 3) from by omega) (Nat.le_of_ble_eq_true rfl)) dX3_celebrate_72 rfl rfl (Nat.le_of_ble_eq_true rfl) (c_X3_carryOutGrant (d + 1) (K := K) (I := I) H0 h9) ?_
  refine x_pop dX3_celebrate_75 rfl ?_
  refine z_iinc 1 (by decide) dX3_celebrate_76 rfl rfl rfl ?_
  refine z_iinc 1 (by decide) dX3_celebrate_79 rfl rfl rfl ?_
  refine x_goto 4 dX3_celebrate_82 rfl ?_
  exact X.forget (L' := [.ref x0, .int (x1 + 1), .int (x2 + 1), .retAddr 0]) ⟨Or.inl rfl, ⟨Or.inl rfl, ⟨Or.inl rfl, ⟨Or.inr rfl, trivial⟩⟩⟩⟩ (hc4 H0 h)
noncomputable def l_X3_celebrate_4 (n : Nat) (I : Mem) (x0 : Nat) (x1 : Int32) (x2 : Int32) : Option (Int32 × Mem) := match n with
  | 0 => none
  | n + 1 => if (I x0 3) ≤ x2 then (some (x1, I)) else (b1 (ix x2 6) fun j1 => b1 (f_X3_today I x0) fun v2 => if (I (x0 + 4 + j1) 2) = v2 then (b1 (ix x2 6) fun j4 => b1 (pu I (x0 + 4 + j4) 3 ((I (x0 + 4 + j4) 3) + 1)) fun I5 => b1 (ix x2 6) fun j6 => if (I5 (x0 + 4 + j6) 6) = 0 then (l_X3_celebrate_64 (l_X3_celebrate_4 n) I5 x0 x1 x2 (-1)) else (b1 (f_X3_bestGrantFor I5 x0 x2) fun v10 => l_X3_celebrate_64 (l_X3_celebrate_4 n) I5 x0 x1 x2 v10)) else (l_X3_celebrate_4 n I x0 x1 (x2 + 1)))
theorem tl_X3_celebrate_4 (d : Nat) {K : Kt} (n : Nat) : ∀ {I : Mem} {x0 : Nat} (H0 : LM K x0) {x1 : Int32} {x2 : Int32} {v : Int32} {I9 : Mem}, l_X3_celebrate_4 n I x0 x1 x2 = some (v, I9) → X (mX3_celebrate (d + 3)) cX3_celebrate 0 0 I K 4 [.ref x0, .int x1, .int x2, .retAddr 0] [] (Ro (.inl (some (.int v))) I9 K) := by
  induction n with
  | zero =>
    intro I x0 H0 x1 x2 v I9 h
    cases h
  | succ n ih =>
    intro I x0 H0 x1 x2 v I9 h
    unfold l_X3_celebrate_4 at h
    refine x_iloadn dX3_celebrate_4 rfl ?_
    refine x_aloadn dX3_celebrate_5 rfl ?_
    refine z_getI fs_X3_32 (LM.o H0) dX3_celebrate_6 ?_
    refine x_icmp_ge 85 dX3_celebrate_9 rfl (fun hc => ?_) (fun hc => ?_)
    · have h := ifT hc h
      refine x_iloadn dX3_celebrate_85 rfl ?_
      cases h
      exact x_iret rfl dX3_celebrate_86 ⟨rfl, rfl, rfl⟩
    have h := ifF hc h
    refine x_aloadn dX3_celebrate_12 rfl ?_
    refine z_getR fs_X3_11 (LM.o H0) (LM.g0 H0) dX3_celebrate_13 ?_
    refine x_iloadn dX3_celebrate_16 rfl ?_
    obtain ⟨j1, hj1, h⟩ := b1_s h
    refine z_aald (LM.l0 H0) ⟨by decide, by decide⟩ hj1 (LM.p H0 (ix_s hj1).2.1) dX3_celebrate_17 ?_
    refine z_getI fs_X3_145 (LM.po H0 (ix_s hj1).2.1) dX3_celebrate_18 ?_
    refine x_aloadn dX3_celebrate_21 rfl ?_
    obtain ⟨v2, h3, h⟩ := b1_s h
    refine z_V1 [] [.int (I (x0 + 4 + j1) 2)] (cs_X3_148 _) (ci := 1) rfl (LM.o H0) (dep (show d + 2 + 0 + 1 ≤ (d + 3) from by omega) (Nat.le_of_ble_eq_true rfl)) dX3_celebrate_22 rfl rfl (Nat.le_of_ble_eq_true rfl) (c_X3_today (d + 2) (K := K) (I := I) H0 h3) ?_
    refine x_icmp_ne 79 dX3_celebrate_25 rfl (fun hc => ?_) (fun hc => ?_)
    · have h := ifF hc h
      refine z_iinc 1 (by decide) dX3_celebrate_79 rfl rfl rfl ?_
      refine x_goto 4 dX3_celebrate_82 rfl ?_
      exact ih H0 h
    have h := ifT hc h
    refine x_aloadn dX3_celebrate_28 rfl ?_
    refine z_getR fs_X3_11 (LM.o H0) (LM.g0 H0) dX3_celebrate_29 ?_
    refine x_iloadn dX3_celebrate_32 rfl ?_
    obtain ⟨j4, hj4, h⟩ := b1_s h
    refine z_aald (LM.l0 H0) ⟨by decide, by decide⟩ hj4 (LM.p H0 (ix_s hj4).2.1) dX3_celebrate_33 ?_
    refine x_dup dX3_celebrate_34 rfl ?_
    refine z_getI fs_X3_152 (LM.po H0 (ix_s hj4).2.1) dX3_celebrate_35 ?_
    refine x_iconst 1 dX3_celebrate_38 rfl ?_
    refine x_iadd dX3_celebrate_39 ?_
    obtain ⟨I5, hI5, h⟩ := b1_s h
    refine z_putI fs_X3_152 (LM.po H0 (ix_s hj4).2.1) hI5 dX3_celebrate_40 ?_
    refine x_aloadn dX3_celebrate_43 rfl ?_
    refine z_getR fs_X3_11 (LM.o H0) (LM.g0 H0) dX3_celebrate_44 ?_
    refine x_iloadn dX3_celebrate_47 rfl ?_
    obtain ⟨j6, hj6, h⟩ := b1_s h
    refine z_aald (LM.l0 H0) ⟨by decide, by decide⟩ hj6 (LM.p H0 (ix_s hj6).2.1) dX3_celebrate_48 ?_
    refine z_getI fs_X3_210 (LM.po H0 (ix_s hj6).2.1) dX3_celebrate_49 ?_
    refine x_if_eq 63 dX3_celebrate_52 rfl (fun hc => ?_) (fun hc => ?_)
    · have h := ifT hc h
      refine x_iconst (-1) dX3_celebrate_63 rfl ?_
      exact tl_X3_celebrate_64 d ih H0 h
    have h := ifF hc h
    refine x_aloadn dX3_celebrate_55 rfl ?_
    refine x_iloadn dX3_celebrate_56 rfl ?_
    obtain ⟨v10, h11, h⟩ := b1_s h
    refine z_V1 [.int x2] [] (cs_X3_213 _) (ci := 1) rfl (LM.o H0) (dep (show d + 0 + 2 + 1 ≤ (d + 3) from by omega) (Nat.le_of_ble_eq_true rfl)) dX3_celebrate_57 rfl rfl (Nat.le_of_ble_eq_true rfl) (c_X3_bestGrantFor d (K := K) (I := I5) H0 h11) ?_
    refine x_goto 64 dX3_celebrate_60 rfl ?_
    exact tl_X3_celebrate_64 d ih H0 h
noncomputable def f_X3_celebrate (I : Mem) (x0 : Nat) : Option (Int32 × Mem) := l_X3_celebrate_4 FU I x0 0 0
theorem c_X3_celebrate (d : Nat) {K : Kt} {I : Mem} {x0 : Nat} (H0 : LM K x0) {v : Int32} {I9 : Mem} (h : f_X3_celebrate I x0 = some (v, I9)) : Ct (mX3_celebrate (d + 3)) cX3_celebrate 0 0 [.ref x0] I K (Ro (.inl (some (.int v))) I9 K) := by
  refine Ct.of rfl pn_X3 (catR cat0) (Nat.le_of_ble_eq_true rfl) (show X _ _ _ _ _ _ 0 [.ref x0, .retAddr 0, .retAddr 0, .retAddr 0] [] _ from ?_)
  unfold f_X3_celebrate at h
  refine x_iconst 0 dX3_celebrate_0 rfl ?_
  refine x_istoren dX3_celebrate_1 (Nat.le_of_ble_eq_true rfl) rfl rfl ?_
  refine x_iconst 0 dX3_celebrate_2 rfl ?_
  refine x_istoren dX3_celebrate_3 (Nat.le_of_ble_eq_true rfl) rfl rfl ?_
  exact tl_X3_celebrate_4 d FU H0 h
noncomputable def l_X3_poorestStall_4 (n : Nat) (I : Mem) (x0 : Nat) (x1 : Int32) (x2 : Int32) : Option (Int32) := match n with
  | 0 => none
  | n + 1 => if (I x0 4) ≤ x2 then (some (x1)) else (b1 (ix x2 5) fun j1 => b1 (ix x1 5) fun j2 => if (I (x0 + 10 + j2) 1) ≤ (I (x0 + 10 + j1) 1) then (l_X3_poorestStall_4 n I x0 x1 (x2 + 1)) else (l_X3_poorestStall_4 n I x0 x2 (x2 + 1)))
theorem tl_X3_poorestStall_4 (d : Nat) {K : Kt} (n : Nat) : ∀ {I : Mem} {x0 : Nat} (H0 : LM K x0) {x1 : Int32} {x2 : Int32} {v : Int32}, l_X3_poorestStall_4 n I x0 x1 x2 = some v → X (mX3_poorestStall d) cX3_poorestStall 0 0 I K 4 [.ref x0, .int x1, .int x2] [] (Ro (.inl (some (.int v))) I K) := by
  induction n with
  | zero =>
    intro I x0 H0 x1 x2 v h
    cases h
  | succ n ih =>
    intro I x0 H0 x1 x2 v h
    unfold l_X3_poorestStall_4 at h
    refine x_iloadn dX3_poorestStall_4 rfl ?_
    refine x_aloadn dX3_poorestStall_5 rfl ?_
    refine z_getI fs_X3_36 (LM.o H0) dX3_poorestStall_6 ?_
    refine x_icmp_ge 41 dX3_poorestStall_9 rfl (fun hc => ?_) (fun hc => ?_)
    · have h := ifT hc h
      refine x_iloadn dX3_poorestStall_41 rfl ?_
      cases h
      exact x_iret rfl dX3_poorestStall_42 ⟨rfl, rfl, rfl⟩
    have h := ifF hc h
    refine x_aloadn dX3_poorestStall_12 rfl ?_
    refine z_getR fs_X3_19 (LM.o H0) (LM.g1 H0) dX3_poorestStall_13 ?_
    refine x_iloadn dX3_poorestStall_16 rfl ?_
    obtain ⟨j1, hj1, h⟩ := b1_s h
    refine z_aald (LM.l1 H0) ⟨by decide, by decide⟩ hj1 (LM.s H0 (ix_s hj1).2.1) dX3_poorestStall_17 ?_
    refine z_getI fs_X3_92 (LM.so H0 (ix_s hj1).2.1) dX3_poorestStall_18 ?_
    refine x_aloadn dX3_poorestStall_21 rfl ?_
    refine z_getR fs_X3_19 (LM.o H0) (LM.g1 H0) dX3_poorestStall_22 ?_
    refine x_iloadn dX3_poorestStall_25 rfl ?_
    obtain ⟨j2, hj2, h⟩ := b1_s h
    refine z_aald (LM.l1 H0) ⟨by decide, by decide⟩ hj2 (LM.s H0 (ix_s hj2).2.1) dX3_poorestStall_26 ?_
    refine z_getI fs_X3_92 (LM.so H0 (ix_s hj2).2.1) dX3_poorestStall_27 ?_
    refine x_icmp_ge 35 dX3_poorestStall_30 rfl (fun hc => ?_) (fun hc => ?_)
    · have h := ifT hc h
      refine z_iinc 1 (by decide) dX3_poorestStall_35 rfl rfl rfl ?_
      refine x_goto 4 dX3_poorestStall_38 rfl ?_
      exact ih H0 h
    have h := ifF hc h
    refine x_iloadn dX3_poorestStall_33 rfl ?_
    refine x_istoren dX3_poorestStall_34 (Nat.le_of_ble_eq_true rfl) rfl rfl ?_
    refine z_iinc 1 (by decide) dX3_poorestStall_35 rfl rfl rfl ?_
    refine x_goto 4 dX3_poorestStall_38 rfl ?_
    exact ih H0 h
noncomputable def f_X3_poorestStall (I : Mem) (x0 : Nat) : Option (Int32) := l_X3_poorestStall_4 FU I x0 0 1
theorem c_X3_poorestStall (d : Nat) {K : Kt} {I : Mem} {x0 : Nat} (H0 : LM K x0) {v : Int32} (h : f_X3_poorestStall I x0 = some v) : Ct (mX3_poorestStall d) cX3_poorestStall 0 0 [.ref x0] I K (Ro (.inl (some (.int v))) I K) := by
  refine Ct.of rfl pn_X3 (catR cat0) (Nat.le_of_ble_eq_true rfl) (show X _ _ _ _ _ _ 0 [.ref x0, .retAddr 0, .retAddr 0] [] _ from ?_)
  unfold f_X3_poorestStall at h
  refine x_iconst 0 dX3_poorestStall_0 rfl ?_
  refine x_istoren dX3_poorestStall_1 (Nat.le_of_ble_eq_true rfl) rfl rfl ?_
  refine x_iconst 1 dX3_poorestStall_2 rfl ?_
  refine x_istoren dX3_poorestStall_3 (Nat.le_of_ble_eq_true rfl) rfl rfl ?_
  exact tl_X3_poorestStall_4 d FU H0 h
noncomputable def l_X3_collectTaxes_2 (n : Nat) (I : Mem) (x0 : Nat) (x1 : Int32) : Option (Mem) := match n with
  | 0 => none
  | n + 1 => if (I x0 3) ≤ x1 then (some (I)) else (if (I x0 4) ≤ 0 then (some (I)) else (b1 (ix x1 6) fun j1 => b1 (ix x1 6) fun j2 => b1 (pu I (x0 + 4 + j2) 1 ((I (x0 + 4 + j2) 1) - (((I (x0 + 4 + j1) 1) * (I x0 12)) / 100))) fun I3 => b1 (f_X3_poorestStall I3 x0) fun v4 => b1 (ix v4 5) fun j6 => b1 (pu I3 (x0 + 10 + j6) 1 ((I3 (x0 + 10 + j6) 1) + (((I (x0 + 4 + j1) 1) * (I x0 12)) / 100))) fun I7 => l_X3_collectTaxes_2 n I7 x0 (x1 + 1)))
theorem tl_X3_collectTaxes_2 (d : Nat) {K : Kt} (n : Nat) : ∀ {I : Mem} {x0 : Nat} (H0 : LM K x0) {x1 : Int32} {I9 : Mem}, l_X3_collectTaxes_2 n I x0 x1 = some I9 → X (mX3_collectTaxes (d + 1)) cX3_collectTaxes 0 0 I K 2 [.ref x0, .int x1, .retAddr 0] [] (Ro (.inl none) I9 K) := by
  induction n with
  | zero =>
    intro I x0 H0 x1 I9 h
    cases h
  | succ n ih =>
    intro I x0 H0 x1 I9 h
    unfold l_X3_collectTaxes_2 at h
    refine x_iloadn dX3_collectTaxes_2 rfl ?_
    refine x_aloadn dX3_collectTaxes_3 rfl ?_
    refine z_getI fs_X3_32 (LM.o H0) dX3_collectTaxes_4 ?_
    refine x_icmp_ge 74 dX3_collectTaxes_7 rfl (fun hc => ?_) (fun hc => ?_)
    · have h := ifT hc h
      cases h
      exact x_vret rfl dX3_collectTaxes_74 ⟨rfl, rfl, rfl⟩
    have h := ifF hc h
    refine x_aloadn dX3_collectTaxes_10 rfl ?_
    refine z_getI fs_X3_36 (LM.o H0) dX3_collectTaxes_11 ?_
    refine x_if_le 74 dX3_collectTaxes_14 rfl (fun hc => ?_) (fun hc => ?_)
    · have h := ifT hc h
      cases h
      exact x_vret rfl dX3_collectTaxes_74 ⟨rfl, rfl, rfl⟩
    have h := ifF hc h
    refine x_aloadn dX3_collectTaxes_17 rfl ?_
    refine z_getR fs_X3_11 (LM.o H0) (LM.g0 H0) dX3_collectTaxes_18 ?_
    refine x_iloadn dX3_collectTaxes_21 rfl ?_
    obtain ⟨j1, hj1, h⟩ := b1_s h
    refine z_aald (LM.l0 H0) ⟨by decide, by decide⟩ hj1 (LM.p H0 (ix_s hj1).2.1) dX3_collectTaxes_22 ?_
    refine z_getI fs_X3_89 (LM.po H0 (ix_s hj1).2.1) dX3_collectTaxes_23 ?_
    refine x_aloadn dX3_collectTaxes_26 rfl ?_
    refine z_getI fs_X3_60 (LM.o H0) dX3_collectTaxes_27 ?_
    refine x_imul dX3_collectTaxes_30 ?_
    refine x_bipush 100 dX3_collectTaxes_31 rfl ?_
    refine x_idiv dX3_collectTaxes_33 (by decide) ?_
    refine x_istoren dX3_collectTaxes_34 (Nat.le_of_ble_eq_true rfl) rfl rfl ?_
    refine x_aloadn dX3_collectTaxes_35 rfl ?_
    refine z_getR fs_X3_11 (LM.o H0) (LM.g0 H0) dX3_collectTaxes_36 ?_
    refine x_iloadn dX3_collectTaxes_39 rfl ?_
    obtain ⟨j2, hj2, h⟩ := b1_s h
    refine z_aald (LM.l0 H0) ⟨by decide, by decide⟩ hj2 (LM.p H0 (ix_s hj2).2.1) dX3_collectTaxes_40 ?_
    refine x_dup dX3_collectTaxes_41 rfl ?_
    refine z_getI fs_X3_89 (LM.po H0 (ix_s hj2).2.1) dX3_collectTaxes_42 ?_
    refine x_iloadn dX3_collectTaxes_45 rfl ?_
    refine x_isub dX3_collectTaxes_46 ?_
    obtain ⟨I3, hI3, h⟩ := b1_s h
    refine z_putI fs_X3_89 (LM.po H0 (ix_s hj2).2.1) hI3 dX3_collectTaxes_47 ?_
    refine x_aloadn dX3_collectTaxes_50 rfl ?_
    refine z_getR fs_X3_19 (LM.o H0) (LM.g1 H0) dX3_collectTaxes_51 ?_
    refine x_aloadn dX3_collectTaxes_54 rfl ?_
    obtain ⟨v4, h5, h⟩ := b1_s h
    refine z_V1 [] [.ref (x0 + 2)] (cs_X3_247 _) (ci := 1) rfl (LM.o H0) (dep (show d + 0 + 0 + 1 ≤ (d + 1) from by omega) (Nat.le_of_ble_eq_true rfl)) dX3_collectTaxes_55 rfl rfl (Nat.le_of_ble_eq_true rfl) (c_X3_poorestStall d (K := K) (I := I3) H0 h5) ?_
    obtain ⟨j6, hj6, h⟩ := b1_s h
    refine z_aald (LM.l1 H0) ⟨by decide, by decide⟩ hj6 (LM.s H0 (ix_s hj6).2.1) dX3_collectTaxes_58 ?_
    refine x_dup dX3_collectTaxes_59 rfl ?_
    refine z_getI fs_X3_92 (LM.so H0 (ix_s hj6).2.1) dX3_collectTaxes_60 ?_
    refine x_iloadn dX3_collectTaxes_63 rfl ?_
    refine x_iadd dX3_collectTaxes_64 ?_
    obtain ⟨I7, hI7, h⟩ := b1_s h
    refine z_putI fs_X3_92 (LM.so H0 (ix_s hj6).2.1) hI7 dX3_collectTaxes_65 ?_
    refine z_iinc 1 (by decide) dX3_collectTaxes_68 rfl rfl rfl ?_
    refine x_goto 2 dX3_collectTaxes_71 rfl ?_
    exact X.forget (L' := [.ref x0, .int (x1 + 1), .retAddr 0]) ⟨Or.inl rfl, ⟨Or.inl rfl, ⟨Or.inr rfl, trivial⟩⟩⟩ (ih H0 h)
noncomputable def f_X3_collectTaxes (I : Mem) (x0 : Nat) : Option (Mem) := l_X3_collectTaxes_2 FU I x0 0
theorem c_X3_collectTaxes (d : Nat) {K : Kt} {I : Mem} {x0 : Nat} (H0 : LM K x0) {I9 : Mem} (h : f_X3_collectTaxes I x0 = some I9) : Ct (mX3_collectTaxes (d + 1)) cX3_collectTaxes 0 0 [.ref x0] I K (Ro (.inl none) I9 K) := by
  refine Ct.of rfl pn_X3 (catR cat0) (Nat.le_of_ble_eq_true rfl) (show X _ _ _ _ _ _ 0 [.ref x0, .retAddr 0, .retAddr 0] [] _ from ?_)
  unfold f_X3_collectTaxes at h
  refine x_iconst 0 dX3_collectTaxes_0 rfl ?_
  refine x_istoren dX3_collectTaxes_1 (Nat.le_of_ble_eq_true rfl) rfl rfl ?_
  exact tl_X3_collectTaxes_2 d FU H0 h
noncomputable def f_X3_wearOut (I : Mem) (x0 : Nat) (x1 : Nat) : Option (Mem) := b1 (pu I x1 3 ((I x1 3) + 1)) fun I1 => if (I1 x1 3) < 10 then (some (I1)) else (b1 (f_X8_moveTo I1 x1 (-1) (-1)) fun I2 => b1 (pu I2 x1 7 1) fun I4 => some (I4))
theorem c_X3_wearOut (d : Nat) {K : Kt} {I : Mem} {x0 : Nat} (H0 : LM K x0) {x1 : Nat} (H1 : LO K 6 x1) {I9 : Mem} (h : f_X3_wearOut I x0 x1 = some I9) : Ct (mX3_wearOut (d + 1)) cX3_wearOut 0 0 [.ref x0, .ref x1] I K (Ro (.inl none) I9 K) := by
  refine Ct.of rfl pn_X3 (catR (catR cat0)) (Nat.le_of_ble_eq_true rfl) (show X _ _ _ _ _ _ 0 [.ref x0, .ref x1] [] _ from ?_)
  unfold f_X3_wearOut at h
  refine x_aloadn dX3_wearOut_0 rfl ?_
  refine x_dup dX3_wearOut_1 rfl ?_
  refine z_getI fs_X3_99 H1 dX3_wearOut_2 ?_
  refine x_iconst 1 dX3_wearOut_5 rfl ?_
  refine x_iadd dX3_wearOut_6 ?_
  obtain ⟨I1, hI1, h⟩ := b1_s h
  refine z_putI fs_X3_99 H1 hI1 dX3_wearOut_7 ?_
  refine x_aloadn dX3_wearOut_10 rfl ?_
  refine z_getI fs_X3_99 H1 dX3_wearOut_11 ?_
  refine x_bipush 10 dX3_wearOut_14 rfl ?_
  refine x_icmp_lt 30 dX3_wearOut_16 rfl (fun hc => ?_) (fun hc => ?_)
  · have h := ifT hc h
    cases h
    exact x_vret rfl dX3_wearOut_30 ⟨rfl, rfl, rfl⟩
  have h := ifF hc h
  refine x_aloadn dX3_wearOut_19 rfl ?_
  refine x_iconst (-1) dX3_wearOut_20 rfl ?_
  refine x_iconst (-1) dX3_wearOut_21 rfl ?_
  obtain ⟨I2, h3, h⟩ := b1_s h
  refine z_V0 [.int (-1), .int (-1)] [] (cs_X3_179 _) (ci := 6) rfl H1 (dep (show d + 0 + 0 + 1 ≤ (d + 1) from by omega) (Nat.le_of_ble_eq_true rfl)) dX3_wearOut_22 rfl rfl (Nat.le_of_ble_eq_true rfl) (c_X8_moveTo d (K := K) (I := I1) H1 h3) ?_
  refine x_aloadn dX3_wearOut_25 rfl ?_
  refine x_iconst 1 dX3_wearOut_26 rfl ?_
  obtain ⟨I4, hI4, h⟩ := b1_s h
  refine z_putZ (u := ()) fs_X3_86 H1 rfl hI4 dX3_wearOut_27 ?_
  cases h
  exact x_vret rfl dX3_wearOut_30 ⟨rfl, rfl, rfl⟩
noncomputable def f_X8_isInTrade (I : Mem) (x0 : Nat) : Option (Int32) := if (I x0 4) = (-1) then (if (I x0 5) = (-1) then (some (0)) else (some (1))) else (some (1))
theorem c_X8_isInTrade (d : Nat) {K : Kt} {I : Mem} {x0 : Nat} (H0 : LO K 6 x0) {v : Int32} (h : f_X8_isInTrade I x0 = some v) : Ct (mX8_isInTrade d) cX8_isInTrade 0 0 [.ref x0] I K (Ro (.inl (some (.int v))) I K) := by
  refine Ct.of rfl pn_X8 (catR cat0) (Nat.le_of_ble_eq_true rfl) (show X _ _ _ _ _ _ 0 [.ref x0] [] _ from ?_)
  unfold f_X8_isInTrade at h
  refine x_aloadn dX8_isInTrade_0 rfl ?_
  refine z_getI fs_X8_18 H0 dX8_isInTrade_1 ?_
  refine x_iconst (-1) dX8_isInTrade_4 rfl ?_
  refine x_icmp_ne 16 dX8_isInTrade_5 rfl (fun hc => ?_) (fun hc => ?_)
  · have h := ifF hc h
    refine x_iconst 1 dX8_isInTrade_16 rfl ?_
    refine x_goto 21 dX8_isInTrade_17 rfl ?_
    cases h
    exact x_zret rfl rfl dX8_isInTrade_21 ⟨rfl, rfl, rfl⟩
  have h := ifT hc h
  refine x_aloadn dX8_isInTrade_8 rfl ?_
  refine z_getI fs_X8_21 H0 dX8_isInTrade_9 ?_
  refine x_iconst (-1) dX8_isInTrade_12 rfl ?_
  refine x_icmp_eq 20 dX8_isInTrade_13 rfl (fun hc => ?_) (fun hc => ?_)
  · have h := ifT hc h
    refine x_iconst 0 dX8_isInTrade_20 rfl ?_
    cases h
    exact x_zret rfl rfl dX8_isInTrade_21 ⟨rfl, rfl, rfl⟩
  have h := ifF hc h
  refine x_iconst 1 dX8_isInTrade_16 rfl ?_
  refine x_goto 21 dX8_isInTrade_17 rfl ?_
  cases h
  exact x_zret rfl rfl dX8_isInTrade_21 ⟨rfl, rfl, rfl⟩
noncomputable def l_X3_endDay_19 (n : Nat) (I : Mem) (x0 : Nat) (x1 : Int32) : Option (Mem) := match n with
  | 0 => none
  | n + 1 => if (I x0 5) ≤ x1 then (some (I)) else (b1 (ix x1 16) fun j4 => b1 (f_X8_isInTrade I (x0 + 15 + j4)) fun v5 => if v5 = 0 then (l_X3_endDay_19 n I x0 (x1 + 1)) else (b1 (ix x1 16) fun j7 => b1 (f_X3_wearOut I x0 (x0 + 15 + j7)) fun I8 => l_X3_endDay_19 n I8 x0 (x1 + 1)))
theorem tl_X3_endDay_19 (d : Nat) {K : Kt} (n : Nat) : ∀ {I : Mem} {x0 : Nat} (H0 : LM K x0) {x1 : Int32} {I9 : Mem}, l_X3_endDay_19 n I x0 x1 = some I9 → X (mX3_endDay (d + 2)) cX3_endDay 0 0 I K 19 [.ref x0, .int x1] [] (Ro (.inl none) I9 K) := by
  induction n with
  | zero =>
    intro I x0 H0 x1 I9 h
    cases h
  | succ n ih =>
    intro I x0 H0 x1 I9 h
    unfold l_X3_endDay_19 at h
    refine x_iloadn dX3_endDay_19 rfl ?_
    refine x_aloadn dX3_endDay_20 rfl ?_
    refine z_getI fs_X3_39 (LM.o H0) dX3_endDay_21 ?_
    refine x_icmp_ge 55 dX3_endDay_24 rfl (fun hc => ?_) (fun hc => ?_)
    · have h := ifT hc h
      cases h
      exact x_vret rfl dX3_endDay_55 ⟨rfl, rfl, rfl⟩
    have h := ifF hc h
    refine x_aloadn dX3_endDay_27 rfl ?_
    refine z_getR fs_X3_25 (LM.o H0) (LM.g2 H0) dX3_endDay_28 ?_
    refine x_iloadn dX3_endDay_31 rfl ?_
    obtain ⟨j4, hj4, h⟩ := b1_s h
    refine z_aald (LM.l2 H0) ⟨by decide, by decide⟩ hj4 (LM.w H0 (ix_s hj4).2.1) dX3_endDay_32 ?_
    obtain ⟨v5, h6, h⟩ := b1_s h
    refine z_V1 [] [] (cs_X3_95 _) (ci := 6) rfl (LM.wo H0 (ix_s hj4).2.1) (dep (show d + 1 + 0 + 1 ≤ (d + 2) from by omega) (Nat.le_of_ble_eq_true rfl)) dX3_endDay_33 rfl rfl (Nat.le_of_ble_eq_true rfl) (c_X8_isInTrade (d + 1) (K := K) (I := I) (LM.wo H0 (ix_s hj4).2.1) h6) ?_
    refine x_if_eq 49 dX3_endDay_36 rfl (fun hc => ?_) (fun hc => ?_)
    · have h := ifT hc h
      refine z_iinc 1 (by decide) dX3_endDay_49 rfl rfl rfl ?_
      refine x_goto 19 dX3_endDay_52 rfl ?_
      exact ih H0 h
    have h := ifF hc h
    refine x_aloadn dX3_endDay_39 rfl ?_
    refine x_aloadn dX3_endDay_40 rfl ?_
    refine z_getR fs_X3_25 (LM.o H0) (LM.g2 H0) dX3_endDay_41 ?_
    refine x_iloadn dX3_endDay_44 rfl ?_
    obtain ⟨j7, hj7, h⟩ := b1_s h
    refine z_aald (LM.l2 H0) ⟨by decide, by decide⟩ hj7 (LM.w H0 (ix_s hj7).2.1) dX3_endDay_45 ?_
    obtain ⟨I8, h9, h⟩ := b1_s h
    refine z_V0 [.ref (x0 + 15 + j7)] [] (cs_X3_250 _) (ci := 1) rfl (LM.o H0) (dep (show d + 0 + 1 + 1 ≤ (d + 2) from by omega) (Nat.le_of_ble_eq_true rfl)) dX3_endDay_46 rfl rfl (Nat.le_of_ble_eq_true rfl) (c_X3_wearOut d (K := K) (I := I) H0 (LM.wo H0 (ix_s hj7).2.1) h9) ?_
    refine z_iinc 1 (by decide) dX3_endDay_49 rfl rfl rfl ?_
    refine x_goto 19 dX3_endDay_52 rfl ?_
    exact ih H0 h
noncomputable def f_X3_endDay (I : Mem) (x0 : Nat) : Option (Mem) := b1 (pu I x0 6 ((I x0 6) + 1)) fun I1 => b1 (f_X3_today I1 x0) fun v2 => if v2 = 0 then (l_X3_endDay_19 FU I1 x0 0) else (some (I1))
theorem c_X3_endDay (d : Nat) {K : Kt} {I : Mem} {x0 : Nat} (H0 : LM K x0) {I9 : Mem} (h : f_X3_endDay I x0 = some I9) : Ct (mX3_endDay (d + 2)) cX3_endDay 0 0 [.ref x0] I K (Ro (.inl none) I9 K) := by
  refine Ct.of rfl pn_X3 (catR cat0) (Nat.le_of_ble_eq_true rfl) (show X _ _ _ _ _ _ 0 [.ref x0, .retAddr 0] [] _ from ?_)
  unfold f_X3_endDay at h
  refine x_aloadn dX3_endDay_0 rfl ?_
  refine x_dup dX3_endDay_1 rfl ?_
  refine z_getI fs_X3_42 (LM.o H0) dX3_endDay_2 ?_
  refine x_iconst 1 dX3_endDay_5 rfl ?_
  refine x_iadd dX3_endDay_6 ?_
  obtain ⟨I1, hI1, h⟩ := b1_s h
  refine z_putI fs_X3_42 (LM.o H0) hI1 dX3_endDay_7 ?_
  refine x_aloadn dX3_endDay_10 rfl ?_
  obtain ⟨v2, h3, h⟩ := b1_s h
  refine z_V1 [] [] (cs_X3_148 _) (ci := 1) rfl (LM.o H0) (dep (show d + 1 + 0 + 1 ≤ (d + 2) from by omega) (Nat.le_of_ble_eq_true rfl)) dX3_endDay_11 rfl rfl (Nat.le_of_ble_eq_true rfl) (c_X3_today (d + 1) (K := K) (I := I1) H0 h3) ?_
  refine x_if_ne 55 dX3_endDay_14 rfl (fun hc => ?_) (fun hc => ?_)
  · have h := ifF hc h
    cases h
    exact x_vret rfl dX3_endDay_55 ⟨rfl, rfl, rfl⟩
  have h := ifT hc h
  refine x_iconst 0 dX3_endDay_17 rfl ?_
  refine x_istoren dX3_endDay_18 (Nat.le_of_ble_eq_true rfl) rfl rfl ?_
  exact tl_X3_endDay_19 d FU H0 h
noncomputable def l_X3_auctionOff_18 (n : Nat) (I : Mem) (x0 : Nat) (x1 : Int32) (x2 : Int32) (x3 : Int32) (x4 : Int32) (x5 : Int32) : Option (Mem) := match n with
  | 0 => none
  | n + 1 => if (I x0 3) ≤ x5 then (if x3 = (-1) then (some (I)) else (if x4 < (x2 / 2) then (some (I)) else (b1 (f_X3_handOver I x0 x3 x1 x4) fun I4 => some (I4)))) else (b1 (ix x5 6) fun j6 => if (if x2 < ((I (x0 + 4 + j6) 1) / 2) then x2 else ((I (x0 + 4 + j6) 1) / 2)) ≤ x4 then (l_X3_auctionOff_18 n I x0 x1 x2 x3 x4 (x5 + 1)) else (b1 (f_X3_ownedBy I x0 x5) fun v7 => if 4 ≤ v7 then (l_X3_auctionOff_18 n I x0 x1 x2 x3 x4 (x5 + 1)) else (l_X3_auctionOff_18 n I x0 x1 x2 x5 (if x2 < ((I (x0 + 4 + j6) 1) / 2) then x2 else ((I (x0 + 4 + j6) 1) / 2)) (x5 + 1))))
theorem tl_X3_auctionOff_18 (d : Nat) {K : Kt} (n : Nat) : ∀ {I : Mem} {x0 : Nat} (H0 : LM K x0) {x1 : Int32} {x2 : Int32} {x3 : Int32} {x4 : Int32} {x5 : Int32} {I9 : Mem}, l_X3_auctionOff_18 n I x0 x1 x2 x3 x4 x5 = some I9 → X (mX3_auctionOff (d + 2)) cX3_auctionOff 0 0 I K 18 [.ref x0, .int x1, .int x2, .int x3, .int x4, .int x5, .retAddr 0] [] (Ro (.inl none) I9 K) := by
  induction n with
  | zero =>
    intro I x0 H0 x1 x2 x3 x4 x5 I9 h
    cases h
  | succ n ih =>
    intro I x0 H0 x1 x2 x3 x4 x5 I9 h
    unfold l_X3_auctionOff_18 at h
    refine x_iload dX3_auctionOff_18 rfl ?_
    refine x_aloadn dX3_auctionOff_20 rfl ?_
    refine z_getI fs_X3_32 (LM.o H0) dX3_auctionOff_21 ?_
    refine x_icmp_ge 75 dX3_auctionOff_24 rfl (fun hc => ?_) (fun hc => ?_)
    · have h := ifT hc h
      refine x_iloadn dX3_auctionOff_75 rfl ?_
      refine x_iconst (-1) dX3_auctionOff_76 rfl ?_
      refine x_icmp_eq 96 dX3_auctionOff_77 rfl (fun hc => ?_) (fun hc => ?_)
      · have h := ifT hc h
        cases h
        exact x_vret rfl dX3_auctionOff_96 ⟨rfl, rfl, rfl⟩
      have h := ifF hc h
      refine x_iload dX3_auctionOff_80 rfl ?_
      refine x_iloadn dX3_auctionOff_82 rfl ?_
      refine x_iconst 2 dX3_auctionOff_83 rfl ?_
      refine x_idiv dX3_auctionOff_84 (by decide) ?_
      refine x_icmp_lt 96 dX3_auctionOff_85 rfl (fun hc => ?_) (fun hc => ?_)
      · have h := ifT hc h
        cases h
        exact x_vret rfl dX3_auctionOff_96 ⟨rfl, rfl, rfl⟩
      have h := ifF hc h
      refine x_aloadn dX3_auctionOff_88 rfl ?_
      refine x_iloadn dX3_auctionOff_89 rfl ?_
      refine x_iloadn dX3_auctionOff_90 rfl ?_
      refine x_iload dX3_auctionOff_91 rfl ?_
      obtain ⟨I4, h5, h⟩ := b1_s h
      refine z_V0 [.int x3, .int x1, .int x4] [] (cs_X3_170 _) (ci := 1) rfl (LM.o H0) (dep (show d + 0 + 1 + 1 ≤ (d + 2) from by omega) (Nat.le_of_ble_eq_true rfl)) dX3_auctionOff_93 rfl rfl (Nat.le_of_ble_eq_true rfl) (c_X3_handOver d (K := K) (I := I) H0 h5) ?_
      cases h
      exact x_vret rfl dX3_auctionOff_96 ⟨rfl, rfl, rfl⟩
    have h := ifF hc h
    refine x_aloadn dX3_auctionOff_27 rfl ?_
    refine z_getR fs_X3_11 (LM.o H0) (LM.g0 H0) dX3_auctionOff_28 ?_
    refine x_iload dX3_auctionOff_31 rfl ?_
    obtain ⟨j6, hj6, h⟩ := b1_s h
    refine z_aald (LM.l0 H0) ⟨by decide, by decide⟩ hj6 (LM.p H0 (ix_s hj6).2.1) dX3_auctionOff_33 ?_
    refine z_getI fs_X3_89 (LM.po H0 (ix_s hj6).2.1) dX3_auctionOff_34 ?_
    refine x_iconst 2 dX3_auctionOff_37 rfl ?_
    refine x_idiv dX3_auctionOff_38 (by decide) ?_
    refine x_iloadn dX3_auctionOff_39 rfl ?_
    refine x_mmin ms_X3_174 (Nat.le_of_ble_eq_true rfl) (by show 1 ≤ (d + 2); omega) dX3_auctionOff_40 ?_
    refine x_istore dX3_auctionOff_43 (Nat.le_of_ble_eq_true rfl) rfl rfl ?_
    refine x_iload dX3_auctionOff_45 rfl ?_
    refine x_iload dX3_auctionOff_47 rfl ?_
    refine x_icmp_le 69 dX3_auctionOff_49 rfl (fun hc => ?_) (fun hc => ?_)
    · have h := ifT hc h
      refine z_iinc 1 (by decide) dX3_auctionOff_69 rfl rfl rfl ?_
      refine x_goto 18 dX3_auctionOff_72 rfl ?_
      exact X.forget (L' := [.ref x0, .int x1, .int x2, .int x3, .int x4, .int (x5 + 1), .retAddr 0]) ⟨Or.inl rfl, ⟨Or.inl rfl, ⟨Or.inl rfl, ⟨Or.inl rfl, ⟨Or.inl rfl, ⟨Or.inl rfl, ⟨Or.inr rfl, trivial⟩⟩⟩⟩⟩⟩⟩ (ih H0 h)
    have h := ifF hc h
    refine x_aloadn dX3_auctionOff_52 rfl ?_
    refine x_iload dX3_auctionOff_53 rfl ?_
    obtain ⟨v7, h8, h⟩ := b1_s h
    refine z_V1 [.int x5] [] (cs_X3_126 _) (ci := 1) rfl (LM.o H0) (dep (show d + 1 + 0 + 1 ≤ (d + 2) from by omega) (Nat.le_of_ble_eq_true rfl)) dX3_auctionOff_55 rfl rfl (Nat.le_of_ble_eq_true rfl) (c_X3_ownedBy (d + 1) (K := K) (I := I) H0 h8) ?_
    refine x_iconst 4 dX3_auctionOff_58 rfl ?_
    refine x_icmp_ge 69 dX3_auctionOff_59 rfl (fun hc => ?_) (fun hc => ?_)
    · have h := ifT hc h
      refine z_iinc 1 (by decide) dX3_auctionOff_69 rfl rfl rfl ?_
      refine x_goto 18 dX3_auctionOff_72 rfl ?_
      exact X.forget (L' := [.ref x0, .int x1, .int x2, .int x3, .int x4, .int (x5 + 1), .retAddr 0]) ⟨Or.inl rfl, ⟨Or.inl rfl, ⟨Or.inl rfl, ⟨Or.inl rfl, ⟨Or.inl rfl, ⟨Or.inl rfl, ⟨Or.inr rfl, trivial⟩⟩⟩⟩⟩⟩⟩ (ih H0 h)
    have h := ifF hc h
    refine x_iload dX3_auctionOff_62 rfl ?_
    refine x_istoren dX3_auctionOff_64 (Nat.le_of_ble_eq_true rfl) rfl rfl ?_
    refine x_iload dX3_auctionOff_65 rfl ?_
    refine x_istore dX3_auctionOff_67 (Nat.le_of_ble_eq_true rfl) rfl rfl ?_
    refine z_iinc 1 (by decide) dX3_auctionOff_69 rfl rfl rfl ?_
    refine x_goto 18 dX3_auctionOff_72 rfl ?_
    exact X.forget (L' := [.ref x0, .int x1, .int x2, .int x5, .int (if x2 < ((I (x0 + 4 + j6) 1) / 2) then x2 else ((I (x0 + 4 + j6) 1) / 2)), .int (x5 + 1), .retAddr 0]) ⟨Or.inl rfl, ⟨Or.inl rfl, ⟨Or.inl rfl, ⟨Or.inl rfl, ⟨Or.inl rfl, ⟨Or.inl rfl, ⟨Or.inr rfl, trivial⟩⟩⟩⟩⟩⟩⟩ (ih H0 h)
noncomputable def f_X3_auctionOff (I : Mem) (x0 : Nat) (x1 : Int32) : Option (Mem) := b1 (ix x1 16) fun j1 => b1 (f_X8_worth I (x0 + 15 + j1)) fun v2 => l_X3_auctionOff_18 FU I x0 x1 v2 (-1) 0 0
theorem c_X3_auctionOff (d : Nat) {K : Kt} {I : Mem} {x0 : Nat} (H0 : LM K x0) {x1 : Int32} {I9 : Mem} (h : f_X3_auctionOff I x0 x1 = some I9) : Ct (mX3_auctionOff (d + 2)) cX3_auctionOff 0 0 [.ref x0, .int x1] I K (Ro (.inl none) I9 K) := by
  refine Ct.of rfl pn_X3 (catR (catI cat0)) (Nat.le_of_ble_eq_true rfl) (show X _ _ _ _ _ _ 0 [.ref x0, .int x1, .retAddr 0, .retAddr 0, .retAddr 0, .retAddr 0, .retAddr 0] [] _ from ?_)
  unfold f_X3_auctionOff at h
  refine x_aloadn dX3_auctionOff_0 rfl ?_
  refine z_getR fs_X3_25 (LM.o H0) (LM.g2 H0) dX3_auctionOff_1 ?_
  refine x_iloadn dX3_auctionOff_4 rfl ?_
  obtain ⟨j1, hj1, h⟩ := b1_s h
  refine z_aald (LM.l2 H0) ⟨by decide, by decide⟩ hj1 (LM.w H0 (ix_s hj1).2.1) dX3_auctionOff_5 ?_
  obtain ⟨v2, h3, h⟩ := b1_s h
  refine z_V1 [] [] (cs_X3_164 _) (ci := 6) rfl (LM.wo H0 (ix_s hj1).2.1) (dep (show d + 1 + 0 + 1 ≤ (d + 2) from by omega) (Nat.le_of_ble_eq_true rfl)) dX3_auctionOff_6 rfl rfl (Nat.le_of_ble_eq_true rfl) (c_X8_worth (d + 1) (K := K) (I := I) (LM.wo H0 (ix_s hj1).2.1) h3) ?_
  refine x_istoren dX3_auctionOff_9 (Nat.le_of_ble_eq_true rfl) rfl rfl ?_
  refine x_iconst (-1) dX3_auctionOff_10 rfl ?_
  refine x_istoren dX3_auctionOff_11 (Nat.le_of_ble_eq_true rfl) rfl rfl ?_
  refine x_iconst 0 dX3_auctionOff_12 rfl ?_
  refine x_istore dX3_auctionOff_13 (Nat.le_of_ble_eq_true rfl) rfl rfl ?_
  refine x_iconst 0 dX3_auctionOff_15 rfl ?_
  refine x_istore dX3_auctionOff_16 (Nat.le_of_ble_eq_true rfl) rfl rfl ?_
  exact tl_X3_auctionOff_18 d FU H0 h
noncomputable def l_X3_mostValuableIn_4 (n : Nat) (I : Mem) (x0 : Nat) (x1 : Int32) (x2 : Int32) (x3 : Int32) : Option (Int32) := match n with
  | 0 => none
  | n + 1 => if (I x0 5) ≤ x3 then (some (x2)) else (b1 (ix x3 16) fun j1 => if (I (x0 + 15 + j1) 4) = x1 then (if x2 = (-1) then (l_X3_mostValuableIn_4 n I x0 x1 x3 (x3 + 1)) else (b1 (ix x3 16) fun j2 => b1 (f_X8_worth I (x0 + 15 + j2)) fun v3 => b1 (ix x2 16) fun j5 => b1 (f_X8_worth I (x0 + 15 + j5)) fun v6 => if v3 ≤ v6 then (l_X3_mostValuableIn_4 n I x0 x1 x2 (x3 + 1)) else (l_X3_mostValuableIn_4 n I x0 x1 x3 (x3 + 1)))) else (l_X3_mostValuableIn_4 n I x0 x1 x2 (x3 + 1)))
theorem tl_X3_mostValuableIn_4 (d : Nat) {K : Kt} (n : Nat) : ∀ {I : Mem} {x0 : Nat} (H0 : LM K x0) {x1 : Int32} {x2 : Int32} {x3 : Int32} {v : Int32}, l_X3_mostValuableIn_4 n I x0 x1 x2 x3 = some v → X (mX3_mostValuableIn (d + 1)) cX3_mostValuableIn 0 0 I K 4 [.ref x0, .int x1, .int x2, .int x3] [] (Ro (.inl (some (.int v))) I K) := by
  induction n with
  | zero =>
    intro I x0 H0 x1 x2 x3 v h
    cases h
  | succ n ih =>
    intro I x0 H0 x1 x2 x3 v h
    unfold l_X3_mostValuableIn_4 at h
    refine x_iloadn dX3_mostValuableIn_4 rfl ?_
    refine x_aloadn dX3_mostValuableIn_5 rfl ?_
    refine z_getI fs_X3_39 (LM.o H0) dX3_mostValuableIn_6 ?_
    refine x_icmp_ge 59 dX3_mostValuableIn_9 rfl (fun hc => ?_) (fun hc => ?_)
    · have h := ifT hc h
      refine x_iloadn dX3_mostValuableIn_59 rfl ?_
      cases h
      exact x_iret rfl dX3_mostValuableIn_60 ⟨rfl, rfl, rfl⟩
    have h := ifF hc h
    refine x_aloadn dX3_mostValuableIn_12 rfl ?_
    refine z_getR fs_X3_25 (LM.o H0) (LM.g2 H0) dX3_mostValuableIn_13 ?_
    refine x_iloadn dX3_mostValuableIn_16 rfl ?_
    obtain ⟨j1, hj1, h⟩ := b1_s h
    refine z_aald (LM.l2 H0) ⟨by decide, by decide⟩ hj1 (LM.w H0 (ix_s hj1).2.1) dX3_mostValuableIn_17 ?_
    refine z_getI fs_X3_79 (LM.wo H0 (ix_s hj1).2.1) dX3_mostValuableIn_18 ?_
    refine x_iloadn dX3_mostValuableIn_21 rfl ?_
    refine x_icmp_ne 53 dX3_mostValuableIn_22 rfl (fun hc => ?_) (fun hc => ?_)
    · have h := ifF hc h
      refine z_iinc 1 (by decide) dX3_mostValuableIn_53 rfl rfl rfl ?_
      refine x_goto 4 dX3_mostValuableIn_56 rfl ?_
      exact ih H0 h
    have h := ifT hc h
    refine x_iloadn dX3_mostValuableIn_25 rfl ?_
    refine x_iconst (-1) dX3_mostValuableIn_26 rfl ?_
    refine x_icmp_eq 51 dX3_mostValuableIn_27 rfl (fun hc => ?_) (fun hc => ?_)
    · have h := ifT hc h
      refine x_iloadn dX3_mostValuableIn_51 rfl ?_
      refine x_istoren dX3_mostValuableIn_52 (Nat.le_of_ble_eq_true rfl) rfl rfl ?_
      refine z_iinc 1 (by decide) dX3_mostValuableIn_53 rfl rfl rfl ?_
      refine x_goto 4 dX3_mostValuableIn_56 rfl ?_
      exact ih H0 h
    have h := ifF hc h
    refine x_aloadn dX3_mostValuableIn_30 rfl ?_
    refine z_getR fs_X3_25 (LM.o H0) (LM.g2 H0) dX3_mostValuableIn_31 ?_
    refine x_iloadn dX3_mostValuableIn_34 rfl ?_
    obtain ⟨j2, hj2, h⟩ := b1_s h
    refine z_aald (LM.l2 H0) ⟨by decide, by decide⟩ hj2 (LM.w H0 (ix_s hj2).2.1) dX3_mostValuableIn_35 ?_
    obtain ⟨v3, h4, h⟩ := b1_s h
    refine z_V1 [] [] (cs_X3_164 _) (ci := 6) rfl (LM.wo H0 (ix_s hj2).2.1) (dep (show d + 0 + 0 + 1 ≤ (d + 1) from by omega) (Nat.le_of_ble_eq_true rfl)) dX3_mostValuableIn_36 rfl rfl (Nat.le_of_ble_eq_true rfl) (c_X8_worth d (K := K) (I := I) (LM.wo H0 (ix_s hj2).2.1) h4) ?_
    refine x_aloadn dX3_mostValuableIn_39 rfl ?_
    refine z_getR fs_X3_25 (LM.o H0) (LM.g2 H0) dX3_mostValuableIn_40 ?_
    refine x_iloadn dX3_mostValuableIn_43 rfl ?_
    obtain ⟨j5, hj5, h⟩ := b1_s h
    refine z_aald (LM.l2 H0) ⟨by decide, by decide⟩ hj5 (LM.w H0 (ix_s hj5).2.1) dX3_mostValuableIn_44 ?_
    obtain ⟨v6, h7, h⟩ := b1_s h
    refine z_V1 [] [.int v3] (cs_X3_164 _) (ci := 6) rfl (LM.wo H0 (ix_s hj5).2.1) (dep (show d + 0 + 0 + 1 ≤ (d + 1) from by omega) (Nat.le_of_ble_eq_true rfl)) dX3_mostValuableIn_45 rfl rfl (Nat.le_of_ble_eq_true rfl) (c_X8_worth d (K := K) (I := I) (LM.wo H0 (ix_s hj5).2.1) h7) ?_
    refine x_icmp_le 53 dX3_mostValuableIn_48 rfl (fun hc => ?_) (fun hc => ?_)
    · have h := ifT hc h
      refine z_iinc 1 (by decide) dX3_mostValuableIn_53 rfl rfl rfl ?_
      refine x_goto 4 dX3_mostValuableIn_56 rfl ?_
      exact ih H0 h
    have h := ifF hc h
    refine x_iloadn dX3_mostValuableIn_51 rfl ?_
    refine x_istoren dX3_mostValuableIn_52 (Nat.le_of_ble_eq_true rfl) rfl rfl ?_
    refine z_iinc 1 (by decide) dX3_mostValuableIn_53 rfl rfl rfl ?_
    refine x_goto 4 dX3_mostValuableIn_56 rfl ?_
    exact ih H0 h
noncomputable def f_X3_mostValuableIn (I : Mem) (x0 : Nat) (x1 : Int32) : Option (Int32) := l_X3_mostValuableIn_4 FU I x0 x1 (-1) 0
theorem c_X3_mostValuableIn (d : Nat) {K : Kt} {I : Mem} {x0 : Nat} (H0 : LM K x0) {x1 : Int32} {v : Int32} (h : f_X3_mostValuableIn I x0 x1 = some v) : Ct (mX3_mostValuableIn (d + 1)) cX3_mostValuableIn 0 0 [.ref x0, .int x1] I K (Ro (.inl (some (.int v))) I K) := by
  refine Ct.of rfl pn_X3 (catR (catI cat0)) (Nat.le_of_ble_eq_true rfl) (show X _ _ _ _ _ _ 0 [.ref x0, .int x1, .retAddr 0, .retAddr 0] [] _ from ?_)
  unfold f_X3_mostValuableIn at h
  refine x_iconst (-1) dX3_mostValuableIn_0 rfl ?_
  refine x_istoren dX3_mostValuableIn_1 (Nat.le_of_ble_eq_true rfl) rfl rfl ?_
  refine x_iconst 0 dX3_mostValuableIn_2 rfl ?_
  refine x_istoren dX3_mostValuableIn_3 (Nat.le_of_ble_eq_true rfl) rfl rfl ?_
  exact tl_X3_mostValuableIn_4 d FU H0 h
noncomputable def l_X3_holdAuctions_2 (n : Nat) (I : Mem) (x0 : Nat) (x1 : Int32) : Option (Mem) := match n with
  | 0 => none
  | n + 1 => if (I x0 4) ≤ x1 then (some (I)) else (b1 (f_X3_mostValuableIn I x0 x1) fun v1 => if v1 = (-1) then (l_X3_holdAuctions_2 n I x0 (x1 + 1)) else (b1 (f_X3_auctionOff I x0 v1) fun I3 => l_X3_holdAuctions_2 n I3 x0 (x1 + 1)))
theorem tl_X3_holdAuctions_2 (d : Nat) {K : Kt} (n : Nat) : ∀ {I : Mem} {x0 : Nat} (H0 : LM K x0) {x1 : Int32} {I9 : Mem}, l_X3_holdAuctions_2 n I x0 x1 = some I9 → X (mX3_holdAuctions (d + 3)) cX3_holdAuctions 0 0 I K 2 [.ref x0, .int x1, .retAddr 0] [] (Ro (.inl none) I9 K) := by
  induction n with
  | zero =>
    intro I x0 H0 x1 I9 h
    cases h
  | succ n ih =>
    intro I x0 H0 x1 I9 h
    unfold l_X3_holdAuctions_2 at h
    refine x_iloadn dX3_holdAuctions_2 rfl ?_
    refine x_aloadn dX3_holdAuctions_3 rfl ?_
    refine z_getI fs_X3_36 (LM.o H0) dX3_holdAuctions_4 ?_
    refine x_icmp_ge 32 dX3_holdAuctions_7 rfl (fun hc => ?_) (fun hc => ?_)
    · have h := ifT hc h
      cases h
      exact x_vret rfl dX3_holdAuctions_32 ⟨rfl, rfl, rfl⟩
    have h := ifF hc h
    refine x_aloadn dX3_holdAuctions_10 rfl ?_
    refine x_iloadn dX3_holdAuctions_11 rfl ?_
    obtain ⟨v1, h2, h⟩ := b1_s h
    refine z_V1 [.int x1] [] (cs_X3_240 _) (ci := 1) rfl (LM.o H0) (dep (show d + 1 + 1 + 1 ≤ (d + 3) from by omega) (Nat.le_of_ble_eq_true rfl)) dX3_holdAuctions_12 rfl rfl (Nat.le_of_ble_eq_true rfl) (c_X3_mostValuableIn (d + 1) (K := K) (I := I) H0 h2) ?_
    refine x_istoren dX3_holdAuctions_15 (Nat.le_of_ble_eq_true rfl) rfl rfl ?_
    refine x_iloadn dX3_holdAuctions_16 rfl ?_
    refine x_iconst (-1) dX3_holdAuctions_17 rfl ?_
    refine x_icmp_eq 26 dX3_holdAuctions_18 rfl (fun hc => ?_) (fun hc => ?_)
    · have h := ifT hc h
      refine z_iinc 1 (by decide) dX3_holdAuctions_26 rfl rfl rfl ?_
      refine x_goto 2 dX3_holdAuctions_29 rfl ?_
      exact X.forget (L' := [.ref x0, .int (x1 + 1), .retAddr 0]) ⟨Or.inl rfl, ⟨Or.inl rfl, ⟨Or.inr rfl, trivial⟩⟩⟩ (ih H0 h)
    have h := ifF hc h
    refine x_aloadn dX3_holdAuctions_21 rfl ?_
    refine x_iloadn dX3_holdAuctions_22 rfl ?_
    obtain ⟨I3, h4, h⟩ := b1_s h
    refine z_V0 [.int v1] [] (cs_X3_243 _) (ci := 1) rfl (LM.o H0) (dep (show d + 0 + 2 + 1 ≤ (d + 3) from by omega) (Nat.le_of_ble_eq_true rfl)) dX3_holdAuctions_23 rfl rfl (Nat.le_of_ble_eq_true rfl) (c_X3_auctionOff d (K := K) (I := I) H0 h4) ?_
    refine z_iinc 1 (by decide) dX3_holdAuctions_26 rfl rfl rfl ?_
    refine x_goto 2 dX3_holdAuctions_29 rfl ?_
    exact X.forget (L' := [.ref x0, .int (x1 + 1), .retAddr 0]) ⟨Or.inl rfl, ⟨Or.inl rfl, ⟨Or.inr rfl, trivial⟩⟩⟩ (ih H0 h)
noncomputable def f_X3_holdAuctions (I : Mem) (x0 : Nat) : Option (Mem) := l_X3_holdAuctions_2 FU I x0 0
theorem c_X3_holdAuctions (d : Nat) {K : Kt} {I : Mem} {x0 : Nat} (H0 : LM K x0) {I9 : Mem} (h : f_X3_holdAuctions I x0 = some I9) : Ct (mX3_holdAuctions (d + 3)) cX3_holdAuctions 0 0 [.ref x0] I K (Ro (.inl none) I9 K) := by
  refine Ct.of rfl pn_X3 (catR cat0) (Nat.le_of_ble_eq_true rfl) (show X _ _ _ _ _ _ 0 [.ref x0, .retAddr 0, .retAddr 0] [] _ from ?_)
  unfold f_X3_holdAuctions at h
  refine x_iconst 0 dX3_holdAuctions_0 rfl ?_
  refine x_istoren dX3_holdAuctions_1 (Nat.le_of_ble_eq_true rfl) rfl rfl ?_
  exact tl_X3_holdAuctions_2 d FU H0 h
noncomputable def l_X3_shop_2 (n : Nat) (I : Mem) (x0 : Nat) (x1 : Int32) : Option (Mem) := match n with
  | 0 => none
  | n + 1 => if (I x0 3) ≤ x1 then (some (I)) else (b1 (ix x1 6) fun j1 => if (I (x0 + 4 + j1) 5) ≤ 0 then (l_X3_shop_2 n I x0 (x1 + 1)) else (b1 (ix x1 6) fun j2 => b1 (f_X3_cheapestFor I x0 x1 (I (x0 + 4 + j2) 5)) fun v3 => if v3 = (-1) then (l_X3_shop_2 n I x0 (x1 + 1)) else (b2 (f_X3_carryOutPurchase I x0 x1 v3) fun v5 I6 => l_X3_shop_2 n I6 x0 (x1 + 1))))
theorem tl_X3_shop_2 (d : Nat) {K : Kt} (n : Nat) : ∀ {I : Mem} {x0 : Nat} (H0 : LM K x0) {x1 : Int32} {I9 : Mem}, l_X3_shop_2 n I x0 x1 = some I9 → X (mX3_shop (d + 3)) cX3_shop 0 0 I K 2 [.ref x0, .int x1, .retAddr 0] [] (Ro (.inl none) I9 K) := by
  induction n with
  | zero =>
    intro I x0 H0 x1 I9 h
    cases h
  | succ n ih =>
    intro I x0 H0 x1 I9 h
    unfold l_X3_shop_2 at h
    refine x_iloadn dX3_shop_2 rfl ?_
    refine x_aloadn dX3_shop_3 rfl ?_
    refine z_getI fs_X3_32 (LM.o H0) dX3_shop_4 ?_
    refine x_icmp_ge 55 dX3_shop_7 rfl (fun hc => ?_) (fun hc => ?_)
    · have h := ifT hc h
      cases h
      exact x_vret rfl dX3_shop_55 ⟨rfl, rfl, rfl⟩
    have h := ifF hc h
    refine x_aloadn dX3_shop_10 rfl ?_
    refine z_getR fs_X3_11 (LM.o H0) (LM.g0 H0) dX3_shop_11 ?_
    refine x_iloadn dX3_shop_14 rfl ?_
    obtain ⟨j1, hj1, h⟩ := b1_s h
    refine z_aald (LM.l0 H0) ⟨by decide, by decide⟩ hj1 (LM.p H0 (ix_s hj1).2.1) dX3_shop_15 ?_
    refine z_getI fs_X3_219 (LM.po H0 (ix_s hj1).2.1) dX3_shop_16 ?_
    refine x_if_le 49 dX3_shop_19 rfl (fun hc => ?_) (fun hc => ?_)
    · have h := ifT hc h
      refine z_iinc 1 (by decide) dX3_shop_49 rfl rfl rfl ?_
      refine x_goto 2 dX3_shop_52 rfl ?_
      exact ih H0 h
    have h := ifF hc h
    refine x_aloadn dX3_shop_22 rfl ?_
    refine x_iloadn dX3_shop_23 rfl ?_
    refine x_aloadn dX3_shop_24 rfl ?_
    refine z_getR fs_X3_11 (LM.o H0) (LM.g0 H0) dX3_shop_25 ?_
    refine x_iloadn dX3_shop_28 rfl ?_
    obtain ⟨j2, hj2, h⟩ := b1_s h
    refine z_aald (LM.l0 H0) ⟨by decide, by decide⟩ hj2 (LM.p H0 (ix_s hj2).2.1) dX3_shop_29 ?_
    refine z_getI fs_X3_219 (LM.po H0 (ix_s hj2).2.1) dX3_shop_30 ?_
    obtain ⟨v3, h4, h⟩ := b1_s h
    refine z_V1 [.int x1, .int (I (x0 + 4 + j2) 5)] [] (cs_X3_222 _) (ci := 1) rfl (LM.o H0) (dep (show d + 0 + 2 + 1 ≤ (d + 3) from by omega) (Nat.le_of_ble_eq_true rfl)) dX3_shop_33 rfl rfl (Nat.le_of_ble_eq_true rfl) (c_X3_cheapestFor d (K := K) (I := I) H0 h4) ?_
    refine x_istoren dX3_shop_36 (Nat.le_of_ble_eq_true rfl) rfl rfl ?_
    refine x_iloadn dX3_shop_37 rfl ?_
    refine x_iconst (-1) dX3_shop_38 rfl ?_
    refine x_icmp_eq 49 dX3_shop_39 rfl (fun hc => ?_) (fun hc => ?_)
    · have h := ifT hc h
      refine z_iinc 1 (by decide) dX3_shop_49 rfl rfl rfl ?_
      refine x_goto 2 dX3_shop_52 rfl ?_
      exact X.forget (L' := [.ref x0, .int (x1 + 1), .retAddr 0]) ⟨Or.inl rfl, ⟨Or.inl rfl, ⟨Or.inr rfl, trivial⟩⟩⟩ (ih H0 h)
    have h := ifF hc h
    refine x_aloadn dX3_shop_42 rfl ?_
    refine x_iloadn dX3_shop_43 rfl ?_
    refine x_iloadn dX3_shop_44 rfl ?_
    obtain ⟨v5, I6, h7, h⟩ := b2_s h
    refine z_V1 [.int x1, .int v3] [] (cs_X3_225 _) (ci := 1) rfl (LM.o H0) (dep (show d + 0 + 2 + 1 ≤ (d + 3) from by omega) (Nat.le_of_ble_eq_true rfl)) dX3_shop_45 rfl rfl (Nat.le_of_ble_eq_true rfl) (c_X3_carryOutPurchase d (K := K) (I := I) H0 h7) ?_
    refine x_pop dX3_shop_48 rfl ?_
    refine z_iinc 1 (by decide) dX3_shop_49 rfl rfl rfl ?_
    refine x_goto 2 dX3_shop_52 rfl ?_
    exact X.forget (L' := [.ref x0, .int (x1 + 1), .retAddr 0]) ⟨Or.inl rfl, ⟨Or.inl rfl, ⟨Or.inr rfl, trivial⟩⟩⟩ (ih H0 h)
noncomputable def f_X3_shop (I : Mem) (x0 : Nat) : Option (Mem) := l_X3_shop_2 FU I x0 0
theorem c_X3_shop (d : Nat) {K : Kt} {I : Mem} {x0 : Nat} (H0 : LM K x0) {I9 : Mem} (h : f_X3_shop I x0 = some I9) : Ct (mX3_shop (d + 3)) cX3_shop 0 0 [.ref x0] I K (Ro (.inl none) I9 K) := by
  refine Ct.of rfl pn_X3 (catR cat0) (Nat.le_of_ble_eq_true rfl) (show X _ _ _ _ _ _ 0 [.ref x0, .retAddr 0, .retAddr 0] [] _ from ?_)
  unfold f_X3_shop at h
  refine x_iconst 0 dX3_shop_0 rfl ?_
  refine x_istoren dX3_shop_1 (Nat.le_of_ble_eq_true rfl) rfl rfl ?_
  exact tl_X3_shop_2 d FU H0 h
noncomputable def l_X3_simulate_54 (c4 : Mem → Nat → Int32 → Int32 → Int32 → Option (Int32 × Mem)) (I : Mem) (x0 : Nat) (x1 : Int32) (x2 : Int32) (x3 : Int32) : Option (Int32 × Mem) := b1 (f_X3_endDay I x0) fun I12 => c4 I12 x0 x1 x2 (x3 + 1)
theorem tl_X3_simulate_54 (d : Nat) {K : Kt} {c4 : Mem → Nat → Int32 → Int32 → Int32 → Option (Int32 × Mem)} (hc4 : ∀ {I : Mem} {x0 : Nat} (H0 : LM K x0) {x1 : Int32} {x2 : Int32} {x3 : Int32} {v : Int32} {I9 : Mem}, c4 I x0 x1 x2 x3 = some (v, I9) → X (mX3_simulate (d + 4)) cX3_simulate 0 0 I K 4 [.ref x0, .int x1, .int x2, .int x3] [] (Ro (.inl (some (.int v))) I9 K)) : ∀ {I : Mem} {x0 : Nat} (H0 : LM K x0) {x1 : Int32} {x2 : Int32} {x3 : Int32} {v : Int32} {I9 : Mem}, l_X3_simulate_54 c4 I x0 x1 x2 x3 = some (v, I9) → X (mX3_simulate (d + 4)) cX3_simulate 0 0 I K 54 [.ref x0, .int x1, .int x2, .int x3] [] (Ro (.inl (some (.int v))) I9 K) := by
  intro I x0 H0 x1 x2 x3 v I9 h
  unfold l_X3_simulate_54 at h
  refine x_aloadn dX3_simulate_54 rfl ?_
  obtain ⟨I12, h13, h⟩ := b1_s h
  refine z_V0 [] [] (cs_X3_207 _) (ci := 1) rfl (LM.o H0) (dep (show d + 1 + 2 + 1 ≤ (d + 4) from by omega) (Nat.le_of_ble_eq_true rfl)) dX3_simulate_55 rfl rfl (Nat.le_of_ble_eq_true rfl) (c_X3_endDay (d + 1) (K := K) (I := I) H0 h13) ?_
  refine z_iinc 1 (by decide) dX3_simulate_58 rfl rfl rfl ?_
  refine x_goto 4 dX3_simulate_61 rfl ?_
  exact hc4 H0 h
noncomputable def l_X3_simulate_39 (c4 : Mem → Nat → Int32 → Int32 → Int32 → Option (Int32 × Mem)) (I : Mem) (x0 : Nat) (x1 : Int32) (x2 : Int32) (x3 : Int32) : Option (Int32 × Mem) := b1 (f_X3_today I x0) fun v10 => if v10 = (I x0 11) then (b1 (f_X3_collectTaxes I x0) fun I14 => l_X3_simulate_54 c4 I14 x0 x1 x2 x3) else (l_X3_simulate_54 c4 I x0 x1 x2 x3)
theorem tl_X3_simulate_39 (d : Nat) {K : Kt} {c4 : Mem → Nat → Int32 → Int32 → Int32 → Option (Int32 × Mem)} (hc4 : ∀ {I : Mem} {x0 : Nat} (H0 : LM K x0) {x1 : Int32} {x2 : Int32} {x3 : Int32} {v : Int32} {I9 : Mem}, c4 I x0 x1 x2 x3 = some (v, I9) → X (mX3_simulate (d + 4)) cX3_simulate 0 0 I K 4 [.ref x0, .int x1, .int x2, .int x3] [] (Ro (.inl (some (.int v))) I9 K)) : ∀ {I : Mem} {x0 : Nat} (H0 : LM K x0) {x1 : Int32} {x2 : Int32} {x3 : Int32} {v : Int32} {I9 : Mem}, l_X3_simulate_39 c4 I x0 x1 x2 x3 = some (v, I9) → X (mX3_simulate (d + 4)) cX3_simulate 0 0 I K 39 [.ref x0, .int x1, .int x2, .int x3] [] (Ro (.inl (some (.int v))) I9 K) := by
  intro I x0 H0 x1 x2 x3 v I9 h
  unfold l_X3_simulate_39 at h
  refine x_aloadn dX3_simulate_39 rfl ?_
  obtain ⟨v10, h11, h⟩ := b1_s h
  refine z_V1 [] [] (cs_X3_148 _) (ci := 1) rfl (LM.o H0) (dep (show d + 3 + 0 + 1 ≤ (d + 4) from by omega) (Nat.le_of_ble_eq_true rfl)) dX3_simulate_40 rfl rfl (Nat.le_of_ble_eq_true rfl) (c_X3_today (d + 3) (K := K) (I := I) H0 h11) ?_
  refine x_aloadn dX3_simulate_43 rfl ?_
  refine z_getI fs_X3_57 (LM.o H0) dX3_simulate_44 ?_
  refine x_icmp_ne 54 dX3_simulate_47 rfl (fun hc => ?_) (fun hc => ?_)
  · have h := ifF hc h
    exact tl_X3_simulate_54 d hc4 H0 h
  have h := ifT hc h
  refine x_aloadn dX3_simulate_50 rfl ?_
  obtain ⟨I14, h15, h⟩ := b1_s h
  refine z_V0 [] [] (cs_X3_204 _) (ci := 1) rfl (LM.o H0) (dep (show d + 2 + 1 + 1 ≤ (d + 4) from by omega) (Nat.le_of_ble_eq_true rfl)) dX3_simulate_51 rfl rfl (Nat.le_of_ble_eq_true rfl) (c_X3_collectTaxes (d + 2) (K := K) (I := I) H0 h15) ?_
  exact tl_X3_simulate_54 d hc4 H0 h
noncomputable def l_X3_simulate_4 (n : Nat) (I : Mem) (x0 : Nat) (x1 : Int32) (x2 : Int32) (x3 : Int32) : Option (Int32 × Mem) := match n with
  | 0 => none
  | n + 1 => if x1 ≤ x3 then (some (x2, I)) else (b2 (f_X3_celebrate I x0) fun v1 I2 => b1 (f_X3_shop I2 x0) fun I4 => b1 (f_X3_bargain I4 x0) fun I6 => b1 (f_X3_today I6 x0) fun v8 => if v8 = (I6 x0 10) then (b1 (f_X3_holdAuctions I6 x0) fun I16 => l_X3_simulate_39 (l_X3_simulate_4 n) I16 x0 x1 (x2 + v1) x3) else (l_X3_simulate_39 (l_X3_simulate_4 n) I6 x0 x1 (x2 + v1) x3))
theorem tl_X3_simulate_4 (d : Nat) {K : Kt} (n : Nat) : ∀ {I : Mem} {x0 : Nat} (H0 : LM K x0) {x1 : Int32} {x2 : Int32} {x3 : Int32} {v : Int32} {I9 : Mem}, l_X3_simulate_4 n I x0 x1 x2 x3 = some (v, I9) → X (mX3_simulate (d + 4)) cX3_simulate 0 0 I K 4 [.ref x0, .int x1, .int x2, .int x3] [] (Ro (.inl (some (.int v))) I9 K) := by
  induction n with
  | zero =>
    intro I x0 H0 x1 x2 x3 v I9 h
    cases h
  | succ n ih =>
    intro I x0 H0 x1 x2 x3 v I9 h
    unfold l_X3_simulate_4 at h
    refine x_iloadn dX3_simulate_4 rfl ?_
    refine x_iloadn dX3_simulate_5 rfl ?_
    refine x_icmp_ge 64 dX3_simulate_6 rfl (fun hc => ?_) (fun hc => ?_)
    · have h := ifT hc h
      refine x_iloadn dX3_simulate_64 rfl ?_
      cases h
      exact x_iret rfl dX3_simulate_65 ⟨rfl, rfl, rfl⟩
    have h := ifF hc h
    refine x_iloadn dX3_simulate_9 rfl ?_
    refine x_aloadn dX3_simulate_10 rfl ?_
    obtain ⟨v1, I2, h3, h⟩ := b2_s h
    refine z_V1 [] [.int x2] (cs_X3_192 _) (ci := 1) rfl (LM.o H0) (dep (show d + 0 + 3 + 1 ≤ (d + 4) from by omega) (Nat.le_of_ble_eq_true rfl)) dX3_simulate_11 rfl rfl (Nat.le_of_ble_eq_true rfl) (c_X3_celebrate d (K := K) (I := I) H0 h3) ?_
    refine x_iadd dX3_simulate_14 ?_
    refine x_istoren dX3_simulate_15 (Nat.le_of_ble_eq_true rfl) rfl rfl ?_
    refine x_aloadn dX3_simulate_16 rfl ?_
    obtain ⟨I4, h5, h⟩ := b1_s h
    refine z_V0 [] [] (cs_X3_195 _) (ci := 1) rfl (LM.o H0) (dep (show d + 0 + 3 + 1 ≤ (d + 4) from by omega) (Nat.le_of_ble_eq_true rfl)) dX3_simulate_17 rfl rfl (Nat.le_of_ble_eq_true rfl) (c_X3_shop d (K := K) (I := I2) H0 h5) ?_
    refine x_aloadn dX3_simulate_20 rfl ?_
    obtain ⟨I6, h7, h⟩ := b1_s h
    refine z_V0 [] [] (cs_X3_198 _) (ci := 1) rfl (LM.o H0) (dep (show d + 0 + 3 + 1 ≤ (d + 4) from by omega) (Nat.le_of_ble_eq_true rfl)) dX3_simulate_21 rfl rfl (Nat.le_of_ble_eq_true rfl) (c_X3_bargain d (K := K) (I := I4) H0 h7) ?_
    refine x_aloadn dX3_simulate_24 rfl ?_
    obtain ⟨v8, h9, h⟩ := b1_s h
    refine z_V1 [] [] (cs_X3_148 _) (ci := 1) rfl (LM.o H0) (dep (show d + 3 + 0 + 1 ≤ (d + 4) from by omega) (Nat.le_of_ble_eq_true rfl)) dX3_simulate_25 rfl rfl (Nat.le_of_ble_eq_true rfl) (c_X3_today (d + 3) (K := K) (I := I6) H0 h9) ?_
    refine x_aloadn dX3_simulate_28 rfl ?_
    refine z_getI fs_X3_54 (LM.o H0) dX3_simulate_29 ?_
    refine x_icmp_ne 39 dX3_simulate_32 rfl (fun hc => ?_) (fun hc => ?_)
    · have h := ifF hc h
      exact tl_X3_simulate_39 d ih H0 h
    have h := ifT hc h
    refine x_aloadn dX3_simulate_35 rfl ?_
    obtain ⟨I16, h17, h⟩ := b1_s h
    refine z_V0 [] [] (cs_X3_201 _) (ci := 1) rfl (LM.o H0) (dep (show d + 0 + 3 + 1 ≤ (d + 4) from by omega) (Nat.le_of_ble_eq_true rfl)) dX3_simulate_36 rfl rfl (Nat.le_of_ble_eq_true rfl) (c_X3_holdAuctions d (K := K) (I := I6) H0 h17) ?_
    exact tl_X3_simulate_39 d ih H0 h
noncomputable def f_X3_simulate (I : Mem) (x0 : Nat) (x1 : Int32) : Option (Int32 × Mem) := l_X3_simulate_4 FU I x0 x1 0 0
theorem c_X3_simulate (d : Nat) {K : Kt} {I : Mem} {x0 : Nat} (H0 : LM K x0) {x1 : Int32} {v : Int32} {I9 : Mem} (h : f_X3_simulate I x0 x1 = some (v, I9)) : Ct (mX3_simulate (d + 4)) cX3_simulate 0 0 [.ref x0, .int x1] I K (Ro (.inl (some (.int v))) I9 K) := by
  refine Ct.of rfl pn_X3 (catR (catI cat0)) (Nat.le_of_ble_eq_true rfl) (show X _ _ _ _ _ _ 0 [.ref x0, .int x1, .retAddr 0, .retAddr 0] [] _ from ?_)
  unfold f_X3_simulate at h
  refine x_iconst 0 dX3_simulate_0 rfl ?_
  refine x_istoren dX3_simulate_1 (Nat.le_of_ble_eq_true rfl) rfl rfl ?_
  refine x_iconst 0 dX3_simulate_2 rfl ?_
  refine x_istoren dX3_simulate_3 (Nat.le_of_ble_eq_true rfl) rfl rfl ?_
  exact tl_X3_simulate_4 d FU H0 h
