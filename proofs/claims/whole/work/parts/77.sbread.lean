noncomputable def f_J1_canEncode_fc78d (x0 : Int32) : Option (Int32) := if 255 < x0 then (some (0)) else (some (1))
theorem c_J1_canEncode_fc78d (d : Nat) {K : Kt} {I : Mem} {x0 : Int32} {v : Int32} (h : f_J1_canEncode_fc78d x0 = some v) : Ct (mJ1_canEncode_fc78d d) cJ1_canEncode_fc78d 0 0 [.int x0] I K (Ro (.inl (some (.int v))) I K) := by
  refine Ct.of rfl pn_J1 (catI cat0) (Nat.le_of_ble_eq_true rfl) (show X _ _ _ _ _ _ 0 [.int x0] [] _ from ?_)
  unfold f_J1_canEncode_fc78d at h
  refine x_iloadn dJ1_canEncode_fc78d_0 rfl ?_
  refine x_sipush 255 dJ1_canEncode_fc78d_1 rfl ?_
  refine x_icmp_gt 11 dJ1_canEncode_fc78d_4 rfl (fun hc => ?_) (fun hc => ?_)
  · have h := ifT hc h
    refine x_iconst 0 dJ1_canEncode_fc78d_11 rfl ?_
    cases h
    exact x_zret rfl rfl dJ1_canEncode_fc78d_12 ⟨rfl, rfl, rfl⟩
  have h := ifF hc h
  refine x_iconst 1 dJ1_canEncode_fc78d_7 rfl ?_
  refine x_goto 12 dJ1_canEncode_fc78d_8 rfl ?_
  cases h
  exact x_zret rfl rfl dJ1_canEncode_fc78d_12 ⟨rfl, rfl, rfl⟩
noncomputable def l_J8_newLength_cabcc_21 (x0 : Int32) (x1 : Int32) : Option (Int32) := none
theorem tl_J8_newLength_cabcc_21 (d : Nat) {K : Kt} : ∀ {I : Mem} {x0 : Int32} {x1 : Int32} {v : Int32}, l_J8_newLength_cabcc_21 x0 x1 = some v → X (mJ8_newLength_cabcc (d + 1)) cJ8_newLength_cabcc 0 0 I K 21 [.int x0, .int x1, .retAddr 0, .retAddr 0] [] (Ro (.inl (some (.int v))) I K) := by
  intro I x0 x1 v h
  unfold l_J8_newLength_cabcc_21 at h
  refine x_iloadn dJ8_newLength_cabcc_21 rfl ?_
  refine x_iloadn dJ8_newLength_cabcc_22 rfl ?_
  cases h
noncomputable def f_J8_newLength_cabcc (x0 : Int32) (x1 : Int32) (x2 : Int32) : Option (Int32) := if (x0 + (if x1 < x2 then x2 else x1)) ≤ 0 then (l_J8_newLength_cabcc_21 x0 x1) else (if 2147483639 < (x0 + (if x1 < x2 then x2 else x1)) then (l_J8_newLength_cabcc_21 x0 x1) else (some ((x0 + (if x1 < x2 then x2 else x1)))))
theorem c_J8_newLength_cabcc (d : Nat) {K : Kt} {I : Mem} {x0 : Int32} {x1 : Int32} {x2 : Int32} {v : Int32} (h : f_J8_newLength_cabcc x0 x1 x2 = some v) : Ct (mJ8_newLength_cabcc (d + 1)) cJ8_newLength_cabcc 0 0 [.int x0, .int x1, .int x2] I K (Ro (.inl (some (.int v))) I K) := by
  refine Ct.of rfl pn_J8 (catI (catI (catI cat0))) (Nat.le_of_ble_eq_true rfl) (show X _ _ _ _ _ _ 0 [.int x0, .int x1, .int x2, .retAddr 0] [] _ from ?_)
  unfold f_J8_newLength_cabcc at h
  refine x_iloadn dJ8_newLength_cabcc_0 rfl ?_
  refine x_iloadn dJ8_newLength_cabcc_1 rfl ?_
  refine x_iloadn dJ8_newLength_cabcc_2 rfl ?_
  refine x_mmax ms_J8_194 (Nat.le_of_ble_eq_true rfl) (by show 1 ≤ (d + 1); omega) dJ8_newLength_cabcc_3 ?_
  refine x_iadd dJ8_newLength_cabcc_6 ?_
  refine x_istoren dJ8_newLength_cabcc_7 (Nat.le_of_ble_eq_true rfl) rfl rfl ?_
  refine x_iconst 0 dJ8_newLength_cabcc_8 rfl ?_
  refine x_iloadn dJ8_newLength_cabcc_9 rfl ?_
  refine x_icmp_ge 21 dJ8_newLength_cabcc_10 rfl (fun hc => ?_) (fun hc => ?_)
  · have h := ifT hc h
    exact X.forget (L' := [.int x0, .int x1, .retAddr 0, .retAddr 0]) ⟨Or.inl rfl, ⟨Or.inl rfl, ⟨Or.inr rfl, ⟨Or.inr rfl, trivial⟩⟩⟩⟩ (tl_J8_newLength_cabcc_21 d h)
  have h := ifF hc h
  refine x_iloadn dJ8_newLength_cabcc_13 rfl ?_
  refine x_ldc 2147483639 (show Cond.constant RJ8 200 2147483639 ∈ wsG from inT6 198 rfl rfl) dJ8_newLength_cabcc_14 ?_
  refine x_icmp_gt 21 dJ8_newLength_cabcc_16 rfl (fun hc => ?_) (fun hc => ?_)
  · have h := ifT hc h
    exact X.forget (L' := [.int x0, .int x1, .retAddr 0, .retAddr 0]) ⟨Or.inl rfl, ⟨Or.inl rfl, ⟨Or.inr rfl, ⟨Or.inr rfl, trivial⟩⟩⟩⟩ (tl_J8_newLength_cabcc_21 d h)
  have h := ifF hc h
  refine x_iloadn dJ8_newLength_cabcc_19 rfl ?_
  cases h
  exact x_iret rfl dJ8_newLength_cabcc_20 ⟨rfl, rfl, rfl⟩
noncomputable def l_J6_stringSize_0f7a4_16 (n : Nat) (x0 : Int32) (x1 : Int32) (x2 : Int32) (x3 : Int32) : Option (Int32) := match n with
  | 0 => none
  | n + 1 => if 10 ≤ x3 then (some ((10 + x1))) else (if x0 ≤ x2 then (l_J6_stringSize_0f7a4_16 n x0 x1 (10 * x2) (x3 + 1)) else (some ((x3 + x1))))
theorem tl_J6_stringSize_0f7a4_16 (d : Nat) {K : Kt} (n : Nat) : ∀ {I : Mem} {x0 : Int32} {x1 : Int32} {x2 : Int32} {x3 : Int32} {v : Int32}, l_J6_stringSize_0f7a4_16 n x0 x1 x2 x3 = some v → X (mJ6_stringSize_0f7a4 d) cJ6_stringSize_0f7a4 0 0 I K 16 [.int x0, .int x1, .int x2, .int x3] [] (Ro (.inl (some (.int v))) I K) := by
  induction n with
  | zero =>
    intro I x0 x1 x2 x3 v h
    cases h
  | succ n ih =>
    intro I x0 x1 x2 x3 v h
    unfold l_J6_stringSize_0f7a4_16 at h
    refine x_iloadn dJ6_stringSize_0f7a4_16 rfl ?_
    refine x_bipush 10 dJ6_stringSize_0f7a4_17 rfl ?_
    refine x_icmp_ge 42 dJ6_stringSize_0f7a4_19 rfl (fun hc => ?_) (fun hc => ?_)
    · have h := ifT hc h
      refine x_bipush 10 dJ6_stringSize_0f7a4_42 rfl ?_
      refine x_iloadn dJ6_stringSize_0f7a4_44 rfl ?_
      refine x_iadd dJ6_stringSize_0f7a4_45 ?_
      cases h
      exact x_iret rfl dJ6_stringSize_0f7a4_46 ⟨rfl, rfl, rfl⟩
    have h := ifF hc h
    refine x_iloadn dJ6_stringSize_0f7a4_22 rfl ?_
    refine x_iloadn dJ6_stringSize_0f7a4_23 rfl ?_
    refine x_icmp_le 31 dJ6_stringSize_0f7a4_24 rfl (fun hc => ?_) (fun hc => ?_)
    · have h := ifT hc h
      refine x_bipush 10 dJ6_stringSize_0f7a4_31 rfl ?_
      refine x_iloadn dJ6_stringSize_0f7a4_33 rfl ?_
      refine x_imul dJ6_stringSize_0f7a4_34 ?_
      refine x_istoren dJ6_stringSize_0f7a4_35 (Nat.le_of_ble_eq_true rfl) rfl rfl ?_
      refine z_iinc 1 (by decide) dJ6_stringSize_0f7a4_36 rfl rfl rfl ?_
      refine x_goto 16 dJ6_stringSize_0f7a4_39 rfl ?_
      exact ih h
    have h := ifF hc h
    refine x_iloadn dJ6_stringSize_0f7a4_27 rfl ?_
    refine x_iloadn dJ6_stringSize_0f7a4_28 rfl ?_
    refine x_iadd dJ6_stringSize_0f7a4_29 ?_
    cases h
    exact x_iret rfl dJ6_stringSize_0f7a4_30 ⟨rfl, rfl, rfl⟩
noncomputable def f_J6_stringSize_0f7a4 (x0 : Int32) : Option (Int32) := if x0 < 0 then (l_J6_stringSize_0f7a4_16 FU x0 1 (-10) 1) else (l_J6_stringSize_0f7a4_16 FU (-x0) 0 (-10) 1)
theorem c_J6_stringSize_0f7a4 (d : Nat) {K : Kt} {I : Mem} {x0 : Int32} {v : Int32} (h : f_J6_stringSize_0f7a4 x0 = some v) : Ct (mJ6_stringSize_0f7a4 d) cJ6_stringSize_0f7a4 0 0 [.int x0] I K (Ro (.inl (some (.int v))) I K) := by
  refine Ct.of rfl pn_J6 (catI cat0) (Nat.le_of_ble_eq_true rfl) (show X _ _ _ _ _ _ 0 [.int x0, .retAddr 0, .retAddr 0, .retAddr 0] [] _ from ?_)
  unfold f_J6_stringSize_0f7a4 at h
  refine x_iconst 1 dJ6_stringSize_0f7a4_0 rfl ?_
  refine x_istoren dJ6_stringSize_0f7a4_1 (Nat.le_of_ble_eq_true rfl) rfl rfl ?_
  refine x_iloadn dJ6_stringSize_0f7a4_2 rfl ?_
  refine x_if_lt 11 dJ6_stringSize_0f7a4_3 rfl (fun hc => ?_) (fun hc => ?_)
  · have h := ifT hc h
    refine x_bipush (-10) dJ6_stringSize_0f7a4_11 rfl ?_
    refine x_istoren dJ6_stringSize_0f7a4_13 (Nat.le_of_ble_eq_true rfl) rfl rfl ?_
    refine x_iconst 1 dJ6_stringSize_0f7a4_14 rfl ?_
    refine x_istoren dJ6_stringSize_0f7a4_15 (Nat.le_of_ble_eq_true rfl) rfl rfl ?_
    exact tl_J6_stringSize_0f7a4_16 d FU h
  have h := ifF hc h
  refine x_iconst 0 dJ6_stringSize_0f7a4_6 rfl ?_
  refine x_istoren dJ6_stringSize_0f7a4_7 (Nat.le_of_ble_eq_true rfl) rfl rfl ?_
  refine x_iloadn dJ6_stringSize_0f7a4_8 rfl ?_
  refine x_ineg dJ6_stringSize_0f7a4_9 ?_
  refine x_istoren dJ6_stringSize_0f7a4_10 (Nat.le_of_ble_eq_true rfl) rfl rfl ?_
  refine x_bipush (-10) dJ6_stringSize_0f7a4_11 rfl ?_
  refine x_istoren dJ6_stringSize_0f7a4_13 (Nat.le_of_ble_eq_true rfl) rfl rfl ?_
  refine x_iconst 1 dJ6_stringSize_0f7a4_14 rfl ?_
  refine x_istoren dJ6_stringSize_0f7a4_15 (Nat.le_of_ble_eq_true rfl) rfl rfl ?_
  exact tl_J6_stringSize_0f7a4_16 d FU h
noncomputable def l_J6_getChars_ba4f3_104 (I : Mem) (x2 : Nat) (n2 : Nat) (x5 : Int32) (x6 : Int32) : Option (Int32 × Mem) := if x6 = 0 then (some (x5, I)) else (b1 (ix (x5 + (-1)) n2) fun j4 => b1 (pu I x2 j4 (vp_nar .byte 45)) fun I5 => some ((x5 + (-1)), I5))
theorem tl_J6_getChars_ba4f3_104 (d : Nat) {K : Kt} : ∀ {I : Mem} {x2 : Nat} {n2 : Nat} (H2 : LA K 101 n2 x2) {x5 : Int32} {x6 : Int32} {v : Int32} {I9 : Mem}, l_J6_getChars_ba4f3_104 I x2 n2 x5 x6 = some (v, I9) → X (mJ6_getChars_ba4f3 d) cJ6_getChars_ba4f3 0 0 I K 104 [.retAddr 0, .retAddr 0, .ref x2, .retAddr 0, .retAddr 0, .int x5, .int x6] [] (Ro (.inl (some (.int v))) I9 K) := by
  intro I x2 n2 H2 x5 x6 v I9 h
  unfold l_J6_getChars_ba4f3_104 at h
  refine x_iload dJ6_getChars_ba4f3_104 rfl ?_
  refine x_if_eq 118 dJ6_getChars_ba4f3_106 rfl (fun hc => ?_) (fun hc => ?_)
  · have h := ifT hc h
    refine x_iload dJ6_getChars_ba4f3_118 rfl ?_
    obtain ⟨rfl, rfl⟩ := Prod.mk.inj (Option.some.inj h)
    exact x_iret rfl dJ6_getChars_ba4f3_120 ⟨rfl, rfl, rfl⟩
  have h := ifF hc h
  refine x_aloadn dJ6_getChars_ba4f3_109 rfl ?_
  refine z_iinc (-1) (by decide) dJ6_getChars_ba4f3_110 rfl rfl rfl ?_
  refine x_iload dJ6_getChars_ba4f3_113 rfl ?_
  refine x_bipush 45 dJ6_getChars_ba4f3_115 rfl ?_
  obtain ⟨j4, hj4, h⟩ := b1_s h
  obtain ⟨I5, hI5, h⟩ := b1_s h
  refine z_bast H2 hj4 hI5 dJ6_getChars_ba4f3_117 ?_
  refine x_iload dJ6_getChars_ba4f3_118 rfl ?_
  obtain ⟨rfl, rfl⟩ := Prod.mk.inj (Option.some.inj h)
  exact x_iret rfl dJ6_getChars_ba4f3_120 ⟨rfl, rfl, rfl⟩
noncomputable def l_J6_getChars_ba4f3_22 (n : Nat) (I : Mem) (x0 : Int32) (x2 : Nat) (n2 : Nat) (x5 : Int32) (x6 : Int32) : Option (Int32 × Mem) := match n with
  | 0 => none
  | n + 1 => if (-100) < x0 then (b1 (ix (-x0) 100) fun j1 => b1 (ix (x5 + (-1)) n2) fun j2 => b1 (pu I x2 j2 (vp_nar .byte (nI (48 + j1 % 10)))) fun I3 => if (-9) ≤ x0 then (l_J6_getChars_ba4f3_104 I3 x2 n2 (x5 + (-1)) x6) else (b1 (ix (-x0) 100) fun j6 => b1 (ix ((x5 + (-1)) + (-1)) n2) fun j7 => b1 (pu I3 x2 j7 (vp_nar .byte (nI (48 + j6 / 10)))) fun I8 => l_J6_getChars_ba4f3_104 I8 x2 n2 ((x5 + (-1)) + (-1)) x6)) else (b1 (ix (((x0 / 100) * 100) - x0) 100) fun j9 => b1 (ix (x5 + (-1)) n2) fun j10 => b1 (pu I x2 j10 (vp_nar .byte (nI (48 + j9 % 10)))) fun I11 => b1 (ix (((x0 / 100) * 100) - x0) 100) fun j12 => b1 (ix ((x5 + (-1)) + (-1)) n2) fun j13 => b1 (pu I11 x2 j13 (vp_nar .byte (nI (48 + j12 / 10)))) fun I14 => l_J6_getChars_ba4f3_22 n I14 (x0 / 100) x2 n2 ((x5 + (-1)) + (-1)) x6)
theorem tl_J6_getChars_ba4f3_22 (d : Nat) {K : Kt} (n : Nat) : ∀ {I : Mem} {x0 : Int32} {x2 : Nat} {n2 : Nat} (H2 : LA K 101 n2 x2) {x5 : Int32} {x6 : Int32} {v : Int32} {I9 : Mem}, l_J6_getChars_ba4f3_22 n I x0 x2 n2 x5 x6 = some (v, I9) → X (mJ6_getChars_ba4f3 d) cJ6_getChars_ba4f3 0 0 I K 22 [.int x0, .retAddr 0, .ref x2, .retAddr 0, .retAddr 0, .int x5, .int x6] [] (Ro (.inl (some (.int v))) I9 K) := by
  induction n with
  | zero =>
    intro I x0 x2 n2 H2 x5 x6 v I9 h
    cases h
  | succ n ih =>
    intro I x0 x2 n2 H2 x5 x6 v I9 h
    unfold l_J6_getChars_ba4f3_22 at h
    refine x_iloadn dJ6_getChars_ba4f3_22 rfl ?_
    refine x_bipush (-100) dJ6_getChars_ba4f3_23 rfl ?_
    refine x_icmp_gt 72 dJ6_getChars_ba4f3_25 rfl (fun hc => ?_) (fun hc => ?_)
    · have h := ifT hc h
      refine x_aloadn dJ6_getChars_ba4f3_72 rfl ?_
      refine z_iinc (-1) (by decide) dJ6_getChars_ba4f3_73 rfl rfl rfl ?_
      refine x_iload dJ6_getChars_ba4f3_76 rfl ?_
      refine x_gsOnes (show Cond.fieldLink RJ6 83 "java/lang/Integer" "DigitOnes" "[B" ∈ wsG from inT7 45 rfl rfl) dJ6_getChars_ba4f3_78 ?_
      refine x_iloadn dJ6_getChars_ba4f3_81 rfl ?_
      refine x_ineg dJ6_getChars_ba4f3_82 ?_
      obtain ⟨j1, hj1, h⟩ := b1_s h
      refine x_ones hj1 dJ6_getChars_ba4f3_83 ?_
      obtain ⟨j2, hj2, h⟩ := b1_s h
      obtain ⟨I3, hI3, h⟩ := b1_s h
      refine z_bast H2 hj2 hI3 dJ6_getChars_ba4f3_84 ?_
      refine x_iloadn dJ6_getChars_ba4f3_85 rfl ?_
      refine x_bipush (-9) dJ6_getChars_ba4f3_86 rfl ?_
      refine x_icmp_ge 104 dJ6_getChars_ba4f3_88 rfl (fun hc => ?_) (fun hc => ?_)
      · have h := ifT hc h
        exact X.forget (L' := [.retAddr 0, .retAddr 0, .ref x2, .retAddr 0, .retAddr 0, .int (x5 + (-1)), .int x6]) ⟨Or.inr rfl, ⟨Or.inl rfl, ⟨Or.inl rfl, ⟨Or.inl rfl, ⟨Or.inl rfl, ⟨Or.inl rfl, ⟨Or.inl rfl, trivial⟩⟩⟩⟩⟩⟩⟩ (tl_J6_getChars_ba4f3_104 d H2 h)
      have h := ifF hc h
      refine x_aloadn dJ6_getChars_ba4f3_91 rfl ?_
      refine z_iinc (-1) (by decide) dJ6_getChars_ba4f3_92 rfl rfl rfl ?_
      refine x_iload dJ6_getChars_ba4f3_95 rfl ?_
      refine x_gsTens (show Cond.fieldLink RJ6 87 "java/lang/Integer" "DigitTens" "[B" ∈ wsG from inT7 47 rfl rfl) dJ6_getChars_ba4f3_97 ?_
      refine x_iloadn dJ6_getChars_ba4f3_100 rfl ?_
      refine x_ineg dJ6_getChars_ba4f3_101 ?_
      obtain ⟨j6, hj6, h⟩ := b1_s h
      refine x_tens hj6 dJ6_getChars_ba4f3_102 ?_
      obtain ⟨j7, hj7, h⟩ := b1_s h
      obtain ⟨I8, hI8, h⟩ := b1_s h
      refine z_bast H2 hj7 hI8 dJ6_getChars_ba4f3_103 ?_
      exact X.forget (L' := [.retAddr 0, .retAddr 0, .ref x2, .retAddr 0, .retAddr 0, .int ((x5 + (-1)) + (-1)), .int x6]) ⟨Or.inr rfl, ⟨Or.inl rfl, ⟨Or.inl rfl, ⟨Or.inl rfl, ⟨Or.inl rfl, ⟨Or.inl rfl, ⟨Or.inl rfl, trivial⟩⟩⟩⟩⟩⟩⟩ (tl_J6_getChars_ba4f3_104 d H2 h)
    have h := ifF hc h
    refine x_iloadn dJ6_getChars_ba4f3_28 rfl ?_
    refine x_bipush 100 dJ6_getChars_ba4f3_29 rfl ?_
    refine x_idiv dJ6_getChars_ba4f3_31 (by decide) ?_
    refine x_istoren dJ6_getChars_ba4f3_32 (Nat.le_of_ble_eq_true rfl) rfl rfl ?_
    refine x_iloadn dJ6_getChars_ba4f3_33 rfl ?_
    refine x_bipush 100 dJ6_getChars_ba4f3_34 rfl ?_
    refine x_imul dJ6_getChars_ba4f3_36 ?_
    refine x_iloadn dJ6_getChars_ba4f3_37 rfl ?_
    refine x_isub dJ6_getChars_ba4f3_38 ?_
    refine x_istore dJ6_getChars_ba4f3_39 (Nat.le_of_ble_eq_true rfl) rfl rfl ?_
    refine x_iloadn dJ6_getChars_ba4f3_41 rfl ?_
    refine x_istoren dJ6_getChars_ba4f3_42 (Nat.le_of_ble_eq_true rfl) rfl rfl ?_
    refine x_aloadn dJ6_getChars_ba4f3_43 rfl ?_
    refine z_iinc (-1) (by decide) dJ6_getChars_ba4f3_44 rfl rfl rfl ?_
    refine x_iload dJ6_getChars_ba4f3_47 rfl ?_
    refine x_gsOnes (show Cond.fieldLink RJ6 83 "java/lang/Integer" "DigitOnes" "[B" ∈ wsG from inT7 45 rfl rfl) dJ6_getChars_ba4f3_49 ?_
    refine x_iload dJ6_getChars_ba4f3_52 rfl ?_
    obtain ⟨j9, hj9, h⟩ := b1_s h
    refine x_ones hj9 dJ6_getChars_ba4f3_54 ?_
    obtain ⟨j10, hj10, h⟩ := b1_s h
    obtain ⟨I11, hI11, h⟩ := b1_s h
    refine z_bast H2 hj10 hI11 dJ6_getChars_ba4f3_55 ?_
    refine x_aloadn dJ6_getChars_ba4f3_56 rfl ?_
    refine z_iinc (-1) (by decide) dJ6_getChars_ba4f3_57 rfl rfl rfl ?_
    refine x_iload dJ6_getChars_ba4f3_60 rfl ?_
    refine x_gsTens (show Cond.fieldLink RJ6 87 "java/lang/Integer" "DigitTens" "[B" ∈ wsG from inT7 47 rfl rfl) dJ6_getChars_ba4f3_62 ?_
    refine x_iload dJ6_getChars_ba4f3_65 rfl ?_
    obtain ⟨j12, hj12, h⟩ := b1_s h
    refine x_tens hj12 dJ6_getChars_ba4f3_67 ?_
    obtain ⟨j13, hj13, h⟩ := b1_s h
    obtain ⟨I14, hI14, h⟩ := b1_s h
    refine z_bast H2 hj13 hI14 dJ6_getChars_ba4f3_68 ?_
    refine x_goto 22 dJ6_getChars_ba4f3_69 rfl ?_
    exact X.forget (L' := [.int (x0 / 100), .retAddr 0, .ref x2, .retAddr 0, .retAddr 0, .int ((x5 + (-1)) + (-1)), .int x6]) ⟨Or.inl rfl, ⟨Or.inl rfl, ⟨Or.inl rfl, ⟨Or.inr rfl, ⟨Or.inr rfl, ⟨Or.inl rfl, ⟨Or.inl rfl, trivial⟩⟩⟩⟩⟩⟩⟩ (ih H2 h)
noncomputable def l_J6_getChars_ba4f3_12 (I : Mem) (x0 : Int32) (x2 : Nat) (n2 : Nat) (x5 : Int32) (y0 : Int32) : Option (Int32 × Mem) := if y0 = 0 then (l_J6_getChars_ba4f3_22 FU I (-x0) x2 n2 x5 y0) else (l_J6_getChars_ba4f3_22 FU I x0 x2 n2 x5 y0)
theorem tl_J6_getChars_ba4f3_12 (d : Nat) {K : Kt} : ∀ {I : Mem} {x0 : Int32} {x2 : Nat} {n2 : Nat} (H2 : LA K 101 n2 x2) {x5 : Int32} {y0 : Int32} {v : Int32} {I9 : Mem}, l_J6_getChars_ba4f3_12 I x0 x2 n2 x5 y0 = some (v, I9) → X (mJ6_getChars_ba4f3 d) cJ6_getChars_ba4f3 0 0 I K 12 [.int x0, .retAddr 0, .ref x2, .retAddr 0, .retAddr 0, .int x5, .retAddr 0] [.int y0] (Ro (.inl (some (.int v))) I9 K) := by
  intro I x0 x2 n2 H2 x5 y0 v I9 h
  unfold l_J6_getChars_ba4f3_12 at h
  refine x_istore dJ6_getChars_ba4f3_12 (Nat.le_of_ble_eq_true rfl) rfl rfl ?_
  refine x_iload dJ6_getChars_ba4f3_14 rfl ?_
  refine x_if_ne 22 dJ6_getChars_ba4f3_16 rfl (fun hc => ?_) (fun hc => ?_)
  · have h := ifF hc h
    exact tl_J6_getChars_ba4f3_22 d FU H2 h
  have h := ifT hc h
  refine x_iloadn dJ6_getChars_ba4f3_19 rfl ?_
  refine x_ineg dJ6_getChars_ba4f3_20 ?_
  refine x_istoren dJ6_getChars_ba4f3_21 (Nat.le_of_ble_eq_true rfl) rfl rfl ?_
  exact tl_J6_getChars_ba4f3_22 d FU H2 h
noncomputable def f_J6_getChars_ba4f3 (I : Mem) (x0 : Int32) (x1 : Int32) (x2 : Nat) (n2 : Nat) : Option (Int32 × Mem) := if 0 ≤ x0 then (l_J6_getChars_ba4f3_12 I x0 x2 n2 x1 0) else (l_J6_getChars_ba4f3_12 I x0 x2 n2 x1 1)
theorem c_J6_getChars_ba4f3 (d : Nat) {K : Kt} {I : Mem} {x0 : Int32} {x1 : Int32} {x2 : Nat} {n2 : Nat} (H2 : LA K 101 n2 x2) {v : Int32} {I9 : Mem} (h : f_J6_getChars_ba4f3 I x0 x1 x2 n2 = some (v, I9)) : Ct (mJ6_getChars_ba4f3 d) cJ6_getChars_ba4f3 0 0 [.int x0, .int x1, .ref x2] I K (Ro (.inl (some (.int v))) I9 K) := by
  refine Ct.of rfl pn_J6 (catI (catI (catR cat0))) (Nat.le_of_ble_eq_true rfl) (show X _ _ _ _ _ _ 0 [.int x0, .int x1, .ref x2, .retAddr 0, .retAddr 0, .retAddr 0, .retAddr 0] [] _ from ?_)
  unfold f_J6_getChars_ba4f3 at h
  refine x_iloadn dJ6_getChars_ba4f3_0 rfl ?_
  refine x_istore dJ6_getChars_ba4f3_1 (Nat.le_of_ble_eq_true rfl) rfl rfl ?_
  refine x_iloadn dJ6_getChars_ba4f3_3 rfl ?_
  refine x_if_ge 11 dJ6_getChars_ba4f3_4 rfl (fun hc => ?_) (fun hc => ?_)
  · have h := ifT hc h
    refine x_iconst 0 dJ6_getChars_ba4f3_11 rfl ?_
    exact X.forget (L' := [.int x0, .retAddr 0, .ref x2, .retAddr 0, .retAddr 0, .int x1, .retAddr 0]) ⟨Or.inl rfl, ⟨Or.inr rfl, ⟨Or.inl rfl, ⟨Or.inl rfl, ⟨Or.inl rfl, ⟨Or.inl rfl, ⟨Or.inl rfl, trivial⟩⟩⟩⟩⟩⟩⟩ (tl_J6_getChars_ba4f3_12 d H2 h)
  have h := ifF hc h
  refine x_iconst 1 dJ6_getChars_ba4f3_7 rfl ?_
  refine x_goto 12 dJ6_getChars_ba4f3_8 rfl ?_
  exact X.forget (L' := [.int x0, .retAddr 0, .ref x2, .retAddr 0, .retAddr 0, .int x1, .retAddr 0]) ⟨Or.inl rfl, ⟨Or.inr rfl, ⟨Or.inl rfl, ⟨Or.inl rfl, ⟨Or.inl rfl, ⟨Or.inl rfl, ⟨Or.inl rfl, trivial⟩⟩⟩⟩⟩⟩⟩ (tl_J6_getChars_ba4f3_12 d H2 h)
noncomputable def f_J5_length_8abf5 (I : Mem) (K : Kt) (x0 : Nat) : Option (Int32) := some ((I x0 3))
theorem c_J5_length_8abf5 (d : Nat) {K : Kt} {I : Mem} {x0 : Nat} (H0 : LSb K x0) {v : Int32} (h : f_J5_length_8abf5 I K x0 = some v) : Ct (mJ5_length_8abf5 d) cJ5_length_8abf5 0 0 [.ref x0] I K (Ro (.inl (some (.int v))) I K) := by
  refine Ct.of rfl pn_J5 (catR cat0) (Nat.le_of_ble_eq_true rfl) (show X _ _ _ _ _ _ 0 [.ref x0] [] _ from ?_)
  unfold f_J5_length_8abf5 at h
  refine x_aloadn dJ5_length_8abf5_0 rfl ?_
  refine z_getI fs_J5_79 (LSb.o H0) dJ5_length_8abf5_1 ?_
  cases h
  exact x_iret rfl dJ5_length_8abf5_4 ⟨rfl, rfl, rfl⟩
noncomputable def f_J4_length_8abf5 (I : Mem) (K : Kt) (x0 : Nat) : Option (Int32) := b1 (f_J5_length_8abf5 I K x0) fun v1 => some (v1)
theorem c_J4_length_8abf5 (d : Nat) {K : Kt} {I : Mem} {x0 : Nat} (H0 : LSb K x0) {v : Int32} (h : f_J4_length_8abf5 I K x0 = some v) : Ct (mJ4_length_8abf5 (d + 1)) cJ4_length_8abf5 0 0 [.ref x0] I K (Ro (.inl (some (.int v))) I K) := by
  refine Ct.of rfl pn_J4 (catR cat0) (Nat.le_of_ble_eq_true rfl) (show X _ _ _ _ _ _ 0 [.ref x0] [] _ from ?_)
  unfold f_J4_length_8abf5 at h
  refine x_aloadn dJ4_length_8abf5_0 rfl ?_
  obtain ⟨v1, h2, h⟩ := b1_s h
  refine z_SU0 [] [] (cs_J4_343 _) (ci := 0) rfl (LSb.o H0) (dep (show d + 0 + 0 + 1 ≤ (d + 1) from by omega) (Nat.le_of_ble_eq_true rfl)) dJ4_length_8abf5_1 rfl rfl (Nat.le_of_ble_eq_true rfl) (c_J5_length_8abf5 d (K := K) (I := I) H0 h2) ?_
  cases h
  exact x_iret rfl dJ4_length_8abf5_4 ⟨rfl, rfl, rfl⟩
noncomputable def f_J5_isLatin1_aae02 (I : Mem) (K : Kt) (x0 : Nat) : Option (Int32) := if (1 : Int32) = 0 then (some (0)) else (if (I x0 1) = 0 then (some (1)) else (some (0)))
theorem c_J5_isLatin1_aae02 (d : Nat) {K : Kt} {I : Mem} {x0 : Nat} (H0 : LSb K x0) {v : Int32} (h : f_J5_isLatin1_aae02 I K x0 = some v) : Ct (mJ5_isLatin1_aae02 d) cJ5_isLatin1_aae02 0 0 [.ref x0] I K (Ro (.inl (some (.int v))) I K) := by
  refine Ct.of rfl pn_J5 (catR cat0) (Nat.le_of_ble_eq_true rfl) (show X _ _ _ _ _ _ 0 [.ref x0] [] _ from ?_)
  unfold f_J5_isLatin1_aae02 at h
  refine x_gsC (show Cond.fieldLink RJ5 18 RJ0 "COMPACT_STRINGS" "Z" ∈ wsG from inT2 105 rfl rfl) dJ5_isLatin1_aae02_0 ?_
  refine x_if_eq 17 dJ5_isLatin1_aae02_3 rfl (fun hc => ?_) (fun hc => ?_)
  · have h := ifT hc h
    refine x_iconst 0 dJ5_isLatin1_aae02_17 rfl ?_
    cases h
    exact x_zret rfl rfl dJ5_isLatin1_aae02_18 ⟨rfl, rfl, rfl⟩
  have h := ifF hc h
  refine x_aloadn dJ5_isLatin1_aae02_6 rfl ?_
  refine z_getI fs_J5_22 (LSb.o H0) dJ5_isLatin1_aae02_7 ?_
  refine x_if_ne 17 dJ5_isLatin1_aae02_10 rfl (fun hc => ?_) (fun hc => ?_)
  · have h := ifF hc h
    refine x_iconst 0 dJ5_isLatin1_aae02_17 rfl ?_
    cases h
    exact x_zret rfl rfl dJ5_isLatin1_aae02_18 ⟨rfl, rfl, rfl⟩
  have h := ifT hc h
  refine x_iconst 1 dJ5_isLatin1_aae02_13 rfl ?_
  refine x_goto 18 dJ5_isLatin1_aae02_14 rfl ?_
  cases h
  exact x_zret rfl rfl dJ5_isLatin1_aae02_18 ⟨rfl, rfl, rfl⟩
noncomputable def f_J5_newCapacity_0f7a4 (I : Mem) (K : Kt) (x0 : Nat) (x1 : Int32) : Option (Int32) := b1 (f_J8_newLength_cabcc (nI (nOf K x0)) ((x1 <<< ((I x0 1) &&& 31)) - (nI (nOf K x0))) ((nI (nOf K x0)) + (2 <<< ((I x0 1) &&& 31)))) fun v1 => if v1 = 2147483647 then (none) else (some ((v1 >>> ((I x0 1) &&& 31))))
theorem c_J5_newCapacity_0f7a4 (d : Nat) {K : Kt} {I : Mem} {x0 : Nat} (H0 : LSb K x0) {x1 : Int32} {v : Int32} (h : f_J5_newCapacity_0f7a4 I K x0 x1 = some v) : Ct (mJ5_newCapacity_0f7a4 (d + 2)) cJ5_newCapacity_0f7a4 0 0 [.ref x0, .int x1] I K (Ro (.inl (some (.int v))) I K) := by
  refine Ct.of rfl pn_J5 (catR (catI cat0)) (Nat.le_of_ble_eq_true rfl) (show X _ _ _ _ _ _ 0 [.ref x0, .int x1, .retAddr 0, .retAddr 0, .retAddr 0, .retAddr 0] [] _ from ?_)
  unfold f_J5_newCapacity_0f7a4 at h
  refine x_aloadn dJ5_newCapacity_0f7a4_0 rfl ?_
  refine z_getR fs_J5_15 (LSb.o H0) (LSb.g H0) dJ5_newCapacity_0f7a4_1 ?_
  refine z_len (LSb.l H0) ⟨by decide, by decide⟩ dJ5_newCapacity_0f7a4_4 ?_
  refine x_istoren dJ5_newCapacity_0f7a4_5 (Nat.le_of_ble_eq_true rfl) rfl rfl ?_
  refine x_iloadn dJ5_newCapacity_0f7a4_6 rfl ?_
  refine x_aloadn dJ5_newCapacity_0f7a4_7 rfl ?_
  refine z_getI fs_J5_22 (LSb.o H0) dJ5_newCapacity_0f7a4_8 ?_
  refine x_ishl dJ5_newCapacity_0f7a4_11 ?_
  refine x_istoren dJ5_newCapacity_0f7a4_12 (Nat.le_of_ble_eq_true rfl) rfl rfl ?_
  refine x_iloadn dJ5_newCapacity_0f7a4_13 rfl ?_
  refine x_iloadn dJ5_newCapacity_0f7a4_14 rfl ?_
  refine x_isub dJ5_newCapacity_0f7a4_15 ?_
  refine x_istore dJ5_newCapacity_0f7a4_16 (Nat.le_of_ble_eq_true rfl) rfl rfl ?_
  refine x_iloadn dJ5_newCapacity_0f7a4_18 rfl ?_
  refine x_iload dJ5_newCapacity_0f7a4_19 rfl ?_
  refine x_iloadn dJ5_newCapacity_0f7a4_21 rfl ?_
  refine x_iconst 2 dJ5_newCapacity_0f7a4_22 rfl ?_
  refine x_aloadn dJ5_newCapacity_0f7a4_23 rfl ?_
  refine z_getI fs_J5_22 (LSb.o H0) dJ5_newCapacity_0f7a4_24 ?_
  refine x_ishl dJ5_newCapacity_0f7a4_27 ?_
  refine x_iadd dJ5_newCapacity_0f7a4_28 ?_
  obtain ⟨v1, h2, h⟩ := b1_s h
  refine z_S1 [.int (nI (nOf K x0)), .int ((x1 <<< ((I x0 1) &&& 31)) - (nI (nOf K x0))), .int ((nI (nOf K x0)) + (2 <<< ((I x0 1) &&& 31)))] [] (cs_J5_114 _) (dep (show d + 0 + 1 + 1 ≤ (d + 2) from by omega) (Nat.le_of_ble_eq_true rfl)) dJ5_newCapacity_0f7a4_29 rfl rfl (Nat.le_of_ble_eq_true rfl) (c_J8_newLength_cabcc d (K := K) (I := I) h2) ?_
  refine x_istore dJ5_newCapacity_0f7a4_32 (Nat.le_of_ble_eq_true rfl) rfl rfl ?_
  refine x_iload dJ5_newCapacity_0f7a4_34 rfl ?_
  refine x_ldc 2147483647 (show Cond.constant RJ5 39 2147483647 ∈ wsG from inT6 202 rfl rfl) dJ5_newCapacity_0f7a4_36 ?_
  refine x_icmp_ne 51 dJ5_newCapacity_0f7a4_38 rfl (fun hc => ?_) (fun hc => ?_)
  · have h := ifF hc h
    refine x_iload dJ5_newCapacity_0f7a4_51 rfl ?_
    refine x_aloadn dJ5_newCapacity_0f7a4_53 rfl ?_
    refine z_getI fs_J5_22 (LSb.o H0) dJ5_newCapacity_0f7a4_54 ?_
    refine x_ishr dJ5_newCapacity_0f7a4_57 ?_
    cases h
    exact x_iret rfl dJ5_newCapacity_0f7a4_58 ⟨rfl, rfl, rfl⟩
  have h := ifT hc h
  cases h
noncomputable def f_J5_charAt_5068e (I : Mem) (K : Kt) (x0 : Nat) (x1 : Int32) : Option (Int32) := b1 (f_J0_checkIndex_df160 x1 (if ((nI (nOf K x0)) >>> ((I x0 1) &&& 31)) < (I x0 3) then ((nI (nOf K x0)) >>> ((I x0 1) &&& 31)) else (I x0 3))) fun u1 => if (I x0 1) = 0 then (b1 (ix x1 (nOf K x0)) fun j3 => b1 (cN .char ((((I (vOf K x0) j3) &&& 255)).toUInt32 % 65536).toInt32) fun _ => some (((((I (vOf K x0) j3) &&& 255)).toUInt32 % 65536).toInt32)) else (none)
theorem c_J5_charAt_5068e (d : Nat) {K : Kt} {I : Mem} {x0 : Nat} (H0 : LSb K x0) {x1 : Int32} {v : Int32} (h : f_J5_charAt_5068e I K x0 x1 = some v) : Ct (mJ5_charAt_5068e (d + 3)) cJ5_charAt_5068e 0 0 [.ref x0, .int x1] I K (Ro (.inl (some (.int v))) I K) := by
  refine Ct.of rfl pn_J5 (catR (catI cat0)) (Nat.le_of_ble_eq_true rfl) (show X _ _ _ _ _ _ 0 [.ref x0, .int x1, .retAddr 0, .retAddr 0, .retAddr 0] [] _ from ?_)
  unfold f_J5_charAt_5068e at h
  refine x_aloadn dJ5_charAt_5068e_0 rfl ?_
  refine z_getI fs_J5_22 (LSb.o H0) dJ5_charAt_5068e_1 ?_
  refine x_istoren dJ5_charAt_5068e_4 (Nat.le_of_ble_eq_true rfl) rfl rfl ?_
  refine x_aloadn dJ5_charAt_5068e_5 rfl ?_
  refine z_getR fs_J5_15 (LSb.o H0) (LSb.g H0) dJ5_charAt_5068e_6 ?_
  refine x_astoren dJ5_charAt_5068e_9 (Nat.le_of_ble_eq_true rfl) rfl rfl ?_
  refine x_aloadn dJ5_charAt_5068e_10 rfl ?_
  refine z_getI fs_J5_79 (LSb.o H0) dJ5_charAt_5068e_11 ?_
  refine x_aloadn dJ5_charAt_5068e_14 rfl ?_
  refine z_len (LSb.l H0) ⟨by decide, by decide⟩ dJ5_charAt_5068e_15 ?_
  refine x_iloadn dJ5_charAt_5068e_16 rfl ?_
  refine x_ishr dJ5_charAt_5068e_17 ?_
  refine x_mmin ms_J5_138 (Nat.le_of_ble_eq_true rfl) (by show 1 ≤ (d + 3); omega) dJ5_charAt_5068e_18 ?_
  refine x_istore dJ5_charAt_5068e_21 (Nat.le_of_ble_eq_true rfl) rfl rfl ?_
  refine x_iloadn dJ5_charAt_5068e_23 rfl ?_
  refine x_iload dJ5_charAt_5068e_24 rfl ?_
  obtain ⟨u1, h2, h⟩ := b1_s h
  refine z_S0 [.int x1, .int (if ((nI (nOf K x0)) >>> ((I x0 1) &&& 31)) < (I x0 3) then ((nI (nOf K x0)) >>> ((I x0 1) &&& 31)) else (I x0 3))] [] (cs_J5_144 _) (dep (show d + 1 + 1 + 1 ≤ (d + 3) from by omega) (Nat.le_of_ble_eq_true rfl)) dJ5_charAt_5068e_26 rfl rfl (Nat.le_of_ble_eq_true rfl) (c_J0_checkIndex_df160 (d + 1) (K := K) (I := I) h2) ?_
  refine x_iloadn dJ5_charAt_5068e_29 rfl ?_
  refine x_if_ne 42 dJ5_charAt_5068e_30 rfl (fun hc => ?_) (fun hc => ?_)
  · have h := ifF hc h
    refine x_aloadn dJ5_charAt_5068e_42 rfl ?_
    refine x_iloadn dJ5_charAt_5068e_43 rfl ?_
    cases h
  have h := ifT hc h
  refine x_aloadn dJ5_charAt_5068e_33 rfl ?_
  refine x_iloadn dJ5_charAt_5068e_34 rfl ?_
  obtain ⟨j3, hj3, h⟩ := b1_s h
  refine z_bald (LSb.l H0) hj3 dJ5_charAt_5068e_35 ?_
  refine x_sipush 255 dJ5_charAt_5068e_36 rfl ?_
  refine x_iand dJ5_charAt_5068e_39 ?_
  refine x_i2c dJ5_charAt_5068e_40 ?_
  obtain ⟨u4, hu4, h⟩ := b1_s h
  cases h
  exact x_zret rfl (cN_s rfl hu4) dJ5_charAt_5068e_41 ⟨rfl, rfl, rfl⟩
noncomputable def f_J4_charAt_5068e (I : Mem) (K : Kt) (x0 : Nat) (x1 : Int32) : Option (Int32) := b1 (f_J5_charAt_5068e I K x0 x1) fun v1 => b1 (cN .char v1) fun _ => some (v1)
theorem c_J4_charAt_5068e (d : Nat) {K : Kt} {I : Mem} {x0 : Nat} (H0 : LSb K x0) {x1 : Int32} {v : Int32} (h : f_J4_charAt_5068e I K x0 x1 = some v) : Ct (mJ4_charAt_5068e (d + 4)) cJ4_charAt_5068e 0 0 [.ref x0, .int x1] I K (Ro (.inl (some (.int v))) I K) := by
  refine Ct.of rfl pn_J4 (catR (catI cat0)) (Nat.le_of_ble_eq_true rfl) (show X _ _ _ _ _ _ 0 [.ref x0, .int x1] [] _ from ?_)
  unfold f_J4_charAt_5068e at h
  refine x_aloadn dJ4_charAt_5068e_0 rfl ?_
  refine x_iloadn dJ4_charAt_5068e_1 rfl ?_
  obtain ⟨v1, h2, h⟩ := b1_s h
  refine z_SU0 [.int x1] [] (cs_J4_329 _) (ci := 0) rfl (LSb.o H0) (dep (show d + 0 + 3 + 1 ≤ (d + 4) from by omega) (Nat.le_of_ble_eq_true rfl)) dJ4_charAt_5068e_2 rfl rfl (Nat.le_of_ble_eq_true rfl) (c_J5_charAt_5068e d (K := K) (I := I) H0 h2) ?_
  obtain ⟨u3, hu3, h⟩ := b1_s h
  cases h
  exact x_zret rfl (cN_s rfl hu3) dJ4_charAt_5068e_5 ⟨rfl, rfl, rfl⟩
