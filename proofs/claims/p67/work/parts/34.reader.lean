noncomputable def f_X5_require (I : Mem) (x0 : Nat) (x1 : Int32) (x2 : Int32) : Option (Except String Unit × Mem) := if x1 = 0 then (b1 (pu I x0 2 x2) fun I1 => b1 (pu I1 x0 3 (I1 (x0 + 1) 4)) fun I2 => some (.error "java/lang/IllegalArgumentException", I2)) else (some (.ok (), I))
theorem c_X5_require (d : Nat) {K : Kt} {I : Mem} {x0 : Nat} (H0 : LR K x0) {x1 : Int32} {x2 : Int32} {x : Except String Unit} {I9 : Mem} (h : f_X5_require I x0 x1 x2 = some (x, I9)) : Ct (mX5_require (d + 6)) cX5_require (cst x) (cs6 x) [.ref x0, .int x1, .int x2] I K (Ro (rV x) I9 K) := by
  refine Ct.of rfl pn_X5 (catR (catI (catI cat0))) (Nat.le_of_ble_eq_true rfl) (show X _ _ _ _ _ _ 0 [.ref x0, .int x1, .int x2] [] _ from ?_)
  unfold f_X5_require at h
  refine x_iloadn dX5_require_0 rfl ?_
  refine x_if_ne 30 dX5_require_1 rfl (fun hc => ?_) (fun hc => ?_)
  · have h := ifF hc h
    cases h
    exact x_vret rfl dX5_require_30 ⟨rfl, rfl, rfl⟩
  have h := ifT hc h
  refine x_aloadn dX5_require_4 rfl ?_
  refine x_iloadn dX5_require_5 rfl ?_
  obtain ⟨I1, hI1, h⟩ := b1_s h
  refine z_putI fs_X5_36 (LR.o H0) hI1 dX5_require_6 ?_
  refine x_aloadn dX5_require_9 rfl ?_
  refine x_aloadn dX5_require_10 rfl ?_
  refine z_getR fs_X5_12 (LR.o H0) (LR.g0 H0) dX5_require_11 ?_
  refine z_getI fs_X5_62 (LT.o (LR.t H0)) dX5_require_14 ?_
  obtain ⟨I2, hI2, h⟩ := b1_s h
  refine z_putI fs_X5_25 (LR.o H0) hI2 dX5_require_17 ?_
  cases h
  exact z_throw ts_X5_60_65_67 ⟨(by show 6 ≤ (d + 6); omega), (by show _ ≤ 40 * (d + 6); have e : ∀ n, n = 0 → n + 82 ≤ 40 * (d + 6) := (fun n hn => by omega); exact e _ rfl)⟩ rfl dX5_require_20 dX5_require_23 dX5_require_24 dX5_require_26 dX5_require_29
noncomputable def l_X7_number_7 (n : Nat) (I : Mem) (x0 : Nat) (x1 : Int32) (x2 : Int32) : Option (Int32) := match n with
  | 0 => none
  | n + 1 => if (I x0 3) ≤ x2 then (some (x1)) else (b1 (ix x2 500) fun j1 => l_X7_number_7 n I x0 ((x1 * 10) + ((I (x0 + 1) j1) - 48)) (x2 + 1))
theorem tl_X7_number_7 (d : Nat) {K : Kt} (n : Nat) : ∀ {I : Mem} {x0 : Nat} (H0 : LT K x0) {x1 : Int32} {x2 : Int32} {v : Int32}, l_X7_number_7 n I x0 x1 x2 = some v → X (mX7_number d) cX7_number 0 0 I K 7 [.ref x0, .int x1, .int x2] [] (Ro (.inl (some (.int v))) I K) := by
  induction n with
  | zero =>
    intro I x0 H0 x1 x2 v h
    cases h
  | succ n ih =>
    intro I x0 H0 x1 x2 v h
    unfold l_X7_number_7 at h
    refine x_iloadn dX7_number_7 rfl ?_
    refine x_aloadn dX7_number_8 rfl ?_
    refine z_getI fs_X7_37 (LT.o H0) dX7_number_9 ?_
    refine x_icmp_ge 36 dX7_number_12 rfl (fun hc => ?_) (fun hc => ?_)
    · have h := ifT hc h
      refine x_iloadn dX7_number_36 rfl ?_
      cases h
      exact x_iret rfl dX7_number_37 ⟨rfl, rfl, rfl⟩
    have h := ifF hc h
    refine x_iloadn dX7_number_15 rfl ?_
    refine x_bipush 10 dX7_number_16 rfl ?_
    refine x_imul dX7_number_18 ?_
    refine x_aloadn dX7_number_19 rfl ?_
    refine z_getR fs_X7_9 (LT.o H0) (LT.g0 H0) dX7_number_20 ?_
    refine x_iloadn dX7_number_23 rfl ?_
    obtain ⟨j1, hj1, h⟩ := b1_s h
    refine z_bald (LT.l0 H0) hj1 dX7_number_24 ?_
    refine x_bipush 48 dX7_number_25 rfl ?_
    refine x_isub dX7_number_27 ?_
    refine x_iadd dX7_number_28 ?_
    refine x_istoren dX7_number_29 (Nat.le_of_ble_eq_true rfl) rfl rfl ?_
    refine z_iinc 1 (by decide) dX7_number_30 rfl rfl rfl ?_
    refine x_goto 7 dX7_number_33 rfl ?_
    exact ih H0 h
noncomputable def f_X7_number (I : Mem) (x0 : Nat) : Option (Int32) := l_X7_number_7 FU I x0 0 (I x0 4)
theorem c_X7_number (d : Nat) {K : Kt} {I : Mem} {x0 : Nat} (H0 : LT K x0) {v : Int32} (h : f_X7_number I x0 = some v) : Ct (mX7_number d) cX7_number 0 0 [.ref x0] I K (Ro (.inl (some (.int v))) I K) := by
  refine Ct.of rfl pn_X7 (catR cat0) (Nat.le_of_ble_eq_true rfl) (show X _ _ _ _ _ _ 0 [.ref x0, .retAddr 0, .retAddr 0] [] _ from ?_)
  unfold f_X7_number at h
  refine x_iconst 0 dX7_number_0 rfl ?_
  refine x_istoren dX7_number_1 (Nat.le_of_ble_eq_true rfl) rfl rfl ?_
  refine x_aloadn dX7_number_2 rfl ?_
  refine z_getI fs_X7_44 (LT.o H0) dX7_number_3 ?_
  refine x_istoren dX7_number_6 (Nat.le_of_ble_eq_true rfl) rfl rfl ?_
  exact tl_X7_number_7 d FU H0 h
noncomputable def f_X7_kindOfSign (x0 : Int32) : Option (Nat) := if x0 = 59 then (some (3)) else (if x0 = 40 then (some (4)) else (if x0 = 41 then (some (5)) else (some (6))))
theorem c_X7_kindOfSign (d : Nat) {K : Kt} {I : Mem} {x0 : Int32} {v : Nat} (h : f_X7_kindOfSign x0 = some v) : Ct (mX7_kindOfSign d) cX7_kindOfSign 0 0 [.int x0] I K (Ro (.inl (some (.ref (xE v)))) I K) := by
  refine Ct.of rfl pn_X7 (catI cat0) (Nat.le_of_ble_eq_true rfl) (show X _ _ _ _ _ _ 0 [.int x0] [] _ from ?_)
  unfold f_X7_kindOfSign at h
  refine x_iloadn dX7_kindOfSign_0 rfl ?_
  refine x_bipush 59 dX7_kindOfSign_1 rfl ?_
  refine x_icmp_ne 10 dX7_kindOfSign_3 rfl (fun hc => ?_) (fun hc => ?_)
  · have h := ifF hc h
    refine x_iloadn dX7_kindOfSign_10 rfl ?_
    refine x_bipush 40 dX7_kindOfSign_11 rfl ?_
    refine x_icmp_ne 20 dX7_kindOfSign_13 rfl (fun hc => ?_) (fun hc => ?_)
    · have h := ifF hc h
      refine x_iloadn dX7_kindOfSign_20 rfl ?_
      refine x_bipush 41 dX7_kindOfSign_21 rfl ?_
      refine x_icmp_ne 32 dX7_kindOfSign_23 rfl (fun hc => ?_) (fun hc => ?_)
      · have h := ifF hc h
        refine x_getsK 6 (by decide) (show Cond.fieldLink RX7 54 RX2 "MALFORMED" "LWishMarket$Kind;" ∈ wsG from inT3 21 rfl rfl) dX7_kindOfSign_32 ?_
        cases h
        exact x_aret rfl (Or.inl ⟨_, rfl⟩) dX7_kindOfSign_35 ⟨rfl, rfl, rfl⟩
      have h := ifT hc h
      refine x_getsK 5 (by decide) (show Cond.fieldLink RX7 70 RX2 "CLOSE" "LWishMarket$Kind;" ∈ wsG from inT3 32 rfl rfl) dX7_kindOfSign_26 ?_
      refine x_goto 35 dX7_kindOfSign_29 rfl ?_
      cases h
      exact x_aret rfl (Or.inl ⟨_, rfl⟩) dX7_kindOfSign_35 ⟨rfl, rfl, rfl⟩
    have h := ifT hc h
    refine x_getsK 4 (by decide) (show Cond.fieldLink RX7 67 RX2 "OPEN" "LWishMarket$Kind;" ∈ wsG from inT3 30 rfl rfl) dX7_kindOfSign_16 ?_
    cases h
    exact x_aret rfl (Or.inl ⟨_, rfl⟩) dX7_kindOfSign_19 ⟨rfl, rfl, rfl⟩
  have h := ifT hc h
  refine x_getsK 3 (by decide) (show Cond.fieldLink RX7 64 RX2 "SEMICOLON" "LWishMarket$Kind;" ∈ wsG from inT3 28 rfl rfl) dX7_kindOfSign_6 ?_
  cases h
  exact x_aret rfl (Or.inl ⟨_, rfl⟩) dX7_kindOfSign_9 ⟨rfl, rfl, rfl⟩
noncomputable def l_X7_skip_0 (n : Nat) (I : Mem) (x0 : Nat) (x1 : Int32) (x2 : Int32) : Option (Mem) := match n with
  | 0 => none
  | n + 1 => if (I x0 2) ≤ (I x0 3) then (some (I)) else (b1 (ix (I x0 3) 500) fun j1 => if (I (x0 + 1) j1) < x1 then (some (I)) else (b1 (ix (I x0 3) 500) fun j2 => if x2 < (I (x0 + 1) j2) then (some (I)) else (b1 (pu I x0 3 ((I x0 3) + 1)) fun I3 => l_X7_skip_0 n I3 x0 x1 x2)))
theorem tl_X7_skip_0 (d : Nat) {K : Kt} (n : Nat) : ∀ {I : Mem} {x0 : Nat} (H0 : LT K x0) {x1 : Int32} {x2 : Int32} {I9 : Mem}, l_X7_skip_0 n I x0 x1 x2 = some I9 → X (mX7_skip d) cX7_skip 0 0 I K 0 [.ref x0, .int x1, .int x2] [] (Ro (.inl none) I9 K) := by
  induction n with
  | zero =>
    intro I x0 H0 x1 x2 I9 h
    cases h
  | succ n ih =>
    intro I x0 H0 x1 x2 I9 h
    unfold l_X7_skip_0 at h
    refine x_aloadn dX7_skip_0 rfl ?_
    refine z_getI fs_X7_37 (LT.o H0) dX7_skip_1 ?_
    refine x_aloadn dX7_skip_4 rfl ?_
    refine z_getI fs_X7_34 (LT.o H0) dX7_skip_5 ?_
    refine x_icmp_ge 50 dX7_skip_8 rfl (fun hc => ?_) (fun hc => ?_)
    · have h := ifT hc h
      cases h
      exact x_vret rfl dX7_skip_50 ⟨rfl, rfl, rfl⟩
    have h := ifF hc h
    refine x_aloadn dX7_skip_11 rfl ?_
    refine z_getR fs_X7_9 (LT.o H0) (LT.g0 H0) dX7_skip_12 ?_
    refine x_aloadn dX7_skip_15 rfl ?_
    refine z_getI fs_X7_37 (LT.o H0) dX7_skip_16 ?_
    obtain ⟨j1, hj1, h⟩ := b1_s h
    refine z_bald (LT.l0 H0) hj1 dX7_skip_19 ?_
    refine x_iloadn dX7_skip_20 rfl ?_
    refine x_icmp_lt 50 dX7_skip_21 rfl (fun hc => ?_) (fun hc => ?_)
    · have h := ifT hc h
      cases h
      exact x_vret rfl dX7_skip_50 ⟨rfl, rfl, rfl⟩
    have h := ifF hc h
    refine x_aloadn dX7_skip_24 rfl ?_
    refine z_getR fs_X7_9 (LT.o H0) (LT.g0 H0) dX7_skip_25 ?_
    refine x_aloadn dX7_skip_28 rfl ?_
    refine z_getI fs_X7_37 (LT.o H0) dX7_skip_29 ?_
    obtain ⟨j2, hj2, h⟩ := b1_s h
    refine z_bald (LT.l0 H0) hj2 dX7_skip_32 ?_
    refine x_iloadn dX7_skip_33 rfl ?_
    refine x_icmp_gt 50 dX7_skip_34 rfl (fun hc => ?_) (fun hc => ?_)
    · have h := ifT hc h
      cases h
      exact x_vret rfl dX7_skip_50 ⟨rfl, rfl, rfl⟩
    have h := ifF hc h
    refine x_aloadn dX7_skip_37 rfl ?_
    refine x_dup dX7_skip_38 rfl ?_
    refine z_getI fs_X7_37 (LT.o H0) dX7_skip_39 ?_
    refine x_iconst 1 dX7_skip_42 rfl ?_
    refine x_iadd dX7_skip_43 ?_
    obtain ⟨I3, hI3, h⟩ := b1_s h
    refine z_putI fs_X7_37 (LT.o H0) hI3 dX7_skip_44 ?_
    refine x_goto 0 dX7_skip_47 rfl ?_
    exact ih H0 h
noncomputable def f_X7_skip (I : Mem) (x0 : Nat) (x1 : Int32) (x2 : Int32) : Option (Mem) := l_X7_skip_0 FU I x0 x1 x2
theorem c_X7_skip (d : Nat) {K : Kt} {I : Mem} {x0 : Nat} (H0 : LT K x0) {x1 : Int32} {x2 : Int32} {I9 : Mem} (h : f_X7_skip I x0 x1 x2 = some I9) : Ct (mX7_skip d) cX7_skip 0 0 [.ref x0, .int x1, .int x2] I K (Ro (.inl none) I9 K) := by
  refine Ct.of rfl pn_X7 (catR (catI (catI cat0))) (Nat.le_of_ble_eq_true rfl) (show X _ _ _ _ _ _ 0 [.ref x0, .int x1, .int x2] [] _ from ?_)
  unfold f_X7_skip at h
  exact tl_X7_skip_0 d FU H0 h
noncomputable def f_X7_tokenLength (I : Mem) (x0 : Nat) : Option (Int32) := some (((I x0 3) - (I x0 4)))
theorem c_X7_tokenLength (d : Nat) {K : Kt} {I : Mem} {x0 : Nat} (H0 : LT K x0) {v : Int32} (h : f_X7_tokenLength I x0 = some v) : Ct (mX7_tokenLength d) cX7_tokenLength 0 0 [.ref x0] I K (Ro (.inl (some (.int v))) I K) := by
  refine Ct.of rfl pn_X7 (catR cat0) (Nat.le_of_ble_eq_true rfl) (show X _ _ _ _ _ _ 0 [.ref x0] [] _ from ?_)
  unfold f_X7_tokenLength at h
  refine x_aloadn dX7_tokenLength_0 rfl ?_
  refine z_getI fs_X7_37 (LT.o H0) dX7_tokenLength_1 ?_
  refine x_aloadn dX7_tokenLength_4 rfl ?_
  refine z_getI fs_X7_44 (LT.o H0) dX7_tokenLength_5 ?_
  refine x_isub dX7_tokenLength_8 ?_
  cases h
  exact x_iret rfl dX7_tokenLength_9 ⟨rfl, rfl, rfl⟩
noncomputable def f_X7_scan (I : Mem) (k : Nat) (x0 : Nat) : Option (Mem × Nat) := b1 (f_X7_skip I x0 32 32) fun I1 => b1 (pu I1 x0 4 (I1 x0 3)) fun I3 => b1 (f_X7_skip I3 x0 97 122) fun I4 => if (I4 x0 3) ≤ (I4 x0 4) then (b1 (f_X7_skip I4 x0 48 57) fun I6 => if (I6 x0 3) ≤ (I6 x0 4) then (if (I6 x0 2) ≤ (I6 x0 3) then (some (I6, 0)) else (b1 (ix (I6 x0 3) 500) fun j8 => b1 (f_X7_kindOfSign (I6 (x0 + 1) j8)) fun v9 => b1 (ckK v9) fun _ => b1 (pu I6 x0 3 ((I6 x0 3) + 1)) fun I12 => some (I12, v9))) else (b1 (f_X7_tokenLength I6 x0) fun v13 => if 3 < v13 then (some (I6, 6)) else (some (I6, 2)))) else (b1 (f_X7_tokenLength I4 x0) fun v15 => if 7 < v15 then (some (I4, 6)) else (some (I4, 1)))
theorem c_X7_scan (d : Nat) {K : Kt} {I : Mem} {k : Nat} {x0 : Nat} (H0 : LT K x0) {I9 : Mem} {k9 : Nat} (h : f_X7_scan I k x0 = some (I9, k9)) : Ct (mX7_scan (d + 1)) cX7_scan 0 0 [.ref x0] I (kk K x0 k) (Ro (.inl none) I9 (kk K x0 k9)) := by
  refine Ct.of rfl pn_X7 (catR cat0) (Nat.le_of_ble_eq_true rfl) (show X _ _ _ _ _ _ 0 [.ref x0] [] _ from ?_)
  unfold f_X7_scan at h
  refine x_aloadn dX7_scan_0 rfl ?_
  refine x_bipush 32 dX7_scan_1 rfl ?_
  refine x_bipush 32 dX7_scan_3 rfl ?_
  obtain ⟨I1, h2, h⟩ := b1_s h
  refine z_V0 [.int 32, .int 32] [] (cs_X7_40 _) (ci := 5) rfl (LT.o (LT.kk H0)) (dep (show d + 0 + 0 + 1 ≤ (d + 1) from by omega) (Nat.le_of_ble_eq_true rfl)) dX7_scan_5 rfl rfl (Nat.le_of_ble_eq_true rfl) (c_X7_skip d (K := (kk K x0 k)) (I := I) (LT.kk H0) h2) ?_
  refine x_aloadn dX7_scan_8 rfl ?_
  refine x_aloadn dX7_scan_9 rfl ?_
  refine z_getI fs_X7_37 (LT.o (LT.kk H0)) dX7_scan_10 ?_
  obtain ⟨I3, hI3, h⟩ := b1_s h
  refine z_putI fs_X7_44 (LT.o (LT.kk H0)) hI3 dX7_scan_13 ?_
  refine x_aloadn dX7_scan_16 rfl ?_
  refine x_bipush 97 dX7_scan_17 rfl ?_
  refine x_bipush 122 dX7_scan_19 rfl ?_
  obtain ⟨I4, h5, h⟩ := b1_s h
  refine z_V0 [.int 97, .int 122] [] (cs_X7_40 _) (ci := 5) rfl (LT.o (LT.kk H0)) (dep (show d + 0 + 0 + 1 ≤ (d + 1) from by omega) (Nat.le_of_ble_eq_true rfl)) dX7_scan_21 rfl rfl (Nat.le_of_ble_eq_true rfl) (c_X7_skip d (K := (kk K x0 k)) (I := I3) (LT.kk H0) h5) ?_
  refine x_aloadn dX7_scan_24 rfl ?_
  refine z_getI fs_X7_37 (LT.o (LT.kk H0)) dX7_scan_25 ?_
  refine x_aloadn dX7_scan_28 rfl ?_
  refine z_getI fs_X7_44 (LT.o (LT.kk H0)) dX7_scan_29 ?_
  refine x_icmp_le 58 dX7_scan_32 rfl (fun hc => ?_) (fun hc => ?_)
  · have h := ifT hc h
    refine x_aloadn dX7_scan_58 rfl ?_
    refine x_bipush 48 dX7_scan_59 rfl ?_
    refine x_bipush 57 dX7_scan_61 rfl ?_
    obtain ⟨I6, h7, h⟩ := b1_s h
    refine z_V0 [.int 48, .int 57] [] (cs_X7_40 _) (ci := 5) rfl (LT.o (LT.kk H0)) (dep (show d + 0 + 0 + 1 ≤ (d + 1) from by omega) (Nat.le_of_ble_eq_true rfl)) dX7_scan_63 rfl rfl (Nat.le_of_ble_eq_true rfl) (c_X7_skip d (K := (kk K x0 k)) (I := I4) (LT.kk H0) h7) ?_
    refine x_aloadn dX7_scan_66 rfl ?_
    refine z_getI fs_X7_37 (LT.o (LT.kk H0)) dX7_scan_67 ?_
    refine x_aloadn dX7_scan_70 rfl ?_
    refine z_getI fs_X7_44 (LT.o (LT.kk H0)) dX7_scan_71 ?_
    refine x_icmp_le 101 dX7_scan_74 rfl (fun hc => ?_) (fun hc => ?_)
    · have h := ifT hc h
      refine x_aloadn dX7_scan_101 rfl ?_
      refine z_getI fs_X7_37 (LT.o (LT.kk H0)) dX7_scan_102 ?_
      refine x_aloadn dX7_scan_105 rfl ?_
      refine z_getI fs_X7_34 (LT.o (LT.kk H0)) dX7_scan_106 ?_
      refine x_icmp_ge 141 dX7_scan_109 rfl (fun hc => ?_) (fun hc => ?_)
      · have h := ifT hc h
        refine x_aloadn dX7_scan_141 rfl ?_
        refine x_getsK 0 (by decide) (show Cond.fieldLink RX7 15 RX2 "END" "LWishMarket$Kind;" ∈ wsG from inT1 60 rfl rfl) dX7_scan_142 ?_
        refine z_putK fs_X7_21 (LT.o H0) dX7_scan_145 ?_
        cases h
        exact x_vret rfl dX7_scan_148 ⟨rfl, rfl, rfl⟩
      have h := ifF hc h
      refine x_aloadn dX7_scan_112 rfl ?_
      refine x_aloadn dX7_scan_113 rfl ?_
      refine z_getR fs_X7_9 (LT.o (LT.kk H0)) (LT.g0 (LT.kk H0)) dX7_scan_114 ?_
      refine x_aloadn dX7_scan_117 rfl ?_
      refine z_getI fs_X7_37 (LT.o (LT.kk H0)) dX7_scan_118 ?_
      obtain ⟨j8, hj8, h⟩ := b1_s h
      refine z_bald (LA.kk (LT.l0 H0)) hj8 dX7_scan_121 ?_
      obtain ⟨v9, h10, h⟩ := b1_s h
      refine z_S1 [.int (I6 (x0 + 1) j8)] [.ref x0] (cs_X7_60 _) (dep (show d + 0 + 0 + 1 ≤ (d + 1) from by omega) (Nat.le_of_ble_eq_true rfl)) dX7_scan_122 rfl rfl (Nat.le_of_ble_eq_true rfl) (c_X7_kindOfSign d (K := (kk K x0 k)) (I := I6) h10) ?_
      obtain ⟨u11, hu11, h⟩ := b1_s h
      refine z_putK fs_X7_21 (LT.o H0) dX7_scan_125 ?_
      refine x_aloadn dX7_scan_128 rfl ?_
      refine x_dup dX7_scan_129 rfl ?_
      refine z_getI fs_X7_37 (LT.o (LT.kk H0)) dX7_scan_130 ?_
      refine x_iconst 1 dX7_scan_133 rfl ?_
      refine x_iadd dX7_scan_134 ?_
      obtain ⟨I12, hI12, h⟩ := b1_s h
      refine z_putI fs_X7_37 (LT.o (LT.kk H0)) hI12 dX7_scan_135 ?_
      refine x_goto 148 dX7_scan_138 rfl ?_
      cases h
      exact x_vret rfl dX7_scan_148 ⟨rfl, rfl, rfl⟩
    have h := ifF hc h
    refine x_aloadn dX7_scan_77 rfl ?_
    refine x_aloadn dX7_scan_78 rfl ?_
    obtain ⟨v13, h14, h⟩ := b1_s h
    refine z_V1 [] [.ref x0] (cs_X7_47 _) (ci := 5) rfl (LT.o (LT.kk H0)) (dep (show d + 0 + 0 + 1 ≤ (d + 1) from by omega) (Nat.le_of_ble_eq_true rfl)) dX7_scan_79 rfl rfl (Nat.le_of_ble_eq_true rfl) (c_X7_tokenLength d (K := (kk K x0 k)) (I := I6) (LT.kk H0) h14) ?_
    refine x_iconst 3 dX7_scan_82 rfl ?_
    refine x_icmp_gt 92 dX7_scan_83 rfl (fun hc => ?_) (fun hc => ?_)
    · have h := ifT hc h
      refine x_getsK 6 (by decide) (show Cond.fieldLink RX7 54 RX2 "MALFORMED" "LWishMarket$Kind;" ∈ wsG from inT3 21 rfl rfl) dX7_scan_92 ?_
      refine z_putK fs_X7_21 (LT.o H0) dX7_scan_95 ?_
      refine x_goto 148 dX7_scan_98 rfl ?_
      cases h
      exact x_vret rfl dX7_scan_148 ⟨rfl, rfl, rfl⟩
    have h := ifF hc h
    refine x_getsK 2 (by decide) (show Cond.fieldLink RX7 57 RX2 "NUMBER" "LWishMarket$Kind;" ∈ wsG from inT3 23 rfl rfl) dX7_scan_86 ?_
    refine x_goto 95 dX7_scan_89 rfl ?_
    refine z_putK fs_X7_21 (LT.o H0) dX7_scan_95 ?_
    refine x_goto 148 dX7_scan_98 rfl ?_
    cases h
    exact x_vret rfl dX7_scan_148 ⟨rfl, rfl, rfl⟩
  have h := ifF hc h
  refine x_aloadn dX7_scan_35 rfl ?_
  refine x_aloadn dX7_scan_36 rfl ?_
  obtain ⟨v15, h16, h⟩ := b1_s h
  refine z_V1 [] [.ref x0] (cs_X7_47 _) (ci := 5) rfl (LT.o (LT.kk H0)) (dep (show d + 0 + 0 + 1 ≤ (d + 1) from by omega) (Nat.le_of_ble_eq_true rfl)) dX7_scan_37 rfl rfl (Nat.le_of_ble_eq_true rfl) (c_X7_tokenLength d (K := (kk K x0 k)) (I := I4) (LT.kk H0) h16) ?_
  refine x_bipush 7 dX7_scan_40 rfl ?_
  refine x_icmp_gt 51 dX7_scan_42 rfl (fun hc => ?_) (fun hc => ?_)
  · have h := ifT hc h
    refine x_getsK 6 (by decide) (show Cond.fieldLink RX7 54 RX2 "MALFORMED" "LWishMarket$Kind;" ∈ wsG from inT3 21 rfl rfl) dX7_scan_51 ?_
    refine z_putK fs_X7_21 (LT.o H0) dX7_scan_54 ?_
    cases h
    exact x_vret rfl dX7_scan_57 ⟨rfl, rfl, rfl⟩
  have h := ifF hc h
  refine x_getsK 1 (by decide) (show Cond.fieldLink RX7 51 RX2 "WORD" "LWishMarket$Kind;" ∈ wsG from inT3 19 rfl rfl) dX7_scan_45 ?_
  refine x_goto 54 dX7_scan_48 rfl ?_
  refine z_putK fs_X7_21 (LT.o H0) dX7_scan_54 ?_
  cases h
  exact x_vret rfl dX7_scan_57 ⟨rfl, rfl, rfl⟩
noncomputable def l_X5_readNumber_54 (I : Mem) (k : Nat) (x0 : Nat) (x3 : Int32) (y0 : Int32) : Option (Except String Int32 × Mem × Nat) := e2 (f_X5_require I x0 y0 2) (fun E I11 => some (.error E, I11, k)) fun u10 I11 => some (.ok x3, I11, k)
theorem tl_X5_readNumber_54 (d : Nat) {K : Kt} : ∀ {I : Mem} {k : Nat} {x0 : Nat} (H0 : LR K x0) {x3 : Int32} {y0 : Int32} {x : Except String Int32} {I9 : Mem} {k9 : Nat}, l_X5_readNumber_54 I k x0 x3 y0 = some (x, I9, k9) → X (mX5_readNumber (d + 7)) cX5_readNumber (cst x) (cs6 x) I (kk K (x0 + 1) k) 54 [.ref x0, .retAddr 0, .retAddr 0, .int x3] [.int y0, .ref x0] (Ro (rI x) I9 (kk K (x0 + 1) k9)) := by
  intro I k x0 H0 x3 y0 x I9 k9 h
  unfold l_X5_readNumber_54 at h
  refine x_iconst 2 dX5_readNumber_54 rfl ?_
  rcases e2_s h with ⟨u10, I11, h12, h⟩ | ⟨E, I11, h12, h⟩
  rotate_left
  · have hq := c_X5_require d (K := (kk K (x0 + 1) k)) (I := I) (LR.kk H0) h12
    cases h
    exact z_Ve [.int y0, .int 2] [] (cs_X5_79 _) (ci := 3) rfl (LR.o (LR.kk H0)) (dep (show d + 0 + 6 + 1 ≤ (d + 7) from by omega) (Nat.le_of_ble_eq_true rfl)) dX5_readNumber_55 rfl rfl (Nat.le_of_ble_eq_true rfl) hq rfl
  have hq := c_X5_require d (K := (kk K (x0 + 1) k)) (I := I) (LR.kk H0) h12
  refine z_V0 [.int y0, .int 2] [] (cs_X5_79 _) (ci := 3) rfl (LR.o (LR.kk H0)) (dep (show d + 0 + 6 + 1 ≤ (d + 7) from by omega) (Nat.le_of_ble_eq_true rfl)) dX5_readNumber_55 rfl rfl (Nat.le_of_ble_eq_true rfl) hq ?_
  refine x_iloadn dX5_readNumber_58 rfl ?_
  cases h
  exact x_iret rfl dX5_readNumber_59 ⟨rfl, rfl, rfl⟩
noncomputable def l_X5_readNumber_53 (I : Mem) (k : Nat) (x0 : Nat) (x3 : Int32) : Option (Except String Int32 × Mem × Nat) := l_X5_readNumber_54 I k x0 x3 0
theorem tl_X5_readNumber_53 (d : Nat) {K : Kt} : ∀ {I : Mem} {k : Nat} {x0 : Nat} (H0 : LR K x0) {x3 : Int32} {x : Except String Int32} {I9 : Mem} {k9 : Nat}, l_X5_readNumber_53 I k x0 x3 = some (x, I9, k9) → X (mX5_readNumber (d + 7)) cX5_readNumber (cst x) (cs6 x) I (kk K (x0 + 1) k) 53 [.ref x0, .retAddr 0, .retAddr 0, .int x3] [.ref x0] (Ro (rI x) I9 (kk K (x0 + 1) k9)) := by
  intro I k x0 H0 x3 x I9 k9 h
  unfold l_X5_readNumber_53 at h
  refine x_iconst 0 dX5_readNumber_53 rfl ?_
  exact tl_X5_readNumber_54 d H0 h
noncomputable def l_X5_readNumber_26 (I : Mem) (k : Nat) (x0 : Nat) (x1 : Int32) (x2 : Int32) (y0 : Int32) : Option (Except String Int32 × Mem × Nat) := e2 (f_X5_require I x0 y0 1) (fun E I6 => some (.error E, I6, k)) fun u5 I6 => b1 (f_X7_number I6 (x0 + 1)) fun v8 => if v8 < x1 then (l_X5_readNumber_53 I6 k x0 v8) else (if x2 < v8 then (l_X5_readNumber_53 I6 k x0 v8) else (l_X5_readNumber_54 I6 k x0 v8 1))
theorem tl_X5_readNumber_26 (d : Nat) {K : Kt} : ∀ {I : Mem} {k : Nat} {x0 : Nat} (H0 : LR K x0) {x1 : Int32} {x2 : Int32} {y0 : Int32} {x : Except String Int32} {I9 : Mem} {k9 : Nat}, l_X5_readNumber_26 I k x0 x1 x2 y0 = some (x, I9, k9) → X (mX5_readNumber (d + 7)) cX5_readNumber (cst x) (cs6 x) I (kk K (x0 + 1) k) 26 [.ref x0, .int x1, .int x2, .retAddr 0] [.int y0, .ref x0] (Ro (rI x) I9 (kk K (x0 + 1) k9)) := by
  intro I k x0 H0 x1 x2 y0 x I9 k9 h
  unfold l_X5_readNumber_26 at h
  refine x_iconst 1 dX5_readNumber_26 rfl ?_
  rcases e2_s h with ⟨u5, I6, h7, h⟩ | ⟨E, I6, h7, h⟩
  rotate_left
  · have hq := c_X5_require d (K := (kk K (x0 + 1) k)) (I := I) (LR.kk H0) h7
    cases h
    exact z_Ve [.int y0, .int 1] [] (cs_X5_79 _) (ci := 3) rfl (LR.o (LR.kk H0)) (dep (show d + 0 + 6 + 1 ≤ (d + 7) from by omega) (Nat.le_of_ble_eq_true rfl)) dX5_readNumber_27 rfl rfl (Nat.le_of_ble_eq_true rfl) hq rfl
  have hq := c_X5_require d (K := (kk K (x0 + 1) k)) (I := I) (LR.kk H0) h7
  refine z_V0 [.int y0, .int 1] [] (cs_X5_79 _) (ci := 3) rfl (LR.o (LR.kk H0)) (dep (show d + 0 + 6 + 1 ≤ (d + 7) from by omega) (Nat.le_of_ble_eq_true rfl)) dX5_readNumber_27 rfl rfl (Nat.le_of_ble_eq_true rfl) hq ?_
  refine x_aloadn dX5_readNumber_30 rfl ?_
  refine z_getR fs_X5_12 (LR.o (LR.kk H0)) (LR.g0 (LR.kk H0)) dX5_readNumber_31 ?_
  obtain ⟨v8, h9, h⟩ := b1_s h
  refine z_V1 [] [] (cs_X5_196 _) (ci := 5) rfl (LT.o (LT.kk (LR.t H0))) (dep (show d + 6 + 0 + 1 ≤ (d + 7) from by omega) (Nat.le_of_ble_eq_true rfl)) dX5_readNumber_34 rfl rfl (Nat.le_of_ble_eq_true rfl) (c_X7_number (d + 6) (K := (kk K (x0 + 1) k)) (I := I6) (LT.kk (LR.t H0)) h9) ?_
  refine x_istoren dX5_readNumber_37 (Nat.le_of_ble_eq_true rfl) rfl rfl ?_
  refine x_aloadn dX5_readNumber_38 rfl ?_
  refine x_iloadn dX5_readNumber_39 rfl ?_
  refine x_iloadn dX5_readNumber_40 rfl ?_
  refine x_icmp_lt 53 dX5_readNumber_41 rfl (fun hc => ?_) (fun hc => ?_)
  · have h := ifT hc h
    exact X.forget (L' := [.ref x0, .retAddr 0, .retAddr 0, .int v8]) ⟨Or.inl rfl, ⟨Or.inr rfl, ⟨Or.inr rfl, ⟨Or.inl rfl, trivial⟩⟩⟩⟩ (tl_X5_readNumber_53 d H0 h)
  have h := ifF hc h
  refine x_iloadn dX5_readNumber_44 rfl ?_
  refine x_iloadn dX5_readNumber_45 rfl ?_
  refine x_icmp_gt 53 dX5_readNumber_46 rfl (fun hc => ?_) (fun hc => ?_)
  · have h := ifT hc h
    exact X.forget (L' := [.ref x0, .retAddr 0, .retAddr 0, .int v8]) ⟨Or.inl rfl, ⟨Or.inr rfl, ⟨Or.inr rfl, ⟨Or.inl rfl, trivial⟩⟩⟩⟩ (tl_X5_readNumber_53 d H0 h)
  have h := ifF hc h
  refine x_iconst 1 dX5_readNumber_49 rfl ?_
  refine x_goto 54 dX5_readNumber_50 rfl ?_
  exact X.forget (L' := [.ref x0, .retAddr 0, .retAddr 0, .int v8]) ⟨Or.inl rfl, ⟨Or.inr rfl, ⟨Or.inr rfl, ⟨Or.inl rfl, trivial⟩⟩⟩⟩ (tl_X5_readNumber_54 d H0 h)
noncomputable def f_X5_readNumber (I : Mem) (k : Nat) (x0 : Nat) (x1 : Int32) (x2 : Int32) : Option (Except String Int32 × Mem × Nat) := b2 (f_X7_scan I k (x0 + 1)) fun I1 k2 => b1 (ckK k2) fun _ => if k2 = 2 then (l_X5_readNumber_26 I1 k2 x0 x1 x2 1) else (l_X5_readNumber_26 I1 k2 x0 x1 x2 0)
theorem c_X5_readNumber (d : Nat) {K : Kt} {I : Mem} {k : Nat} {x0 : Nat} (H0 : LR K x0) {x1 : Int32} {x2 : Int32} {x : Except String Int32} {I9 : Mem} {k9 : Nat} (h : f_X5_readNumber I k x0 x1 x2 = some (x, I9, k9)) : Ct (mX5_readNumber (d + 7)) cX5_readNumber (cst x) (cs6 x) [.ref x0, .int x1, .int x2] I (kk K (x0 + 1) k) (Ro (rI x) I9 (kk K (x0 + 1) k9)) := by
  refine Ct.of rfl pn_X5 (catR (catI (catI cat0))) (Nat.le_of_ble_eq_true rfl) (show X _ _ _ _ _ _ 0 [.ref x0, .int x1, .int x2, .retAddr 0] [] _ from ?_)
  unfold f_X5_readNumber at h
  refine x_aloadn dX5_readNumber_0 rfl ?_
  refine z_getR fs_X5_12 (LR.o (LR.kk H0)) (LR.g0 (LR.kk H0)) dX5_readNumber_1 ?_
  obtain ⟨I1, k2, h3, h⟩ := b2_s h
  refine z_V0 [] [] (cs_X5_70 _) (ci := 5) rfl (LT.o (LT.kk (LR.t H0))) (dep (show d + 5 + 1 + 1 ≤ (d + 7) from by omega) (Nat.le_of_ble_eq_true rfl)) dX5_readNumber_4 rfl rfl (Nat.le_of_ble_eq_true rfl) (c_X7_scan (d + 5) (K := K) (I := I) (LR.t H0) h3) ?_
  refine x_aloadn dX5_readNumber_7 rfl ?_
  refine x_aloadn dX5_readNumber_8 rfl ?_
  refine z_getR fs_X5_12 (LR.o (LR.kk H0)) (LR.g0 (LR.kk H0)) dX5_readNumber_9 ?_
  obtain ⟨u4, hu4, h⟩ := b1_s h
  refine z_getR fs_X5_88 (LT.o (LT.kk (LR.t H0))) kk_k dX5_readNumber_12 ?_
  refine x_getsK 2 (by decide) (show Cond.fieldLink RX5 193 RX2 "NUMBER" "LWishMarket$Kind;" ∈ wsG from inT3 109 rfl rfl) dX5_readNumber_15 ?_
  refine x_acmpK_ne 25 (ckK_s hu4) (by decide) dX5_readNumber_18 rfl (fun hc => ?_) (fun hc => ?_)
  · have h := ifF hc h
    refine x_iconst 0 dX5_readNumber_25 rfl ?_
    exact tl_X5_readNumber_26 d H0 h
  have h := ifT hc h
  refine x_iconst 1 dX5_readNumber_21 rfl ?_
  refine x_goto 26 dX5_readNumber_22 rfl ?_
  exact tl_X5_readNumber_26 d H0 h
noncomputable def l_X5_isItemNext_159 (I : Mem) (k : Nat) (x0 : Nat) (y0 : Int32) : Option (Except String Int32 × Mem × Nat) := e2 (f_X5_require I x0 y0 1) (fun E I6 => some (.error E, I6, k)) fun u5 I6 => some (.ok 1, I6, k)
theorem tl_X5_isItemNext_159 (d : Nat) {K : Kt} : ∀ {I : Mem} {k : Nat} {x0 : Nat} (H0 : LR K x0) {y0 : Int32} {x : Except String Int32} {I9 : Mem} {k9 : Nat}, l_X5_isItemNext_159 I k x0 y0 = some (x, I9, k9) → X (mX5_isItemNext (d + 7)) cX5_isItemNext (cst x) (cs6 x) I (kk K (x0 + 1) k) 159 [.ref x0, .retAddr 0] [.int y0, .ref x0] (Ro (rI x) I9 (kk K (x0 + 1) k9)) := by
  intro I k x0 H0 y0 x I9 k9 h
  unfold l_X5_isItemNext_159 at h
  refine x_iconst 1 dX5_isItemNext_159 rfl ?_
  rcases e2_s h with ⟨u5, I6, h7, h⟩ | ⟨E, I6, h7, h⟩
  rotate_left
  · have hq := c_X5_require d (K := (kk K (x0 + 1) k)) (I := I) (LR.kk H0) h7
    cases h
    exact z_Ve [.int y0, .int 1] [] (cs_X5_79 _) (ci := 3) rfl (LR.o (LR.kk H0)) (dep (show d + 0 + 6 + 1 ≤ (d + 7) from by omega) (Nat.le_of_ble_eq_true rfl)) dX5_isItemNext_160 rfl rfl (Nat.le_of_ble_eq_true rfl) hq rfl
  have hq := c_X5_require d (K := (kk K (x0 + 1) k)) (I := I) (LR.kk H0) h7
  refine z_V0 [.int y0, .int 1] [] (cs_X5_79 _) (ci := 3) rfl (LR.o (LR.kk H0)) (dep (show d + 0 + 6 + 1 ≤ (d + 7) from by omega) (Nat.le_of_ble_eq_true rfl)) dX5_isItemNext_160 rfl rfl (Nat.le_of_ble_eq_true rfl) hq ?_
  refine x_iconst 1 dX5_isItemNext_163 rfl ?_
  cases h
  exact x_zret rfl rfl dX5_isItemNext_164 ⟨rfl, rfl, rfl⟩
noncomputable def l_X5_isItemNext_140 (I : Mem) (k : Nat) (x0 : Nat) : Option (Except String Int32 × Mem × Nat) := b1 (ckK k) fun _ => if k = 3 then (l_X5_isItemNext_159 I k x0 1) else (l_X5_isItemNext_159 I k x0 0)
theorem tl_X5_isItemNext_140 (d : Nat) {K : Kt} : ∀ {I : Mem} {k : Nat} {x0 : Nat} (H0 : LR K x0) {x : Except String Int32} {I9 : Mem} {k9 : Nat}, l_X5_isItemNext_140 I k x0 = some (x, I9, k9) → X (mX5_isItemNext (d + 7)) cX5_isItemNext (cst x) (cs6 x) I (kk K (x0 + 1) k) 140 [.ref x0, .retAddr 0] [] (Ro (rI x) I9 (kk K (x0 + 1) k9)) := by
  intro I k x0 H0 x I9 k9 h
  unfold l_X5_isItemNext_140 at h
  refine x_aloadn dX5_isItemNext_140 rfl ?_
  refine x_aloadn dX5_isItemNext_141 rfl ?_
  refine z_getR fs_X5_12 (LR.o (LR.kk H0)) (LR.g0 (LR.kk H0)) dX5_isItemNext_142 ?_
  obtain ⟨u4, hu4, h⟩ := b1_s h
  refine z_getR fs_X5_88 (LT.o (LT.kk (LR.t H0))) kk_k dX5_isItemNext_145 ?_
  refine x_getsK 3 (by decide) (show Cond.fieldLink RX5 109 RX2 "SEMICOLON" "LWishMarket$Kind;" ∈ wsG from inT3 124 rfl rfl) dX5_isItemNext_148 ?_
  refine x_acmpK_ne 158 (ckK_s hu4) (by decide) dX5_isItemNext_151 rfl (fun hc => ?_) (fun hc => ?_)
  · have h := ifF hc h
    refine x_iconst 0 dX5_isItemNext_158 rfl ?_
    exact tl_X5_isItemNext_159 d H0 h
  have h := ifT hc h
  refine x_iconst 1 dX5_isItemNext_154 rfl ?_
  refine x_goto 159 dX5_isItemNext_155 rfl ?_
  exact tl_X5_isItemNext_159 d H0 h
noncomputable def l_X5_isItemNext_134 (I : Mem) (k : Nat) (x0 : Nat) (y0 : Int32) : Option (Except String Int32 × Mem × Nat) := e2 (f_X5_require I x0 y0 4) (fun E I10 => some (.error E, I10, k)) fun u9 I10 => some (.ok 0, I10, k)
theorem tl_X5_isItemNext_134 (d : Nat) {K : Kt} : ∀ {I : Mem} {k : Nat} {x0 : Nat} (H0 : LR K x0) {y0 : Int32} {x : Except String Int32} {I9 : Mem} {k9 : Nat}, l_X5_isItemNext_134 I k x0 y0 = some (x, I9, k9) → X (mX5_isItemNext (d + 7)) cX5_isItemNext (cst x) (cs6 x) I (kk K (x0 + 1) k) 134 [.ref x0, .retAddr 0] [.int y0, .ref x0] (Ro (rI x) I9 (kk K (x0 + 1) k9)) := by
  intro I k x0 H0 y0 x I9 k9 h
  unfold l_X5_isItemNext_134 at h
  refine x_iconst 4 dX5_isItemNext_134 rfl ?_
  rcases e2_s h with ⟨u9, I10, h11, h⟩ | ⟨E, I10, h11, h⟩
  rotate_left
  · have hq := c_X5_require d (K := (kk K (x0 + 1) k)) (I := I) (LR.kk H0) h11
    cases h
    exact z_Ve [.int y0, .int 4] [] (cs_X5_79 _) (ci := 3) rfl (LR.o (LR.kk H0)) (dep (show d + 0 + 6 + 1 ≤ (d + 7) from by omega) (Nat.le_of_ble_eq_true rfl)) dX5_isItemNext_135 rfl rfl (Nat.le_of_ble_eq_true rfl) hq rfl
  have hq := c_X5_require d (K := (kk K (x0 + 1) k)) (I := I) (LR.kk H0) h11
  refine z_V0 [.int y0, .int 4] [] (cs_X5_79 _) (ci := 3) rfl (LR.o (LR.kk H0)) (dep (show d + 0 + 6 + 1 ≤ (d + 7) from by omega) (Nat.le_of_ble_eq_true rfl)) dX5_isItemNext_135 rfl rfl (Nat.le_of_ble_eq_true rfl) hq ?_
  refine x_iconst 0 dX5_isItemNext_138 rfl ?_
  cases h
  exact x_zret rfl rfl dX5_isItemNext_139 ⟨rfl, rfl, rfl⟩
noncomputable def l_X5_isItemNext_133 (I : Mem) (k : Nat) (x0 : Nat) : Option (Except String Int32 × Mem × Nat) := l_X5_isItemNext_134 I k x0 0
theorem tl_X5_isItemNext_133 (d : Nat) {K : Kt} : ∀ {I : Mem} {k : Nat} {x0 : Nat} (H0 : LR K x0) {x : Except String Int32} {I9 : Mem} {k9 : Nat}, l_X5_isItemNext_133 I k x0 = some (x, I9, k9) → X (mX5_isItemNext (d + 7)) cX5_isItemNext (cst x) (cs6 x) I (kk K (x0 + 1) k) 133 [.ref x0, .retAddr 0] [.ref x0] (Ro (rI x) I9 (kk K (x0 + 1) k9)) := by
  intro I k x0 H0 x I9 k9 h
  unfold l_X5_isItemNext_133 at h
  refine x_iconst 0 dX5_isItemNext_133 rfl ?_
  exact tl_X5_isItemNext_134 d H0 h
noncomputable def l_X5_isItemNext_88 (I : Mem) (k : Nat) (x0 : Nat) : Option (Except String Int32 × Mem × Nat) := if (I x0 6) = 0 then (b1 (ckK k) fun _ => if k = 0 then (if (I (x0 + 3) 4) ≤ 0 then (l_X5_isItemNext_133 I k x0) else (if (I (x0 + 3) 3) ≤ 0 then (l_X5_isItemNext_133 I k x0) else (l_X5_isItemNext_134 I k x0 1))) else (l_X5_isItemNext_140 I k x0)) else (l_X5_isItemNext_140 I k x0)
theorem tl_X5_isItemNext_88 (d : Nat) {K : Kt} : ∀ {I : Mem} {k : Nat} {x0 : Nat} (H0 : LR K x0) {x : Except String Int32} {I9 : Mem} {k9 : Nat}, l_X5_isItemNext_88 I k x0 = some (x, I9, k9) → X (mX5_isItemNext (d + 7)) cX5_isItemNext (cst x) (cs6 x) I (kk K (x0 + 1) k) 88 [.ref x0, .retAddr 0] [] (Ro (rI x) I9 (kk K (x0 + 1) k9)) := by
  intro I k x0 H0 x I9 k9 h
  unfold l_X5_isItemNext_88 at h
  refine x_aloadn dX5_isItemNext_88 rfl ?_
  refine z_getI fs_X5_39 (LR.o (LR.kk H0)) dX5_isItemNext_89 ?_
  refine x_if_ne 140 dX5_isItemNext_92 rfl (fun hc => ?_) (fun hc => ?_)
  · have h := ifF hc h
    exact tl_X5_isItemNext_140 d H0 h
  have h := ifT hc h
  refine x_aloadn dX5_isItemNext_95 rfl ?_
  refine z_getR fs_X5_12 (LR.o (LR.kk H0)) (LR.g0 (LR.kk H0)) dX5_isItemNext_96 ?_
  obtain ⟨u8, hu8, h⟩ := b1_s h
  refine z_getR fs_X5_88 (LT.o (LT.kk (LR.t H0))) kk_k dX5_isItemNext_99 ?_
  refine x_getsK 0 (by decide) (show Cond.fieldLink RX5 100 RX2 "END" "LWishMarket$Kind;" ∈ wsG from inT3 123 rfl rfl) dX5_isItemNext_102 ?_
  refine x_acmpK_ne 140 (ckK_s hu8) (by decide) dX5_isItemNext_105 rfl (fun hc => ?_) (fun hc => ?_)
  · have h := ifF hc h
    exact tl_X5_isItemNext_140 d H0 h
  have h := ifT hc h
  refine x_aloadn dX5_isItemNext_108 rfl ?_
  refine x_aloadn dX5_isItemNext_109 rfl ?_
  refine z_getR fs_X5_21 (LR.o (LR.kk H0)) (LR.g1 (LR.kk H0)) dX5_isItemNext_110 ?_
  refine z_getI fs_X5_103 (LM.o (LM.kk (LR.q H0) (by omega))) dX5_isItemNext_113 ?_
  refine x_if_le 133 dX5_isItemNext_116 rfl (fun hc => ?_) (fun hc => ?_)
  · have h := ifT hc h
    exact tl_X5_isItemNext_133 d H0 h
  have h := ifF hc h
  refine x_aloadn dX5_isItemNext_119 rfl ?_
  refine z_getR fs_X5_21 (LR.o (LR.kk H0)) (LR.g1 (LR.kk H0)) dX5_isItemNext_120 ?_
  refine z_getI fs_X5_106 (LM.o (LM.kk (LR.q H0) (by omega))) dX5_isItemNext_123 ?_
  refine x_if_le 133 dX5_isItemNext_126 rfl (fun hc => ?_) (fun hc => ?_)
  · have h := ifT hc h
    exact tl_X5_isItemNext_133 d H0 h
  have h := ifF hc h
  refine x_iconst 1 dX5_isItemNext_129 rfl ?_
  refine x_goto 134 dX5_isItemNext_130 rfl ?_
  exact tl_X5_isItemNext_134 d H0 h
noncomputable def l_X5_isItemNext_7 (n : Nat) (I : Mem) (k : Nat) (x0 : Nat) : Option (Except String Int32 × Mem × Nat) := match n with
  | 0 => none
  | n + 1 => if (I x0 6) ≤ 0 then (l_X5_isItemNext_88 I k x0) else (b1 (ckK k) fun _ => if k = 5 then (b1 (ix ((I x0 6) - 1) 3) fun j13 => if (I (x0 + 35) j13) ≤ 0 then (b1 (pu I x0 6 ((I x0 6) - 1)) fun I14 => b2 (f_X7_scan I14 k (x0 + 1)) fun I15 k16 => l_X5_isItemNext_7 n I15 k16 x0) else (b1 (ix ((I x0 6) - 1) 3) fun j18 => b1 (ix ((I x0 6) - 1) 3) fun j19 => b1 (pu I (x0 + 35) j19 ((I (x0 + 35) j18) - 1)) fun I20 => b1 (ix ((I x0 6) - 1) 3) fun j21 => b1 (pu I20 (x0 + 1) 3 (I20 (x0 + 34) j21)) fun I22 => some (.ok 1, I22, k))) else (l_X5_isItemNext_88 I k x0))
theorem tl_X5_isItemNext_7 (d : Nat) {K : Kt} (n : Nat) : ∀ {I : Mem} {k : Nat} {x0 : Nat} (H0 : LR K x0) {x : Except String Int32} {I9 : Mem} {k9 : Nat}, l_X5_isItemNext_7 n I k x0 = some (x, I9, k9) → X (mX5_isItemNext (d + 7)) cX5_isItemNext (cst x) (cs6 x) I (kk K (x0 + 1) k) 7 [.ref x0, .retAddr 0] [] (Ro (rI x) I9 (kk K (x0 + 1) k9)) := by
  induction n with
  | zero =>
    intro I k x0 H0 x I9 k9 h
    cases h
  | succ n ih =>
    intro I k x0 H0 x I9 k9 h
    unfold l_X5_isItemNext_7 at h
    refine x_aloadn dX5_isItemNext_7 rfl ?_
    refine z_getI fs_X5_39 (LR.o (LR.kk H0)) dX5_isItemNext_8 ?_
    refine x_if_le 88 dX5_isItemNext_11 rfl (fun hc => ?_) (fun hc => ?_)
    · have h := ifT hc h
      exact tl_X5_isItemNext_88 d H0 h
    have h := ifF hc h
    refine x_aloadn dX5_isItemNext_14 rfl ?_
    refine z_getR fs_X5_12 (LR.o (LR.kk H0)) (LR.g0 (LR.kk H0)) dX5_isItemNext_15 ?_
    obtain ⟨u12, hu12, h⟩ := b1_s h
    refine z_getR fs_X5_88 (LT.o (LT.kk (LR.t H0))) kk_k dX5_isItemNext_18 ?_
    refine x_getsK 5 (by decide) (show Cond.fieldLink RX5 92 RX2 "CLOSE" "LWishMarket$Kind;" ∈ wsG from inT3 122 rfl rfl) dX5_isItemNext_21 ?_
    refine x_acmpK_ne 88 (ckK_s hu12) (by decide) dX5_isItemNext_24 rfl (fun hc => ?_) (fun hc => ?_)
    · have h := ifF hc h
      exact tl_X5_isItemNext_88 d H0 h
    have h := ifT hc h
    refine x_aloadn dX5_isItemNext_27 rfl ?_
    refine z_getI fs_X5_39 (LR.o (LR.kk H0)) dX5_isItemNext_28 ?_
    refine x_iconst 1 dX5_isItemNext_31 rfl ?_
    refine x_isub dX5_isItemNext_32 ?_
    refine x_istoren dX5_isItemNext_33 (Nat.le_of_ble_eq_true rfl) rfl rfl ?_
    refine x_aloadn dX5_isItemNext_34 rfl ?_
    refine z_getR fs_X5_33 (LR.o (LR.kk H0)) (LR.g5 (LR.kk H0)) dX5_isItemNext_35 ?_
    refine x_iloadn dX5_isItemNext_38 rfl ?_
    obtain ⟨j13, hj13, h⟩ := b1_s h
    refine z_iald (LA.kk (LR.l5 H0)) hj13 dX5_isItemNext_39 ?_
    refine x_if_le 68 dX5_isItemNext_40 rfl (fun hc => ?_) (fun hc => ?_)
    · have h := ifT hc h
      refine x_aloadn dX5_isItemNext_68 rfl ?_
      refine x_dup dX5_isItemNext_69 rfl ?_
      refine z_getI fs_X5_39 (LR.o (LR.kk H0)) dX5_isItemNext_70 ?_
      refine x_iconst 1 dX5_isItemNext_73 rfl ?_
      refine x_isub dX5_isItemNext_74 ?_
      obtain ⟨I14, hI14, h⟩ := b1_s h
      refine z_putI fs_X5_39 (LR.o (LR.kk H0)) hI14 dX5_isItemNext_75 ?_
      refine x_aloadn dX5_isItemNext_78 rfl ?_
      refine z_getR fs_X5_12 (LR.o (LR.kk H0)) (LR.g0 (LR.kk H0)) dX5_isItemNext_79 ?_
      obtain ⟨I15, k16, h17, h⟩ := b2_s h
      refine z_V0 [] [] (cs_X5_70 _) (ci := 5) rfl (LT.o (LT.kk (LR.t H0))) (dep (show d + 5 + 1 + 1 ≤ (d + 7) from by omega) (Nat.le_of_ble_eq_true rfl)) dX5_isItemNext_82 rfl rfl (Nat.le_of_ble_eq_true rfl) (c_X7_scan (d + 5) (K := K) (I := I14) (LR.t H0) h17) ?_
      refine x_goto 7 dX5_isItemNext_85 rfl ?_
      exact X.forget (L' := [.ref x0, .retAddr 0]) ⟨Or.inl rfl, ⟨Or.inr rfl, trivial⟩⟩ (ih H0 h)
    have h := ifF hc h
    refine x_aloadn dX5_isItemNext_43 rfl ?_
    refine z_getR fs_X5_33 (LR.o (LR.kk H0)) (LR.g5 (LR.kk H0)) dX5_isItemNext_44 ?_
    refine x_iloadn dX5_isItemNext_47 rfl ?_
    refine x_dup2 dX5_isItemNext_48 rfl rfl ?_
    obtain ⟨j18, hj18, h⟩ := b1_s h
    refine z_iald (LA.kk (LR.l5 H0)) hj18 dX5_isItemNext_49 ?_
    refine x_iconst 1 dX5_isItemNext_50 rfl ?_
    refine x_isub dX5_isItemNext_51 ?_
    obtain ⟨j19, hj19, h⟩ := b1_s h
    obtain ⟨I20, hI20, h⟩ := b1_s h
    refine z_iast (LA.kk (LR.l5 H0)) hj19 hI20 dX5_isItemNext_52 ?_
    refine x_aloadn dX5_isItemNext_53 rfl ?_
    refine z_getR fs_X5_12 (LR.o (LR.kk H0)) (LR.g0 (LR.kk H0)) dX5_isItemNext_54 ?_
    refine x_aloadn dX5_isItemNext_57 rfl ?_
    refine z_getR fs_X5_29 (LR.o (LR.kk H0)) (LR.g4 (LR.kk H0)) dX5_isItemNext_58 ?_
    refine x_iloadn dX5_isItemNext_61 rfl ?_
    obtain ⟨j21, hj21, h⟩ := b1_s h
    refine z_iald (LA.kk (LR.l4 H0)) hj21 dX5_isItemNext_62 ?_
    obtain ⟨I22, hI22, h⟩ := b1_s h
    refine z_putI fs_X5_97 (LT.o (LT.kk (LR.t H0))) hI22 dX5_isItemNext_63 ?_
    refine x_iconst 1 dX5_isItemNext_66 rfl ?_
    cases h
    exact x_zret rfl rfl dX5_isItemNext_67 ⟨rfl, rfl, rfl⟩
noncomputable def f_X5_isItemNext (I : Mem) (k : Nat) (x0 : Nat) : Option (Except String Int32 × Mem × Nat) := b2 (f_X7_scan I k (x0 + 1)) fun I1 k2 => l_X5_isItemNext_7 FU I1 k2 x0
theorem c_X5_isItemNext (d : Nat) {K : Kt} {I : Mem} {k : Nat} {x0 : Nat} (H0 : LR K x0) {x : Except String Int32} {I9 : Mem} {k9 : Nat} (h : f_X5_isItemNext I k x0 = some (x, I9, k9)) : Ct (mX5_isItemNext (d + 7)) cX5_isItemNext (cst x) (cs6 x) [.ref x0] I (kk K (x0 + 1) k) (Ro (rI x) I9 (kk K (x0 + 1) k9)) := by
  refine Ct.of rfl pn_X5 (catR cat0) (Nat.le_of_ble_eq_true rfl) (show X _ _ _ _ _ _ 0 [.ref x0, .retAddr 0] [] _ from ?_)
  unfold f_X5_isItemNext at h
  refine x_aloadn dX5_isItemNext_0 rfl ?_
  refine z_getR fs_X5_12 (LR.o (LR.kk H0)) (LR.g0 (LR.kk H0)) dX5_isItemNext_1 ?_
  obtain ⟨I1, k2, h3, h⟩ := b2_s h
  refine z_V0 [] [] (cs_X5_70 _) (ci := 5) rfl (LT.o (LT.kk (LR.t H0))) (dep (show d + 5 + 1 + 1 ≤ (d + 7) from by omega) (Nat.le_of_ble_eq_true rfl)) dX5_isItemNext_4 rfl rfl (Nat.le_of_ble_eq_true rfl) (c_X7_scan (d + 5) (K := K) (I := I) (LR.t H0) h3) ?_
  exact tl_X5_isItemNext_7 d FU H0 h
noncomputable def f_X5_readPersonIndex (I : Mem) (k : Nat) (x0 : Nat) : Option (Except String Int32 × Mem × Nat) := e3 (f_X5_readNumber I k x0 0 ((I (x0 + 3) 3) - 1)) (fun E I2 k3 => some (.error E, I2, k3)) fun v1 I2 k3 => some (.ok v1, I2, k3)
theorem c_X5_readPersonIndex (d : Nat) {K : Kt} {I : Mem} {k : Nat} {x0 : Nat} (H0 : LR K x0) {x : Except String Int32} {I9 : Mem} {k9 : Nat} (h : f_X5_readPersonIndex I k x0 = some (x, I9, k9)) : Ct (mX5_readPersonIndex (d + 8)) cX5_readPersonIndex (cst x) (cs6 x) [.ref x0] I (kk K (x0 + 1) k) (Ro (rI x) I9 (kk K (x0 + 1) k9)) := by
  refine Ct.of rfl pn_X5 (catR cat0) (Nat.le_of_ble_eq_true rfl) (show X _ _ _ _ _ _ 0 [.ref x0] [] _ from ?_)
  unfold f_X5_readPersonIndex at h
  refine x_aloadn dX5_readPersonIndex_0 rfl ?_
  refine x_iconst 0 dX5_readPersonIndex_1 rfl ?_
  refine x_aloadn dX5_readPersonIndex_2 rfl ?_
  refine z_getR fs_X5_21 (LR.o (LR.kk H0)) (LR.g1 (LR.kk H0)) dX5_readPersonIndex_3 ?_
  refine z_getI fs_X5_106 (LM.o (LM.kk (LR.q H0) (by omega))) dX5_readPersonIndex_6 ?_
  refine x_iconst 1 dX5_readPersonIndex_9 rfl ?_
  refine x_isub dX5_readPersonIndex_10 ?_
  rcases e3_s h with ⟨v1, I2, k3, h4, h⟩ | ⟨E, I2, k3, h4, h⟩
  rotate_left
  · have hq := c_X5_readNumber d (K := K) (I := I) H0 h4
    cases h
    exact z_Ve [.int 0, .int ((I (x0 + 3) 3) - 1)] [] (cs_X5_83 _) (ci := 3) rfl (LR.o (LR.kk H0)) (dep (show d + 0 + 7 + 1 ≤ (d + 8) from by omega) (Nat.le_of_ble_eq_true rfl)) dX5_readPersonIndex_11 rfl rfl (Nat.le_of_ble_eq_true rfl) hq rfl
  have hq := c_X5_readNumber d (K := K) (I := I) H0 h4
  refine z_V1 [.int 0, .int ((I (x0 + 3) 3) - 1)] [] (cs_X5_83 _) (ci := 3) rfl (LR.o (LR.kk H0)) (dep (show d + 0 + 7 + 1 ≤ (d + 8) from by omega) (Nat.le_of_ble_eq_true rfl)) dX5_readPersonIndex_11 rfl rfl (Nat.le_of_ble_eq_true rfl) hq ?_
  cases h
  exact x_iret rfl dX5_readPersonIndex_14 ⟨rfl, rfl, rfl⟩
noncomputable def f_X5_readStallIndex (I : Mem) (k : Nat) (x0 : Nat) : Option (Except String Int32 × Mem × Nat) := e3 (f_X5_readNumber I k x0 0 ((I (x0 + 3) 4) - 1)) (fun E I2 k3 => some (.error E, I2, k3)) fun v1 I2 k3 => some (.ok v1, I2, k3)
theorem c_X5_readStallIndex (d : Nat) {K : Kt} {I : Mem} {k : Nat} {x0 : Nat} (H0 : LR K x0) {x : Except String Int32} {I9 : Mem} {k9 : Nat} (h : f_X5_readStallIndex I k x0 = some (x, I9, k9)) : Ct (mX5_readStallIndex (d + 8)) cX5_readStallIndex (cst x) (cs6 x) [.ref x0] I (kk K (x0 + 1) k) (Ro (rI x) I9 (kk K (x0 + 1) k9)) := by
  refine Ct.of rfl pn_X5 (catR cat0) (Nat.le_of_ble_eq_true rfl) (show X _ _ _ _ _ _ 0 [.ref x0] [] _ from ?_)
  unfold f_X5_readStallIndex at h
  refine x_aloadn dX5_readStallIndex_0 rfl ?_
  refine x_iconst 0 dX5_readStallIndex_1 rfl ?_
  refine x_aloadn dX5_readStallIndex_2 rfl ?_
  refine z_getR fs_X5_21 (LR.o (LR.kk H0)) (LR.g1 (LR.kk H0)) dX5_readStallIndex_3 ?_
  refine z_getI fs_X5_103 (LM.o (LM.kk (LR.q H0) (by omega))) dX5_readStallIndex_6 ?_
  refine x_iconst 1 dX5_readStallIndex_9 rfl ?_
  refine x_isub dX5_readStallIndex_10 ?_
  rcases e3_s h with ⟨v1, I2, k3, h4, h⟩ | ⟨E, I2, k3, h4, h⟩
  rotate_left
  · have hq := c_X5_readNumber d (K := K) (I := I) H0 h4
    cases h
    exact z_Ve [.int 0, .int ((I (x0 + 3) 4) - 1)] [] (cs_X5_83 _) (ci := 3) rfl (LR.o (LR.kk H0)) (dep (show d + 0 + 7 + 1 ≤ (d + 8) from by omega) (Nat.le_of_ble_eq_true rfl)) dX5_readStallIndex_11 rfl rfl (Nat.le_of_ble_eq_true rfl) hq rfl
  have hq := c_X5_readNumber d (K := K) (I := I) H0 h4
  refine z_V1 [.int 0, .int ((I (x0 + 3) 4) - 1)] [] (cs_X5_83 _) (ci := 3) rfl (LR.o (LR.kk H0)) (dep (show d + 0 + 7 + 1 ≤ (d + 8) from by omega) (Nat.le_of_ble_eq_true rfl)) dX5_readStallIndex_11 rfl rfl (Nat.le_of_ble_eq_true rfl) hq ?_
  cases h
  exact x_iret rfl dX5_readStallIndex_14 ⟨rfl, rfl, rfl⟩
noncomputable def f_X5_readWishIndex (I : Mem) (k : Nat) (x0 : Nat) : Option (Except String Int32 × Mem × Nat) := e3 (f_X5_readNumber I k x0 0 ((I (x0 + 3) 5) - 1)) (fun E I2 k3 => some (.error E, I2, k3)) fun v1 I2 k3 => some (.ok v1, I2, k3)
theorem c_X5_readWishIndex (d : Nat) {K : Kt} {I : Mem} {k : Nat} {x0 : Nat} (H0 : LR K x0) {x : Except String Int32} {I9 : Mem} {k9 : Nat} (h : f_X5_readWishIndex I k x0 = some (x, I9, k9)) : Ct (mX5_readWishIndex (d + 8)) cX5_readWishIndex (cst x) (cs6 x) [.ref x0] I (kk K (x0 + 1) k) (Ro (rI x) I9 (kk K (x0 + 1) k9)) := by
  refine Ct.of rfl pn_X5 (catR cat0) (Nat.le_of_ble_eq_true rfl) (show X _ _ _ _ _ _ 0 [.ref x0] [] _ from ?_)
  unfold f_X5_readWishIndex at h
  refine x_aloadn dX5_readWishIndex_0 rfl ?_
  refine x_iconst 0 dX5_readWishIndex_1 rfl ?_
  refine x_aloadn dX5_readWishIndex_2 rfl ?_
  refine z_getR fs_X5_21 (LR.o (LR.kk H0)) (LR.g1 (LR.kk H0)) dX5_readWishIndex_3 ?_
  refine z_getI fs_X5_199 (LM.o (LM.kk (LR.q H0) (by omega))) dX5_readWishIndex_6 ?_
  refine x_iconst 1 dX5_readWishIndex_9 rfl ?_
  refine x_isub dX5_readWishIndex_10 ?_
  rcases e3_s h with ⟨v1, I2, k3, h4, h⟩ | ⟨E, I2, k3, h4, h⟩
  rotate_left
  · have hq := c_X5_readNumber d (K := K) (I := I) H0 h4
    cases h
    exact z_Ve [.int 0, .int ((I (x0 + 3) 5) - 1)] [] (cs_X5_83 _) (ci := 3) rfl (LR.o (LR.kk H0)) (dep (show d + 0 + 7 + 1 ≤ (d + 8) from by omega) (Nat.le_of_ble_eq_true rfl)) dX5_readWishIndex_11 rfl rfl (Nat.le_of_ble_eq_true rfl) hq rfl
  have hq := c_X5_readNumber d (K := K) (I := I) H0 h4
  refine z_V1 [.int 0, .int ((I (x0 + 3) 5) - 1)] [] (cs_X5_83 _) (ci := 3) rfl (LR.o (LR.kk H0)) (dep (show d + 0 + 7 + 1 ≤ (d + 8) from by omega) (Nat.le_of_ble_eq_true rfl)) dX5_readWishIndex_11 rfl rfl (Nat.le_of_ble_eq_true rfl) hq ?_
  cases h
  exact x_iret rfl dX5_readWishIndex_14 ⟨rfl, rfl, rfl⟩
noncomputable def f_X5_readDayOfYear (I : Mem) (k : Nat) (x0 : Nat) : Option (Except String Int32 × Mem × Nat) := e3 (f_X5_readNumber I k x0 0 ((I (x0 + 3) 7) - 1)) (fun E I2 k3 => some (.error E, I2, k3)) fun v1 I2 k3 => some (.ok v1, I2, k3)
theorem c_X5_readDayOfYear (d : Nat) {K : Kt} {I : Mem} {k : Nat} {x0 : Nat} (H0 : LR K x0) {x : Except String Int32} {I9 : Mem} {k9 : Nat} (h : f_X5_readDayOfYear I k x0 = some (x, I9, k9)) : Ct (mX5_readDayOfYear (d + 8)) cX5_readDayOfYear (cst x) (cs6 x) [.ref x0] I (kk K (x0 + 1) k) (Ro (rI x) I9 (kk K (x0 + 1) k9)) := by
  refine Ct.of rfl pn_X5 (catR cat0) (Nat.le_of_ble_eq_true rfl) (show X _ _ _ _ _ _ 0 [.ref x0] [] _ from ?_)
  unfold f_X5_readDayOfYear at h
  refine x_aloadn dX5_readDayOfYear_0 rfl ?_
  refine x_iconst 0 dX5_readDayOfYear_1 rfl ?_
  refine x_aloadn dX5_readDayOfYear_2 rfl ?_
  refine z_getR fs_X5_21 (LR.o (LR.kk H0)) (LR.g1 (LR.kk H0)) dX5_readDayOfYear_3 ?_
  refine z_getI fs_X5_202 (LM.o (LM.kk (LR.q H0) (by omega))) dX5_readDayOfYear_6 ?_
  refine x_iconst 1 dX5_readDayOfYear_9 rfl ?_
  refine x_isub dX5_readDayOfYear_10 ?_
  rcases e3_s h with ⟨v1, I2, k3, h4, h⟩ | ⟨E, I2, k3, h4, h⟩
  rotate_left
  · have hq := c_X5_readNumber d (K := K) (I := I) H0 h4
    cases h
    exact z_Ve [.int 0, .int ((I (x0 + 3) 7) - 1)] [] (cs_X5_83 _) (ci := 3) rfl (LR.o (LR.kk H0)) (dep (show d + 0 + 7 + 1 ≤ (d + 8) from by omega) (Nat.le_of_ble_eq_true rfl)) dX5_readDayOfYear_11 rfl rfl (Nat.le_of_ble_eq_true rfl) hq rfl
  have hq := c_X5_readNumber d (K := K) (I := I) H0 h4
  refine z_V1 [.int 0, .int ((I (x0 + 3) 7) - 1)] [] (cs_X5_83 _) (ci := 3) rfl (LR.o (LR.kk H0)) (dep (show d + 0 + 7 + 1 ≤ (d + 8) from by omega) (Nat.le_of_ble_eq_true rfl)) dX5_readDayOfYear_11 rfl rfl (Nat.le_of_ble_eq_true rfl) hq ?_
  cases h
  exact x_iret rfl dX5_readDayOfYear_14 ⟨rfl, rfl, rfl⟩
noncomputable def l_X7_packedName_4 (n : Nat) (I : Mem) (x0 : Nat) (x1 : Int32) (x2 : Int32) : Option (Int32) := match n with
  | 0 => none
  | n + 1 => if 6 ≤ x2 then (some (x1)) else (b1 (f_X7_tokenLength I x0) fun v1 => if v1 ≤ x2 then (some (x1)) else (b1 (ix ((I x0 4) + x2) 500) fun j3 => l_X7_packedName_4 n I x0 (x1 ||| (((I (x0 + 1) j3) - 96) <<< ((x2 * 5) &&& 31))) (x2 + 1)))
theorem tl_X7_packedName_4 (d : Nat) {K : Kt} (n : Nat) : ∀ {I : Mem} {x0 : Nat} (H0 : LT K x0) {x1 : Int32} {x2 : Int32} {v : Int32}, l_X7_packedName_4 n I x0 x1 x2 = some v → X (mX7_packedName (d + 1)) cX7_packedName 0 0 I K 4 [.ref x0, .int x1, .int x2] [] (Ro (.inl (some (.int v))) I K) := by
  induction n with
  | zero =>
    intro I x0 H0 x1 x2 v h
    cases h
  | succ n ih =>
    intro I x0 H0 x1 x2 v h
    unfold l_X7_packedName_4 at h
    refine x_iloadn dX7_packedName_4 rfl ?_
    refine x_bipush 6 dX7_packedName_5 rfl ?_
    refine x_icmp_ge 45 dX7_packedName_7 rfl (fun hc => ?_) (fun hc => ?_)
    · have h := ifT hc h
      refine x_iloadn dX7_packedName_45 rfl ?_
      cases h
      exact x_iret rfl dX7_packedName_46 ⟨rfl, rfl, rfl⟩
    have h := ifF hc h
    refine x_iloadn dX7_packedName_10 rfl ?_
    refine x_aloadn dX7_packedName_11 rfl ?_
    obtain ⟨v1, h2, h⟩ := b1_s h
    refine z_V1 [] [.int x2] (cs_X7_47 _) (ci := 5) rfl (LT.o H0) (dep (show d + 0 + 0 + 1 ≤ (d + 1) from by omega) (Nat.le_of_ble_eq_true rfl)) dX7_packedName_12 rfl rfl (Nat.le_of_ble_eq_true rfl) (c_X7_tokenLength d (K := K) (I := I) H0 h2) ?_
    refine x_icmp_ge 45 dX7_packedName_15 rfl (fun hc => ?_) (fun hc => ?_)
    · have h := ifT hc h
      refine x_iloadn dX7_packedName_45 rfl ?_
      cases h
      exact x_iret rfl dX7_packedName_46 ⟨rfl, rfl, rfl⟩
    have h := ifF hc h
    refine x_iloadn dX7_packedName_18 rfl ?_
    refine x_aloadn dX7_packedName_19 rfl ?_
    refine z_getR fs_X7_9 (LT.o H0) (LT.g0 H0) dX7_packedName_20 ?_
    refine x_aloadn dX7_packedName_23 rfl ?_
    refine z_getI fs_X7_44 (LT.o H0) dX7_packedName_24 ?_
    refine x_iloadn dX7_packedName_27 rfl ?_
    refine x_iadd dX7_packedName_28 ?_
    obtain ⟨j3, hj3, h⟩ := b1_s h
    refine z_bald (LT.l0 H0) hj3 dX7_packedName_29 ?_
    refine x_bipush 96 dX7_packedName_30 rfl ?_
    refine x_isub dX7_packedName_32 ?_
    refine x_iloadn dX7_packedName_33 rfl ?_
    refine x_iconst 5 dX7_packedName_34 rfl ?_
    refine x_imul dX7_packedName_35 ?_
    refine x_ishl dX7_packedName_36 ?_
    refine x_ior dX7_packedName_37 ?_
    refine x_istoren dX7_packedName_38 (Nat.le_of_ble_eq_true rfl) rfl rfl ?_
    refine z_iinc 1 (by decide) dX7_packedName_39 rfl rfl rfl ?_
    refine x_goto 4 dX7_packedName_42 rfl ?_
    exact ih H0 h
noncomputable def f_X7_packedName (I : Mem) (x0 : Nat) : Option (Int32) := l_X7_packedName_4 FU I x0 0 0
theorem c_X7_packedName (d : Nat) {K : Kt} {I : Mem} {x0 : Nat} (H0 : LT K x0) {v : Int32} (h : f_X7_packedName I x0 = some v) : Ct (mX7_packedName (d + 1)) cX7_packedName 0 0 [.ref x0] I K (Ro (.inl (some (.int v))) I K) := by
  refine Ct.of rfl pn_X7 (catR cat0) (Nat.le_of_ble_eq_true rfl) (show X _ _ _ _ _ _ 0 [.ref x0, .retAddr 0, .retAddr 0] [] _ from ?_)
  unfold f_X7_packedName at h
  refine x_iconst 0 dX7_packedName_0 rfl ?_
  refine x_istoren dX7_packedName_1 (Nat.le_of_ble_eq_true rfl) rfl rfl ?_
  refine x_iconst 0 dX7_packedName_2 rfl ?_
  refine x_istoren dX7_packedName_3 (Nat.le_of_ble_eq_true rfl) rfl rfl ?_
  exact tl_X7_packedName_4 d FU H0 h
noncomputable def l_X5_readName_48 (I : Mem) (k : Nat) (x0 : Nat) (y0 : Int32) : Option (Except String Int32 × Mem × Nat) := e2 (f_X5_require I x0 y0 2) (fun E I11 => some (.error E, I11, k)) fun u10 I11 => b1 (f_X7_packedName I11 (x0 + 1)) fun v13 => some (.ok v13, I11, k)
theorem tl_X5_readName_48 (d : Nat) {K : Kt} : ∀ {I : Mem} {k : Nat} {x0 : Nat} (H0 : LR K x0) {y0 : Int32} {x : Except String Int32} {I9 : Mem} {k9 : Nat}, l_X5_readName_48 I k x0 y0 = some (x, I9, k9) → X (mX5_readName (d + 7)) cX5_readName (cst x) (cs6 x) I (kk K (x0 + 1) k) 48 [.ref x0] [.int y0, .ref x0] (Ro (rI x) I9 (kk K (x0 + 1) k9)) := by
  intro I k x0 H0 y0 x I9 k9 h
  unfold l_X5_readName_48 at h
  refine x_iconst 2 dX5_readName_48 rfl ?_
  rcases e2_s h with ⟨u10, I11, h12, h⟩ | ⟨E, I11, h12, h⟩
  rotate_left
  · have hq := c_X5_require d (K := (kk K (x0 + 1) k)) (I := I) (LR.kk H0) h12
    cases h
    exact z_Ve [.int y0, .int 2] [] (cs_X5_79 _) (ci := 3) rfl (LR.o (LR.kk H0)) (dep (show d + 0 + 6 + 1 ≤ (d + 7) from by omega) (Nat.le_of_ble_eq_true rfl)) dX5_readName_49 rfl rfl (Nat.le_of_ble_eq_true rfl) hq rfl
  have hq := c_X5_require d (K := (kk K (x0 + 1) k)) (I := I) (LR.kk H0) h12
  refine z_V0 [.int y0, .int 2] [] (cs_X5_79 _) (ci := 3) rfl (LR.o (LR.kk H0)) (dep (show d + 0 + 6 + 1 ≤ (d + 7) from by omega) (Nat.le_of_ble_eq_true rfl)) dX5_readName_49 rfl rfl (Nat.le_of_ble_eq_true rfl) hq ?_
  refine x_aloadn dX5_readName_52 rfl ?_
  refine z_getR fs_X5_12 (LR.o (LR.kk H0)) (LR.g0 (LR.kk H0)) dX5_readName_53 ?_
  obtain ⟨v13, h14, h⟩ := b1_s h
  refine z_V1 [] [] (cs_X5_211 _) (ci := 5) rfl (LT.o (LT.kk (LR.t H0))) (dep (show d + 5 + 1 + 1 ≤ (d + 7) from by omega) (Nat.le_of_ble_eq_true rfl)) dX5_readName_56 rfl rfl (Nat.le_of_ble_eq_true rfl) (c_X7_packedName (d + 5) (K := (kk K (x0 + 1) k)) (I := I11) (LT.kk (LR.t H0)) h14) ?_
  cases h
  exact x_iret rfl dX5_readName_59 ⟨rfl, rfl, rfl⟩
noncomputable def l_X5_readName_26 (I : Mem) (k : Nat) (x0 : Nat) (y0 : Int32) : Option (Except String Int32 × Mem × Nat) := e2 (f_X5_require I x0 y0 1) (fun E I6 => some (.error E, I6, k)) fun u5 I6 => b1 (f_X7_tokenLength I6 (x0 + 1)) fun v8 => if 6 < v8 then (l_X5_readName_48 I6 k x0 0) else (l_X5_readName_48 I6 k x0 1)
theorem tl_X5_readName_26 (d : Nat) {K : Kt} : ∀ {I : Mem} {k : Nat} {x0 : Nat} (H0 : LR K x0) {y0 : Int32} {x : Except String Int32} {I9 : Mem} {k9 : Nat}, l_X5_readName_26 I k x0 y0 = some (x, I9, k9) → X (mX5_readName (d + 7)) cX5_readName (cst x) (cs6 x) I (kk K (x0 + 1) k) 26 [.ref x0] [.int y0, .ref x0] (Ro (rI x) I9 (kk K (x0 + 1) k9)) := by
  intro I k x0 H0 y0 x I9 k9 h
  unfold l_X5_readName_26 at h
  refine x_iconst 1 dX5_readName_26 rfl ?_
  rcases e2_s h with ⟨u5, I6, h7, h⟩ | ⟨E, I6, h7, h⟩
  rotate_left
  · have hq := c_X5_require d (K := (kk K (x0 + 1) k)) (I := I) (LR.kk H0) h7
    cases h
    exact z_Ve [.int y0, .int 1] [] (cs_X5_79 _) (ci := 3) rfl (LR.o (LR.kk H0)) (dep (show d + 0 + 6 + 1 ≤ (d + 7) from by omega) (Nat.le_of_ble_eq_true rfl)) dX5_readName_27 rfl rfl (Nat.le_of_ble_eq_true rfl) hq rfl
  have hq := c_X5_require d (K := (kk K (x0 + 1) k)) (I := I) (LR.kk H0) h7
  refine z_V0 [.int y0, .int 1] [] (cs_X5_79 _) (ci := 3) rfl (LR.o (LR.kk H0)) (dep (show d + 0 + 6 + 1 ≤ (d + 7) from by omega) (Nat.le_of_ble_eq_true rfl)) dX5_readName_27 rfl rfl (Nat.le_of_ble_eq_true rfl) hq ?_
  refine x_aloadn dX5_readName_30 rfl ?_
  refine x_aloadn dX5_readName_31 rfl ?_
  refine z_getR fs_X5_12 (LR.o (LR.kk H0)) (LR.g0 (LR.kk H0)) dX5_readName_32 ?_
  obtain ⟨v8, h9, h⟩ := b1_s h
  refine z_V1 [] [.ref x0] (cs_X5_208 _) (ci := 5) rfl (LT.o (LT.kk (LR.t H0))) (dep (show d + 6 + 0 + 1 ≤ (d + 7) from by omega) (Nat.le_of_ble_eq_true rfl)) dX5_readName_35 rfl rfl (Nat.le_of_ble_eq_true rfl) (c_X7_tokenLength (d + 6) (K := (kk K (x0 + 1) k)) (I := I6) (LT.kk (LR.t H0)) h9) ?_
  refine x_bipush 6 dX5_readName_38 rfl ?_
  refine x_icmp_gt 47 dX5_readName_40 rfl (fun hc => ?_) (fun hc => ?_)
  · have h := ifT hc h
    refine x_iconst 0 dX5_readName_47 rfl ?_
    exact tl_X5_readName_48 d H0 h
  have h := ifF hc h
  refine x_iconst 1 dX5_readName_43 rfl ?_
  refine x_goto 48 dX5_readName_44 rfl ?_
  exact tl_X5_readName_48 d H0 h
noncomputable def f_X5_readName (I : Mem) (k : Nat) (x0 : Nat) : Option (Except String Int32 × Mem × Nat) := b2 (f_X7_scan I k (x0 + 1)) fun I1 k2 => b1 (ckK k2) fun _ => if k2 = 1 then (l_X5_readName_26 I1 k2 x0 1) else (l_X5_readName_26 I1 k2 x0 0)
theorem c_X5_readName (d : Nat) {K : Kt} {I : Mem} {k : Nat} {x0 : Nat} (H0 : LR K x0) {x : Except String Int32} {I9 : Mem} {k9 : Nat} (h : f_X5_readName I k x0 = some (x, I9, k9)) : Ct (mX5_readName (d + 7)) cX5_readName (cst x) (cs6 x) [.ref x0] I (kk K (x0 + 1) k) (Ro (rI x) I9 (kk K (x0 + 1) k9)) := by
  refine Ct.of rfl pn_X5 (catR cat0) (Nat.le_of_ble_eq_true rfl) (show X _ _ _ _ _ _ 0 [.ref x0] [] _ from ?_)
  unfold f_X5_readName at h
  refine x_aloadn dX5_readName_0 rfl ?_
  refine z_getR fs_X5_12 (LR.o (LR.kk H0)) (LR.g0 (LR.kk H0)) dX5_readName_1 ?_
  obtain ⟨I1, k2, h3, h⟩ := b2_s h
  refine z_V0 [] [] (cs_X5_70 _) (ci := 5) rfl (LT.o (LT.kk (LR.t H0))) (dep (show d + 5 + 1 + 1 ≤ (d + 7) from by omega) (Nat.le_of_ble_eq_true rfl)) dX5_readName_4 rfl rfl (Nat.le_of_ble_eq_true rfl) (c_X7_scan (d + 5) (K := K) (I := I) (LR.t H0) h3) ?_
  refine x_aloadn dX5_readName_7 rfl ?_
  refine x_aloadn dX5_readName_8 rfl ?_
  refine z_getR fs_X5_12 (LR.o (LR.kk H0)) (LR.g0 (LR.kk H0)) dX5_readName_9 ?_
  obtain ⟨u4, hu4, h⟩ := b1_s h
  refine z_getR fs_X5_88 (LT.o (LT.kk (LR.t H0))) kk_k dX5_readName_12 ?_
  refine x_getsK 1 (by decide) (show Cond.fieldLink RX5 205 RX2 "WORD" "LWishMarket$Kind;" ∈ wsG from inT3 159 rfl rfl) dX5_readName_15 ?_
  refine x_acmpK_ne 25 (ckK_s hu4) (by decide) dX5_readName_18 rfl (fun hc => ?_) (fun hc => ?_)
  · have h := ifF hc h
    refine x_iconst 0 dX5_readName_25 rfl ?_
    exact tl_X5_readName_26 d H0 h
  have h := ifT hc h
  refine x_iconst 1 dX5_readName_21 rfl ?_
  refine x_goto 26 dX5_readName_22 rfl ?_
  exact tl_X5_readName_26 d H0 h
noncomputable def l_X5_readStall_17 (I : Mem) (k : Nat) (x0 : Nat) (y0 : Int32) : Option (Except String Unit × Mem × Nat) := e2 (f_X5_require I x0 y0 4) (fun E I2 => some (.error E, I2, k)) fun u1 I2 => b1 (ix (I2 (x0 + 3) 4) 5) fun j4 => e3 (f_X5_readNumber I2 k x0 1 8) (fun E I6 k7 => some (.error E, I6, k7)) fun v5 I6 k7 => b1 (pu I6 ((x0 + 3) + 10 + j4) 0 v5) fun I9 => e3 (f_X5_readNumber I9 k7 x0 0 999) (fun E I11 k12 => some (.error E, I11, k12)) fun v10 I11 k12 => b1 (pu I11 ((x0 + 3) + 10 + j4) 1 v10) fun I14 => e3 (f_X5_readNumber I14 k12 x0 0 50) (fun E I16 k17 => some (.error E, I16, k17)) fun v15 I16 k17 => b1 (pu I16 ((x0 + 3) + 10 + j4) 2 v15) fun I19 => e3 (f_X5_readNumber I19 k17 x0 0 100) (fun E I21 k22 => some (.error E, I21, k22)) fun v20 I21 k22 => b1 (pu I21 ((x0 + 3) + 10 + j4) 3 v20) fun I24 => b1 (pu I24 (x0 + 3) 4 ((I24 (x0 + 3) 4) + 1)) fun I25 => b1 (pu I25 (x0 + 3) 13 ((I25 (x0 + 3) 13) + (I25 ((x0 + 3) + 10 + j4) 1))) fun I26 => some (.ok (), I26, k22)
theorem tl_X5_readStall_17 (d : Nat) {K : Kt} : ∀ {I : Mem} {k : Nat} {x0 : Nat} (H0 : LR K x0) {y0 : Int32} {x : Except String Unit} {I9 : Mem} {k9 : Nat}, l_X5_readStall_17 I k x0 y0 = some (x, I9, k9) → X (mX5_readStall (d + 8)) cX5_readStall (cst x) (cs6 x) I (kk K (x0 + 1) k) 17 [.ref x0, .retAddr 0] [.int y0, .ref x0] (Ro (rV x) I9 (kk K (x0 + 1) k9)) := by
  intro I k x0 H0 y0 x I9 k9 h
  unfold l_X5_readStall_17 at h
  refine x_iconst 4 dX5_readStall_17 rfl ?_
  rcases e2_s h with ⟨u1, I2, h3, h⟩ | ⟨E, I2, h3, h⟩
  rotate_left
  · have hq := c_X5_require (d + 1) (K := (kk K (x0 + 1) k)) (I := I) (LR.kk H0) h3
    cases h
    exact z_Ve [.int y0, .int 4] [] (cs_X5_79 _) (ci := 3) rfl (LR.o (LR.kk H0)) (dep (show d + 1 + 6 + 1 ≤ (d + 8) from by omega) (Nat.le_of_ble_eq_true rfl)) dX5_readStall_18 rfl rfl (Nat.le_of_ble_eq_true rfl) hq rfl
  have hq := c_X5_require (d + 1) (K := (kk K (x0 + 1) k)) (I := I) (LR.kk H0) h3
  refine z_V0 [.int y0, .int 4] [] (cs_X5_79 _) (ci := 3) rfl (LR.o (LR.kk H0)) (dep (show d + 1 + 6 + 1 ≤ (d + 8) from by omega) (Nat.le_of_ble_eq_true rfl)) dX5_readStall_18 rfl rfl (Nat.le_of_ble_eq_true rfl) hq ?_
  refine x_aloadn dX5_readStall_21 rfl ?_
  refine z_getR fs_X5_21 (LR.o (LR.kk H0)) (LR.g1 (LR.kk H0)) dX5_readStall_22 ?_
  refine z_getRG gs_X5_214 (LM.o (LM.kk (LR.q H0) (by omega))) (LM.g1 (LM.kk (LR.q H0) (by omega))) dX5_readStall_25 ?_
  refine x_aloadn dX5_readStall_28 rfl ?_
  refine z_getR fs_X5_21 (LR.o (LR.kk H0)) (LR.g1 (LR.kk H0)) dX5_readStall_29 ?_
  refine z_getI fs_X5_103 (LM.o (LM.kk (LR.q H0) (by omega))) dX5_readStall_32 ?_
  obtain ⟨j4, hj4, h⟩ := b1_s h
  refine z_aald (LA.kk (LM.l1 (LR.q H0))) ⟨by decide, by decide⟩ hj4 (LM.s (LM.kk (LR.q H0) (by omega)) (ix_s hj4).2.1) dX5_readStall_35 ?_
  refine x_astoren dX5_readStall_36 (Nat.le_of_ble_eq_true rfl) rfl rfl ?_
  refine x_aloadn dX5_readStall_37 rfl ?_
  refine x_aloadn dX5_readStall_38 rfl ?_
  refine x_iconst 1 dX5_readStall_39 rfl ?_
  refine x_bipush 8 dX5_readStall_40 rfl ?_
  rcases e3_s h with ⟨v5, I6, k7, h8, h⟩ | ⟨E, I6, k7, h8, h⟩
  rotate_left
  · have hq := c_X5_readNumber d (K := K) (I := I2) H0 h8
    cases h
    exact z_Ve [.int 1, .int 8] [.ref ((x0 + 3) + 10 + j4)] (cs_X5_83 _) (ci := 3) rfl (LR.o (LR.kk H0)) (dep (show d + 0 + 7 + 1 ≤ (d + 8) from by omega) (Nat.le_of_ble_eq_true rfl)) dX5_readStall_42 rfl rfl (Nat.le_of_ble_eq_true rfl) hq rfl
  have hq := c_X5_readNumber d (K := K) (I := I2) H0 h8
  refine z_V1 [.int 1, .int 8] [.ref ((x0 + 3) + 10 + j4)] (cs_X5_83 _) (ci := 3) rfl (LR.o (LR.kk H0)) (dep (show d + 0 + 7 + 1 ≤ (d + 8) from by omega) (Nat.le_of_ble_eq_true rfl)) dX5_readStall_42 rfl rfl (Nat.le_of_ble_eq_true rfl) hq ?_
  obtain ⟨I9, hI9, h⟩ := b1_s h
  refine z_putI fs_X5_218 (LO.kk (LM.so (LR.q H0) (ix_s hj4).2.1)) hI9 dX5_readStall_45 ?_
  refine x_aloadn dX5_readStall_48 rfl ?_
  refine x_aloadn dX5_readStall_49 rfl ?_
  refine x_iconst 0 dX5_readStall_50 rfl ?_
  refine x_sipush 999 dX5_readStall_51 rfl ?_
  rcases e3_s h with ⟨v10, I11, k12, h13, h⟩ | ⟨E, I11, k12, h13, h⟩
  rotate_left
  · have hq := c_X5_readNumber d (K := K) (I := I9) H0 h13
    cases h
    exact z_Ve [.int 0, .int 999] [.ref ((x0 + 3) + 10 + j4)] (cs_X5_83 _) (ci := 3) rfl (LR.o (LR.kk H0)) (dep (show d + 0 + 7 + 1 ≤ (d + 8) from by omega) (Nat.le_of_ble_eq_true rfl)) dX5_readStall_54 rfl rfl (Nat.le_of_ble_eq_true rfl) hq rfl
  have hq := c_X5_readNumber d (K := K) (I := I9) H0 h13
  refine z_V1 [.int 0, .int 999] [.ref ((x0 + 3) + 10 + j4)] (cs_X5_83 _) (ci := 3) rfl (LR.o (LR.kk H0)) (dep (show d + 0 + 7 + 1 ≤ (d + 8) from by omega) (Nat.le_of_ble_eq_true rfl)) dX5_readStall_54 rfl rfl (Nat.le_of_ble_eq_true rfl) hq ?_
  obtain ⟨I14, hI14, h⟩ := b1_s h
  refine z_putI fs_X5_223 (LO.kk (LM.so (LR.q H0) (ix_s hj4).2.1)) hI14 dX5_readStall_57 ?_
  refine x_aloadn dX5_readStall_60 rfl ?_
  refine x_aloadn dX5_readStall_61 rfl ?_
  refine x_iconst 0 dX5_readStall_62 rfl ?_
  refine x_bipush 50 dX5_readStall_63 rfl ?_
  rcases e3_s h with ⟨v15, I16, k17, h18, h⟩ | ⟨E, I16, k17, h18, h⟩
  rotate_left
  · have hq := c_X5_readNumber d (K := K) (I := I14) H0 h18
    cases h
    exact z_Ve [.int 0, .int 50] [.ref ((x0 + 3) + 10 + j4)] (cs_X5_83 _) (ci := 3) rfl (LR.o (LR.kk H0)) (dep (show d + 0 + 7 + 1 ≤ (d + 8) from by omega) (Nat.le_of_ble_eq_true rfl)) dX5_readStall_65 rfl rfl (Nat.le_of_ble_eq_true rfl) hq rfl
  have hq := c_X5_readNumber d (K := K) (I := I14) H0 h18
  refine z_V1 [.int 0, .int 50] [.ref ((x0 + 3) + 10 + j4)] (cs_X5_83 _) (ci := 3) rfl (LR.o (LR.kk H0)) (dep (show d + 0 + 7 + 1 ≤ (d + 8) from by omega) (Nat.le_of_ble_eq_true rfl)) dX5_readStall_65 rfl rfl (Nat.le_of_ble_eq_true rfl) hq ?_
  obtain ⟨I19, hI19, h⟩ := b1_s h
  refine z_putI fs_X5_226 (LO.kk (LM.so (LR.q H0) (ix_s hj4).2.1)) hI19 dX5_readStall_68 ?_
  refine x_aloadn dX5_readStall_71 rfl ?_
  refine x_aloadn dX5_readStall_72 rfl ?_
  refine x_iconst 0 dX5_readStall_73 rfl ?_
  refine x_bipush 100 dX5_readStall_74 rfl ?_
  rcases e3_s h with ⟨v20, I21, k22, h23, h⟩ | ⟨E, I21, k22, h23, h⟩
  rotate_left
  · have hq := c_X5_readNumber d (K := K) (I := I19) H0 h23
    cases h
    exact z_Ve [.int 0, .int 100] [.ref ((x0 + 3) + 10 + j4)] (cs_X5_83 _) (ci := 3) rfl (LR.o (LR.kk H0)) (dep (show d + 0 + 7 + 1 ≤ (d + 8) from by omega) (Nat.le_of_ble_eq_true rfl)) dX5_readStall_76 rfl rfl (Nat.le_of_ble_eq_true rfl) hq rfl
  have hq := c_X5_readNumber d (K := K) (I := I19) H0 h23
  refine z_V1 [.int 0, .int 100] [.ref ((x0 + 3) + 10 + j4)] (cs_X5_83 _) (ci := 3) rfl (LR.o (LR.kk H0)) (dep (show d + 0 + 7 + 1 ≤ (d + 8) from by omega) (Nat.le_of_ble_eq_true rfl)) dX5_readStall_76 rfl rfl (Nat.le_of_ble_eq_true rfl) hq ?_
  obtain ⟨I24, hI24, h⟩ := b1_s h
  refine z_putI fs_X5_229 (LO.kk (LM.so (LR.q H0) (ix_s hj4).2.1)) hI24 dX5_readStall_79 ?_
  refine x_aloadn dX5_readStall_82 rfl ?_
  refine z_getR fs_X5_21 (LR.o (LR.kk H0)) (LR.g1 (LR.kk H0)) dX5_readStall_83 ?_
  refine x_dup dX5_readStall_86 rfl ?_
  refine z_getI fs_X5_103 (LM.o (LM.kk (LR.q H0) (by omega))) dX5_readStall_87 ?_
  refine x_iconst 1 dX5_readStall_90 rfl ?_
  refine x_iadd dX5_readStall_91 ?_
  obtain ⟨I25, hI25, h⟩ := b1_s h
  refine z_putI fs_X5_103 (LM.o (LM.kk (LR.q H0) (by omega))) hI25 dX5_readStall_92 ?_
  refine x_aloadn dX5_readStall_95 rfl ?_
  refine z_getR fs_X5_21 (LR.o (LR.kk H0)) (LR.g1 (LR.kk H0)) dX5_readStall_96 ?_
  refine x_dup dX5_readStall_99 rfl ?_
  refine z_getI fs_X5_232 (LM.o (LM.kk (LR.q H0) (by omega))) dX5_readStall_100 ?_
  refine x_aloadn dX5_readStall_103 rfl ?_
  refine z_getI fs_X5_223 (LO.kk (LM.so (LR.q H0) (ix_s hj4).2.1)) dX5_readStall_104 ?_
  refine x_iadd dX5_readStall_107 ?_
  obtain ⟨I26, hI26, h⟩ := b1_s h
  refine z_putI fs_X5_232 (LM.o (LM.kk (LR.q H0) (by omega))) hI26 dX5_readStall_108 ?_
  cases h
  exact x_vret rfl dX5_readStall_111 ⟨rfl, rfl, rfl⟩
noncomputable def f_X5_readStall (I : Mem) (k : Nat) (x0 : Nat) : Option (Except String Unit × Mem × Nat) := if 5 ≤ (I (x0 + 3) 4) then (l_X5_readStall_17 I k x0 0) else (l_X5_readStall_17 I k x0 1)
theorem c_X5_readStall (d : Nat) {K : Kt} {I : Mem} {k : Nat} {x0 : Nat} (H0 : LR K x0) {x : Except String Unit} {I9 : Mem} {k9 : Nat} (h : f_X5_readStall I k x0 = some (x, I9, k9)) : Ct (mX5_readStall (d + 8)) cX5_readStall (cst x) (cs6 x) [.ref x0] I (kk K (x0 + 1) k) (Ro (rV x) I9 (kk K (x0 + 1) k9)) := by
  refine Ct.of rfl pn_X5 (catR cat0) (Nat.le_of_ble_eq_true rfl) (show X _ _ _ _ _ _ 0 [.ref x0, .retAddr 0] [] _ from ?_)
  unfold f_X5_readStall at h
  refine x_aloadn dX5_readStall_0 rfl ?_
  refine x_aloadn dX5_readStall_1 rfl ?_
  refine z_getR fs_X5_21 (LR.o (LR.kk H0)) (LR.g1 (LR.kk H0)) dX5_readStall_2 ?_
  refine z_getI fs_X5_103 (LM.o (LM.kk (LR.q H0) (by omega))) dX5_readStall_5 ?_
  refine x_iconst 5 dX5_readStall_8 rfl ?_
  refine x_icmp_ge 16 dX5_readStall_9 rfl (fun hc => ?_) (fun hc => ?_)
  · have h := ifT hc h
    refine x_iconst 0 dX5_readStall_16 rfl ?_
    exact tl_X5_readStall_17 d H0 h
  have h := ifF hc h
  refine x_iconst 1 dX5_readStall_12 rfl ?_
  refine x_goto 17 dX5_readStall_13 rfl ?_
  exact tl_X5_readStall_17 d H0 h
noncomputable def l_X5_readPerson_66 (I : Mem) (k : Nat) (x0 : Nat) (x1 : Nat) (y0 : Int32) : Option (Except String Nat × Mem × Nat) := e2 (f_X5_require I x0 y0 3) (fun E I13 => some (.error E, I13, k)) fun u12 I13 => e3 (f_X5_readNumber I13 k x0 0 999) (fun E I16 k17 => some (.error E, I16, k17)) fun v15 I16 k17 => b1 (pu I16 x1 1 v15) fun I19 => e3 (f_X5_readDayOfYear I19 k17 x0) (fun E I21 k22 => some (.error E, I21, k22)) fun v20 I21 k22 => b1 (pu I21 x1 2 v20) fun I24 => e3 (f_X5_readNumber I24 k22 x0 0 99) (fun E I26 k27 => some (.error E, I26, k27)) fun v25 I26 k27 => b1 (pu I26 x1 3 v25) fun I29 => b1 (pu I29 x1 4 0) fun I30 => b1 (pu I30 x1 5 0) fun I31 => b1 (pu I31 x1 6 0) fun I32 => b1 (pu I32 x1 7 0) fun I33 => b1 (pu I33 (x0 + 3) 3 ((I33 (x0 + 3) 3) + 1)) fun I34 => b1 (pu I34 (x0 + 3) 13 ((I34 (x0 + 3) 13) + (I34 x1 1))) fun I35 => some (.ok x1, I35, k27)
theorem tl_X5_readPerson_66 (d : Nat) {K : Kt} : ∀ {I : Mem} {k : Nat} {x0 : Nat} (H0 : LR K x0) {x1 : Nat} (H1 : LO K 2 x1) {y0 : Int32} {x : Except String Nat} {I9 : Mem} {k9 : Nat}, l_X5_readPerson_66 I k x0 x1 y0 = some (x, I9, k9) → X (mX5_readPerson (d + 9)) cX5_readPerson (cst x) (cs6 x) I (kk K (x0 + 1) k) 66 [.ref x0, .ref x1] [.int y0, .ref x0] (Ro (rR x) I9 (kk K (x0 + 1) k9)) := by
  intro I k x0 H0 x1 H1 y0 x I9 k9 h
  unfold l_X5_readPerson_66 at h
  refine x_iconst 3 dX5_readPerson_66 rfl ?_
  rcases e2_s h with ⟨u12, I13, h14, h⟩ | ⟨E, I13, h14, h⟩
  rotate_left
  · have hq := c_X5_require (d + 2) (K := (kk K (x0 + 1) k)) (I := I) (LR.kk H0) h14
    cases h
    exact z_Ve [.int y0, .int 3] [] (cs_X5_79 _) (ci := 3) rfl (LR.o (LR.kk H0)) (dep (show d + 2 + 6 + 1 ≤ (d + 9) from by omega) (Nat.le_of_ble_eq_true rfl)) dX5_readPerson_67 rfl rfl (Nat.le_of_ble_eq_true rfl) hq rfl
  have hq := c_X5_require (d + 2) (K := (kk K (x0 + 1) k)) (I := I) (LR.kk H0) h14
  refine z_V0 [.int y0, .int 3] [] (cs_X5_79 _) (ci := 3) rfl (LR.o (LR.kk H0)) (dep (show d + 2 + 6 + 1 ≤ (d + 9) from by omega) (Nat.le_of_ble_eq_true rfl)) dX5_readPerson_67 rfl rfl (Nat.le_of_ble_eq_true rfl) hq ?_
  refine x_aloadn dX5_readPerson_70 rfl ?_
  refine x_aloadn dX5_readPerson_71 rfl ?_
  refine x_iconst 0 dX5_readPerson_72 rfl ?_
  refine x_sipush 999 dX5_readPerson_73 rfl ?_
  rcases e3_s h with ⟨v15, I16, k17, h18, h⟩ | ⟨E, I16, k17, h18, h⟩
  rotate_left
  · have hq := c_X5_readNumber (d + 1) (K := K) (I := I13) H0 h18
    cases h
    exact z_Ve [.int 0, .int 999] [.ref x1] (cs_X5_83 _) (ci := 3) rfl (LR.o (LR.kk H0)) (dep (show d + 1 + 7 + 1 ≤ (d + 9) from by omega) (Nat.le_of_ble_eq_true rfl)) dX5_readPerson_76 rfl rfl (Nat.le_of_ble_eq_true rfl) hq rfl
  have hq := c_X5_readNumber (d + 1) (K := K) (I := I13) H0 h18
  refine z_V1 [.int 0, .int 999] [.ref x1] (cs_X5_83 _) (ci := 3) rfl (LR.o (LR.kk H0)) (dep (show d + 1 + 7 + 1 ≤ (d + 9) from by omega) (Nat.le_of_ble_eq_true rfl)) dX5_readPerson_76 rfl rfl (Nat.le_of_ble_eq_true rfl) hq ?_
  obtain ⟨I19, hI19, h⟩ := b1_s h
  refine z_putI fs_X5_251 (LO.kk H1) hI19 dX5_readPerson_79 ?_
  refine x_aloadn dX5_readPerson_82 rfl ?_
  refine x_aloadn dX5_readPerson_83 rfl ?_
  rcases e3_s h with ⟨v20, I21, k22, h23, h⟩ | ⟨E, I21, k22, h23, h⟩
  rotate_left
  · have hq := c_X5_readDayOfYear d (K := K) (I := I19) H0 h23
    cases h
    exact z_Ve [] [.ref x1] (cs_X5_174 _) (ci := 3) rfl (LR.o (LR.kk H0)) (dep (show d + 0 + 8 + 1 ≤ (d + 9) from by omega) (Nat.le_of_ble_eq_true rfl)) dX5_readPerson_84 rfl rfl (Nat.le_of_ble_eq_true rfl) hq rfl
  have hq := c_X5_readDayOfYear d (K := K) (I := I19) H0 h23
  refine z_V1 [] [.ref x1] (cs_X5_174 _) (ci := 3) rfl (LR.o (LR.kk H0)) (dep (show d + 0 + 8 + 1 ≤ (d + 9) from by omega) (Nat.le_of_ble_eq_true rfl)) dX5_readPerson_84 rfl rfl (Nat.le_of_ble_eq_true rfl) hq ?_
  obtain ⟨I24, hI24, h⟩ := b1_s h
  refine z_putI fs_X5_254 (LO.kk H1) hI24 dX5_readPerson_87 ?_
  refine x_aloadn dX5_readPerson_90 rfl ?_
  refine x_aloadn dX5_readPerson_91 rfl ?_
  refine x_iconst 0 dX5_readPerson_92 rfl ?_
  refine x_bipush 99 dX5_readPerson_93 rfl ?_
  rcases e3_s h with ⟨v25, I26, k27, h28, h⟩ | ⟨E, I26, k27, h28, h⟩
  rotate_left
  · have hq := c_X5_readNumber (d + 1) (K := K) (I := I24) H0 h28
    cases h
    exact z_Ve [.int 0, .int 99] [.ref x1] (cs_X5_83 _) (ci := 3) rfl (LR.o (LR.kk H0)) (dep (show d + 1 + 7 + 1 ≤ (d + 9) from by omega) (Nat.le_of_ble_eq_true rfl)) dX5_readPerson_95 rfl rfl (Nat.le_of_ble_eq_true rfl) hq rfl
  have hq := c_X5_readNumber (d + 1) (K := K) (I := I24) H0 h28
  refine z_V1 [.int 0, .int 99] [.ref x1] (cs_X5_83 _) (ci := 3) rfl (LR.o (LR.kk H0)) (dep (show d + 1 + 7 + 1 ≤ (d + 9) from by omega) (Nat.le_of_ble_eq_true rfl)) dX5_readPerson_95 rfl rfl (Nat.le_of_ble_eq_true rfl) hq ?_
  obtain ⟨I29, hI29, h⟩ := b1_s h
  refine z_putI fs_X5_257 (LO.kk H1) hI29 dX5_readPerson_98 ?_
  refine x_aloadn dX5_readPerson_101 rfl ?_
  refine x_iconst 0 dX5_readPerson_102 rfl ?_
  obtain ⟨I30, hI30, h⟩ := b1_s h
  refine z_putI fs_X5_260 (LO.kk H1) hI30 dX5_readPerson_103 ?_
  refine x_aloadn dX5_readPerson_106 rfl ?_
  refine x_iconst 0 dX5_readPerson_107 rfl ?_
  obtain ⟨I31, hI31, h⟩ := b1_s h
  refine z_putI fs_X5_263 (LO.kk H1) hI31 dX5_readPerson_108 ?_
  refine x_aloadn dX5_readPerson_111 rfl ?_
  refine x_iconst 0 dX5_readPerson_112 rfl ?_
  obtain ⟨I32, hI32, h⟩ := b1_s h
  refine z_putZ (u := ()) fs_X5_266 (LO.kk H1) rfl hI32 dX5_readPerson_113 ?_
  refine x_aloadn dX5_readPerson_116 rfl ?_
  refine x_iconst 0 dX5_readPerson_117 rfl ?_
  obtain ⟨I33, hI33, h⟩ := b1_s h
  refine z_putZ (u := ()) fs_X5_270 (LO.kk H1) rfl hI33 dX5_readPerson_118 ?_
  refine x_aloadn dX5_readPerson_121 rfl ?_
  refine z_getR fs_X5_21 (LR.o (LR.kk H0)) (LR.g1 (LR.kk H0)) dX5_readPerson_122 ?_
  refine x_dup dX5_readPerson_125 rfl ?_
  refine z_getI fs_X5_106 (LM.o (LM.kk (LR.q H0) (by omega))) dX5_readPerson_126 ?_
  refine x_iconst 1 dX5_readPerson_129 rfl ?_
  refine x_iadd dX5_readPerson_130 ?_
  obtain ⟨I34, hI34, h⟩ := b1_s h
  refine z_putI fs_X5_106 (LM.o (LM.kk (LR.q H0) (by omega))) hI34 dX5_readPerson_131 ?_
  refine x_aloadn dX5_readPerson_134 rfl ?_
  refine z_getR fs_X5_21 (LR.o (LR.kk H0)) (LR.g1 (LR.kk H0)) dX5_readPerson_135 ?_
  refine x_dup dX5_readPerson_138 rfl ?_
  refine z_getI fs_X5_232 (LM.o (LM.kk (LR.q H0) (by omega))) dX5_readPerson_139 ?_
  refine x_aloadn dX5_readPerson_142 rfl ?_
  refine z_getI fs_X5_251 (LO.kk H1) dX5_readPerson_143 ?_
  refine x_iadd dX5_readPerson_146 ?_
  obtain ⟨I35, hI35, h⟩ := b1_s h
  refine z_putI fs_X5_232 (LM.o (LM.kk (LR.q H0) (by omega))) hI35 dX5_readPerson_147 ?_
  refine x_aloadn dX5_readPerson_150 rfl ?_
  cases h
  exact x_aret rfl (Or.inl ⟨_, rfl⟩) dX5_readPerson_151 ⟨rfl, rfl, rfl⟩
noncomputable def l_X5_readPerson_18 (I : Mem) (k : Nat) (x0 : Nat) (y0 : Int32) : Option (Except String Nat × Mem × Nat) := e2 (f_X5_require I x0 y0 4) (fun E I2 => some (.error E, I2, k)) fun u1 I2 => b1 (ix (I2 (x0 + 3) 3) 6) fun j4 => e3 (f_X5_readName I2 k x0) (fun E I6 k7 => some (.error E, I6, k7)) fun v5 I6 k7 => b1 (pu I6 ((x0 + 3) + 4 + j4) 0 v5) fun I9 => b1 (f_X3_hasPersonNamed I9 (x0 + 3) (I9 ((x0 + 3) + 4 + j4) 0)) fun v10 => if v10 = 0 then (l_X5_readPerson_66 I9 k7 x0 ((x0 + 3) + 4 + j4) 1) else (l_X5_readPerson_66 I9 k7 x0 ((x0 + 3) + 4 + j4) 0)
theorem tl_X5_readPerson_18 (d : Nat) {K : Kt} : ∀ {I : Mem} {k : Nat} {x0 : Nat} (H0 : LR K x0) {y0 : Int32} {x : Except String Nat} {I9 : Mem} {k9 : Nat}, l_X5_readPerson_18 I k x0 y0 = some (x, I9, k9) → X (mX5_readPerson (d + 9)) cX5_readPerson (cst x) (cs6 x) I (kk K (x0 + 1) k) 18 [.ref x0, .retAddr 0] [.int y0, .ref x0] (Ro (rR x) I9 (kk K (x0 + 1) k9)) := by
  intro I k x0 H0 y0 x I9 k9 h
  unfold l_X5_readPerson_18 at h
  refine x_iconst 4 dX5_readPerson_18 rfl ?_
  rcases e2_s h with ⟨u1, I2, h3, h⟩ | ⟨E, I2, h3, h⟩
  rotate_left
  · have hq := c_X5_require (d + 2) (K := (kk K (x0 + 1) k)) (I := I) (LR.kk H0) h3
    cases h
    exact z_Ve [.int y0, .int 4] [] (cs_X5_79 _) (ci := 3) rfl (LR.o (LR.kk H0)) (dep (show d + 2 + 6 + 1 ≤ (d + 9) from by omega) (Nat.le_of_ble_eq_true rfl)) dX5_readPerson_19 rfl rfl (Nat.le_of_ble_eq_true rfl) hq rfl
  have hq := c_X5_require (d + 2) (K := (kk K (x0 + 1) k)) (I := I) (LR.kk H0) h3
  refine z_V0 [.int y0, .int 4] [] (cs_X5_79 _) (ci := 3) rfl (LR.o (LR.kk H0)) (dep (show d + 2 + 6 + 1 ≤ (d + 9) from by omega) (Nat.le_of_ble_eq_true rfl)) dX5_readPerson_19 rfl rfl (Nat.le_of_ble_eq_true rfl) hq ?_
  refine x_aloadn dX5_readPerson_22 rfl ?_
  refine z_getR fs_X5_21 (LR.o (LR.kk H0)) (LR.g1 (LR.kk H0)) dX5_readPerson_23 ?_
  refine z_getRG gs_X5_235 (LM.o (LM.kk (LR.q H0) (by omega))) (LM.g0 (LM.kk (LR.q H0) (by omega))) dX5_readPerson_26 ?_
  refine x_aloadn dX5_readPerson_29 rfl ?_
  refine z_getR fs_X5_21 (LR.o (LR.kk H0)) (LR.g1 (LR.kk H0)) dX5_readPerson_30 ?_
  refine z_getI fs_X5_106 (LM.o (LM.kk (LR.q H0) (by omega))) dX5_readPerson_33 ?_
  obtain ⟨j4, hj4, h⟩ := b1_s h
  refine z_aald (LA.kk (LM.l0 (LR.q H0))) ⟨by decide, by decide⟩ hj4 (LM.p (LM.kk (LR.q H0) (by omega)) (ix_s hj4).2.1) dX5_readPerson_36 ?_
  refine x_astoren dX5_readPerson_37 (Nat.le_of_ble_eq_true rfl) rfl rfl ?_
  refine x_aloadn dX5_readPerson_38 rfl ?_
  refine x_aloadn dX5_readPerson_39 rfl ?_
  rcases e3_s h with ⟨v5, I6, k7, h8, h⟩ | ⟨E, I6, k7, h8, h⟩
  rotate_left
  · have hq := c_X5_readName (d + 1) (K := K) (I := I2) H0 h8
    cases h
    exact z_Ve [] [.ref ((x0 + 3) + 4 + j4)] (cs_X5_239 _) (ci := 3) rfl (LR.o (LR.kk H0)) (dep (show d + 1 + 7 + 1 ≤ (d + 9) from by omega) (Nat.le_of_ble_eq_true rfl)) dX5_readPerson_40 rfl rfl (Nat.le_of_ble_eq_true rfl) hq rfl
  have hq := c_X5_readName (d + 1) (K := K) (I := I2) H0 h8
  refine z_V1 [] [.ref ((x0 + 3) + 4 + j4)] (cs_X5_239 _) (ci := 3) rfl (LR.o (LR.kk H0)) (dep (show d + 1 + 7 + 1 ≤ (d + 9) from by omega) (Nat.le_of_ble_eq_true rfl)) dX5_readPerson_40 rfl rfl (Nat.le_of_ble_eq_true rfl) hq ?_
  obtain ⟨I9, hI9, h⟩ := b1_s h
  refine z_putI fs_X5_242 (LO.kk (LM.po (LR.q H0) (ix_s hj4).2.1)) hI9 dX5_readPerson_43 ?_
  refine x_aloadn dX5_readPerson_46 rfl ?_
  refine x_aloadn dX5_readPerson_47 rfl ?_
  refine z_getR fs_X5_21 (LR.o (LR.kk H0)) (LR.g1 (LR.kk H0)) dX5_readPerson_48 ?_
  refine x_aloadn dX5_readPerson_51 rfl ?_
  refine z_getI fs_X5_242 (LO.kk (LM.po (LR.q H0) (ix_s hj4).2.1)) dX5_readPerson_52 ?_
  obtain ⟨v10, h11, h⟩ := b1_s h
  refine z_V1 [.int (I9 ((x0 + 3) + 4 + j4) 0)] [.ref x0] (cs_X5_247 _) (ci := 1) rfl (LM.o (LM.kk (LR.q H0) (by omega))) (dep (show d + 8 + 0 + 1 ≤ (d + 9) from by omega) (Nat.le_of_ble_eq_true rfl)) dX5_readPerson_55 rfl rfl (Nat.le_of_ble_eq_true rfl) (c_X3_hasPersonNamed (d + 8) (K := (kk K (x0 + 1) k7)) (I := I9) (LM.kk (LR.q H0) (by omega)) h11) ?_
  refine x_if_ne 65 dX5_readPerson_58 rfl (fun hc => ?_) (fun hc => ?_)
  · have h := ifF hc h
    refine x_iconst 0 dX5_readPerson_65 rfl ?_
    exact tl_X5_readPerson_66 d H0 (LM.po (LR.q H0) (ix_s hj4).2.1) h
  have h := ifT hc h
  refine x_iconst 1 dX5_readPerson_61 rfl ?_
  refine x_goto 66 dX5_readPerson_62 rfl ?_
  exact tl_X5_readPerson_66 d H0 (LM.po (LR.q H0) (ix_s hj4).2.1) h
noncomputable def f_X5_readPerson (I : Mem) (k : Nat) (x0 : Nat) : Option (Except String Nat × Mem × Nat) := if 6 ≤ (I (x0 + 3) 3) then (l_X5_readPerson_18 I k x0 0) else (l_X5_readPerson_18 I k x0 1)
theorem c_X5_readPerson (d : Nat) {K : Kt} {I : Mem} {k : Nat} {x0 : Nat} (H0 : LR K x0) {x : Except String Nat} {I9 : Mem} {k9 : Nat} (h : f_X5_readPerson I k x0 = some (x, I9, k9)) : Ct (mX5_readPerson (d + 9)) cX5_readPerson (cst x) (cs6 x) [.ref x0] I (kk K (x0 + 1) k) (Ro (rR x) I9 (kk K (x0 + 1) k9)) := by
  refine Ct.of rfl pn_X5 (catR cat0) (Nat.le_of_ble_eq_true rfl) (show X _ _ _ _ _ _ 0 [.ref x0, .retAddr 0] [] _ from ?_)
  unfold f_X5_readPerson at h
  refine x_aloadn dX5_readPerson_0 rfl ?_
  refine x_aloadn dX5_readPerson_1 rfl ?_
  refine z_getR fs_X5_21 (LR.o (LR.kk H0)) (LR.g1 (LR.kk H0)) dX5_readPerson_2 ?_
  refine z_getI fs_X5_106 (LM.o (LM.kk (LR.q H0) (by omega))) dX5_readPerson_5 ?_
  refine x_bipush 6 dX5_readPerson_8 rfl ?_
  refine x_icmp_ge 17 dX5_readPerson_10 rfl (fun hc => ?_) (fun hc => ?_)
  · have h := ifT hc h
    refine x_iconst 0 dX5_readPerson_17 rfl ?_
    exact tl_X5_readPerson_18 d H0 h
  have h := ifF hc h
  refine x_iconst 1 dX5_readPerson_13 rfl ?_
  refine x_goto 18 dX5_readPerson_14 rfl ?_
  exact tl_X5_readPerson_18 d H0 h
noncomputable def f_X5_readLimit (I : Mem) (k : Nat) (x0 : Nat) : Option (Except String Unit × Mem × Nat) := e3 (f_X5_readPersonIndex I k x0) (fun E I2 k3 => some (.error E, I2, k3)) fun v1 I2 k3 => b1 (ix v1 6) fun j5 => e3 (f_X5_readNumber I2 k3 x0 0 200) (fun E I7 k8 => some (.error E, I7, k8)) fun v6 I7 k8 => b1 (pu I7 ((x0 + 3) + 4 + j5) 5 v6) fun I10 => some (.ok (), I10, k8)
theorem c_X5_readLimit (d : Nat) {K : Kt} {I : Mem} {k : Nat} {x0 : Nat} (H0 : LR K x0) {x : Except String Unit} {I9 : Mem} {k9 : Nat} (h : f_X5_readLimit I k x0 = some (x, I9, k9)) : Ct (mX5_readLimit (d + 9)) cX5_readLimit (cst x) (cs6 x) [.ref x0] I (kk K (x0 + 1) k) (Ro (rV x) I9 (kk K (x0 + 1) k9)) := by
  refine Ct.of rfl pn_X5 (catR cat0) (Nat.le_of_ble_eq_true rfl) (show X _ _ _ _ _ _ 0 [.ref x0, .retAddr 0] [] _ from ?_)
  unfold f_X5_readLimit at h
  refine x_aloadn dX5_readLimit_0 rfl ?_
  rcases e3_s h with ⟨v1, I2, k3, h4, h⟩ | ⟨E, I2, k3, h4, h⟩
  rotate_left
  · have hq := c_X5_readPersonIndex d (K := K) (I := I) H0 h4
    cases h
    exact z_Ve [] [] (cs_X5_326 _) (ci := 3) rfl (LR.o (LR.kk H0)) (dep (show d + 0 + 8 + 1 ≤ (d + 9) from by omega) (Nat.le_of_ble_eq_true rfl)) dX5_readLimit_1 rfl rfl (Nat.le_of_ble_eq_true rfl) hq rfl
  have hq := c_X5_readPersonIndex d (K := K) (I := I) H0 h4
  refine z_V1 [] [] (cs_X5_326 _) (ci := 3) rfl (LR.o (LR.kk H0)) (dep (show d + 0 + 8 + 1 ≤ (d + 9) from by omega) (Nat.le_of_ble_eq_true rfl)) dX5_readLimit_1 rfl rfl (Nat.le_of_ble_eq_true rfl) hq ?_
  refine x_istoren dX5_readLimit_4 (Nat.le_of_ble_eq_true rfl) rfl rfl ?_
  refine x_aloadn dX5_readLimit_5 rfl ?_
  refine z_getR fs_X5_21 (LR.o (LR.kk H0)) (LR.g1 (LR.kk H0)) dX5_readLimit_6 ?_
  refine z_getRG gs_X5_235 (LM.o (LM.kk (LR.q H0) (by omega))) (LM.g0 (LM.kk (LR.q H0) (by omega))) dX5_readLimit_9 ?_
  refine x_iloadn dX5_readLimit_12 rfl ?_
  obtain ⟨j5, hj5, h⟩ := b1_s h
  refine z_aald (LA.kk (LM.l0 (LR.q H0))) ⟨by decide, by decide⟩ hj5 (LM.p (LM.kk (LR.q H0) (by omega)) (ix_s hj5).2.1) dX5_readLimit_13 ?_
  refine x_aloadn dX5_readLimit_14 rfl ?_
  refine x_iconst 0 dX5_readLimit_15 rfl ?_
  refine x_sipush 200 dX5_readLimit_16 rfl ?_
  rcases e3_s h with ⟨v6, I7, k8, h9, h⟩ | ⟨E, I7, k8, h9, h⟩
  rotate_left
  · have hq := c_X5_readNumber (d + 1) (K := K) (I := I2) H0 h9
    cases h
    exact z_Ve [.int 0, .int 200] [.ref ((x0 + 3) + 4 + j5)] (cs_X5_83 _) (ci := 3) rfl (LR.o (LR.kk H0)) (dep (show d + 1 + 7 + 1 ≤ (d + 9) from by omega) (Nat.le_of_ble_eq_true rfl)) dX5_readLimit_19 rfl rfl (Nat.le_of_ble_eq_true rfl) hq rfl
  have hq := c_X5_readNumber (d + 1) (K := K) (I := I2) H0 h9
  refine z_V1 [.int 0, .int 200] [.ref ((x0 + 3) + 4 + j5)] (cs_X5_83 _) (ci := 3) rfl (LR.o (LR.kk H0)) (dep (show d + 1 + 7 + 1 ≤ (d + 9) from by omega) (Nat.le_of_ble_eq_true rfl)) dX5_readLimit_19 rfl rfl (Nat.le_of_ble_eq_true rfl) hq ?_
  obtain ⟨I10, hI10, h⟩ := b1_s h
  refine z_putI fs_X5_263 (LO.kk (LM.po (LR.q H0) (ix_s hj5).2.1)) hI10 dX5_readLimit_22 ?_
  cases h
  exact x_vret rfl dX5_readLimit_25 ⟨rfl, rfl, rfl⟩
noncomputable def l_X5_readBuy_28 (I : Mem) (k : Nat) (x0 : Nat) (x1 : Int32) (x2 : Int32) (y0 : Int32) : Option (Except String Unit × Mem × Nat) := e2 (f_X5_require I x0 y0 3) (fun E I12 => some (.error E, I12, k)) fun u11 I12 => b2 (f_X3_carryOutPurchase I12 (x0 + 3) x1 x2) fun v14 I15 => some (.ok (), I15, k)
theorem tl_X5_readBuy_28 (d : Nat) {K : Kt} : ∀ {I : Mem} {k : Nat} {x0 : Nat} (H0 : LR K x0) {x1 : Int32} {x2 : Int32} {y0 : Int32} {x : Except String Unit} {I9 : Mem} {k9 : Nat}, l_X5_readBuy_28 I k x0 x1 x2 y0 = some (x, I9, k9) → X (mX5_readBuy (d + 9)) cX5_readBuy (cst x) (cs6 x) I (kk K (x0 + 1) k) 28 [.ref x0, .int x1, .int x2] [.int y0, .ref x0] (Ro (rV x) I9 (kk K (x0 + 1) k9)) := by
  intro I k x0 H0 x1 x2 y0 x I9 k9 h
  unfold l_X5_readBuy_28 at h
  refine x_iconst 3 dX5_readBuy_28 rfl ?_
  rcases e2_s h with ⟨u11, I12, h13, h⟩ | ⟨E, I12, h13, h⟩
  rotate_left
  · have hq := c_X5_require (d + 2) (K := (kk K (x0 + 1) k)) (I := I) (LR.kk H0) h13
    cases h
    exact z_Ve [.int y0, .int 3] [] (cs_X5_79 _) (ci := 3) rfl (LR.o (LR.kk H0)) (dep (show d + 2 + 6 + 1 ≤ (d + 9) from by omega) (Nat.le_of_ble_eq_true rfl)) dX5_readBuy_29 rfl rfl (Nat.le_of_ble_eq_true rfl) hq rfl
  have hq := c_X5_require (d + 2) (K := (kk K (x0 + 1) k)) (I := I) (LR.kk H0) h13
  refine z_V0 [.int y0, .int 3] [] (cs_X5_79 _) (ci := 3) rfl (LR.o (LR.kk H0)) (dep (show d + 2 + 6 + 1 ≤ (d + 9) from by omega) (Nat.le_of_ble_eq_true rfl)) dX5_readBuy_29 rfl rfl (Nat.le_of_ble_eq_true rfl) hq ?_
  refine x_aloadn dX5_readBuy_32 rfl ?_
  refine z_getR fs_X5_21 (LR.o (LR.kk H0)) (LR.g1 (LR.kk H0)) dX5_readBuy_33 ?_
  refine x_iloadn dX5_readBuy_36 rfl ?_
  refine x_iloadn dX5_readBuy_37 rfl ?_
  obtain ⟨v14, I15, h16, h⟩ := b2_s h
  refine z_V1 [.int x1, .int x2] [] (cs_X5_335 _) (ci := 1) rfl (LM.o (LM.kk (LR.q H0) (by omega))) (dep (show d + 6 + 2 + 1 ≤ (d + 9) from by omega) (Nat.le_of_ble_eq_true rfl)) dX5_readBuy_38 rfl rfl (Nat.le_of_ble_eq_true rfl) (c_X3_carryOutPurchase (d + 6) (K := (kk K (x0 + 1) k)) (I := I12) (LM.kk (LR.q H0) (by omega)) h16) ?_
  refine x_pop dX5_readBuy_41 rfl ?_
  cases h
  exact x_vret rfl dX5_readBuy_42 ⟨rfl, rfl, rfl⟩
noncomputable def f_X5_readBuy (I : Mem) (k : Nat) (x0 : Nat) : Option (Except String Unit × Mem × Nat) := e3 (f_X5_readPersonIndex I k x0) (fun E I2 k3 => some (.error E, I2, k3)) fun v1 I2 k3 => e3 (f_X5_readWishIndex I2 k3 x0) (fun E I6 k7 => some (.error E, I6, k7)) fun v5 I6 k7 => b1 (f_X3_obstacleToBuy I6 (x0 + 3) v1 v5) fun v9 => if v9 = 0 then (l_X5_readBuy_28 I6 k7 x0 v1 v5 1) else (l_X5_readBuy_28 I6 k7 x0 v1 v5 0)
theorem c_X5_readBuy (d : Nat) {K : Kt} {I : Mem} {k : Nat} {x0 : Nat} (H0 : LR K x0) {x : Except String Unit} {I9 : Mem} {k9 : Nat} (h : f_X5_readBuy I k x0 = some (x, I9, k9)) : Ct (mX5_readBuy (d + 9)) cX5_readBuy (cst x) (cs6 x) [.ref x0] I (kk K (x0 + 1) k) (Ro (rV x) I9 (kk K (x0 + 1) k9)) := by
  refine Ct.of rfl pn_X5 (catR cat0) (Nat.le_of_ble_eq_true rfl) (show X _ _ _ _ _ _ 0 [.ref x0, .retAddr 0, .retAddr 0] [] _ from ?_)
  unfold f_X5_readBuy at h
  refine x_aloadn dX5_readBuy_0 rfl ?_
  rcases e3_s h with ⟨v1, I2, k3, h4, h⟩ | ⟨E, I2, k3, h4, h⟩
  rotate_left
  · have hq := c_X5_readPersonIndex d (K := K) (I := I) H0 h4
    cases h
    exact z_Ve [] [] (cs_X5_326 _) (ci := 3) rfl (LR.o (LR.kk H0)) (dep (show d + 0 + 8 + 1 ≤ (d + 9) from by omega) (Nat.le_of_ble_eq_true rfl)) dX5_readBuy_1 rfl rfl (Nat.le_of_ble_eq_true rfl) hq rfl
  have hq := c_X5_readPersonIndex d (K := K) (I := I) H0 h4
  refine z_V1 [] [] (cs_X5_326 _) (ci := 3) rfl (LR.o (LR.kk H0)) (dep (show d + 0 + 8 + 1 ≤ (d + 9) from by omega) (Nat.le_of_ble_eq_true rfl)) dX5_readBuy_1 rfl rfl (Nat.le_of_ble_eq_true rfl) hq ?_
  refine x_istoren dX5_readBuy_4 (Nat.le_of_ble_eq_true rfl) rfl rfl ?_
  refine x_aloadn dX5_readBuy_5 rfl ?_
  rcases e3_s h with ⟨v5, I6, k7, h8, h⟩ | ⟨E, I6, k7, h8, h⟩
  rotate_left
  · have hq := c_X5_readWishIndex d (K := K) (I := I2) H0 h8
    cases h
    exact z_Ve [] [] (cs_X5_329 _) (ci := 3) rfl (LR.o (LR.kk H0)) (dep (show d + 0 + 8 + 1 ≤ (d + 9) from by omega) (Nat.le_of_ble_eq_true rfl)) dX5_readBuy_6 rfl rfl (Nat.le_of_ble_eq_true rfl) hq rfl
  have hq := c_X5_readWishIndex d (K := K) (I := I2) H0 h8
  refine z_V1 [] [] (cs_X5_329 _) (ci := 3) rfl (LR.o (LR.kk H0)) (dep (show d + 0 + 8 + 1 ≤ (d + 9) from by omega) (Nat.le_of_ble_eq_true rfl)) dX5_readBuy_6 rfl rfl (Nat.le_of_ble_eq_true rfl) hq ?_
  refine x_istoren dX5_readBuy_9 (Nat.le_of_ble_eq_true rfl) rfl rfl ?_
  refine x_aloadn dX5_readBuy_10 rfl ?_
  refine x_aloadn dX5_readBuy_11 rfl ?_
  refine z_getR fs_X5_21 (LR.o (LR.kk H0)) (LR.g1 (LR.kk H0)) dX5_readBuy_12 ?_
  refine x_iloadn dX5_readBuy_15 rfl ?_
  refine x_iloadn dX5_readBuy_16 rfl ?_
  obtain ⟨v9, h10, h⟩ := b1_s h
  refine z_V1 [.int v1, .int v5] [.ref x0] (cs_X5_332 _) (ci := 1) rfl (LM.o (LM.kk (LR.q H0) (by omega))) (dep (show d + 7 + 1 + 1 ≤ (d + 9) from by omega) (Nat.le_of_ble_eq_true rfl)) dX5_readBuy_17 rfl rfl (Nat.le_of_ble_eq_true rfl) (c_X3_obstacleToBuy (d + 7) (K := (kk K (x0 + 1) k7)) (I := I6) (LM.kk (LR.q H0) (by omega)) h10) ?_
  refine x_if_ne 27 dX5_readBuy_20 rfl (fun hc => ?_) (fun hc => ?_)
  · have h := ifF hc h
    refine x_iconst 0 dX5_readBuy_27 rfl ?_
    exact tl_X5_readBuy_28 d H0 h
  have h := ifT hc h
  refine x_iconst 1 dX5_readBuy_23 rfl ?_
  refine x_goto 28 dX5_readBuy_24 rfl ?_
  exact tl_X5_readBuy_28 d H0 h
noncomputable def l_X5_readSell_28 (I : Mem) (k : Nat) (x0 : Nat) (x1 : Int32) (x2 : Int32) (y0 : Int32) : Option (Except String Unit × Mem × Nat) := e2 (f_X5_require I x0 y0 3) (fun E I12 => some (.error E, I12, k)) fun u11 I12 => b2 (f_X3_carryOutSale I12 (x0 + 3) x1 x2) fun v14 I15 => some (.ok (), I15, k)
theorem tl_X5_readSell_28 (d : Nat) {K : Kt} : ∀ {I : Mem} {k : Nat} {x0 : Nat} (H0 : LR K x0) {x1 : Int32} {x2 : Int32} {y0 : Int32} {x : Except String Unit} {I9 : Mem} {k9 : Nat}, l_X5_readSell_28 I k x0 x1 x2 y0 = some (x, I9, k9) → X (mX5_readSell (d + 9)) cX5_readSell (cst x) (cs6 x) I (kk K (x0 + 1) k) 28 [.ref x0, .int x1, .int x2] [.int y0, .ref x0] (Ro (rV x) I9 (kk K (x0 + 1) k9)) := by
  intro I k x0 H0 x1 x2 y0 x I9 k9 h
  unfold l_X5_readSell_28 at h
  refine x_iconst 3 dX5_readSell_28 rfl ?_
  rcases e2_s h with ⟨u11, I12, h13, h⟩ | ⟨E, I12, h13, h⟩
  rotate_left
  · have hq := c_X5_require (d + 2) (K := (kk K (x0 + 1) k)) (I := I) (LR.kk H0) h13
    cases h
    exact z_Ve [.int y0, .int 3] [] (cs_X5_79 _) (ci := 3) rfl (LR.o (LR.kk H0)) (dep (show d + 2 + 6 + 1 ≤ (d + 9) from by omega) (Nat.le_of_ble_eq_true rfl)) dX5_readSell_29 rfl rfl (Nat.le_of_ble_eq_true rfl) hq rfl
  have hq := c_X5_require (d + 2) (K := (kk K (x0 + 1) k)) (I := I) (LR.kk H0) h13
  refine z_V0 [.int y0, .int 3] [] (cs_X5_79 _) (ci := 3) rfl (LR.o (LR.kk H0)) (dep (show d + 2 + 6 + 1 ≤ (d + 9) from by omega) (Nat.le_of_ble_eq_true rfl)) dX5_readSell_29 rfl rfl (Nat.le_of_ble_eq_true rfl) hq ?_
  refine x_aloadn dX5_readSell_32 rfl ?_
  refine z_getR fs_X5_21 (LR.o (LR.kk H0)) (LR.g1 (LR.kk H0)) dX5_readSell_33 ?_
  refine x_iloadn dX5_readSell_36 rfl ?_
  refine x_iloadn dX5_readSell_37 rfl ?_
  obtain ⟨v14, I15, h16, h⟩ := b2_s h
  refine z_V1 [.int x1, .int x2] [] (cs_X5_344 _) (ci := 1) rfl (LM.o (LM.kk (LR.q H0) (by omega))) (dep (show d + 6 + 2 + 1 ≤ (d + 9) from by omega) (Nat.le_of_ble_eq_true rfl)) dX5_readSell_38 rfl rfl (Nat.le_of_ble_eq_true rfl) (c_X3_carryOutSale (d + 6) (K := (kk K (x0 + 1) k)) (I := I12) (LM.kk (LR.q H0) (by omega)) h16) ?_
  refine x_pop dX5_readSell_41 rfl ?_
  cases h
  exact x_vret rfl dX5_readSell_42 ⟨rfl, rfl, rfl⟩
noncomputable def f_X5_readSell (I : Mem) (k : Nat) (x0 : Nat) : Option (Except String Unit × Mem × Nat) := e3 (f_X5_readWishIndex I k x0) (fun E I2 k3 => some (.error E, I2, k3)) fun v1 I2 k3 => e3 (f_X5_readStallIndex I2 k3 x0) (fun E I6 k7 => some (.error E, I6, k7)) fun v5 I6 k7 => b1 (f_X3_obstacleToSell I6 (x0 + 3) v1 v5) fun v9 => if v9 = 0 then (l_X5_readSell_28 I6 k7 x0 v1 v5 1) else (l_X5_readSell_28 I6 k7 x0 v1 v5 0)
theorem c_X5_readSell (d : Nat) {K : Kt} {I : Mem} {k : Nat} {x0 : Nat} (H0 : LR K x0) {x : Except String Unit} {I9 : Mem} {k9 : Nat} (h : f_X5_readSell I k x0 = some (x, I9, k9)) : Ct (mX5_readSell (d + 9)) cX5_readSell (cst x) (cs6 x) [.ref x0] I (kk K (x0 + 1) k) (Ro (rV x) I9 (kk K (x0 + 1) k9)) := by
  refine Ct.of rfl pn_X5 (catR cat0) (Nat.le_of_ble_eq_true rfl) (show X _ _ _ _ _ _ 0 [.ref x0, .retAddr 0, .retAddr 0] [] _ from ?_)
  unfold f_X5_readSell at h
  refine x_aloadn dX5_readSell_0 rfl ?_
  rcases e3_s h with ⟨v1, I2, k3, h4, h⟩ | ⟨E, I2, k3, h4, h⟩
  rotate_left
  · have hq := c_X5_readWishIndex d (K := K) (I := I) H0 h4
    cases h
    exact z_Ve [] [] (cs_X5_329 _) (ci := 3) rfl (LR.o (LR.kk H0)) (dep (show d + 0 + 8 + 1 ≤ (d + 9) from by omega) (Nat.le_of_ble_eq_true rfl)) dX5_readSell_1 rfl rfl (Nat.le_of_ble_eq_true rfl) hq rfl
  have hq := c_X5_readWishIndex d (K := K) (I := I) H0 h4
  refine z_V1 [] [] (cs_X5_329 _) (ci := 3) rfl (LR.o (LR.kk H0)) (dep (show d + 0 + 8 + 1 ≤ (d + 9) from by omega) (Nat.le_of_ble_eq_true rfl)) dX5_readSell_1 rfl rfl (Nat.le_of_ble_eq_true rfl) hq ?_
  refine x_istoren dX5_readSell_4 (Nat.le_of_ble_eq_true rfl) rfl rfl ?_
  refine x_aloadn dX5_readSell_5 rfl ?_
  rcases e3_s h with ⟨v5, I6, k7, h8, h⟩ | ⟨E, I6, k7, h8, h⟩
  rotate_left
  · have hq := c_X5_readStallIndex d (K := K) (I := I2) H0 h8
    cases h
    exact z_Ve [] [] (cs_X5_338 _) (ci := 3) rfl (LR.o (LR.kk H0)) (dep (show d + 0 + 8 + 1 ≤ (d + 9) from by omega) (Nat.le_of_ble_eq_true rfl)) dX5_readSell_6 rfl rfl (Nat.le_of_ble_eq_true rfl) hq rfl
  have hq := c_X5_readStallIndex d (K := K) (I := I2) H0 h8
  refine z_V1 [] [] (cs_X5_338 _) (ci := 3) rfl (LR.o (LR.kk H0)) (dep (show d + 0 + 8 + 1 ≤ (d + 9) from by omega) (Nat.le_of_ble_eq_true rfl)) dX5_readSell_6 rfl rfl (Nat.le_of_ble_eq_true rfl) hq ?_
  refine x_istoren dX5_readSell_9 (Nat.le_of_ble_eq_true rfl) rfl rfl ?_
  refine x_aloadn dX5_readSell_10 rfl ?_
  refine x_aloadn dX5_readSell_11 rfl ?_
  refine z_getR fs_X5_21 (LR.o (LR.kk H0)) (LR.g1 (LR.kk H0)) dX5_readSell_12 ?_
  refine x_iloadn dX5_readSell_15 rfl ?_
  refine x_iloadn dX5_readSell_16 rfl ?_
  obtain ⟨v9, h10, h⟩ := b1_s h
  refine z_V1 [.int v1, .int v5] [.ref x0] (cs_X5_341 _) (ci := 1) rfl (LM.o (LM.kk (LR.q H0) (by omega))) (dep (show d + 7 + 1 + 1 ≤ (d + 9) from by omega) (Nat.le_of_ble_eq_true rfl)) dX5_readSell_17 rfl rfl (Nat.le_of_ble_eq_true rfl) (c_X3_obstacleToSell (d + 7) (K := (kk K (x0 + 1) k7)) (I := I6) (LM.kk (LR.q H0) (by omega)) h10) ?_
  refine x_if_ne 27 dX5_readSell_20 rfl (fun hc => ?_) (fun hc => ?_)
  · have h := ifF hc h
    refine x_iconst 0 dX5_readSell_27 rfl ?_
    exact tl_X5_readSell_28 d H0 h
  have h := ifT hc h
  refine x_iconst 1 dX5_readSell_23 rfl ?_
  refine x_goto 28 dX5_readSell_24 rfl ?_
  exact tl_X5_readSell_28 d H0 h
noncomputable def l_X5_readReturn_22 (I : Mem) (k : Nat) (x0 : Nat) (x1 : Int32) (y0 : Int32) : Option (Except String Unit × Mem × Nat) := e2 (f_X5_require I x0 y0 3) (fun E I8 => some (.error E, I8, k)) fun u7 I8 => b2 (f_X3_carryOutReturn I8 (x0 + 3) x1) fun v10 I11 => some (.ok (), I11, k)
theorem tl_X5_readReturn_22 (d : Nat) {K : Kt} : ∀ {I : Mem} {k : Nat} {x0 : Nat} (H0 : LR K x0) {x1 : Int32} {y0 : Int32} {x : Except String Unit} {I9 : Mem} {k9 : Nat}, l_X5_readReturn_22 I k x0 x1 y0 = some (x, I9, k9) → X (mX5_readReturn (d + 9)) cX5_readReturn (cst x) (cs6 x) I (kk K (x0 + 1) k) 22 [.ref x0, .int x1] [.int y0, .ref x0] (Ro (rV x) I9 (kk K (x0 + 1) k9)) := by
  intro I k x0 H0 x1 y0 x I9 k9 h
  unfold l_X5_readReturn_22 at h
  refine x_iconst 3 dX5_readReturn_22 rfl ?_
  rcases e2_s h with ⟨u7, I8, h9, h⟩ | ⟨E, I8, h9, h⟩
  rotate_left
  · have hq := c_X5_require (d + 2) (K := (kk K (x0 + 1) k)) (I := I) (LR.kk H0) h9
    cases h
    exact z_Ve [.int y0, .int 3] [] (cs_X5_79 _) (ci := 3) rfl (LR.o (LR.kk H0)) (dep (show d + 2 + 6 + 1 ≤ (d + 9) from by omega) (Nat.le_of_ble_eq_true rfl)) dX5_readReturn_23 rfl rfl (Nat.le_of_ble_eq_true rfl) hq rfl
  have hq := c_X5_require (d + 2) (K := (kk K (x0 + 1) k)) (I := I) (LR.kk H0) h9
  refine z_V0 [.int y0, .int 3] [] (cs_X5_79 _) (ci := 3) rfl (LR.o (LR.kk H0)) (dep (show d + 2 + 6 + 1 ≤ (d + 9) from by omega) (Nat.le_of_ble_eq_true rfl)) dX5_readReturn_23 rfl rfl (Nat.le_of_ble_eq_true rfl) hq ?_
  refine x_aloadn dX5_readReturn_26 rfl ?_
  refine z_getR fs_X5_21 (LR.o (LR.kk H0)) (LR.g1 (LR.kk H0)) dX5_readReturn_27 ?_
  refine x_iloadn dX5_readReturn_30 rfl ?_
  obtain ⟨v10, I11, h12, h⟩ := b2_s h
  refine z_V1 [.int x1] [] (cs_X5_350 _) (ci := 1) rfl (LM.o (LM.kk (LR.q H0) (by omega))) (dep (show d + 6 + 2 + 1 ≤ (d + 9) from by omega) (Nat.le_of_ble_eq_true rfl)) dX5_readReturn_31 rfl rfl (Nat.le_of_ble_eq_true rfl) (c_X3_carryOutReturn (d + 6) (K := (kk K (x0 + 1) k)) (I := I8) (LM.kk (LR.q H0) (by omega)) h12) ?_
  refine x_pop dX5_readReturn_34 rfl ?_
  cases h
  exact x_vret rfl dX5_readReturn_35 ⟨rfl, rfl, rfl⟩
noncomputable def f_X5_readReturn (I : Mem) (k : Nat) (x0 : Nat) : Option (Except String Unit × Mem × Nat) := e3 (f_X5_readWishIndex I k x0) (fun E I2 k3 => some (.error E, I2, k3)) fun v1 I2 k3 => b1 (f_X3_obstacleToReturn I2 (x0 + 3) v1) fun v5 => if v5 = 0 then (l_X5_readReturn_22 I2 k3 x0 v1 1) else (l_X5_readReturn_22 I2 k3 x0 v1 0)
theorem c_X5_readReturn (d : Nat) {K : Kt} {I : Mem} {k : Nat} {x0 : Nat} (H0 : LR K x0) {x : Except String Unit} {I9 : Mem} {k9 : Nat} (h : f_X5_readReturn I k x0 = some (x, I9, k9)) : Ct (mX5_readReturn (d + 9)) cX5_readReturn (cst x) (cs6 x) [.ref x0] I (kk K (x0 + 1) k) (Ro (rV x) I9 (kk K (x0 + 1) k9)) := by
  refine Ct.of rfl pn_X5 (catR cat0) (Nat.le_of_ble_eq_true rfl) (show X _ _ _ _ _ _ 0 [.ref x0, .retAddr 0] [] _ from ?_)
  unfold f_X5_readReturn at h
  refine x_aloadn dX5_readReturn_0 rfl ?_
  rcases e3_s h with ⟨v1, I2, k3, h4, h⟩ | ⟨E, I2, k3, h4, h⟩
  rotate_left
  · have hq := c_X5_readWishIndex d (K := K) (I := I) H0 h4
    cases h
    exact z_Ve [] [] (cs_X5_329 _) (ci := 3) rfl (LR.o (LR.kk H0)) (dep (show d + 0 + 8 + 1 ≤ (d + 9) from by omega) (Nat.le_of_ble_eq_true rfl)) dX5_readReturn_1 rfl rfl (Nat.le_of_ble_eq_true rfl) hq rfl
  have hq := c_X5_readWishIndex d (K := K) (I := I) H0 h4
  refine z_V1 [] [] (cs_X5_329 _) (ci := 3) rfl (LR.o (LR.kk H0)) (dep (show d + 0 + 8 + 1 ≤ (d + 9) from by omega) (Nat.le_of_ble_eq_true rfl)) dX5_readReturn_1 rfl rfl (Nat.le_of_ble_eq_true rfl) hq ?_
  refine x_istoren dX5_readReturn_4 (Nat.le_of_ble_eq_true rfl) rfl rfl ?_
  refine x_aloadn dX5_readReturn_5 rfl ?_
  refine x_aloadn dX5_readReturn_6 rfl ?_
  refine z_getR fs_X5_21 (LR.o (LR.kk H0)) (LR.g1 (LR.kk H0)) dX5_readReturn_7 ?_
  refine x_iloadn dX5_readReturn_10 rfl ?_
  obtain ⟨v5, h6, h⟩ := b1_s h
  refine z_V1 [.int v1] [.ref x0] (cs_X5_347 _) (ci := 1) rfl (LM.o (LM.kk (LR.q H0) (by omega))) (dep (show d + 7 + 1 + 1 ≤ (d + 9) from by omega) (Nat.le_of_ble_eq_true rfl)) dX5_readReturn_11 rfl rfl (Nat.le_of_ble_eq_true rfl) (c_X3_obstacleToReturn (d + 7) (K := (kk K (x0 + 1) k3)) (I := I2) (LM.kk (LR.q H0) (by omega)) h6) ?_
  refine x_if_ne 21 dX5_readReturn_14 rfl (fun hc => ?_) (fun hc => ?_)
  · have h := ifF hc h
    refine x_iconst 0 dX5_readReturn_21 rfl ?_
    exact tl_X5_readReturn_22 d H0 h
  have h := ifT hc h
  refine x_iconst 1 dX5_readReturn_17 rfl ?_
  refine x_goto 22 dX5_readReturn_18 rfl ?_
  exact tl_X5_readReturn_22 d H0 h
noncomputable def l_X5_readGrant_22 (I : Mem) (k : Nat) (x0 : Nat) (x1 : Int32) (y0 : Int32) : Option (Except String Unit × Mem × Nat) := e2 (f_X5_require I x0 y0 3) (fun E I8 => some (.error E, I8, k)) fun u7 I8 => b2 (f_X3_carryOutGrant I8 (x0 + 3) x1) fun v10 I11 => some (.ok (), I11, k)
theorem tl_X5_readGrant_22 (d : Nat) {K : Kt} : ∀ {I : Mem} {k : Nat} {x0 : Nat} (H0 : LR K x0) {x1 : Int32} {y0 : Int32} {x : Except String Unit} {I9 : Mem} {k9 : Nat}, l_X5_readGrant_22 I k x0 x1 y0 = some (x, I9, k9) → X (mX5_readGrant (d + 9)) cX5_readGrant (cst x) (cs6 x) I (kk K (x0 + 1) k) 22 [.ref x0, .int x1] [.int y0, .ref x0] (Ro (rV x) I9 (kk K (x0 + 1) k9)) := by
  intro I k x0 H0 x1 y0 x I9 k9 h
  unfold l_X5_readGrant_22 at h
  refine x_iconst 3 dX5_readGrant_22 rfl ?_
  rcases e2_s h with ⟨u7, I8, h9, h⟩ | ⟨E, I8, h9, h⟩
  rotate_left
  · have hq := c_X5_require (d + 2) (K := (kk K (x0 + 1) k)) (I := I) (LR.kk H0) h9
    cases h
    exact z_Ve [.int y0, .int 3] [] (cs_X5_79 _) (ci := 3) rfl (LR.o (LR.kk H0)) (dep (show d + 2 + 6 + 1 ≤ (d + 9) from by omega) (Nat.le_of_ble_eq_true rfl)) dX5_readGrant_23 rfl rfl (Nat.le_of_ble_eq_true rfl) hq rfl
  have hq := c_X5_require (d + 2) (K := (kk K (x0 + 1) k)) (I := I) (LR.kk H0) h9
  refine z_V0 [.int y0, .int 3] [] (cs_X5_79 _) (ci := 3) rfl (LR.o (LR.kk H0)) (dep (show d + 2 + 6 + 1 ≤ (d + 9) from by omega) (Nat.le_of_ble_eq_true rfl)) dX5_readGrant_23 rfl rfl (Nat.le_of_ble_eq_true rfl) hq ?_
  refine x_aloadn dX5_readGrant_26 rfl ?_
  refine z_getR fs_X5_21 (LR.o (LR.kk H0)) (LR.g1 (LR.kk H0)) dX5_readGrant_27 ?_
  refine x_iloadn dX5_readGrant_30 rfl ?_
  obtain ⟨v10, I11, h12, h⟩ := b2_s h
  refine z_V1 [.int x1] [] (cs_X5_356 _) (ci := 1) rfl (LM.o (LM.kk (LR.q H0) (by omega))) (dep (show d + 7 + 1 + 1 ≤ (d + 9) from by omega) (Nat.le_of_ble_eq_true rfl)) dX5_readGrant_31 rfl rfl (Nat.le_of_ble_eq_true rfl) (c_X3_carryOutGrant (d + 7) (K := (kk K (x0 + 1) k)) (I := I8) (LM.kk (LR.q H0) (by omega)) h12) ?_
  refine x_pop dX5_readGrant_34 rfl ?_
  cases h
  exact x_vret rfl dX5_readGrant_35 ⟨rfl, rfl, rfl⟩
noncomputable def f_X5_readGrant (I : Mem) (k : Nat) (x0 : Nat) : Option (Except String Unit × Mem × Nat) := e3 (f_X5_readWishIndex I k x0) (fun E I2 k3 => some (.error E, I2, k3)) fun v1 I2 k3 => b1 (f_X3_obstacleToGrant I2 (x0 + 3) v1) fun v5 => if v5 = 0 then (l_X5_readGrant_22 I2 k3 x0 v1 1) else (l_X5_readGrant_22 I2 k3 x0 v1 0)
theorem c_X5_readGrant (d : Nat) {K : Kt} {I : Mem} {k : Nat} {x0 : Nat} (H0 : LR K x0) {x : Except String Unit} {I9 : Mem} {k9 : Nat} (h : f_X5_readGrant I k x0 = some (x, I9, k9)) : Ct (mX5_readGrant (d + 9)) cX5_readGrant (cst x) (cs6 x) [.ref x0] I (kk K (x0 + 1) k) (Ro (rV x) I9 (kk K (x0 + 1) k9)) := by
  refine Ct.of rfl pn_X5 (catR cat0) (Nat.le_of_ble_eq_true rfl) (show X _ _ _ _ _ _ 0 [.ref x0, .retAddr 0] [] _ from ?_)
  unfold f_X5_readGrant at h
  refine x_aloadn dX5_readGrant_0 rfl ?_
  rcases e3_s h with ⟨v1, I2, k3, h4, h⟩ | ⟨E, I2, k3, h4, h⟩
  rotate_left
  · have hq := c_X5_readWishIndex d (K := K) (I := I) H0 h4
    cases h
    exact z_Ve [] [] (cs_X5_329 _) (ci := 3) rfl (LR.o (LR.kk H0)) (dep (show d + 0 + 8 + 1 ≤ (d + 9) from by omega) (Nat.le_of_ble_eq_true rfl)) dX5_readGrant_1 rfl rfl (Nat.le_of_ble_eq_true rfl) hq rfl
  have hq := c_X5_readWishIndex d (K := K) (I := I) H0 h4
  refine z_V1 [] [] (cs_X5_329 _) (ci := 3) rfl (LR.o (LR.kk H0)) (dep (show d + 0 + 8 + 1 ≤ (d + 9) from by omega) (Nat.le_of_ble_eq_true rfl)) dX5_readGrant_1 rfl rfl (Nat.le_of_ble_eq_true rfl) hq ?_
  refine x_istoren dX5_readGrant_4 (Nat.le_of_ble_eq_true rfl) rfl rfl ?_
  refine x_aloadn dX5_readGrant_5 rfl ?_
  refine x_aloadn dX5_readGrant_6 rfl ?_
  refine z_getR fs_X5_21 (LR.o (LR.kk H0)) (LR.g1 (LR.kk H0)) dX5_readGrant_7 ?_
  refine x_iloadn dX5_readGrant_10 rfl ?_
  obtain ⟨v5, h6, h⟩ := b1_s h
  refine z_V1 [.int v1] [.ref x0] (cs_X5_353 _) (ci := 1) rfl (LM.o (LM.kk (LR.q H0) (by omega))) (dep (show d + 7 + 1 + 1 ≤ (d + 9) from by omega) (Nat.le_of_ble_eq_true rfl)) dX5_readGrant_11 rfl rfl (Nat.le_of_ble_eq_true rfl) (c_X3_obstacleToGrant (d + 7) (K := (kk K (x0 + 1) k3)) (I := I2) (LM.kk (LR.q H0) (by omega)) h6) ?_
  refine x_if_ne 21 dX5_readGrant_14 rfl (fun hc => ?_) (fun hc => ?_)
  · have h := ifF hc h
    refine x_iconst 0 dX5_readGrant_21 rfl ?_
    exact tl_X5_readGrant_22 d H0 h
  have h := ifT hc h
  refine x_iconst 1 dX5_readGrant_17 rfl ?_
  refine x_goto 22 dX5_readGrant_18 rfl ?_
  exact tl_X5_readGrant_22 d H0 h
noncomputable def l_X5_readRename_28 (I : Mem) (k : Nat) (x0 : Nat) (x1 : Int32) (x2 : Int32) (y0 : Int32) : Option (Except String Unit × Mem × Nat) := e2 (f_X5_require I x0 y0 3) (fun E I12 => some (.error E, I12, k)) fun u11 I12 => b1 (ix x1 16) fun j14 => b1 (pu I12 ((x0 + 3) + 15 + j14) 0 x2) fun I15 => some (.ok (), I15, k)
theorem tl_X5_readRename_28 (d : Nat) {K : Kt} : ∀ {I : Mem} {k : Nat} {x0 : Nat} (H0 : LR K x0) {x1 : Int32} {x2 : Int32} {y0 : Int32} {x : Except String Unit} {I9 : Mem} {k9 : Nat}, l_X5_readRename_28 I k x0 x1 x2 y0 = some (x, I9, k9) → X (mX5_readRename (d + 9)) cX5_readRename (cst x) (cs6 x) I (kk K (x0 + 1) k) 28 [.ref x0, .int x1, .int x2] [.int y0, .ref x0] (Ro (rV x) I9 (kk K (x0 + 1) k9)) := by
  intro I k x0 H0 x1 x2 y0 x I9 k9 h
  unfold l_X5_readRename_28 at h
  refine x_iconst 3 dX5_readRename_28 rfl ?_
  rcases e2_s h with ⟨u11, I12, h13, h⟩ | ⟨E, I12, h13, h⟩
  rotate_left
  · have hq := c_X5_require (d + 2) (K := (kk K (x0 + 1) k)) (I := I) (LR.kk H0) h13
    cases h
    exact z_Ve [.int y0, .int 3] [] (cs_X5_79 _) (ci := 3) rfl (LR.o (LR.kk H0)) (dep (show d + 2 + 6 + 1 ≤ (d + 9) from by omega) (Nat.le_of_ble_eq_true rfl)) dX5_readRename_29 rfl rfl (Nat.le_of_ble_eq_true rfl) hq rfl
  have hq := c_X5_require (d + 2) (K := (kk K (x0 + 1) k)) (I := I) (LR.kk H0) h13
  refine z_V0 [.int y0, .int 3] [] (cs_X5_79 _) (ci := 3) rfl (LR.o (LR.kk H0)) (dep (show d + 2 + 6 + 1 ≤ (d + 9) from by omega) (Nat.le_of_ble_eq_true rfl)) dX5_readRename_29 rfl rfl (Nat.le_of_ble_eq_true rfl) hq ?_
  refine x_aloadn dX5_readRename_32 rfl ?_
  refine z_getR fs_X5_21 (LR.o (LR.kk H0)) (LR.g1 (LR.kk H0)) dX5_readRename_33 ?_
  refine z_getRG gs_X5_280 (LM.o (LM.kk (LR.q H0) (by omega))) (LM.g2 (LM.kk (LR.q H0) (by omega))) dX5_readRename_36 ?_
  refine x_iloadn dX5_readRename_39 rfl ?_
  obtain ⟨j14, hj14, h⟩ := b1_s h
  refine z_aald (LA.kk (LM.l2 (LR.q H0))) ⟨by decide, by decide⟩ hj14 (LM.w (LM.kk (LR.q H0) (by omega)) (ix_s hj14).2.1) dX5_readRename_40 ?_
  refine x_iloadn dX5_readRename_41 rfl ?_
  obtain ⟨I15, hI15, h⟩ := b1_s h
  refine z_putI fs_X5_284 (LO.kk (LM.wo (LR.q H0) (ix_s hj14).2.1)) hI15 dX5_readRename_42 ?_
  cases h
  exact x_vret rfl dX5_readRename_45 ⟨rfl, rfl, rfl⟩
noncomputable def f_X5_readRename (I : Mem) (k : Nat) (x0 : Nat) : Option (Except String Unit × Mem × Nat) := e3 (f_X5_readWishIndex I k x0) (fun E I2 k3 => some (.error E, I2, k3)) fun v1 I2 k3 => e3 (f_X5_readName I2 k3 x0) (fun E I6 k7 => some (.error E, I6, k7)) fun v5 I6 k7 => b1 (f_X3_hasWishNamed I6 (x0 + 3) v5 v1) fun v9 => if v9 = 0 then (l_X5_readRename_28 I6 k7 x0 v1 v5 1) else (l_X5_readRename_28 I6 k7 x0 v1 v5 0)
theorem c_X5_readRename (d : Nat) {K : Kt} {I : Mem} {k : Nat} {x0 : Nat} (H0 : LR K x0) {x : Except String Unit} {I9 : Mem} {k9 : Nat} (h : f_X5_readRename I k x0 = some (x, I9, k9)) : Ct (mX5_readRename (d + 9)) cX5_readRename (cst x) (cs6 x) [.ref x0] I (kk K (x0 + 1) k) (Ro (rV x) I9 (kk K (x0 + 1) k9)) := by
  refine Ct.of rfl pn_X5 (catR cat0) (Nat.le_of_ble_eq_true rfl) (show X _ _ _ _ _ _ 0 [.ref x0, .retAddr 0, .retAddr 0] [] _ from ?_)
  unfold f_X5_readRename at h
  refine x_aloadn dX5_readRename_0 rfl ?_
  rcases e3_s h with ⟨v1, I2, k3, h4, h⟩ | ⟨E, I2, k3, h4, h⟩
  rotate_left
  · have hq := c_X5_readWishIndex d (K := K) (I := I) H0 h4
    cases h
    exact z_Ve [] [] (cs_X5_329 _) (ci := 3) rfl (LR.o (LR.kk H0)) (dep (show d + 0 + 8 + 1 ≤ (d + 9) from by omega) (Nat.le_of_ble_eq_true rfl)) dX5_readRename_1 rfl rfl (Nat.le_of_ble_eq_true rfl) hq rfl
  have hq := c_X5_readWishIndex d (K := K) (I := I) H0 h4
  refine z_V1 [] [] (cs_X5_329 _) (ci := 3) rfl (LR.o (LR.kk H0)) (dep (show d + 0 + 8 + 1 ≤ (d + 9) from by omega) (Nat.le_of_ble_eq_true rfl)) dX5_readRename_1 rfl rfl (Nat.le_of_ble_eq_true rfl) hq ?_
  refine x_istoren dX5_readRename_4 (Nat.le_of_ble_eq_true rfl) rfl rfl ?_
  refine x_aloadn dX5_readRename_5 rfl ?_
  rcases e3_s h with ⟨v5, I6, k7, h8, h⟩ | ⟨E, I6, k7, h8, h⟩
  rotate_left
  · have hq := c_X5_readName (d + 1) (K := K) (I := I2) H0 h8
    cases h
    exact z_Ve [] [] (cs_X5_239 _) (ci := 3) rfl (LR.o (LR.kk H0)) (dep (show d + 1 + 7 + 1 ≤ (d + 9) from by omega) (Nat.le_of_ble_eq_true rfl)) dX5_readRename_6 rfl rfl (Nat.le_of_ble_eq_true rfl) hq rfl
  have hq := c_X5_readName (d + 1) (K := K) (I := I2) H0 h8
  refine z_V1 [] [] (cs_X5_239 _) (ci := 3) rfl (LR.o (LR.kk H0)) (dep (show d + 1 + 7 + 1 ≤ (d + 9) from by omega) (Nat.le_of_ble_eq_true rfl)) dX5_readRename_6 rfl rfl (Nat.le_of_ble_eq_true rfl) hq ?_
  refine x_istoren dX5_readRename_9 (Nat.le_of_ble_eq_true rfl) rfl rfl ?_
  refine x_aloadn dX5_readRename_10 rfl ?_
  refine x_aloadn dX5_readRename_11 rfl ?_
  refine z_getR fs_X5_21 (LR.o (LR.kk H0)) (LR.g1 (LR.kk H0)) dX5_readRename_12 ?_
  refine x_iloadn dX5_readRename_15 rfl ?_
  refine x_iloadn dX5_readRename_16 rfl ?_
  obtain ⟨v9, h10, h⟩ := b1_s h
  refine z_V1 [.int v5, .int v1] [.ref x0] (cs_X5_287 _) (ci := 1) rfl (LM.o (LM.kk (LR.q H0) (by omega))) (dep (show d + 8 + 0 + 1 ≤ (d + 9) from by omega) (Nat.le_of_ble_eq_true rfl)) dX5_readRename_17 rfl rfl (Nat.le_of_ble_eq_true rfl) (c_X3_hasWishNamed (d + 8) (K := (kk K (x0 + 1) k7)) (I := I6) (LM.kk (LR.q H0) (by omega)) h10) ?_
  refine x_if_ne 27 dX5_readRename_20 rfl (fun hc => ?_) (fun hc => ?_)
  · have h := ifF hc h
    refine x_iconst 0 dX5_readRename_27 rfl ?_
    exact tl_X5_readRename_28 d H0 h
  have h := ifT hc h
  refine x_iconst 1 dX5_readRename_23 rfl ?_
  refine x_goto 28 dX5_readRename_24 rfl ?_
  exact tl_X5_readRename_28 d H0 h
noncomputable def l_X5_readSwap_69 (I : Mem) (k : Nat) (x0 : Nat) (x1 : Int32) (x2 : Int32) (x3 : Int32) (x4 : Int32) (y0 : Int32) : Option (Except String Unit × Mem × Nat) := e2 (f_X5_require I x0 y0 3) (fun E I15 => some (.error E, I15, k)) fun u14 I15 => b1 (ix x1 16) fun j17 => b1 (f_X8_moveTo I15 ((x0 + 3) + 15 + j17) (-1) x4) fun I18 => b1 (ix x3 16) fun j20 => b1 (f_X8_moveTo I18 ((x0 + 3) + 15 + j20) (-1) x2) fun I21 => some (.ok (), I21, k)
theorem tl_X5_readSwap_69 (d : Nat) {K : Kt} : ∀ {I : Mem} {k : Nat} {x0 : Nat} (H0 : LR K x0) {x1 : Int32} {x2 : Int32} {x3 : Int32} {x4 : Int32} {y0 : Int32} {x : Except String Unit} {I9 : Mem} {k9 : Nat}, l_X5_readSwap_69 I k x0 x1 x2 x3 x4 y0 = some (x, I9, k9) → X (mX5_readSwap (d + 9)) cX5_readSwap (cst x) (cs6 x) I (kk K (x0 + 1) k) 69 [.ref x0, .int x1, .int x2, .int x3, .int x4] [.int y0, .ref x0] (Ro (rV x) I9 (kk K (x0 + 1) k9)) := by
  intro I k x0 H0 x1 x2 x3 x4 y0 x I9 k9 h
  unfold l_X5_readSwap_69 at h
  refine x_iconst 3 dX5_readSwap_69 rfl ?_
  rcases e2_s h with ⟨u14, I15, h16, h⟩ | ⟨E, I15, h16, h⟩
  rotate_left
  · have hq := c_X5_require (d + 2) (K := (kk K (x0 + 1) k)) (I := I) (LR.kk H0) h16
    cases h
    exact z_Ve [.int y0, .int 3] [] (cs_X5_79 _) (ci := 3) rfl (LR.o (LR.kk H0)) (dep (show d + 2 + 6 + 1 ≤ (d + 9) from by omega) (Nat.le_of_ble_eq_true rfl)) dX5_readSwap_70 rfl rfl (Nat.le_of_ble_eq_true rfl) hq rfl
  have hq := c_X5_require (d + 2) (K := (kk K (x0 + 1) k)) (I := I) (LR.kk H0) h16
  refine z_V0 [.int y0, .int 3] [] (cs_X5_79 _) (ci := 3) rfl (LR.o (LR.kk H0)) (dep (show d + 2 + 6 + 1 ≤ (d + 9) from by omega) (Nat.le_of_ble_eq_true rfl)) dX5_readSwap_70 rfl rfl (Nat.le_of_ble_eq_true rfl) hq ?_
  refine x_aloadn dX5_readSwap_73 rfl ?_
  refine z_getR fs_X5_21 (LR.o (LR.kk H0)) (LR.g1 (LR.kk H0)) dX5_readSwap_74 ?_
  refine z_getRG gs_X5_280 (LM.o (LM.kk (LR.q H0) (by omega))) (LM.g2 (LM.kk (LR.q H0) (by omega))) dX5_readSwap_77 ?_
  refine x_iloadn dX5_readSwap_80 rfl ?_
  obtain ⟨j17, hj17, h⟩ := b1_s h
  refine z_aald (LA.kk (LM.l2 (LR.q H0))) ⟨by decide, by decide⟩ hj17 (LM.w (LM.kk (LR.q H0) (by omega)) (ix_s hj17).2.1) dX5_readSwap_81 ?_
  refine x_iconst (-1) dX5_readSwap_82 rfl ?_
  refine x_iload dX5_readSwap_83 rfl ?_
  obtain ⟨I18, h19, h⟩ := b1_s h
  refine z_V0 [.int (-1), .int x4] [] (cs_X5_319 _) (ci := 6) rfl (LO.kk (LM.wo (LR.q H0) (ix_s hj17).2.1)) (dep (show d + 8 + 0 + 1 ≤ (d + 9) from by omega) (Nat.le_of_ble_eq_true rfl)) dX5_readSwap_85 rfl rfl (Nat.le_of_ble_eq_true rfl) (c_X8_moveTo (d + 8) (K := (kk K (x0 + 1) k)) (I := I15) (LO.kk (LM.wo (LR.q H0) (ix_s hj17).2.1)) h19) ?_
  refine x_aloadn dX5_readSwap_88 rfl ?_
  refine z_getR fs_X5_21 (LR.o (LR.kk H0)) (LR.g1 (LR.kk H0)) dX5_readSwap_89 ?_
  refine z_getRG gs_X5_280 (LM.o (LM.kk (LR.q H0) (by omega))) (LM.g2 (LM.kk (LR.q H0) (by omega))) dX5_readSwap_92 ?_
  refine x_iloadn dX5_readSwap_95 rfl ?_
  obtain ⟨j20, hj20, h⟩ := b1_s h
  refine z_aald (LA.kk (LM.l2 (LR.q H0))) ⟨by decide, by decide⟩ hj20 (LM.w (LM.kk (LR.q H0) (by omega)) (ix_s hj20).2.1) dX5_readSwap_96 ?_
  refine x_iconst (-1) dX5_readSwap_97 rfl ?_
  refine x_iloadn dX5_readSwap_98 rfl ?_
  obtain ⟨I21, h22, h⟩ := b1_s h
  refine z_V0 [.int (-1), .int x2] [] (cs_X5_319 _) (ci := 6) rfl (LO.kk (LM.wo (LR.q H0) (ix_s hj20).2.1)) (dep (show d + 8 + 0 + 1 ≤ (d + 9) from by omega) (Nat.le_of_ble_eq_true rfl)) dX5_readSwap_99 rfl rfl (Nat.le_of_ble_eq_true rfl) (c_X8_moveTo (d + 8) (K := (kk K (x0 + 1) k)) (I := I18) (LO.kk (LM.wo (LR.q H0) (ix_s hj20).2.1)) h22) ?_
  cases h
  exact x_vret rfl dX5_readSwap_102 ⟨rfl, rfl, rfl⟩
noncomputable def l_X5_readSwap_68 (I : Mem) (k : Nat) (x0 : Nat) (x1 : Int32) (x2 : Int32) (x3 : Int32) (x4 : Int32) : Option (Except String Unit × Mem × Nat) := l_X5_readSwap_69 I k x0 x1 x2 x3 x4 0
theorem tl_X5_readSwap_68 (d : Nat) {K : Kt} : ∀ {I : Mem} {k : Nat} {x0 : Nat} (H0 : LR K x0) {x1 : Int32} {x2 : Int32} {x3 : Int32} {x4 : Int32} {x : Except String Unit} {I9 : Mem} {k9 : Nat}, l_X5_readSwap_68 I k x0 x1 x2 x3 x4 = some (x, I9, k9) → X (mX5_readSwap (d + 9)) cX5_readSwap (cst x) (cs6 x) I (kk K (x0 + 1) k) 68 [.ref x0, .int x1, .int x2, .int x3, .int x4] [.ref x0] (Ro (rV x) I9 (kk K (x0 + 1) k9)) := by
  intro I k x0 H0 x1 x2 x3 x4 x I9 k9 h
  unfold l_X5_readSwap_68 at h
  refine x_iconst 0 dX5_readSwap_68 rfl ?_
  exact tl_X5_readSwap_69 d H0 h
noncomputable def l_X5_readSwap_29 (I : Mem) (k : Nat) (x0 : Nat) (x1 : Int32) (x2 : Int32) (y0 : Int32) : Option (Except String Unit × Mem × Nat) := e2 (f_X5_require I x0 y0 3) (fun E I7 => some (.error E, I7, k)) fun u6 I7 => e3 (f_X5_readWishIndex I7 k x0) (fun E I10 k11 => some (.error E, I10, k11)) fun v9 I10 k11 => b1 (ix v9 16) fun j13 => if (I10 ((x0 + 3) + 15 + j13) 5) = (-1) then (l_X5_readSwap_68 I10 k11 x0 x1 x2 v9 (I10 ((x0 + 3) + 15 + j13) 5)) else (if v9 = x1 then (l_X5_readSwap_68 I10 k11 x0 x1 x2 v9 (I10 ((x0 + 3) + 15 + j13) 5)) else (l_X5_readSwap_69 I10 k11 x0 x1 x2 v9 (I10 ((x0 + 3) + 15 + j13) 5) 1))
theorem tl_X5_readSwap_29 (d : Nat) {K : Kt} : ∀ {I : Mem} {k : Nat} {x0 : Nat} (H0 : LR K x0) {x1 : Int32} {x2 : Int32} {y0 : Int32} {x : Except String Unit} {I9 : Mem} {k9 : Nat}, l_X5_readSwap_29 I k x0 x1 x2 y0 = some (x, I9, k9) → X (mX5_readSwap (d + 9)) cX5_readSwap (cst x) (cs6 x) I (kk K (x0 + 1) k) 29 [.ref x0, .int x1, .int x2, .retAddr 0, .retAddr 0] [.int y0, .ref x0] (Ro (rV x) I9 (kk K (x0 + 1) k9)) := by
  intro I k x0 H0 x1 x2 y0 x I9 k9 h
  unfold l_X5_readSwap_29 at h
  refine x_iconst 3 dX5_readSwap_29 rfl ?_
  rcases e2_s h with ⟨u6, I7, h8, h⟩ | ⟨E, I7, h8, h⟩
  rotate_left
  · have hq := c_X5_require (d + 2) (K := (kk K (x0 + 1) k)) (I := I) (LR.kk H0) h8
    cases h
    exact z_Ve [.int y0, .int 3] [] (cs_X5_79 _) (ci := 3) rfl (LR.o (LR.kk H0)) (dep (show d + 2 + 6 + 1 ≤ (d + 9) from by omega) (Nat.le_of_ble_eq_true rfl)) dX5_readSwap_30 rfl rfl (Nat.le_of_ble_eq_true rfl) hq rfl
  have hq := c_X5_require (d + 2) (K := (kk K (x0 + 1) k)) (I := I) (LR.kk H0) h8
  refine z_V0 [.int y0, .int 3] [] (cs_X5_79 _) (ci := 3) rfl (LR.o (LR.kk H0)) (dep (show d + 2 + 6 + 1 ≤ (d + 9) from by omega) (Nat.le_of_ble_eq_true rfl)) dX5_readSwap_30 rfl rfl (Nat.le_of_ble_eq_true rfl) hq ?_
  refine x_aloadn dX5_readSwap_33 rfl ?_
  rcases e3_s h with ⟨v9, I10, k11, h12, h⟩ | ⟨E, I10, k11, h12, h⟩
  rotate_left
  · have hq := c_X5_readWishIndex d (K := K) (I := I7) H0 h12
    cases h
    exact z_Ve [] [] (cs_X5_329 _) (ci := 3) rfl (LR.o (LR.kk H0)) (dep (show d + 0 + 8 + 1 ≤ (d + 9) from by omega) (Nat.le_of_ble_eq_true rfl)) dX5_readSwap_34 rfl rfl (Nat.le_of_ble_eq_true rfl) hq rfl
  have hq := c_X5_readWishIndex d (K := K) (I := I7) H0 h12
  refine z_V1 [] [] (cs_X5_329 _) (ci := 3) rfl (LR.o (LR.kk H0)) (dep (show d + 0 + 8 + 1 ≤ (d + 9) from by omega) (Nat.le_of_ble_eq_true rfl)) dX5_readSwap_34 rfl rfl (Nat.le_of_ble_eq_true rfl) hq ?_
  refine x_istoren dX5_readSwap_37 (Nat.le_of_ble_eq_true rfl) rfl rfl ?_
  refine x_aloadn dX5_readSwap_38 rfl ?_
  refine z_getR fs_X5_21 (LR.o (LR.kk H0)) (LR.g1 (LR.kk H0)) dX5_readSwap_39 ?_
  refine z_getRG gs_X5_280 (LM.o (LM.kk (LR.q H0) (by omega))) (LM.g2 (LM.kk (LR.q H0) (by omega))) dX5_readSwap_42 ?_
  refine x_iloadn dX5_readSwap_45 rfl ?_
  obtain ⟨j13, hj13, h⟩ := b1_s h
  refine z_aald (LA.kk (LM.l2 (LR.q H0))) ⟨by decide, by decide⟩ hj13 (LM.w (LM.kk (LR.q H0) (by omega)) (ix_s hj13).2.1) dX5_readSwap_46 ?_
  refine z_getI fs_X5_359 (LO.kk (LM.wo (LR.q H0) (ix_s hj13).2.1)) dX5_readSwap_47 ?_
  refine x_istore dX5_readSwap_50 (Nat.le_of_ble_eq_true rfl) rfl rfl ?_
  refine x_aloadn dX5_readSwap_52 rfl ?_
  refine x_iload dX5_readSwap_53 rfl ?_
  refine x_iconst (-1) dX5_readSwap_55 rfl ?_
  refine x_icmp_eq 68 dX5_readSwap_56 rfl (fun hc => ?_) (fun hc => ?_)
  · have h := ifT hc h
    exact tl_X5_readSwap_68 d H0 h
  have h := ifF hc h
  refine x_iloadn dX5_readSwap_59 rfl ?_
  refine x_iloadn dX5_readSwap_60 rfl ?_
  refine x_icmp_eq 68 dX5_readSwap_61 rfl (fun hc => ?_) (fun hc => ?_)
  · have h := ifT hc h
    exact tl_X5_readSwap_68 d H0 h
  have h := ifF hc h
  refine x_iconst 1 dX5_readSwap_64 rfl ?_
  refine x_goto 69 dX5_readSwap_65 rfl ?_
  exact tl_X5_readSwap_69 d H0 h
noncomputable def f_X5_readSwap (I : Mem) (k : Nat) (x0 : Nat) : Option (Except String Unit × Mem × Nat) := e3 (f_X5_readWishIndex I k x0) (fun E I2 k3 => some (.error E, I2, k3)) fun v1 I2 k3 => b1 (ix v1 16) fun j5 => if (I2 ((x0 + 3) + 15 + j5) 5) = (-1) then (l_X5_readSwap_29 I2 k3 x0 v1 (I2 ((x0 + 3) + 15 + j5) 5) 0) else (l_X5_readSwap_29 I2 k3 x0 v1 (I2 ((x0 + 3) + 15 + j5) 5) 1)
theorem c_X5_readSwap (d : Nat) {K : Kt} {I : Mem} {k : Nat} {x0 : Nat} (H0 : LR K x0) {x : Except String Unit} {I9 : Mem} {k9 : Nat} (h : f_X5_readSwap I k x0 = some (x, I9, k9)) : Ct (mX5_readSwap (d + 9)) cX5_readSwap (cst x) (cs6 x) [.ref x0] I (kk K (x0 + 1) k) (Ro (rV x) I9 (kk K (x0 + 1) k9)) := by
  refine Ct.of rfl pn_X5 (catR cat0) (Nat.le_of_ble_eq_true rfl) (show X _ _ _ _ _ _ 0 [.ref x0, .retAddr 0, .retAddr 0, .retAddr 0, .retAddr 0] [] _ from ?_)
  unfold f_X5_readSwap at h
  refine x_aloadn dX5_readSwap_0 rfl ?_
  rcases e3_s h with ⟨v1, I2, k3, h4, h⟩ | ⟨E, I2, k3, h4, h⟩
  rotate_left
  · have hq := c_X5_readWishIndex d (K := K) (I := I) H0 h4
    cases h
    exact z_Ve [] [] (cs_X5_329 _) (ci := 3) rfl (LR.o (LR.kk H0)) (dep (show d + 0 + 8 + 1 ≤ (d + 9) from by omega) (Nat.le_of_ble_eq_true rfl)) dX5_readSwap_1 rfl rfl (Nat.le_of_ble_eq_true rfl) hq rfl
  have hq := c_X5_readWishIndex d (K := K) (I := I) H0 h4
  refine z_V1 [] [] (cs_X5_329 _) (ci := 3) rfl (LR.o (LR.kk H0)) (dep (show d + 0 + 8 + 1 ≤ (d + 9) from by omega) (Nat.le_of_ble_eq_true rfl)) dX5_readSwap_1 rfl rfl (Nat.le_of_ble_eq_true rfl) hq ?_
  refine x_istoren dX5_readSwap_4 (Nat.le_of_ble_eq_true rfl) rfl rfl ?_
  refine x_aloadn dX5_readSwap_5 rfl ?_
  refine z_getR fs_X5_21 (LR.o (LR.kk H0)) (LR.g1 (LR.kk H0)) dX5_readSwap_6 ?_
  refine z_getRG gs_X5_280 (LM.o (LM.kk (LR.q H0) (by omega))) (LM.g2 (LM.kk (LR.q H0) (by omega))) dX5_readSwap_9 ?_
  refine x_iloadn dX5_readSwap_12 rfl ?_
  obtain ⟨j5, hj5, h⟩ := b1_s h
  refine z_aald (LA.kk (LM.l2 (LR.q H0))) ⟨by decide, by decide⟩ hj5 (LM.w (LM.kk (LR.q H0) (by omega)) (ix_s hj5).2.1) dX5_readSwap_13 ?_
  refine z_getI fs_X5_359 (LO.kk (LM.wo (LR.q H0) (ix_s hj5).2.1)) dX5_readSwap_14 ?_
  refine x_istoren dX5_readSwap_17 (Nat.le_of_ble_eq_true rfl) rfl rfl ?_
  refine x_aloadn dX5_readSwap_18 rfl ?_
  refine x_iloadn dX5_readSwap_19 rfl ?_
  refine x_iconst (-1) dX5_readSwap_20 rfl ?_
  refine x_icmp_eq 28 dX5_readSwap_21 rfl (fun hc => ?_) (fun hc => ?_)
  · have h := ifT hc h
    refine x_iconst 0 dX5_readSwap_28 rfl ?_
    exact tl_X5_readSwap_29 d H0 h
  have h := ifF hc h
  refine x_iconst 1 dX5_readSwap_24 rfl ?_
  refine x_goto 29 dX5_readSwap_25 rfl ?_
  exact tl_X5_readSwap_29 d H0 h
noncomputable def l_X5_readGift_61 (I : Mem) (k : Nat) (x0 : Nat) (x1 : Int32) (x3 : Int32) (y0 : Int32) : Option (Except String Unit × Mem × Nat) := e2 (f_X5_require I x0 y0 3) (fun E I14 => some (.error E, I14, k)) fun u13 I14 => b1 (ix x1 16) fun j16 => b1 (f_X8_moveTo I14 ((x0 + 3) + 15 + j16) (-1) x3) fun I17 => some (.ok (), I17, k)
theorem tl_X5_readGift_61 (d : Nat) {K : Kt} : ∀ {I : Mem} {k : Nat} {x0 : Nat} (H0 : LR K x0) {x1 : Int32} {x3 : Int32} {y0 : Int32} {x : Except String Unit} {I9 : Mem} {k9 : Nat}, l_X5_readGift_61 I k x0 x1 x3 y0 = some (x, I9, k9) → X (mX5_readGift (d + 9)) cX5_readGift (cst x) (cs6 x) I (kk K (x0 + 1) k) 61 [.ref x0, .int x1, .retAddr 0, .int x3] [.int y0, .ref x0] (Ro (rV x) I9 (kk K (x0 + 1) k9)) := by
  intro I k x0 H0 x1 x3 y0 x I9 k9 h
  unfold l_X5_readGift_61 at h
  refine x_iconst 3 dX5_readGift_61 rfl ?_
  rcases e2_s h with ⟨u13, I14, h15, h⟩ | ⟨E, I14, h15, h⟩
  rotate_left
  · have hq := c_X5_require (d + 2) (K := (kk K (x0 + 1) k)) (I := I) (LR.kk H0) h15
    cases h
    exact z_Ve [.int y0, .int 3] [] (cs_X5_79 _) (ci := 3) rfl (LR.o (LR.kk H0)) (dep (show d + 2 + 6 + 1 ≤ (d + 9) from by omega) (Nat.le_of_ble_eq_true rfl)) dX5_readGift_62 rfl rfl (Nat.le_of_ble_eq_true rfl) hq rfl
  have hq := c_X5_require (d + 2) (K := (kk K (x0 + 1) k)) (I := I) (LR.kk H0) h15
  refine z_V0 [.int y0, .int 3] [] (cs_X5_79 _) (ci := 3) rfl (LR.o (LR.kk H0)) (dep (show d + 2 + 6 + 1 ≤ (d + 9) from by omega) (Nat.le_of_ble_eq_true rfl)) dX5_readGift_62 rfl rfl (Nat.le_of_ble_eq_true rfl) hq ?_
  refine x_aloadn dX5_readGift_65 rfl ?_
  refine z_getR fs_X5_21 (LR.o (LR.kk H0)) (LR.g1 (LR.kk H0)) dX5_readGift_66 ?_
  refine z_getRG gs_X5_280 (LM.o (LM.kk (LR.q H0) (by omega))) (LM.g2 (LM.kk (LR.q H0) (by omega))) dX5_readGift_69 ?_
  refine x_iloadn dX5_readGift_72 rfl ?_
  obtain ⟨j16, hj16, h⟩ := b1_s h
  refine z_aald (LA.kk (LM.l2 (LR.q H0))) ⟨by decide, by decide⟩ hj16 (LM.w (LM.kk (LR.q H0) (by omega)) (ix_s hj16).2.1) dX5_readGift_73 ?_
  refine x_iconst (-1) dX5_readGift_74 rfl ?_
  refine x_iloadn dX5_readGift_75 rfl ?_
  obtain ⟨I17, h18, h⟩ := b1_s h
  refine z_V0 [.int (-1), .int x3] [] (cs_X5_319 _) (ci := 6) rfl (LO.kk (LM.wo (LR.q H0) (ix_s hj16).2.1)) (dep (show d + 8 + 0 + 1 ≤ (d + 9) from by omega) (Nat.le_of_ble_eq_true rfl)) dX5_readGift_76 rfl rfl (Nat.le_of_ble_eq_true rfl) (c_X8_moveTo (d + 8) (K := (kk K (x0 + 1) k)) (I := I14) (LO.kk (LM.wo (LR.q H0) (ix_s hj16).2.1)) h18) ?_
  cases h
  exact x_vret rfl dX5_readGift_79 ⟨rfl, rfl, rfl⟩
noncomputable def l_X5_readGift_60 (I : Mem) (k : Nat) (x0 : Nat) (x1 : Int32) (x3 : Int32) : Option (Except String Unit × Mem × Nat) := l_X5_readGift_61 I k x0 x1 x3 0
theorem tl_X5_readGift_60 (d : Nat) {K : Kt} : ∀ {I : Mem} {k : Nat} {x0 : Nat} (H0 : LR K x0) {x1 : Int32} {x3 : Int32} {x : Except String Unit} {I9 : Mem} {k9 : Nat}, l_X5_readGift_60 I k x0 x1 x3 = some (x, I9, k9) → X (mX5_readGift (d + 9)) cX5_readGift (cst x) (cs6 x) I (kk K (x0 + 1) k) 60 [.ref x0, .int x1, .retAddr 0, .int x3] [.ref x0] (Ro (rV x) I9 (kk K (x0 + 1) k9)) := by
  intro I k x0 H0 x1 x3 x I9 k9 h
  unfold l_X5_readGift_60 at h
  refine x_iconst 0 dX5_readGift_60 rfl ?_
  exact tl_X5_readGift_61 d H0 h
noncomputable def l_X5_readGift_29 (I : Mem) (k : Nat) (x0 : Nat) (x1 : Int32) (x2 : Int32) (y0 : Int32) : Option (Except String Unit × Mem × Nat) := e2 (f_X5_require I x0 y0 3) (fun E I7 => some (.error E, I7, k)) fun u6 I7 => e3 (f_X5_readPersonIndex I7 k x0) (fun E I10 k11 => some (.error E, I10, k11)) fun v9 I10 k11 => if v9 = x2 then (l_X5_readGift_60 I10 k11 x0 x1 v9) else (b1 (f_X3_ownedBy I10 (x0 + 3) v9) fun v19 => if 4 ≤ v19 then (l_X5_readGift_60 I10 k11 x0 x1 v9) else (l_X5_readGift_61 I10 k11 x0 x1 v9 1))
theorem tl_X5_readGift_29 (d : Nat) {K : Kt} : ∀ {I : Mem} {k : Nat} {x0 : Nat} (H0 : LR K x0) {x1 : Int32} {x2 : Int32} {y0 : Int32} {x : Except String Unit} {I9 : Mem} {k9 : Nat}, l_X5_readGift_29 I k x0 x1 x2 y0 = some (x, I9, k9) → X (mX5_readGift (d + 9)) cX5_readGift (cst x) (cs6 x) I (kk K (x0 + 1) k) 29 [.ref x0, .int x1, .int x2, .retAddr 0] [.int y0, .ref x0] (Ro (rV x) I9 (kk K (x0 + 1) k9)) := by
  intro I k x0 H0 x1 x2 y0 x I9 k9 h
  unfold l_X5_readGift_29 at h
  refine x_iconst 3 dX5_readGift_29 rfl ?_
  rcases e2_s h with ⟨u6, I7, h8, h⟩ | ⟨E, I7, h8, h⟩
  rotate_left
  · have hq := c_X5_require (d + 2) (K := (kk K (x0 + 1) k)) (I := I) (LR.kk H0) h8
    cases h
    exact z_Ve [.int y0, .int 3] [] (cs_X5_79 _) (ci := 3) rfl (LR.o (LR.kk H0)) (dep (show d + 2 + 6 + 1 ≤ (d + 9) from by omega) (Nat.le_of_ble_eq_true rfl)) dX5_readGift_30 rfl rfl (Nat.le_of_ble_eq_true rfl) hq rfl
  have hq := c_X5_require (d + 2) (K := (kk K (x0 + 1) k)) (I := I) (LR.kk H0) h8
  refine z_V0 [.int y0, .int 3] [] (cs_X5_79 _) (ci := 3) rfl (LR.o (LR.kk H0)) (dep (show d + 2 + 6 + 1 ≤ (d + 9) from by omega) (Nat.le_of_ble_eq_true rfl)) dX5_readGift_30 rfl rfl (Nat.le_of_ble_eq_true rfl) hq ?_
  refine x_aloadn dX5_readGift_33 rfl ?_
  rcases e3_s h with ⟨v9, I10, k11, h12, h⟩ | ⟨E, I10, k11, h12, h⟩
  rotate_left
  · have hq := c_X5_readPersonIndex d (K := K) (I := I7) H0 h12
    cases h
    exact z_Ve [] [] (cs_X5_326 _) (ci := 3) rfl (LR.o (LR.kk H0)) (dep (show d + 0 + 8 + 1 ≤ (d + 9) from by omega) (Nat.le_of_ble_eq_true rfl)) dX5_readGift_34 rfl rfl (Nat.le_of_ble_eq_true rfl) hq rfl
  have hq := c_X5_readPersonIndex d (K := K) (I := I7) H0 h12
  refine z_V1 [] [] (cs_X5_326 _) (ci := 3) rfl (LR.o (LR.kk H0)) (dep (show d + 0 + 8 + 1 ≤ (d + 9) from by omega) (Nat.le_of_ble_eq_true rfl)) dX5_readGift_34 rfl rfl (Nat.le_of_ble_eq_true rfl) hq ?_
  refine x_istoren dX5_readGift_37 (Nat.le_of_ble_eq_true rfl) rfl rfl ?_
  refine x_aloadn dX5_readGift_38 rfl ?_
  refine x_iloadn dX5_readGift_39 rfl ?_
  refine x_iloadn dX5_readGift_40 rfl ?_
  refine x_icmp_eq 60 dX5_readGift_41 rfl (fun hc => ?_) (fun hc => ?_)
  · have h := ifT hc h
    exact X.forget (L' := [.ref x0, .int x1, .retAddr 0, .int v9]) ⟨Or.inl rfl, ⟨Or.inl rfl, ⟨Or.inr rfl, ⟨Or.inl rfl, trivial⟩⟩⟩⟩ (tl_X5_readGift_60 d H0 h)
  have h := ifF hc h
  refine x_aloadn dX5_readGift_44 rfl ?_
  refine z_getR fs_X5_21 (LR.o (LR.kk H0)) (LR.g1 (LR.kk H0)) dX5_readGift_45 ?_
  refine x_iloadn dX5_readGift_48 rfl ?_
  obtain ⟨v19, h20, h⟩ := b1_s h
  refine z_V1 [.int v9] [.ref x0] (cs_X5_323 _) (ci := 1) rfl (LM.o (LM.kk (LR.q H0) (by omega))) (dep (show d + 8 + 0 + 1 ≤ (d + 9) from by omega) (Nat.le_of_ble_eq_true rfl)) dX5_readGift_49 rfl rfl (Nat.le_of_ble_eq_true rfl) (c_X3_ownedBy (d + 8) (K := (kk K (x0 + 1) k11)) (I := I10) (LM.kk (LR.q H0) (by omega)) h20) ?_
  refine x_iconst 4 dX5_readGift_52 rfl ?_
  refine x_icmp_ge 60 dX5_readGift_53 rfl (fun hc => ?_) (fun hc => ?_)
  · have h := ifT hc h
    exact X.forget (L' := [.ref x0, .int x1, .retAddr 0, .int v9]) ⟨Or.inl rfl, ⟨Or.inl rfl, ⟨Or.inr rfl, ⟨Or.inl rfl, trivial⟩⟩⟩⟩ (tl_X5_readGift_60 d H0 h)
  have h := ifF hc h
  refine x_iconst 1 dX5_readGift_56 rfl ?_
  refine x_goto 61 dX5_readGift_57 rfl ?_
  exact X.forget (L' := [.ref x0, .int x1, .retAddr 0, .int v9]) ⟨Or.inl rfl, ⟨Or.inl rfl, ⟨Or.inr rfl, ⟨Or.inl rfl, trivial⟩⟩⟩⟩ (tl_X5_readGift_61 d H0 h)
noncomputable def f_X5_readGift (I : Mem) (k : Nat) (x0 : Nat) : Option (Except String Unit × Mem × Nat) := e3 (f_X5_readWishIndex I k x0) (fun E I2 k3 => some (.error E, I2, k3)) fun v1 I2 k3 => b1 (ix v1 16) fun j5 => if (I2 ((x0 + 3) + 15 + j5) 5) = (-1) then (l_X5_readGift_29 I2 k3 x0 v1 (I2 ((x0 + 3) + 15 + j5) 5) 0) else (l_X5_readGift_29 I2 k3 x0 v1 (I2 ((x0 + 3) + 15 + j5) 5) 1)
theorem c_X5_readGift (d : Nat) {K : Kt} {I : Mem} {k : Nat} {x0 : Nat} (H0 : LR K x0) {x : Except String Unit} {I9 : Mem} {k9 : Nat} (h : f_X5_readGift I k x0 = some (x, I9, k9)) : Ct (mX5_readGift (d + 9)) cX5_readGift (cst x) (cs6 x) [.ref x0] I (kk K (x0 + 1) k) (Ro (rV x) I9 (kk K (x0 + 1) k9)) := by
  refine Ct.of rfl pn_X5 (catR cat0) (Nat.le_of_ble_eq_true rfl) (show X _ _ _ _ _ _ 0 [.ref x0, .retAddr 0, .retAddr 0, .retAddr 0] [] _ from ?_)
  unfold f_X5_readGift at h
  refine x_aloadn dX5_readGift_0 rfl ?_
  rcases e3_s h with ⟨v1, I2, k3, h4, h⟩ | ⟨E, I2, k3, h4, h⟩
  rotate_left
  · have hq := c_X5_readWishIndex d (K := K) (I := I) H0 h4
    cases h
    exact z_Ve [] [] (cs_X5_329 _) (ci := 3) rfl (LR.o (LR.kk H0)) (dep (show d + 0 + 8 + 1 ≤ (d + 9) from by omega) (Nat.le_of_ble_eq_true rfl)) dX5_readGift_1 rfl rfl (Nat.le_of_ble_eq_true rfl) hq rfl
  have hq := c_X5_readWishIndex d (K := K) (I := I) H0 h4
  refine z_V1 [] [] (cs_X5_329 _) (ci := 3) rfl (LR.o (LR.kk H0)) (dep (show d + 0 + 8 + 1 ≤ (d + 9) from by omega) (Nat.le_of_ble_eq_true rfl)) dX5_readGift_1 rfl rfl (Nat.le_of_ble_eq_true rfl) hq ?_
  refine x_istoren dX5_readGift_4 (Nat.le_of_ble_eq_true rfl) rfl rfl ?_
  refine x_aloadn dX5_readGift_5 rfl ?_
  refine z_getR fs_X5_21 (LR.o (LR.kk H0)) (LR.g1 (LR.kk H0)) dX5_readGift_6 ?_
  refine z_getRG gs_X5_280 (LM.o (LM.kk (LR.q H0) (by omega))) (LM.g2 (LM.kk (LR.q H0) (by omega))) dX5_readGift_9 ?_
  refine x_iloadn dX5_readGift_12 rfl ?_
  obtain ⟨j5, hj5, h⟩ := b1_s h
  refine z_aald (LA.kk (LM.l2 (LR.q H0))) ⟨by decide, by decide⟩ hj5 (LM.w (LM.kk (LR.q H0) (by omega)) (ix_s hj5).2.1) dX5_readGift_13 ?_
  refine z_getI fs_X5_359 (LO.kk (LM.wo (LR.q H0) (ix_s hj5).2.1)) dX5_readGift_14 ?_
  refine x_istoren dX5_readGift_17 (Nat.le_of_ble_eq_true rfl) rfl rfl ?_
  refine x_aloadn dX5_readGift_18 rfl ?_
  refine x_iloadn dX5_readGift_19 rfl ?_
  refine x_iconst (-1) dX5_readGift_20 rfl ?_
  refine x_icmp_eq 28 dX5_readGift_21 rfl (fun hc => ?_) (fun hc => ?_)
  · have h := ifT hc h
    refine x_iconst 0 dX5_readGift_28 rfl ?_
    exact tl_X5_readGift_29 d H0 h
  have h := ifF hc h
  refine x_iconst 1 dX5_readGift_24 rfl ?_
  refine x_goto 29 dX5_readGift_25 rfl ?_
  exact tl_X5_readGift_29 d H0 h
noncomputable def f_X5_readSale (I : Mem) (k : Nat) (x0 : Nat) : Option (Except String Unit × Mem × Nat) := e3 (f_X5_readStallIndex I k x0) (fun E I2 k3 => some (.error E, I2, k3)) fun v1 I2 k3 => b1 (ix v1 5) fun j5 => e3 (f_X5_readNumber I2 k3 x0 0 100) (fun E I7 k8 => some (.error E, I7, k8)) fun v6 I7 k8 => b1 (pu I7 ((x0 + 3) + 10 + j5) 3 v6) fun I10 => some (.ok (), I10, k8)
theorem c_X5_readSale (d : Nat) {K : Kt} {I : Mem} {k : Nat} {x0 : Nat} (H0 : LR K x0) {x : Except String Unit} {I9 : Mem} {k9 : Nat} (h : f_X5_readSale I k x0 = some (x, I9, k9)) : Ct (mX5_readSale (d + 9)) cX5_readSale (cst x) (cs6 x) [.ref x0] I (kk K (x0 + 1) k) (Ro (rV x) I9 (kk K (x0 + 1) k9)) := by
  refine Ct.of rfl pn_X5 (catR cat0) (Nat.le_of_ble_eq_true rfl) (show X _ _ _ _ _ _ 0 [.ref x0, .retAddr 0] [] _ from ?_)
  unfold f_X5_readSale at h
  refine x_aloadn dX5_readSale_0 rfl ?_
  rcases e3_s h with ⟨v1, I2, k3, h4, h⟩ | ⟨E, I2, k3, h4, h⟩
  rotate_left
  · have hq := c_X5_readStallIndex d (K := K) (I := I) H0 h4
    cases h
    exact z_Ve [] [] (cs_X5_338 _) (ci := 3) rfl (LR.o (LR.kk H0)) (dep (show d + 0 + 8 + 1 ≤ (d + 9) from by omega) (Nat.le_of_ble_eq_true rfl)) dX5_readSale_1 rfl rfl (Nat.le_of_ble_eq_true rfl) hq rfl
  have hq := c_X5_readStallIndex d (K := K) (I := I) H0 h4
  refine z_V1 [] [] (cs_X5_338 _) (ci := 3) rfl (LR.o (LR.kk H0)) (dep (show d + 0 + 8 + 1 ≤ (d + 9) from by omega) (Nat.le_of_ble_eq_true rfl)) dX5_readSale_1 rfl rfl (Nat.le_of_ble_eq_true rfl) hq ?_
  refine x_istoren dX5_readSale_4 (Nat.le_of_ble_eq_true rfl) rfl rfl ?_
  refine x_aloadn dX5_readSale_5 rfl ?_
  refine z_getR fs_X5_21 (LR.o (LR.kk H0)) (LR.g1 (LR.kk H0)) dX5_readSale_6 ?_
  refine z_getRG gs_X5_214 (LM.o (LM.kk (LR.q H0) (by omega))) (LM.g1 (LM.kk (LR.q H0) (by omega))) dX5_readSale_9 ?_
  refine x_iloadn dX5_readSale_12 rfl ?_
  obtain ⟨j5, hj5, h⟩ := b1_s h
  refine z_aald (LA.kk (LM.l1 (LR.q H0))) ⟨by decide, by decide⟩ hj5 (LM.s (LM.kk (LR.q H0) (by omega)) (ix_s hj5).2.1) dX5_readSale_13 ?_
  refine x_aloadn dX5_readSale_14 rfl ?_
  refine x_iconst 0 dX5_readSale_15 rfl ?_
  refine x_bipush 100 dX5_readSale_16 rfl ?_
  rcases e3_s h with ⟨v6, I7, k8, h9, h⟩ | ⟨E, I7, k8, h9, h⟩
  rotate_left
  · have hq := c_X5_readNumber (d + 1) (K := K) (I := I2) H0 h9
    cases h
    exact z_Ve [.int 0, .int 100] [.ref ((x0 + 3) + 10 + j5)] (cs_X5_83 _) (ci := 3) rfl (LR.o (LR.kk H0)) (dep (show d + 1 + 7 + 1 ≤ (d + 9) from by omega) (Nat.le_of_ble_eq_true rfl)) dX5_readSale_18 rfl rfl (Nat.le_of_ble_eq_true rfl) hq rfl
  have hq := c_X5_readNumber (d + 1) (K := K) (I := I2) H0 h9
  refine z_V1 [.int 0, .int 100] [.ref ((x0 + 3) + 10 + j5)] (cs_X5_83 _) (ci := 3) rfl (LR.o (LR.kk H0)) (dep (show d + 1 + 7 + 1 ≤ (d + 9) from by omega) (Nat.le_of_ble_eq_true rfl)) dX5_readSale_18 rfl rfl (Nat.le_of_ble_eq_true rfl) hq ?_
  obtain ⟨I10, hI10, h⟩ := b1_s h
  refine z_putI fs_X5_229 (LO.kk (LM.so (LR.q H0) (ix_s hj5).2.1)) hI10 dX5_readSale_21 ?_
  cases h
  exact x_vret rfl dX5_readSale_24 ⟨rfl, rfl, rfl⟩
noncomputable def f_X5_readTax (I : Mem) (k : Nat) (x0 : Nat) : Option (Except String Unit × Mem × Nat) := e3 (f_X5_readDayOfYear I k x0) (fun E I2 k3 => some (.error E, I2, k3)) fun v1 I2 k3 => e3 (f_X5_readNumber I2 k3 x0 0 50) (fun E I6 k7 => some (.error E, I6, k7)) fun v5 I6 k7 => b1 (pu I6 (x0 + 3) 12 v5) fun I9 => b1 (pu I9 (x0 + 3) 11 v1) fun I10 => some (.ok (), I10, k7)
theorem c_X5_readTax (d : Nat) {K : Kt} {I : Mem} {k : Nat} {x0 : Nat} (H0 : LR K x0) {x : Except String Unit} {I9 : Mem} {k9 : Nat} (h : f_X5_readTax I k x0 = some (x, I9, k9)) : Ct (mX5_readTax (d + 9)) cX5_readTax (cst x) (cs6 x) [.ref x0] I (kk K (x0 + 1) k) (Ro (rV x) I9 (kk K (x0 + 1) k9)) := by
  refine Ct.of rfl pn_X5 (catR cat0) (Nat.le_of_ble_eq_true rfl) (show X _ _ _ _ _ _ 0 [.ref x0, .retAddr 0] [] _ from ?_)
  unfold f_X5_readTax at h
  refine x_aloadn dX5_readTax_0 rfl ?_
  rcases e3_s h with ⟨v1, I2, k3, h4, h⟩ | ⟨E, I2, k3, h4, h⟩
  rotate_left
  · have hq := c_X5_readDayOfYear d (K := K) (I := I) H0 h4
    cases h
    exact z_Ve [] [] (cs_X5_174 _) (ci := 3) rfl (LR.o (LR.kk H0)) (dep (show d + 0 + 8 + 1 ≤ (d + 9) from by omega) (Nat.le_of_ble_eq_true rfl)) dX5_readTax_1 rfl rfl (Nat.le_of_ble_eq_true rfl) hq rfl
  have hq := c_X5_readDayOfYear d (K := K) (I := I) H0 h4
  refine z_V1 [] [] (cs_X5_174 _) (ci := 3) rfl (LR.o (LR.kk H0)) (dep (show d + 0 + 8 + 1 ≤ (d + 9) from by omega) (Nat.le_of_ble_eq_true rfl)) dX5_readTax_1 rfl rfl (Nat.le_of_ble_eq_true rfl) hq ?_
  refine x_istoren dX5_readTax_4 (Nat.le_of_ble_eq_true rfl) rfl rfl ?_
  refine x_aloadn dX5_readTax_5 rfl ?_
  refine z_getR fs_X5_21 (LR.o (LR.kk H0)) (LR.g1 (LR.kk H0)) dX5_readTax_6 ?_
  refine x_aloadn dX5_readTax_9 rfl ?_
  refine x_iconst 0 dX5_readTax_10 rfl ?_
  refine x_bipush 50 dX5_readTax_11 rfl ?_
  rcases e3_s h with ⟨v5, I6, k7, h8, h⟩ | ⟨E, I6, k7, h8, h⟩
  rotate_left
  · have hq := c_X5_readNumber (d + 1) (K := K) (I := I2) H0 h8
    cases h
    exact z_Ve [.int 0, .int 50] [.ref (x0 + 3)] (cs_X5_83 _) (ci := 3) rfl (LR.o (LR.kk H0)) (dep (show d + 1 + 7 + 1 ≤ (d + 9) from by omega) (Nat.le_of_ble_eq_true rfl)) dX5_readTax_13 rfl rfl (Nat.le_of_ble_eq_true rfl) hq rfl
  have hq := c_X5_readNumber (d + 1) (K := K) (I := I2) H0 h8
  refine z_V1 [.int 0, .int 50] [.ref (x0 + 3)] (cs_X5_83 _) (ci := 3) rfl (LR.o (LR.kk H0)) (dep (show d + 1 + 7 + 1 ≤ (d + 9) from by omega) (Nat.le_of_ble_eq_true rfl)) dX5_readTax_13 rfl rfl (Nat.le_of_ble_eq_true rfl) hq ?_
  obtain ⟨I9, hI9, h⟩ := b1_s h
  refine z_putI fs_X5_362 (LM.o (LM.kk (LR.q H0) (by omega))) hI9 dX5_readTax_16 ?_
  refine x_aloadn dX5_readTax_19 rfl ?_
  refine z_getR fs_X5_21 (LR.o (LR.kk H0)) (LR.g1 (LR.kk H0)) dX5_readTax_20 ?_
  refine x_iloadn dX5_readTax_23 rfl ?_
  obtain ⟨I10, hI10, h⟩ := b1_s h
  refine z_putI fs_X5_365 (LM.o (LM.kk (LR.q H0) (by omega))) hI10 dX5_readTax_24 ?_
  cases h
  exact x_vret rfl dX5_readTax_27 ⟨rfl, rfl, rfl⟩
noncomputable def l_X5_readDaysToSimulate_27 (I : Mem) (k : Nat) (x0 : Nat) (x1 : Int32) (y0 : Int32) : Option (Except String Int32 × Mem × Nat) := e2 (f_X5_require I x0 y0 4) (fun E I6 => some (.error E, I6, k)) fun u5 I6 => b1 (pu I6 x0 7 ((I6 x0 7) + x1)) fun I8 => some (.ok x1, I8, k)
theorem tl_X5_readDaysToSimulate_27 (d : Nat) {K : Kt} : ∀ {I : Mem} {k : Nat} {x0 : Nat} (H0 : LR K x0) {x1 : Int32} {y0 : Int32} {x : Except String Int32} {I9 : Mem} {k9 : Nat}, l_X5_readDaysToSimulate_27 I k x0 x1 y0 = some (x, I9, k9) → X (mX5_readDaysToSimulate (d + 8)) cX5_readDaysToSimulate (cst x) (cs6 x) I (kk K (x0 + 1) k) 27 [.ref x0, .int x1] [.int y0, .ref x0] (Ro (rI x) I9 (kk K (x0 + 1) k9)) := by
  intro I k x0 H0 x1 y0 x I9 k9 h
  unfold l_X5_readDaysToSimulate_27 at h
  refine x_iconst 4 dX5_readDaysToSimulate_27 rfl ?_
  rcases e2_s h with ⟨u5, I6, h7, h⟩ | ⟨E, I6, h7, h⟩
  rotate_left
  · have hq := c_X5_require (d + 1) (K := (kk K (x0 + 1) k)) (I := I) (LR.kk H0) h7
    cases h
    exact z_Ve [.int y0, .int 4] [] (cs_X5_79 _) (ci := 3) rfl (LR.o (LR.kk H0)) (dep (show d + 1 + 6 + 1 ≤ (d + 8) from by omega) (Nat.le_of_ble_eq_true rfl)) dX5_readDaysToSimulate_28 rfl rfl (Nat.le_of_ble_eq_true rfl) hq rfl
  have hq := c_X5_require (d + 1) (K := (kk K (x0 + 1) k)) (I := I) (LR.kk H0) h7
  refine z_V0 [.int y0, .int 4] [] (cs_X5_79 _) (ci := 3) rfl (LR.o (LR.kk H0)) (dep (show d + 1 + 6 + 1 ≤ (d + 8) from by omega) (Nat.le_of_ble_eq_true rfl)) dX5_readDaysToSimulate_28 rfl rfl (Nat.le_of_ble_eq_true rfl) hq ?_
  refine x_aloadn dX5_readDaysToSimulate_31 rfl ?_
  refine x_dup dX5_readDaysToSimulate_32 rfl ?_
  refine z_getI fs_X5_42 (LR.o (LR.kk H0)) dX5_readDaysToSimulate_33 ?_
  refine x_iloadn dX5_readDaysToSimulate_36 rfl ?_
  refine x_iadd dX5_readDaysToSimulate_37 ?_
  obtain ⟨I8, hI8, h⟩ := b1_s h
  refine z_putI fs_X5_42 (LR.o (LR.kk H0)) hI8 dX5_readDaysToSimulate_38 ?_
  refine x_iloadn dX5_readDaysToSimulate_41 rfl ?_
  cases h
  exact x_iret rfl dX5_readDaysToSimulate_42 ⟨rfl, rfl, rfl⟩
noncomputable def f_X5_readDaysToSimulate (I : Mem) (k : Nat) (x0 : Nat) : Option (Except String Int32 × Mem × Nat) := e3 (f_X5_readNumber I k x0 1 300) (fun E I2 k3 => some (.error E, I2, k3)) fun v1 I2 k3 => if 2000 < ((I2 x0 7) + v1) then (l_X5_readDaysToSimulate_27 I2 k3 x0 v1 0) else (l_X5_readDaysToSimulate_27 I2 k3 x0 v1 1)
theorem c_X5_readDaysToSimulate (d : Nat) {K : Kt} {I : Mem} {k : Nat} {x0 : Nat} (H0 : LR K x0) {x : Except String Int32} {I9 : Mem} {k9 : Nat} (h : f_X5_readDaysToSimulate I k x0 = some (x, I9, k9)) : Ct (mX5_readDaysToSimulate (d + 8)) cX5_readDaysToSimulate (cst x) (cs6 x) [.ref x0] I (kk K (x0 + 1) k) (Ro (rI x) I9 (kk K (x0 + 1) k9)) := by
  refine Ct.of rfl pn_X5 (catR cat0) (Nat.le_of_ble_eq_true rfl) (show X _ _ _ _ _ _ 0 [.ref x0, .retAddr 0] [] _ from ?_)
  unfold f_X5_readDaysToSimulate at h
  refine x_aloadn dX5_readDaysToSimulate_0 rfl ?_
  refine x_iconst 1 dX5_readDaysToSimulate_1 rfl ?_
  refine x_sipush 300 dX5_readDaysToSimulate_2 rfl ?_
  rcases e3_s h with ⟨v1, I2, k3, h4, h⟩ | ⟨E, I2, k3, h4, h⟩
  rotate_left
  · have hq := c_X5_readNumber d (K := K) (I := I) H0 h4
    cases h
    exact z_Ve [.int 1, .int 300] [] (cs_X5_83 _) (ci := 3) rfl (LR.o (LR.kk H0)) (dep (show d + 0 + 7 + 1 ≤ (d + 8) from by omega) (Nat.le_of_ble_eq_true rfl)) dX5_readDaysToSimulate_5 rfl rfl (Nat.le_of_ble_eq_true rfl) hq rfl
  have hq := c_X5_readNumber d (K := K) (I := I) H0 h4
  refine z_V1 [.int 1, .int 300] [] (cs_X5_83 _) (ci := 3) rfl (LR.o (LR.kk H0)) (dep (show d + 0 + 7 + 1 ≤ (d + 8) from by omega) (Nat.le_of_ble_eq_true rfl)) dX5_readDaysToSimulate_5 rfl rfl (Nat.le_of_ble_eq_true rfl) hq ?_
  refine x_istoren dX5_readDaysToSimulate_8 (Nat.le_of_ble_eq_true rfl) rfl rfl ?_
  refine x_aloadn dX5_readDaysToSimulate_9 rfl ?_
  refine x_aloadn dX5_readDaysToSimulate_10 rfl ?_
  refine z_getI fs_X5_42 (LR.o (LR.kk H0)) dX5_readDaysToSimulate_11 ?_
  refine x_iloadn dX5_readDaysToSimulate_14 rfl ?_
  refine x_iadd dX5_readDaysToSimulate_15 ?_
  refine x_sipush 2000 dX5_readDaysToSimulate_16 rfl ?_
  refine x_icmp_gt 26 dX5_readDaysToSimulate_19 rfl (fun hc => ?_) (fun hc => ?_)
  · have h := ifT hc h
    refine x_iconst 0 dX5_readDaysToSimulate_26 rfl ?_
    exact tl_X5_readDaysToSimulate_27 d H0 h
  have h := ifF hc h
  refine x_iconst 1 dX5_readDaysToSimulate_22 rfl ?_
  refine x_goto 27 dX5_readDaysToSimulate_23 rfl ?_
  exact tl_X5_readDaysToSimulate_27 d H0 h
noncomputable def l_X5_openRepeat_51 (I : Mem) (k : Nat) (x0 : Nat) (x1 : Int32) (y0 : Int32) : Option (Except String Unit × Mem × Nat) := e2 (f_X5_require I x0 y0 1) (fun E I13 => some (.error E, I13, k)) fun u12 I13 => b1 (ix (I13 x0 6) 3) fun j15 => b1 (pu I13 (x0 + 35) j15 (x1 - 1)) fun I16 => b1 (ix (I16 x0 6) 3) fun j17 => b1 (pu I16 (x0 + 34) j17 (I16 (x0 + 1) 3)) fun I18 => b1 (pu I18 x0 6 ((I18 x0 6) + 1)) fun I19 => some (.ok (), I19, k)
theorem tl_X5_openRepeat_51 (d : Nat) {K : Kt} : ∀ {I : Mem} {k : Nat} {x0 : Nat} (H0 : LR K x0) {x1 : Int32} {y0 : Int32} {x : Except String Unit} {I9 : Mem} {k9 : Nat}, l_X5_openRepeat_51 I k x0 x1 y0 = some (x, I9, k9) → X (mX5_openRepeat (d + 8)) cX5_openRepeat (cst x) (cs6 x) I (kk K (x0 + 1) k) 51 [.ref x0, .int x1] [.int y0, .ref x0] (Ro (rV x) I9 (kk K (x0 + 1) k9)) := by
  intro I k x0 H0 x1 y0 x I9 k9 h
  unfold l_X5_openRepeat_51 at h
  refine x_iconst 1 dX5_openRepeat_51 rfl ?_
  rcases e2_s h with ⟨u12, I13, h14, h⟩ | ⟨E, I13, h14, h⟩
  rotate_left
  · have hq := c_X5_require (d + 1) (K := (kk K (x0 + 1) k)) (I := I) (LR.kk H0) h14
    cases h
    exact z_Ve [.int y0, .int 1] [] (cs_X5_79 _) (ci := 3) rfl (LR.o (LR.kk H0)) (dep (show d + 1 + 6 + 1 ≤ (d + 8) from by omega) (Nat.le_of_ble_eq_true rfl)) dX5_openRepeat_52 rfl rfl (Nat.le_of_ble_eq_true rfl) hq rfl
  have hq := c_X5_require (d + 1) (K := (kk K (x0 + 1) k)) (I := I) (LR.kk H0) h14
  refine z_V0 [.int y0, .int 1] [] (cs_X5_79 _) (ci := 3) rfl (LR.o (LR.kk H0)) (dep (show d + 1 + 6 + 1 ≤ (d + 8) from by omega) (Nat.le_of_ble_eq_true rfl)) dX5_openRepeat_52 rfl rfl (Nat.le_of_ble_eq_true rfl) hq ?_
  refine x_aloadn dX5_openRepeat_55 rfl ?_
  refine z_getR fs_X5_33 (LR.o (LR.kk H0)) (LR.g5 (LR.kk H0)) dX5_openRepeat_56 ?_
  refine x_aloadn dX5_openRepeat_59 rfl ?_
  refine z_getI fs_X5_39 (LR.o (LR.kk H0)) dX5_openRepeat_60 ?_
  refine x_iloadn dX5_openRepeat_63 rfl ?_
  refine x_iconst 1 dX5_openRepeat_64 rfl ?_
  refine x_isub dX5_openRepeat_65 ?_
  obtain ⟨j15, hj15, h⟩ := b1_s h
  obtain ⟨I16, hI16, h⟩ := b1_s h
  refine z_iast (LA.kk (LR.l5 H0)) hj15 hI16 dX5_openRepeat_66 ?_
  refine x_aloadn dX5_openRepeat_67 rfl ?_
  refine z_getR fs_X5_29 (LR.o (LR.kk H0)) (LR.g4 (LR.kk H0)) dX5_openRepeat_68 ?_
  refine x_aloadn dX5_openRepeat_71 rfl ?_
  refine z_getI fs_X5_39 (LR.o (LR.kk H0)) dX5_openRepeat_72 ?_
  refine x_aloadn dX5_openRepeat_75 rfl ?_
  refine z_getR fs_X5_12 (LR.o (LR.kk H0)) (LR.g0 (LR.kk H0)) dX5_openRepeat_76 ?_
  refine z_getI fs_X5_97 (LT.o (LT.kk (LR.t H0))) dX5_openRepeat_79 ?_
  obtain ⟨j17, hj17, h⟩ := b1_s h
  obtain ⟨I18, hI18, h⟩ := b1_s h
  refine z_iast (LA.kk (LR.l4 H0)) hj17 hI18 dX5_openRepeat_82 ?_
  refine x_aloadn dX5_openRepeat_83 rfl ?_
  refine x_dup dX5_openRepeat_84 rfl ?_
  refine z_getI fs_X5_39 (LR.o (LR.kk H0)) dX5_openRepeat_85 ?_
  refine x_iconst 1 dX5_openRepeat_88 rfl ?_
  refine x_iadd dX5_openRepeat_89 ?_
  obtain ⟨I19, hI19, h⟩ := b1_s h
  refine z_putI fs_X5_39 (LR.o (LR.kk H0)) hI19 dX5_openRepeat_90 ?_
  cases h
  exact x_vret rfl dX5_openRepeat_93 ⟨rfl, rfl, rfl⟩
noncomputable def l_X5_openRepeat_14 (I : Mem) (k : Nat) (x0 : Nat) (y0 : Int32) : Option (Except String Unit × Mem × Nat) := e2 (f_X5_require I x0 y0 4) (fun E I2 => some (.error E, I2, k)) fun u1 I2 => e3 (f_X5_readNumber I2 k x0 1 5) (fun E I5 k6 => some (.error E, I5, k6)) fun v4 I5 k6 => b2 (f_X7_scan I5 k6 (x0 + 1)) fun I8 k9 => b1 (ckK k9) fun _ => if k9 = 4 then (l_X5_openRepeat_51 I8 k9 x0 v4 1) else (l_X5_openRepeat_51 I8 k9 x0 v4 0)
theorem tl_X5_openRepeat_14 (d : Nat) {K : Kt} : ∀ {I : Mem} {k : Nat} {x0 : Nat} (H0 : LR K x0) {y0 : Int32} {x : Except String Unit} {I9 : Mem} {k9 : Nat}, l_X5_openRepeat_14 I k x0 y0 = some (x, I9, k9) → X (mX5_openRepeat (d + 8)) cX5_openRepeat (cst x) (cs6 x) I (kk K (x0 + 1) k) 14 [.ref x0, .retAddr 0] [.int y0, .ref x0] (Ro (rV x) I9 (kk K (x0 + 1) k9)) := by
  intro I k x0 H0 y0 x I9 k9 h
  unfold l_X5_openRepeat_14 at h
  refine x_iconst 4 dX5_openRepeat_14 rfl ?_
  rcases e2_s h with ⟨u1, I2, h3, h⟩ | ⟨E, I2, h3, h⟩
  rotate_left
  · have hq := c_X5_require (d + 1) (K := (kk K (x0 + 1) k)) (I := I) (LR.kk H0) h3
    cases h
    exact z_Ve [.int y0, .int 4] [] (cs_X5_79 _) (ci := 3) rfl (LR.o (LR.kk H0)) (dep (show d + 1 + 6 + 1 ≤ (d + 8) from by omega) (Nat.le_of_ble_eq_true rfl)) dX5_openRepeat_15 rfl rfl (Nat.le_of_ble_eq_true rfl) hq rfl
  have hq := c_X5_require (d + 1) (K := (kk K (x0 + 1) k)) (I := I) (LR.kk H0) h3
  refine z_V0 [.int y0, .int 4] [] (cs_X5_79 _) (ci := 3) rfl (LR.o (LR.kk H0)) (dep (show d + 1 + 6 + 1 ≤ (d + 8) from by omega) (Nat.le_of_ble_eq_true rfl)) dX5_openRepeat_15 rfl rfl (Nat.le_of_ble_eq_true rfl) hq ?_
  refine x_aloadn dX5_openRepeat_18 rfl ?_
  refine x_iconst 1 dX5_openRepeat_19 rfl ?_
  refine x_iconst 5 dX5_openRepeat_20 rfl ?_
  rcases e3_s h with ⟨v4, I5, k6, h7, h⟩ | ⟨E, I5, k6, h7, h⟩
  rotate_left
  · have hq := c_X5_readNumber d (K := K) (I := I2) H0 h7
    cases h
    exact z_Ve [.int 1, .int 5] [] (cs_X5_83 _) (ci := 3) rfl (LR.o (LR.kk H0)) (dep (show d + 0 + 7 + 1 ≤ (d + 8) from by omega) (Nat.le_of_ble_eq_true rfl)) dX5_openRepeat_21 rfl rfl (Nat.le_of_ble_eq_true rfl) hq rfl
  have hq := c_X5_readNumber d (K := K) (I := I2) H0 h7
  refine z_V1 [.int 1, .int 5] [] (cs_X5_83 _) (ci := 3) rfl (LR.o (LR.kk H0)) (dep (show d + 0 + 7 + 1 ≤ (d + 8) from by omega) (Nat.le_of_ble_eq_true rfl)) dX5_openRepeat_21 rfl rfl (Nat.le_of_ble_eq_true rfl) hq ?_
  refine x_istoren dX5_openRepeat_24 (Nat.le_of_ble_eq_true rfl) rfl rfl ?_
  refine x_aloadn dX5_openRepeat_25 rfl ?_
  refine z_getR fs_X5_12 (LR.o (LR.kk H0)) (LR.g0 (LR.kk H0)) dX5_openRepeat_26 ?_
  obtain ⟨I8, k9, h10, h⟩ := b2_s h
  refine z_V0 [] [] (cs_X5_70 _) (ci := 5) rfl (LT.o (LT.kk (LR.t H0))) (dep (show d + 6 + 1 + 1 ≤ (d + 8) from by omega) (Nat.le_of_ble_eq_true rfl)) dX5_openRepeat_29 rfl rfl (Nat.le_of_ble_eq_true rfl) (c_X7_scan (d + 6) (K := K) (I := I5) (LR.t H0) h10) ?_
  refine x_aloadn dX5_openRepeat_32 rfl ?_
  refine x_aloadn dX5_openRepeat_33 rfl ?_
  refine z_getR fs_X5_12 (LR.o (LR.kk H0)) (LR.g0 (LR.kk H0)) dX5_openRepeat_34 ?_
  obtain ⟨u11, hu11, h⟩ := b1_s h
  refine z_getR fs_X5_88 (LT.o (LT.kk (LR.t H0))) kk_k dX5_openRepeat_37 ?_
  refine x_getsK 4 (by decide) (show Cond.fieldLink RX5 368 RX2 "OPEN" "LWishMarket$Kind;" ∈ wsG from inT4 169 rfl rfl) dX5_openRepeat_40 ?_
  refine x_acmpK_ne 50 (ckK_s hu11) (by decide) dX5_openRepeat_43 rfl (fun hc => ?_) (fun hc => ?_)
  · have h := ifF hc h
    refine x_iconst 0 dX5_openRepeat_50 rfl ?_
    exact tl_X5_openRepeat_51 d H0 h
  have h := ifT hc h
  refine x_iconst 1 dX5_openRepeat_46 rfl ?_
  refine x_goto 51 dX5_openRepeat_47 rfl ?_
  exact tl_X5_openRepeat_51 d H0 h
noncomputable def f_X5_openRepeat (I : Mem) (k : Nat) (x0 : Nat) : Option (Except String Unit × Mem × Nat) := if 3 ≤ (I x0 6) then (l_X5_openRepeat_14 I k x0 0) else (l_X5_openRepeat_14 I k x0 1)
theorem c_X5_openRepeat (d : Nat) {K : Kt} {I : Mem} {k : Nat} {x0 : Nat} (H0 : LR K x0) {x : Except String Unit} {I9 : Mem} {k9 : Nat} (h : f_X5_openRepeat I k x0 = some (x, I9, k9)) : Ct (mX5_openRepeat (d + 8)) cX5_openRepeat (cst x) (cs6 x) [.ref x0] I (kk K (x0 + 1) k) (Ro (rV x) I9 (kk K (x0 + 1) k9)) := by
  refine Ct.of rfl pn_X5 (catR cat0) (Nat.le_of_ble_eq_true rfl) (show X _ _ _ _ _ _ 0 [.ref x0, .retAddr 0] [] _ from ?_)
  unfold f_X5_openRepeat at h
  refine x_aloadn dX5_openRepeat_0 rfl ?_
  refine x_aloadn dX5_openRepeat_1 rfl ?_
  refine z_getI fs_X5_39 (LR.o (LR.kk H0)) dX5_openRepeat_2 ?_
  refine x_iconst 3 dX5_openRepeat_5 rfl ?_
  refine x_icmp_ge 13 dX5_openRepeat_6 rfl (fun hc => ?_) (fun hc => ?_)
  · have h := ifT hc h
    refine x_iconst 0 dX5_openRepeat_13 rfl ?_
    exact tl_X5_openRepeat_14 d H0 h
  have h := ifF hc h
  refine x_iconst 1 dX5_openRepeat_9 rfl ?_
  refine x_goto 14 dX5_openRepeat_10 rfl ?_
  exact tl_X5_openRepeat_14 d H0 h
noncomputable def l_X7_putFourBytes_3 (n : Nat) (I : Mem) (x0 : Nat) (x1 : Int32) (x2 : Int32) : Option (Mem) := match n with
  | 0 => none
  | n + 1 => if x2 < 0 then (some (I)) else (if 500 ≤ (I x0 1) then (some (I)) else (b1 (ix (I x0 1) 500) fun j1 => b1 (pu I (x0 + 1) j1 (vp_nar .byte ((x1 >>> (x2 &&& 31))).toInt8.toInt32)) fun I2 => b1 (pu I2 x0 1 ((I2 x0 1) + 1)) fun I3 => l_X7_putFourBytes_3 n I3 x0 x1 (x2 + (-8))))
theorem tl_X7_putFourBytes_3 (d : Nat) {K : Kt} (n : Nat) : ∀ {I : Mem} {x0 : Nat} (H0 : LT K x0) {x1 : Int32} {x2 : Int32} {I9 : Mem}, l_X7_putFourBytes_3 n I x0 x1 x2 = some I9 → X (mX7_putFourBytes d) cX7_putFourBytes 0 0 I K 3 [.ref x0, .int x1, .int x2] [] (Ro (.inl none) I9 K) := by
  induction n with
  | zero =>
    intro I x0 H0 x1 x2 I9 h
    cases h
  | succ n ih =>
    intro I x0 H0 x1 x2 I9 h
    unfold l_X7_putFourBytes_3 at h
    refine x_iloadn dX7_putFourBytes_3 rfl ?_
    refine x_if_lt 46 dX7_putFourBytes_4 rfl (fun hc => ?_) (fun hc => ?_)
    · have h := ifT hc h
      cases h
      exact x_vret rfl dX7_putFourBytes_46 ⟨rfl, rfl, rfl⟩
    have h := ifF hc h
    refine x_aloadn dX7_putFourBytes_7 rfl ?_
    refine z_getI fs_X7_24 (LT.o H0) dX7_putFourBytes_8 ?_
    refine x_sipush 500 dX7_putFourBytes_11 rfl ?_
    refine x_icmp_ge 46 dX7_putFourBytes_14 rfl (fun hc => ?_) (fun hc => ?_)
    · have h := ifT hc h
      cases h
      exact x_vret rfl dX7_putFourBytes_46 ⟨rfl, rfl, rfl⟩
    have h := ifF hc h
    refine x_aloadn dX7_putFourBytes_17 rfl ?_
    refine z_getR fs_X7_9 (LT.o H0) (LT.g0 H0) dX7_putFourBytes_18 ?_
    refine x_aloadn dX7_putFourBytes_21 rfl ?_
    refine z_getI fs_X7_24 (LT.o H0) dX7_putFourBytes_22 ?_
    refine x_iloadn dX7_putFourBytes_25 rfl ?_
    refine x_iloadn dX7_putFourBytes_26 rfl ?_
    refine x_ishr dX7_putFourBytes_27 ?_
    refine x_i2b dX7_putFourBytes_28 ?_
    obtain ⟨j1, hj1, h⟩ := b1_s h
    obtain ⟨I2, hI2, h⟩ := b1_s h
    refine z_bast (LT.l0 H0) hj1 hI2 dX7_putFourBytes_29 ?_
    refine x_aloadn dX7_putFourBytes_30 rfl ?_
    refine x_dup dX7_putFourBytes_31 rfl ?_
    refine z_getI fs_X7_24 (LT.o H0) dX7_putFourBytes_32 ?_
    refine x_iconst 1 dX7_putFourBytes_35 rfl ?_
    refine x_iadd dX7_putFourBytes_36 ?_
    obtain ⟨I3, hI3, h⟩ := b1_s h
    refine z_putI fs_X7_24 (LT.o H0) hI3 dX7_putFourBytes_37 ?_
    refine z_iinc (-8) (by decide) dX7_putFourBytes_40 rfl rfl rfl ?_
    refine x_goto 3 dX7_putFourBytes_43 rfl ?_
    exact ih H0 h
noncomputable def f_X7_putFourBytes (I : Mem) (x0 : Nat) (x1 : Int32) : Option (Mem) := l_X7_putFourBytes_3 FU I x0 x1 24
theorem c_X7_putFourBytes (d : Nat) {K : Kt} {I : Mem} {x0 : Nat} (H0 : LT K x0) {x1 : Int32} {I9 : Mem} (h : f_X7_putFourBytes I x0 x1 = some I9) : Ct (mX7_putFourBytes d) cX7_putFourBytes 0 0 [.ref x0, .int x1] I K (Ro (.inl none) I9 K) := by
  refine Ct.of rfl pn_X7 (catR (catI cat0)) (Nat.le_of_ble_eq_true rfl) (show X _ _ _ _ _ _ 0 [.ref x0, .int x1, .retAddr 0] [] _ from ?_)
  unfold f_X7_putFourBytes at h
  refine x_bipush 24 dX7_putFourBytes_0 rfl ?_
  refine x_istoren dX7_putFourBytes_2 (Nat.le_of_ble_eq_true rfl) rfl rfl ?_
  exact tl_X7_putFourBytes_3 d FU H0 h
noncomputable def f_X7_startAnew (I : Mem) (x0 : Nat) (x1 : Int32) : Option (Mem) := b1 (pu I x0 2 (if (I x0 1) < x1 then (I x0 1) else x1)) fun I1 => b1 (pu I1 x0 3 0) fun I2 => some (I2)
theorem c_X7_startAnew (d : Nat) {K : Kt} {I : Mem} {x0 : Nat} (H0 : LT K x0) {x1 : Int32} {I9 : Mem} (h : f_X7_startAnew I x0 x1 = some I9) : Ct (mX7_startAnew (d + 1)) cX7_startAnew 0 0 [.ref x0, .int x1] I K (Ro (.inl none) I9 K) := by
  refine Ct.of rfl pn_X7 (catR (catI cat0)) (Nat.le_of_ble_eq_true rfl) (show X _ _ _ _ _ _ 0 [.ref x0, .int x1] [] _ from ?_)
  unfold f_X7_startAnew at h
  refine x_aloadn dX7_startAnew_0 rfl ?_
  refine x_iloadn dX7_startAnew_1 rfl ?_
  refine x_aloadn dX7_startAnew_2 rfl ?_
  refine z_getI fs_X7_24 (LT.o H0) dX7_startAnew_3 ?_
  refine x_mmin ms_X7_28 (Nat.le_of_ble_eq_true rfl) (by show 1 ≤ (d + 1); omega) dX7_startAnew_6 ?_
  obtain ⟨I1, hI1, h⟩ := b1_s h
  refine z_putI fs_X7_34 (LT.o H0) hI1 dX7_startAnew_9 ?_
  refine x_aloadn dX7_startAnew_12 rfl ?_
  refine x_iconst 0 dX7_startAnew_13 rfl ?_
  obtain ⟨I2, hI2, h⟩ := b1_s h
  refine z_putI fs_X7_37 (LT.o H0) hI2 dX7_startAnew_14 ?_
  cases h
  exact x_vret rfl dX7_startAnew_17 ⟨rfl, rfl, rfl⟩
