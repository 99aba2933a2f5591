noncomputable def l_X3_meanWear_6 (n : Nat) (I : Mem) (x0 : Nat) (x1 : Int32) (x2 : Int32) (x3 : Int32) : Option (UInt64) := match n with
  | 0 => none
  | n + 1 => if (I x0 5) ≤ x3 then (if x2 = 0 then (some (FP.dconst0)) else (b1 (cN64 (FP.ddiv (FP.i2d x1) (FP.i2d x2))) fun _ => some ((FP.ddiv (FP.i2d x1) (FP.i2d x2))))) else (b1 (ix x3 16) fun j2 => b1 (f_X8_isInTrade I (x0 + 15 + j2)) fun v3 => if v3 = 0 then (l_X3_meanWear_6 n I x0 x1 x2 (x3 + 1)) else (b1 (ix x3 16) fun j5 => l_X3_meanWear_6 n I x0 (x1 + (I (x0 + 15 + j5) 3)) (x2 + 1) (x3 + 1)))
theorem tl_X3_meanWear_6 (d : Nat) {K : Kt} (n : Nat) : ∀ {I : Mem} {x0 : Nat} (H0 : LM K x0) {x1 : Int32} {x2 : Int32} {x3 : Int32} {v : UInt64}, l_X3_meanWear_6 n I x0 x1 x2 x3 = some v → X (mX3_meanWear (d + 1)) cX3_meanWear 0 0 I K 6 [.ref x0, .int x1, .int x2, .int x3] [] (Ro (.inl (some (.double v))) I K) := by
  induction n with
  | zero =>
    intro I x0 H0 x1 x2 x3 v h
    cases h
  | succ n ih =>
    intro I x0 H0 x1 x2 x3 v h
    unfold l_X3_meanWear_6 at h
    refine x_iloadn dX3_meanWear_6 rfl ?_
    refine x_aloadn dX3_meanWear_7 rfl ?_
    refine z_getI fs_X3_39 (LM.o H0) dX3_meanWear_8 ?_
    refine x_icmp_ge 47 dX3_meanWear_11 rfl (fun hc => ?_) (fun hc => ?_)
    · have h := ifT hc h
      refine x_iloadn dX3_meanWear_47 rfl ?_
      refine x_if_ne 55 dX3_meanWear_48 rfl (fun hc => ?_) (fun hc => ?_)
      · have h := ifF hc h
        refine x_iloadn dX3_meanWear_55 rfl ?_
        refine x_i2d dX3_meanWear_56 ?_
        refine x_iloadn dX3_meanWear_57 rfl ?_
        refine x_i2d dX3_meanWear_58 ?_
        obtain ⟨u1, hu1, h⟩ := b1_s h
        refine x_ddiv dX3_meanWear_59 (cN64_s hu1) ?_
        cases h
        exact x_dret rfl dX3_meanWear_60 ⟨rfl, rfl, rfl⟩
      have h := ifT hc h
      refine x_dconst0 dX3_meanWear_51 ?_
      refine x_goto 60 dX3_meanWear_52 rfl ?_
      cases h
      exact x_dret rfl dX3_meanWear_60 ⟨rfl, rfl, rfl⟩
    have h := ifF hc h
    refine x_aloadn dX3_meanWear_14 rfl ?_
    refine z_getR fs_X3_25 (LM.o H0) (LM.g2 H0) dX3_meanWear_15 ?_
    refine x_iloadn dX3_meanWear_18 rfl ?_
    obtain ⟨j2, hj2, h⟩ := b1_s h
    refine z_aald (LM.l2 H0) ⟨by decide, by decide⟩ hj2 (LM.w H0 (ix_s hj2).2.1) dX3_meanWear_19 ?_
    obtain ⟨v3, h4, h⟩ := b1_s h
    refine z_V1 [] [] (cs_X3_95 _) (ci := 6) rfl (LM.wo H0 (ix_s hj2).2.1) (dep (show d + 0 + 0 + 1 ≤ (d + 1) from by omega) (Nat.le_of_ble_eq_true rfl)) dX3_meanWear_20 rfl rfl (Nat.le_of_ble_eq_true rfl) (c_X8_isInTrade d (K := K) (I := I) (LM.wo H0 (ix_s hj2).2.1) h4) ?_
    refine x_if_eq 41 dX3_meanWear_23 rfl (fun hc => ?_) (fun hc => ?_)
    · have h := ifT hc h
      refine z_iinc 1 (by decide) dX3_meanWear_41 rfl rfl rfl ?_
      refine x_goto 6 dX3_meanWear_44 rfl ?_
      exact ih H0 h
    have h := ifF hc h
    refine x_iloadn dX3_meanWear_26 rfl ?_
    refine x_aloadn dX3_meanWear_27 rfl ?_
    refine z_getR fs_X3_25 (LM.o H0) (LM.g2 H0) dX3_meanWear_28 ?_
    refine x_iloadn dX3_meanWear_31 rfl ?_
    obtain ⟨j5, hj5, h⟩ := b1_s h
    refine z_aald (LM.l2 H0) ⟨by decide, by decide⟩ hj5 (LM.w H0 (ix_s hj5).2.1) dX3_meanWear_32 ?_
    refine z_getI fs_X3_99 (LM.wo H0 (ix_s hj5).2.1) dX3_meanWear_33 ?_
    refine x_iadd dX3_meanWear_36 ?_
    refine x_istoren dX3_meanWear_37 (Nat.le_of_ble_eq_true rfl) rfl rfl ?_
    refine z_iinc 1 (by decide) dX3_meanWear_38 rfl rfl rfl ?_
    refine z_iinc 1 (by decide) dX3_meanWear_41 rfl rfl rfl ?_
    refine x_goto 6 dX3_meanWear_44 rfl ?_
    exact ih H0 h
noncomputable def f_X3_meanWear (I : Mem) (x0 : Nat) : Option (UInt64) := l_X3_meanWear_6 FU I x0 0 0 0
theorem c_X3_meanWear (d : Nat) {K : Kt} {I : Mem} {x0 : Nat} (H0 : LM K x0) {v : UInt64} (h : f_X3_meanWear I x0 = some v) : Ct (mX3_meanWear (d + 1)) cX3_meanWear 0 0 [.ref x0] I K (Ro (.inl (some (.double v))) I K) := by
  refine Ct.of rfl pn_X3 (catR cat0) (Nat.le_of_ble_eq_true rfl) (show X _ _ _ _ _ _ 0 [.ref x0, .retAddr 0, .retAddr 0, .retAddr 0] [] _ from ?_)
  unfold f_X3_meanWear at h
  refine x_iconst 0 dX3_meanWear_0 rfl ?_
  refine x_istoren dX3_meanWear_1 (Nat.le_of_ble_eq_true rfl) rfl rfl ?_
  refine x_iconst 0 dX3_meanWear_2 rfl ?_
  refine x_istoren dX3_meanWear_3 (Nat.le_of_ble_eq_true rfl) rfl rfl ?_
  refine x_iconst 0 dX3_meanWear_4 rfl ?_
  refine x_istoren dX3_meanWear_5 (Nat.le_of_ble_eq_true rfl) rfl rfl ?_
  exact tl_X3_meanWear_6 d FU H0 h
noncomputable def l_X3_meanStars_4 (n : Nat) (I : Mem) (x0 : Nat) (x1 : Int32) (x2 : Int32) : Option (UInt32) := match n with
  | 0 => none
  | n + 1 => if (I x0 4) ≤ x2 then (if (I x0 4) = 0 then (some (FP.fconst0)) else (b1 (cN32 (FP.fdiv (FP.i2f x1) (FP.i2f (I x0 4)))) fun _ => some ((FP.fdiv (FP.i2f x1) (FP.i2f (I x0 4)))))) else (b1 (ix x2 5) fun j2 => l_X3_meanStars_4 n I x0 (x1 + (I (x0 + 10 + j2) 2)) (x2 + 1))
theorem tl_X3_meanStars_4 (d : Nat) {K : Kt} (n : Nat) : ∀ {I : Mem} {x0 : Nat} (H0 : LM K x0) {x1 : Int32} {x2 : Int32} {v : UInt32}, l_X3_meanStars_4 n I x0 x1 x2 = some v → X (mX3_meanStars d) cX3_meanStars 0 0 I K 4 [.ref x0, .int x1, .int x2] [] (Ro (.inl (some (.float v))) I K) := by
  induction n with
  | zero =>
    intro I x0 H0 x1 x2 v h
    cases h
  | succ n ih =>
    intro I x0 H0 x1 x2 v h
    unfold l_X3_meanStars_4 at h
    refine x_iloadn dX3_meanStars_4 rfl ?_
    refine x_aloadn dX3_meanStars_5 rfl ?_
    refine z_getI fs_X3_36 (LM.o H0) dX3_meanStars_6 ?_
    refine x_icmp_ge 30 dX3_meanStars_9 rfl (fun hc => ?_) (fun hc => ?_)
    · have h := ifT hc h
      refine x_aloadn dX3_meanStars_30 rfl ?_
      refine z_getI fs_X3_36 (LM.o H0) dX3_meanStars_31 ?_
      refine x_if_ne 41 dX3_meanStars_34 rfl (fun hc => ?_) (fun hc => ?_)
      · have h := ifF hc h
        refine x_iloadn dX3_meanStars_41 rfl ?_
        refine x_i2f dX3_meanStars_42 ?_
        refine x_aloadn dX3_meanStars_43 rfl ?_
        refine z_getI fs_X3_36 (LM.o H0) dX3_meanStars_44 ?_
        refine x_i2f dX3_meanStars_47 ?_
        obtain ⟨u1, hu1, h⟩ := b1_s h
        refine x_fdiv dX3_meanStars_48 (cN32_s hu1) ?_
        cases h
        exact x_fret rfl dX3_meanStars_49 ⟨rfl, rfl, rfl⟩
      have h := ifT hc h
      refine x_fconst0 dX3_meanStars_37 ?_
      refine x_goto 49 dX3_meanStars_38 rfl ?_
      cases h
      exact x_fret rfl dX3_meanStars_49 ⟨rfl, rfl, rfl⟩
    have h := ifF hc h
    refine x_iloadn dX3_meanStars_12 rfl ?_
    refine x_aloadn dX3_meanStars_13 rfl ?_
    refine z_getR fs_X3_19 (LM.o H0) (LM.g1 H0) dX3_meanStars_14 ?_
    refine x_iloadn dX3_meanStars_17 rfl ?_
    obtain ⟨j2, hj2, h⟩ := b1_s h
    refine z_aald (LM.l1 H0) ⟨by decide, by decide⟩ hj2 (LM.s H0 (ix_s hj2).2.1) dX3_meanStars_18 ?_
    refine z_getI fs_X3_102 (LM.so H0 (ix_s hj2).2.1) dX3_meanStars_19 ?_
    refine x_iadd dX3_meanStars_22 ?_
    refine x_istoren dX3_meanStars_23 (Nat.le_of_ble_eq_true rfl) rfl rfl ?_
    refine z_iinc 1 (by decide) dX3_meanStars_24 rfl rfl rfl ?_
    refine x_goto 4 dX3_meanStars_27 rfl ?_
    exact ih H0 h
noncomputable def f_X3_meanStars (I : Mem) (x0 : Nat) : Option (UInt32) := l_X3_meanStars_4 FU I x0 0 0
theorem c_X3_meanStars (d : Nat) {K : Kt} {I : Mem} {x0 : Nat} (H0 : LM K x0) {v : UInt32} (h : f_X3_meanStars I x0 = some v) : Ct (mX3_meanStars d) cX3_meanStars 0 0 [.ref x0] I K (Ro (.inl (some (.float v))) I K) := by
  refine Ct.of rfl pn_X3 (catR cat0) (Nat.le_of_ble_eq_true rfl) (show X _ _ _ _ _ _ 0 [.ref x0, .retAddr 0, .retAddr 0] [] _ from ?_)
  unfold f_X3_meanStars at h
  refine x_iconst 0 dX3_meanStars_0 rfl ?_
  refine x_istoren dX3_meanStars_1 (Nat.le_of_ble_eq_true rfl) rfl rfl ?_
  refine x_iconst 0 dX3_meanStars_2 rfl ?_
  refine x_istoren dX3_meanStars_3 (Nat.le_of_ble_eq_true rfl) rfl rfl ?_
  exact tl_X3_meanStars_4 d FU H0 h
noncomputable def l_X10_averageWear_52 (c25 : Mem → Nat → Int32 → Int32 → Int32 → Option (UInt64 × Mem)) (I : Mem) (x0 : Nat) (x1 : Int32) (x3 : Int32) (y0 : Int32) : Option (UInt64 × Mem) := b1 (f_X10_ofWish I x0 x3 2) fun v12 => c25 I x0 x1 (y0 + v12) (x3 + 1)
theorem tl_X10_averageWear_52 (d : Nat) {K : Kt} {c25 : Mem → Nat → Int32 → Int32 → Int32 → Option (UInt64 × Mem)} (hc25 : ∀ {I : Mem} {x0 : Nat} (H0 : MK K x0) {x1 : Int32} {x2 : Int32} {x3 : Int32} {v : UInt64} {I9 : Mem}, c25 I x0 x1 x2 x3 = some (v, I9) → X (mX10_averageWear (d + 2)) cX10_averageWear 0 0 I K 25 [.ref x0, .int x1, .int x2, .int x3] [] (Ro (.inl (some (.double v))) I9 K)) : ∀ {I : Mem} {x0 : Nat} (H0 : MK K x0) {x1 : Int32} {x3 : Int32} {y0 : Int32} {v : UInt64} {I9 : Mem}, l_X10_averageWear_52 c25 I x0 x1 x3 y0 = some (v, I9) → X (mX10_averageWear (d + 2)) cX10_averageWear 0 0 I K 52 [.ref x0, .int x1, .retAddr 0, .int x3] [.int y0] (Ro (.inl (some (.double v))) I9 K) := by
  intro I x0 H0 x1 x3 y0 v I9 h
  unfold l_X10_averageWear_52 at h
  refine x_aloadn dX10_averageWear_52 rfl ?_
  refine x_iloadn dX10_averageWear_53 rfl ?_
  refine x_iconst 2 dX10_averageWear_54 rfl ?_
  obtain ⟨v12, h13, h⟩ := b1_s h
  refine z_V1 [.int x3, .int 2] [.int y0] (cs_X10_224 _) (ci := 8) rfl (MK.o H0) (dep (show d + 1 + 0 + 1 ≤ (d + 2) from by omega) (Nat.le_of_ble_eq_true rfl)) dX10_averageWear_55 rfl rfl (Nat.le_of_ble_eq_true rfl) (c_X10_ofWish (d + 1) (K := K) (I := I) H0 h13) ?_
  refine x_goto 62 dX10_averageWear_58 rfl ?_
  refine x_iadd dX10_averageWear_62 ?_
  refine x_istoren dX10_averageWear_63 (Nat.le_of_ble_eq_true rfl) rfl rfl ?_
  refine z_iinc 1 (by decide) dX10_averageWear_64 rfl rfl rfl ?_
  refine x_goto 25 dX10_averageWear_67 rfl ?_
  exact hc25 H0 h
noncomputable def l_X10_averageWear_25 (n : Nat) (I : Mem) (x0 : Nat) (x1 : Int32) (x2 : Int32) (x3 : Int32) : Option (UInt64 × Mem) := match n with
  | 0 => none
  | n + 1 => b1 (ix 4 355) fun j8 => if (I (x0 + 1) j8) ≤ x3 then (if x1 = 0 then (some (FP.dconst0, I)) else (b1 (cN64 (FP.ddiv (FP.i2d x2) (FP.i2d x1))) fun _ => some ((FP.ddiv (FP.i2d x2) (FP.i2d x1)), I))) else (b1 (f_X10_isOwned I x0 x3) fun v10 => if v10 = 0 then (b1 (f_X10_isInStall I x0 x3) fun v14 => if v14 = 0 then (l_X10_averageWear_25 n I x0 x1 (x2 + 0) (x3 + 1)) else (l_X10_averageWear_52 (l_X10_averageWear_25 n) I x0 x1 x3 x2)) else (l_X10_averageWear_52 (l_X10_averageWear_25 n) I x0 x1 x3 x2))
theorem tl_X10_averageWear_25 (d : Nat) {K : Kt} (n : Nat) : ∀ {I : Mem} {x0 : Nat} (H0 : MK K x0) {x1 : Int32} {x2 : Int32} {x3 : Int32} {v : UInt64} {I9 : Mem}, l_X10_averageWear_25 n I x0 x1 x2 x3 = some (v, I9) → X (mX10_averageWear (d + 2)) cX10_averageWear 0 0 I K 25 [.ref x0, .int x1, .int x2, .int x3] [] (Ro (.inl (some (.double v))) I9 K) := by
  induction n with
  | zero =>
    intro I x0 H0 x1 x2 x3 v I9 h
    cases h
  | succ n ih =>
    intro I x0 H0 x1 x2 x3 v I9 h
    unfold l_X10_averageWear_25 at h
    refine x_iloadn dX10_averageWear_25 rfl ?_
    refine x_aloadn dX10_averageWear_26 rfl ?_
    refine z_getR fs_X10_9 (MK.o H0) (MK.g1 H0) dX10_averageWear_27 ?_
    refine x_iconst 4 dX10_averageWear_30 rfl ?_
    obtain ⟨j8, hj8, h⟩ := b1_s h
    refine z_iald (MK.l1 H0) hj8 dX10_averageWear_31 ?_
    refine x_icmp_ge 70 dX10_averageWear_32 rfl (fun hc => ?_) (fun hc => ?_)
    · have h := ifT hc h
      refine x_iloadn dX10_averageWear_70 rfl ?_
      refine x_if_ne 78 dX10_averageWear_71 rfl (fun hc => ?_) (fun hc => ?_)
      · have h := ifF hc h
        refine x_iloadn dX10_averageWear_78 rfl ?_
        refine x_i2d dX10_averageWear_79 ?_
        refine x_iloadn dX10_averageWear_80 rfl ?_
        refine x_i2d dX10_averageWear_81 ?_
        obtain ⟨u9, hu9, h⟩ := b1_s h
        refine x_ddiv dX10_averageWear_82 (cN64_s hu9) ?_
        cases h
        exact x_dret rfl dX10_averageWear_83 ⟨rfl, rfl, rfl⟩
      have h := ifT hc h
      refine x_dconst0 dX10_averageWear_74 ?_
      refine x_goto 83 dX10_averageWear_75 rfl ?_
      cases h
      exact x_dret rfl dX10_averageWear_83 ⟨rfl, rfl, rfl⟩
    have h := ifF hc h
    refine x_iloadn dX10_averageWear_35 rfl ?_
    refine x_aloadn dX10_averageWear_36 rfl ?_
    refine x_iloadn dX10_averageWear_37 rfl ?_
    obtain ⟨v10, h11, h⟩ := b1_s h
    refine z_V1 [.int x3] [.int x2] (cs_X10_221 _) (ci := 8) rfl (MK.o H0) (dep (show d + 0 + 1 + 1 ≤ (d + 2) from by omega) (Nat.le_of_ble_eq_true rfl)) dX10_averageWear_38 rfl rfl (Nat.le_of_ble_eq_true rfl) (c_X10_isOwned d (K := K) (I := I) H0 h11) ?_
    refine x_if_ne 52 dX10_averageWear_41 rfl (fun hc => ?_) (fun hc => ?_)
    · have h := ifF hc h
      exact X.forget (L' := [.ref x0, .int x1, .retAddr 0, .int x3]) ⟨Or.inl rfl, ⟨Or.inl rfl, ⟨Or.inr rfl, ⟨Or.inl rfl, trivial⟩⟩⟩⟩ (tl_X10_averageWear_52 d ih H0 h)
    have h := ifT hc h
    refine x_aloadn dX10_averageWear_44 rfl ?_
    refine x_iloadn dX10_averageWear_45 rfl ?_
    obtain ⟨v14, h15, h⟩ := b1_s h
    refine z_V1 [.int x3] [.int x2] (cs_X10_350 _) (ci := 8) rfl (MK.o H0) (dep (show d + 0 + 1 + 1 ≤ (d + 2) from by omega) (Nat.le_of_ble_eq_true rfl)) dX10_averageWear_46 rfl rfl (Nat.le_of_ble_eq_true rfl) (c_X10_isInStall d (K := K) (I := I) H0 h15) ?_
    refine x_if_eq 61 dX10_averageWear_49 rfl (fun hc => ?_) (fun hc => ?_)
    · have h := ifT hc h
      refine x_iconst 0 dX10_averageWear_61 rfl ?_
      refine x_iadd dX10_averageWear_62 ?_
      refine x_istoren dX10_averageWear_63 (Nat.le_of_ble_eq_true rfl) rfl rfl ?_
      refine z_iinc 1 (by decide) dX10_averageWear_64 rfl rfl rfl ?_
      refine x_goto 25 dX10_averageWear_67 rfl ?_
      exact ih H0 h
    have h := ifF hc h
    exact X.forget (L' := [.ref x0, .int x1, .retAddr 0, .int x3]) ⟨Or.inl rfl, ⟨Or.inl rfl, ⟨Or.inr rfl, ⟨Or.inl rfl, trivial⟩⟩⟩⟩ (tl_X10_averageWear_52 d ih H0 h)
noncomputable def f_X10_averageWear (I : Mem) (x0 : Nat) : Option (UInt64 × Mem) := b2 (f_X10_mayLook I x0) fun v1 I2 => if v1 = 0 then (some (FP.dconst0, I2)) else (b1 (f_X10_wishesIn I2 x0 0) fun v4 => b1 (f_X10_wishesIn I2 x0 1) fun v6 => l_X10_averageWear_25 FU I2 x0 (v4 + v6) 0 0)
theorem c_X10_averageWear (d : Nat) {K : Kt} {I : Mem} {x0 : Nat} (H0 : MK K x0) {v : UInt64} {I9 : Mem} (h : f_X10_averageWear I x0 = some (v, I9)) : Ct (mX10_averageWear (d + 2)) cX10_averageWear 0 0 [.ref x0] I K (Ro (.inl (some (.double v))) I9 K) := by
  refine Ct.of rfl pn_X10 (catR cat0) (Nat.le_of_ble_eq_true rfl) (show X _ _ _ _ _ _ 0 [.ref x0, .retAddr 0, .retAddr 0, .retAddr 0] [] _ from ?_)
  unfold f_X10_averageWear at h
  refine x_aloadn dX10_averageWear_0 rfl ?_
  obtain ⟨v1, I2, h3, h⟩ := b2_s h
  refine z_V1 [] [] (cs_X10_440 _) (ci := 8) rfl (MK.o H0) (dep (show d + 0 + 1 + 1 ≤ (d + 2) from by omega) (Nat.le_of_ble_eq_true rfl)) dX10_averageWear_1 rfl rfl (Nat.le_of_ble_eq_true rfl) (c_X10_mayLook d (K := K) (I := I) H0 h3) ?_
  refine x_if_ne 9 dX10_averageWear_4 rfl (fun hc => ?_) (fun hc => ?_)
  · have h := ifF hc h
    refine x_aloadn dX10_averageWear_9 rfl ?_
    refine x_iconst 0 dX10_averageWear_10 rfl ?_
    obtain ⟨v4, h5, h⟩ := b1_s h
    refine z_V1 [.int 0] [] (cs_X10_447 _) (ci := 8) rfl (MK.o H0) (dep (show d + 0 + 1 + 1 ≤ (d + 2) from by omega) (Nat.le_of_ble_eq_true rfl)) dX10_averageWear_11 rfl rfl (Nat.le_of_ble_eq_true rfl) (c_X10_wishesIn d (K := K) (I := I2) H0 h5) ?_
    refine x_aloadn dX10_averageWear_14 rfl ?_
    refine x_iconst 1 dX10_averageWear_15 rfl ?_
    obtain ⟨v6, h7, h⟩ := b1_s h
    refine z_V1 [.int 1] [.int v4] (cs_X10_447 _) (ci := 8) rfl (MK.o H0) (dep (show d + 0 + 1 + 1 ≤ (d + 2) from by omega) (Nat.le_of_ble_eq_true rfl)) dX10_averageWear_16 rfl rfl (Nat.le_of_ble_eq_true rfl) (c_X10_wishesIn d (K := K) (I := I2) H0 h7) ?_
    refine x_iadd dX10_averageWear_19 ?_
    refine x_istoren dX10_averageWear_20 (Nat.le_of_ble_eq_true rfl) rfl rfl ?_
    refine x_iconst 0 dX10_averageWear_21 rfl ?_
    refine x_istoren dX10_averageWear_22 (Nat.le_of_ble_eq_true rfl) rfl rfl ?_
    refine x_iconst 0 dX10_averageWear_23 rfl ?_
    refine x_istoren dX10_averageWear_24 (Nat.le_of_ble_eq_true rfl) rfl rfl ?_
    exact tl_X10_averageWear_25 d FU H0 h
  have h := ifT hc h
  refine x_dconst0 dX10_averageWear_7 ?_
  cases h
  exact x_dret rfl dX10_averageWear_8 ⟨rfl, rfl, rfl⟩
noncomputable def l_X10_averageStars_13 (n : Nat) (I : Mem) (x0 : Nat) (x1 : Int32) (x2 : Int32) : Option (UInt32 × Mem) := match n with
  | 0 => none
  | n + 1 => b1 (ix 3 355) fun j4 => if (I (x0 + 1) j4) ≤ x2 then (b1 (ix 3 355) fun j5 => b1 (cN32 (FP.fdiv (FP.i2f x1) (FP.i2f (I (x0 + 1) j5)))) fun _ => some ((FP.fdiv (FP.i2f x1) (FP.i2f (I (x0 + 1) j5))), I)) else (b1 (f_X10_ofStall I x0 x2 2) fun v7 => l_X10_averageStars_13 n I x0 (x1 + v7) (x2 + 1))
theorem tl_X10_averageStars_13 (d : Nat) {K : Kt} (n : Nat) : ∀ {I : Mem} {x0 : Nat} (H0 : MK K x0) {x1 : Int32} {x2 : Int32} {v : UInt32} {I9 : Mem}, l_X10_averageStars_13 n I x0 x1 x2 = some (v, I9) → X (mX10_averageStars (d + 2)) cX10_averageStars 0 0 I K 13 [.ref x0, .int x1, .int x2] [] (Ro (.inl (some (.float v))) I9 K) := by
  induction n with
  | zero =>
    intro I x0 H0 x1 x2 v I9 h
    cases h
  | succ n ih =>
    intro I x0 H0 x1 x2 v I9 h
    unfold l_X10_averageStars_13 at h
    refine x_iloadn dX10_averageStars_13 rfl ?_
    refine x_aloadn dX10_averageStars_14 rfl ?_
    refine z_getR fs_X10_9 (MK.o H0) (MK.g1 H0) dX10_averageStars_15 ?_
    refine x_iconst 3 dX10_averageStars_18 rfl ?_
    obtain ⟨j4, hj4, h⟩ := b1_s h
    refine z_iald (MK.l1 H0) hj4 dX10_averageStars_19 ?_
    refine x_icmp_ge 38 dX10_averageStars_20 rfl (fun hc => ?_) (fun hc => ?_)
    · have h := ifT hc h
      refine x_iloadn dX10_averageStars_38 rfl ?_
      refine x_i2f dX10_averageStars_39 ?_
      refine x_aloadn dX10_averageStars_40 rfl ?_
      refine z_getR fs_X10_9 (MK.o H0) (MK.g1 H0) dX10_averageStars_41 ?_
      refine x_iconst 3 dX10_averageStars_44 rfl ?_
      obtain ⟨j5, hj5, h⟩ := b1_s h
      refine z_iald (MK.l1 H0) hj5 dX10_averageStars_45 ?_
      refine x_i2f dX10_averageStars_46 ?_
      obtain ⟨u6, hu6, h⟩ := b1_s h
      refine x_fdiv dX10_averageStars_47 (cN32_s hu6) ?_
      cases h
      exact x_fret rfl dX10_averageStars_48 ⟨rfl, rfl, rfl⟩
    have h := ifF hc h
    refine x_iloadn dX10_averageStars_23 rfl ?_
    refine x_aloadn dX10_averageStars_24 rfl ?_
    refine x_iloadn dX10_averageStars_25 rfl ?_
    refine x_iconst 2 dX10_averageStars_26 rfl ?_
    obtain ⟨v7, h8, h⟩ := b1_s h
    refine z_V1 [.int x2, .int 2] [.int x1] (cs_X10_356 _) (ci := 8) rfl (MK.o H0) (dep (show d + 1 + 0 + 1 ≤ (d + 2) from by omega) (Nat.le_of_ble_eq_true rfl)) dX10_averageStars_27 rfl rfl (Nat.le_of_ble_eq_true rfl) (c_X10_ofStall (d + 1) (K := K) (I := I) H0 h8) ?_
    refine x_iadd dX10_averageStars_30 ?_
    refine x_istoren dX10_averageStars_31 (Nat.le_of_ble_eq_true rfl) rfl rfl ?_
    refine z_iinc 1 (by decide) dX10_averageStars_32 rfl rfl rfl ?_
    refine x_goto 13 dX10_averageStars_35 rfl ?_
    exact ih H0 h
noncomputable def f_X10_averageStars (I : Mem) (x0 : Nat) : Option (UInt32 × Mem) := b2 (f_X10_mayLook I x0) fun v1 I2 => if v1 = 0 then (some (FP.fconst0, I2)) else (l_X10_averageStars_13 FU I2 x0 0 0)
theorem c_X10_averageStars (d : Nat) {K : Kt} {I : Mem} {x0 : Nat} (H0 : MK K x0) {v : UInt32} {I9 : Mem} (h : f_X10_averageStars I x0 = some (v, I9)) : Ct (mX10_averageStars (d + 2)) cX10_averageStars 0 0 [.ref x0] I K (Ro (.inl (some (.float v))) I9 K) := by
  refine Ct.of rfl pn_X10 (catR cat0) (Nat.le_of_ble_eq_true rfl) (show X _ _ _ _ _ _ 0 [.ref x0, .retAddr 0, .retAddr 0] [] _ from ?_)
  unfold f_X10_averageStars at h
  refine x_aloadn dX10_averageStars_0 rfl ?_
  obtain ⟨v1, I2, h3, h⟩ := b2_s h
  refine z_V1 [] [] (cs_X10_440 _) (ci := 8) rfl (MK.o H0) (dep (show d + 0 + 1 + 1 ≤ (d + 2) from by omega) (Nat.le_of_ble_eq_true rfl)) dX10_averageStars_1 rfl rfl (Nat.le_of_ble_eq_true rfl) (c_X10_mayLook d (K := K) (I := I) H0 h3) ?_
  refine x_if_ne 9 dX10_averageStars_4 rfl (fun hc => ?_) (fun hc => ?_)
  · have h := ifF hc h
    refine x_iconst 0 dX10_averageStars_9 rfl ?_
    refine x_istoren dX10_averageStars_10 (Nat.le_of_ble_eq_true rfl) rfl rfl ?_
    refine x_iconst 0 dX10_averageStars_11 rfl ?_
    refine x_istoren dX10_averageStars_12 (Nat.le_of_ble_eq_true rfl) rfl rfl ?_
    exact tl_X10_averageStars_13 d FU H0 h
  have h := ifT hc h
  refine x_fconst0 dX10_averageStars_7 ?_
  cases h
  exact x_fret rfl dX10_averageStars_8 ⟨rfl, rfl, rfl⟩
noncomputable def f_X9_averageWear (I : Mem) (x0 : Nat) : Option (Except String UInt64) := e1 (f_X9_loadedMarket I x0) (fun E => some (.error E)) fun v1 => b1 (ckE v1 (x0 + 37)) fun _ => b1 (f_X3_meanWear I (x0 + 37)) fun v4 => some (.ok v4)
theorem c_X9_averageWear (d : Nat) {K : Kt} {I : Mem} {x0 : Nat} (H0 : LW K x0) {x : Except String UInt64} (h : f_X9_averageWear I x0 = some x) : Ct (mX9_averageWear (d + 7)) cX9_averageWear (cst x) (cs6 x) [.ref x0] I K (Ro (rD x) I K) := by
  refine Ct.of rfl pn_X9 (catR cat0) (Nat.le_of_ble_eq_true rfl) (show X _ _ _ _ _ _ 0 [.ref x0] [] _ from ?_)
  unfold f_X9_averageWear at h
  refine x_aloadn dX9_averageWear_0 rfl ?_
  rcases e1_s h with ⟨v1, h2, h⟩ | ⟨E, h2, h⟩
  rotate_left
  · have hq := c_X9_loadedMarket d (K := K) (I := I) H0 h2
    cases h
    exact z_Ve [] [] (cs_X9_97 _) (ci := 7) rfl (LW.o H0) (dep (show d + 0 + 6 + 1 ≤ (d + 7) from by omega) (Nat.le_of_ble_eq_true rfl)) dX9_averageWear_1 rfl rfl (Nat.le_of_ble_eq_true rfl) hq rfl
  have hq := c_X9_loadedMarket d (K := K) (I := I) H0 h2
  refine z_V1 [] [] (cs_X9_97 _) (ci := 7) rfl (LW.o H0) (dep (show d + 0 + 6 + 1 ≤ (d + 7) from by omega) (Nat.le_of_ble_eq_true rfl)) dX9_averageWear_1 rfl rfl (Nat.le_of_ble_eq_true rfl) hq ?_
  obtain ⟨u3, hu3, h⟩ := b1_s h
  refine X.e2 (congrArg Value.ref (ckE_s hu3)) ?_
  obtain ⟨v4, h5, h⟩ := b1_s h
  refine z_V1 [] [] (cs_X9_132 _) (ci := 1) rfl (LM.o (LW.q H0)) (dep (show d + 5 + 1 + 1 ≤ (d + 7) from by omega) (Nat.le_of_ble_eq_true rfl)) dX9_averageWear_4 rfl rfl (Nat.le_of_ble_eq_true rfl) (c_X3_meanWear (d + 5) (K := K) (I := I) (LW.q H0) h5) ?_
  cases h
  exact x_dret rfl dX9_averageWear_7 ⟨rfl, rfl, rfl⟩
noncomputable def f_X9_averageStars (I : Mem) (x0 : Nat) : Option (Except String UInt32) := e1 (f_X9_loadedMarket I x0) (fun E => some (.error E)) fun v1 => b1 (ckE v1 (x0 + 37)) fun _ => b1 (f_X3_meanStars I (x0 + 37)) fun v4 => some (.ok v4)
theorem c_X9_averageStars (d : Nat) {K : Kt} {I : Mem} {x0 : Nat} (H0 : LW K x0) {x : Except String UInt32} (h : f_X9_averageStars I x0 = some x) : Ct (mX9_averageStars (d + 7)) cX9_averageStars (cst x) (cs6 x) [.ref x0] I K (Ro (rF x) I K) := by
  refine Ct.of rfl pn_X9 (catR cat0) (Nat.le_of_ble_eq_true rfl) (show X _ _ _ _ _ _ 0 [.ref x0] [] _ from ?_)
  unfold f_X9_averageStars at h
  refine x_aloadn dX9_averageStars_0 rfl ?_
  rcases e1_s h with ⟨v1, h2, h⟩ | ⟨E, h2, h⟩
  rotate_left
  · have hq := c_X9_loadedMarket d (K := K) (I := I) H0 h2
    cases h
    exact z_Ve [] [] (cs_X9_97 _) (ci := 7) rfl (LW.o H0) (dep (show d + 0 + 6 + 1 ≤ (d + 7) from by omega) (Nat.le_of_ble_eq_true rfl)) dX9_averageStars_1 rfl rfl (Nat.le_of_ble_eq_true rfl) hq rfl
  have hq := c_X9_loadedMarket d (K := K) (I := I) H0 h2
  refine z_V1 [] [] (cs_X9_97 _) (ci := 7) rfl (LW.o H0) (dep (show d + 0 + 6 + 1 ≤ (d + 7) from by omega) (Nat.le_of_ble_eq_true rfl)) dX9_averageStars_1 rfl rfl (Nat.le_of_ble_eq_true rfl) hq ?_
  obtain ⟨u3, hu3, h⟩ := b1_s h
  refine X.e2 (congrArg Value.ref (ckE_s hu3)) ?_
  obtain ⟨v4, h5, h⟩ := b1_s h
  refine z_V1 [] [] (cs_X9_136 _) (ci := 1) rfl (LM.o (LW.q H0)) (dep (show d + 6 + 0 + 1 ≤ (d + 7) from by omega) (Nat.le_of_ble_eq_true rfl)) dX9_averageStars_4 rfl rfl (Nat.le_of_ble_eq_true rfl) (c_X3_meanStars (d + 6) (K := K) (I := I) (LW.q H0) h5) ?_
  cases h
  exact x_fret rfl dX9_averageStars_7 ⟨rfl, rfl, rfl⟩
