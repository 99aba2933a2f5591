noncomputable def f_J0_isLatin1_aae02 (I : Mem) (x0 : Nat) : Option (Int32) := if (1 : Int32) = 0 then (some (0)) else (b1 (ckS x0) fun _ => if (0 : Int32) = 0 then (some (1)) else (some (0)))
theorem c_J0_isLatin1_aae02 (d : Nat) {K : Kt} {I : Mem} {x0 : Nat} {v : Int32} (h : f_J0_isLatin1_aae02 I x0 = some v) : Ct (mJ0_isLatin1_aae02 d) cJ0_isLatin1_aae02 0 0 [.ref (xE (100 + x0))] I K (Ro (.inl (some (.int v))) I K) := by
  refine Ct.of rfl pn_J0 (catR cat0) (Nat.le_of_ble_eq_true rfl) (show X _ _ _ _ _ _ 0 [.ref (xE (100 + x0))] [] _ from ?_)
  unfold f_J0_isLatin1_aae02 at h
  refine x_gsC (show Cond.fieldLink RJ0 38 RJ0 "COMPACT_STRINGS" "Z" ∈ wsG from inT3 47 rfl rfl) dJ0_isLatin1_aae02_0 ?_
  refine x_if_eq 17 dJ0_isLatin1_aae02_3 rfl (fun hc => ?_) (fun hc => ?_)
  · have h := ifT hc h
    refine x_iconst 0 dJ0_isLatin1_aae02_17 rfl ?_
    cases h
    exact x_zret rfl rfl dJ0_isLatin1_aae02_18 ⟨rfl, rfl, rfl⟩
  have h := ifF hc h
  refine x_aloadn dJ0_isLatin1_aae02_6 rfl ?_
  obtain ⟨u1, hu1, h⟩ := b1_s h
  refine x_fgC hu1 (show Cond.fieldLink RJ0 15 RJ0 "coder" "B" ∈ wsG from inT8 30 rfl rfl) dJ0_isLatin1_aae02_7 ?_
  refine x_if_ne 17 dJ0_isLatin1_aae02_10 rfl (fun hc => ?_) (fun hc => ?_)
  · have h := ifF hc h
    refine x_iconst 0 dJ0_isLatin1_aae02_17 rfl ?_
    cases h
    exact x_zret rfl rfl dJ0_isLatin1_aae02_18 ⟨rfl, rfl, rfl⟩
  have h := ifT hc h
  refine x_iconst 1 dJ0_isLatin1_aae02_13 rfl ?_
  refine x_goto 18 dJ0_isLatin1_aae02_14 rfl ?_
  cases h
  exact x_zret rfl rfl dJ0_isLatin1_aae02_18 ⟨rfl, rfl, rfl⟩
noncomputable def l_J3_checkIndex_8e157_9 (x0 : Int32) (x1 : Int32) : Option (Int32) := none
theorem tl_J3_checkIndex_8e157_9 (d : Nat) {K : Kt} : ∀ {I : Mem} {x0 : Int32} {x1 : Int32} {v : Int32}, l_J3_checkIndex_8e157_9 x0 x1 = some v → X (mJ3_checkIndex_8e157 d) cJ3_checkIndex_8e157 0 0 I K 9 [.int x0, .int x1, .retAddr 0] [] (Ro (.inl (some (.int v))) I K) := by
  intro I x0 x1 v h
  unfold l_J3_checkIndex_8e157_9 at h
  cases h
noncomputable def f_J3_checkIndex_8e157 (x0 : Int32) (x1 : Int32) : Option (Int32) := if x0 < 0 then (l_J3_checkIndex_8e157_9 x0 x1) else (if x0 < x1 then (some (x0)) else (l_J3_checkIndex_8e157_9 x0 x1))
theorem c_J3_checkIndex_8e157 (d : Nat) {K : Kt} {I : Mem} {x0 : Int32} {x1 : Int32} {x2 : Value} (H2 : oV x2) {v : Int32} (h : f_J3_checkIndex_8e157 x0 x1 = some v) : Ct (mJ3_checkIndex_8e157 d) cJ3_checkIndex_8e157 0 0 [.int x0, .int x1, x2] I K (Ro (.inl (some (.int v))) I K) := by
  refine Ct.of rfl pn_J3 (catI (catI (catO H2 cat0))) (Nat.le_of_ble_eq_true rfl) (show X _ _ _ _ _ _ 0 [.int x0, .int x1, x2] [] _ from ?_)
  unfold f_J3_checkIndex_8e157 at h
  refine x_iloadn dJ3_checkIndex_8e157_0 rfl ?_
  refine x_if_lt 9 dJ3_checkIndex_8e157_1 rfl (fun hc => ?_) (fun hc => ?_)
  · have h := ifT hc h
    exact X.forget (L' := [.int x0, .int x1, .retAddr 0]) ⟨Or.inl rfl, ⟨Or.inl rfl, ⟨Or.inr rfl, trivial⟩⟩⟩ (tl_J3_checkIndex_8e157_9 d h)
  have h := ifF hc h
  refine x_iloadn dJ3_checkIndex_8e157_4 rfl ?_
  refine x_iloadn dJ3_checkIndex_8e157_5 rfl ?_
  refine x_icmp_lt 16 dJ3_checkIndex_8e157_6 rfl (fun hc => ?_) (fun hc => ?_)
  · have h := ifT hc h
    refine x_iloadn dJ3_checkIndex_8e157_16 rfl ?_
    cases h
    exact x_iret rfl dJ3_checkIndex_8e157_17 ⟨rfl, rfl, rfl⟩
  have h := ifF hc h
  exact X.forget (L' := [.int x0, .int x1, .retAddr 0]) ⟨Or.inl rfl, ⟨Or.inl rfl, ⟨Or.inr rfl, trivial⟩⟩⟩ (tl_J3_checkIndex_8e157_9 d h)
noncomputable def f_J0_checkIndex_df160 (x0 : Int32) (x1 : Int32) : Option (Unit) := b1 (f_J3_checkIndex_8e157 x0 x1) fun v1 => some (())
theorem c_J0_checkIndex_df160 (d : Nat) {K : Kt} {I : Mem} {x0 : Int32} {x1 : Int32} {u9 : Unit} (h : f_J0_checkIndex_df160 x0 x1 = some u9) : Ct (mJ0_checkIndex_df160 (d + 1)) cJ0_checkIndex_df160 0 0 [.int x0, .int x1] I K (Ro (.inl none) I K) := by
  refine Ct.of rfl pn_J0 (catI (catI cat0)) (Nat.le_of_ble_eq_true rfl) (show X _ _ _ _ _ _ 0 [.int x0, .int x1] [] _ from ?_)
  unfold f_J0_checkIndex_df160 at h
  refine x_iloadn dJ0_checkIndex_df160_0 rfl ?_
  refine x_iloadn dJ0_checkIndex_df160_1 rfl ?_
  refine x_gsF (show Cond.fieldLink RJ0 1053 "jdk/internal/util/Preconditions" "SIOOBE_FORMATTER" "Ljava/util/function/BiFunction;" ∈ wsG from inT3 62 rfl rfl) dJ0_checkIndex_df160_2 (fun vo hvo => ?_)
  obtain ⟨v1, h2, h⟩ := b1_s h
  refine z_S1 [.int x0, .int x1, vo] [] (cs_J0_1059 _) (dep (show d + 0 + 0 + 1 ≤ (d + 1) from by omega) (Nat.le_of_ble_eq_true rfl)) dJ0_checkIndex_df160_5 rfl rfl (Nat.le_of_ble_eq_true rfl) (c_J3_checkIndex_8e157 d (K := K) (I := I) hvo h2) ?_
  refine x_pop dJ0_checkIndex_df160_8 rfl ?_
  cases h
  exact x_vret rfl dJ0_checkIndex_df160_9 ⟨rfl, rfl, rfl⟩
noncomputable def f_J1_charAt_3b067 (I : Mem) (x0 : Nat) (x1 : Int32) : Option (Int32) := b1 (ckS x0) fun _ => b1 (f_J0_checkIndex_df160 x1 (nI (lenT.getD x0 0))) fun u2 => b1 (ckS x0) fun _ => b1 (ix x1 (lenT.getD x0 0)) fun j5 => b1 (cN .char (((((bytT.getD x0 []).getD j5 0) &&& 255)).toUInt32 % 65536).toInt32) fun _ => some ((((((bytT.getD x0 []).getD j5 0) &&& 255)).toUInt32 % 65536).toInt32)
theorem c_J1_charAt_3b067 (d : Nat) {K : Kt} {I : Mem} {x0 : Nat} {x1 : Int32} {v : Int32} (h : f_J1_charAt_3b067 I x0 x1 = some v) : Ct (mJ1_charAt_3b067 (d + 2)) cJ1_charAt_3b067 0 0 [.ref (xE (200 + x0)), .int x1] I K (Ro (.inl (some (.int v))) I K) := by
  refine Ct.of rfl pn_J1 (catR (catI cat0)) (Nat.le_of_ble_eq_true rfl) (show X _ _ _ _ _ _ 0 [.ref (xE (200 + x0)), .int x1] [] _ from ?_)
  unfold f_J1_charAt_3b067 at h
  refine x_iloadn dJ1_charAt_3b067_0 rfl ?_
  refine x_aloadn dJ1_charAt_3b067_1 rfl ?_
  obtain ⟨u1, hu1, h⟩ := b1_s h
  refine x_flen hu1 dJ1_charAt_3b067_2 ?_
  obtain ⟨u2, h3, h⟩ := b1_s h
  refine z_S0 [.int x1, .int (nI (lenT.getD x0 0))] [] (cs_J1_9 _) (dep (show d + 0 + 1 + 1 ≤ (d + 2) from by omega) (Nat.le_of_ble_eq_true rfl)) dJ1_charAt_3b067_3 rfl rfl (Nat.le_of_ble_eq_true rfl) (c_J0_checkIndex_df160 d (K := K) (I := I) h3) ?_
  refine x_aloadn dJ1_charAt_3b067_6 rfl ?_
  refine x_iloadn dJ1_charAt_3b067_7 rfl ?_
  obtain ⟨u4, hu4, h⟩ := b1_s h
  obtain ⟨j5, hj5, h⟩ := b1_s h
  refine x_fbald hu4 hj5 dJ1_charAt_3b067_8 ?_
  refine x_sipush 255 dJ1_charAt_3b067_9 rfl ?_
  refine x_iand dJ1_charAt_3b067_12 ?_
  refine x_i2c dJ1_charAt_3b067_13 ?_
  obtain ⟨u6, hu6, h⟩ := b1_s h
  cases h
  exact x_zret rfl (cN_s rfl hu6) dJ1_charAt_3b067_14 ⟨rfl, rfl, rfl⟩
noncomputable def f_J0_charAt_5068e (I : Mem) (x0 : Nat) (x1 : Int32) : Option (Int32) := b1 (ckS x0) fun _ => b1 (f_J0_isLatin1_aae02 I x0) fun v1 => if v1 = 0 then (b1 (ckS x0) fun _ => none) else (b1 (ckS x0) fun _ => b1 (f_J1_charAt_3b067 I x0 x1) fun v5 => b1 (cN .char v5) fun _ => some (v5))
theorem c_J0_charAt_5068e (d : Nat) {K : Kt} {I : Mem} {x0 : Nat} {x1 : Int32} {v : Int32} (h : f_J0_charAt_5068e I x0 x1 = some v) : Ct (mJ0_charAt_5068e (d + 3)) cJ0_charAt_5068e 0 0 [.ref (xE (100 + x0)), .int x1] I K (Ro (.inl (some (.int v))) I K) := by
  refine Ct.of rfl pn_J0 (catR (catI cat0)) (Nat.le_of_ble_eq_true rfl) (show X _ _ _ _ _ _ 0 [.ref (xE (100 + x0)), .int x1] [] _ from ?_)
  unfold f_J0_charAt_5068e at h
  refine x_aloadn dJ0_charAt_5068e_0 rfl ?_
  obtain ⟨u8, hu8, h⟩ := b1_s h
  obtain ⟨v1, h2, h⟩ := b1_s h
  refine z_F1 [] [] (cs_J0_492 _) rfl (ckS_s hu8) (dep (show d + 2 + 0 + 1 ≤ (d + 3) from by omega) (Nat.le_of_ble_eq_true rfl)) dJ0_charAt_5068e_1 rfl rfl (Nat.le_of_ble_eq_true rfl) (c_J0_isLatin1_aae02 (d + 2) (K := K) (I := I) h2) ?_
  refine x_if_eq 16 dJ0_charAt_5068e_4 rfl (fun hc => ?_) (fun hc => ?_)
  · have h := ifT hc h
    refine x_aloadn dJ0_charAt_5068e_16 rfl ?_
    obtain ⟨u3, hu3, h⟩ := b1_s h
    refine x_fgV hu3 (show Cond.fieldLink RJ0 9 RJ0 "value" "[B" ∈ wsG from inT8 29 rfl rfl) dJ0_charAt_5068e_17 ?_
    cases h
  have h := ifF hc h
  refine x_aloadn dJ0_charAt_5068e_7 rfl ?_
  obtain ⟨u4, hu4, h⟩ := b1_s h
  refine x_fgV hu4 (show Cond.fieldLink RJ0 9 RJ0 "value" "[B" ∈ wsG from inT8 29 rfl rfl) dJ0_charAt_5068e_8 ?_
  refine x_iloadn dJ0_charAt_5068e_11 rfl ?_
  obtain ⟨v5, h6, h⟩ := b1_s h
  refine z_S1 [.ref (xE (200 + x0)), .int x1] [] (cs_J0_495 _) (dep (show d + 0 + 2 + 1 ≤ (d + 3) from by omega) (Nat.le_of_ble_eq_true rfl)) dJ0_charAt_5068e_12 rfl rfl (Nat.le_of_ble_eq_true rfl) (c_J1_charAt_3b067 d (K := K) (I := I) h6) ?_
  obtain ⟨u7, hu7, h⟩ := b1_s h
  cases h
  exact x_zret rfl (cN_s rfl hu7) dJ0_charAt_5068e_15 ⟨rfl, rfl, rfl⟩
noncomputable def f_J0_coder_7d493 (I : Mem) (x0 : Nat) : Option (Int32) := if (1 : Int32) = 0 then (b1 (cN .byte 1) fun _ => some (1)) else (b1 (ckS x0) fun _ => some (0))
theorem c_J0_coder_7d493 (d : Nat) {K : Kt} {I : Mem} {x0 : Nat} {v : Int32} (h : f_J0_coder_7d493 I x0 = some v) : Ct (mJ0_coder_7d493 d) cJ0_coder_7d493 0 0 [.ref (xE (100 + x0))] I K (Ro (.inl (some (.int v))) I K) := by
  refine Ct.of rfl pn_J0 (catR cat0) (Nat.le_of_ble_eq_true rfl) (show X _ _ _ _ _ _ 0 [.ref (xE (100 + x0))] [] _ from ?_)
  unfold f_J0_coder_7d493 at h
  refine x_gsC (show Cond.fieldLink RJ0 38 RJ0 "COMPACT_STRINGS" "Z" ∈ wsG from inT3 47 rfl rfl) dJ0_coder_7d493_0 ?_
  refine x_if_eq 13 dJ0_coder_7d493_3 rfl (fun hc => ?_) (fun hc => ?_)
  · have h := ifT hc h
    refine x_iconst 1 dJ0_coder_7d493_13 rfl ?_
    obtain ⟨u1, hu1, h⟩ := b1_s h
    cases h
    exact x_zret rfl (cN_s rfl hu1) dJ0_coder_7d493_14 ⟨rfl, rfl, rfl⟩
  have h := ifF hc h
  refine x_aloadn dJ0_coder_7d493_6 rfl ?_
  obtain ⟨u2, hu2, h⟩ := b1_s h
  refine x_fgC hu2 (show Cond.fieldLink RJ0 15 RJ0 "coder" "B" ∈ wsG from inT8 30 rfl rfl) dJ0_coder_7d493_7 ?_
  refine x_goto 14 dJ0_coder_7d493_10 rfl ?_
  cases h
  exact x_zret rfl rfl dJ0_coder_7d493_14 ⟨rfl, rfl, rfl⟩
noncomputable def f_J0_length_8abf5 (I : Mem) (x0 : Nat) : Option (Int32) := b1 (ckS x0) fun _ => b1 (ckS x0) fun _ => b1 (ckS x0) fun _ => b1 (f_J0_coder_7d493 I x0) fun v3 => some (((nI (lenT.getD x0 0)) >>> (v3 &&& 31)))
theorem c_J0_length_8abf5 (d : Nat) {K : Kt} {I : Mem} {x0 : Nat} {v : Int32} (h : f_J0_length_8abf5 I x0 = some v) : Ct (mJ0_length_8abf5 (d + 1)) cJ0_length_8abf5 0 0 [.ref (xE (100 + x0))] I K (Ro (.inl (some (.int v))) I K) := by
  refine Ct.of rfl pn_J0 (catR cat0) (Nat.le_of_ble_eq_true rfl) (show X _ _ _ _ _ _ 0 [.ref (xE (100 + x0))] [] _ from ?_)
  unfold f_J0_length_8abf5 at h
  refine x_aloadn dJ0_length_8abf5_0 rfl ?_
  obtain ⟨u1, hu1, h⟩ := b1_s h
  refine x_fgV hu1 (show Cond.fieldLink RJ0 9 RJ0 "value" "[B" ∈ wsG from inT8 29 rfl rfl) dJ0_length_8abf5_1 ?_
  obtain ⟨u2, hu2, h⟩ := b1_s h
  refine x_flen hu2 dJ0_length_8abf5_4 ?_
  refine x_aloadn dJ0_length_8abf5_5 rfl ?_
  obtain ⟨u5, hu5, h⟩ := b1_s h
  obtain ⟨v3, h4, h⟩ := b1_s h
  refine z_F1 [] [.int (nI (lenT.getD x0 0))] (cs_J0_335 _) rfl (ckS_s hu5) (dep (show d + 0 + 0 + 1 ≤ (d + 1) from by omega) (Nat.le_of_ble_eq_true rfl)) dJ0_length_8abf5_6 rfl rfl (Nat.le_of_ble_eq_true rfl) (c_J0_coder_7d493 d (K := K) (I := I) h4) ?_
  refine x_ishr dJ0_length_8abf5_9 ?_
  cases h
  exact x_iret rfl dJ0_length_8abf5_10 ⟨rfl, rfl, rfl⟩
