noncomputable def l_J8_vectorizedMismatch_456ae_11 (m9 : Nat) (I : Mem) (K : Kt) (x0 : Nat) (x1 : Int64) (x3 : Nat) (x4 : Int64) (x6 : Int32) (x7 : Int32) (x8 : Int32) (x9 : Int32) : Option (Int32) := match m9 with
  | 0 => none
  | m9 + 1 => if (x6 >>> (x8 &&& 31)) ≤ x9 then (if 2 ≤ x7 then (some (((x6 - (x9 <<< (x8 &&& 31))) ^^^ (-1)))) else (if (x6 - (x9 <<< (x8 &&& 31))) < (1 <<< ((2 - x7) &&& 31)) then (some (((x6 - (x9 <<< (x8 &&& 31))) ^^^ (-1)))) else (none))) else (b1 (f_Jx9a822_getLongUnaligned_f02c6 I K x0 (x1 + ((x9 : Int32).toInt64 <<< ((3 : Int32).toInt64 &&& 63)))) fun v2 => b1 (f_Jx9a822_getLongUnaligned_f02c6 I K x3 (x4 + ((x9 : Int32).toInt64 <<< ((3 : Int32).toInt64 &&& 63)))) fun v5 => if (lg_cmp v2 v5) = 0 then (l_J8_vectorizedMismatch_456ae_11 m9 I K x0 x1 x3 x4 x6 x7 x8 (x9 + 1)) else (none))
theorem tl_J8_vectorizedMismatch_456ae_11 (d : Nat) (m9 : Nat) : ∀ {I : Mem} {K : Kt} {x0 : Nat} {x1 : Int64} {x3 : Nat} {x4 : Int64} {x6 : Int32} {x7 : Int32} {x8 : Int32} {x9 : Int32} {v : Int32}, l_J8_vectorizedMismatch_456ae_11 m9 I K x0 x1 x3 x4 x6 x7 x8 x9 = some v → X (mJ8_vectorizedMismatch_456ae (d + 3)) cJ8_vectorizedMismatch_456ae 0 0 I K 11 [.ref x0, .long x1, .retAddr 0, .ref x3, .long x4, .retAddr 0, .int x6, .int x7, .int x8, .int x9, .retAddr 0, .retAddr 0, .retAddr 0, .retAddr 0, .retAddr 0, .retAddr 0, .retAddr 0, .retAddr 0, .retAddr 0] [] (Ro (.inl (some (.int v))) I K) := by
  induction m9 with
  | zero =>
    intro I K x0 x1 x3 x4 x6 x7 x8 x9 v h
    cases h
  | succ m9 ih =>
    intro I K x0 x1 x3 x4 x6 x7 x8 x9 v h
    unfold l_J8_vectorizedMismatch_456ae_11 at h
    refine x_iload dJ8_vectorizedMismatch_456ae_11 rfl ?_
    refine x_iload dJ8_vectorizedMismatch_456ae_13 rfl ?_
    refine x_iload dJ8_vectorizedMismatch_456ae_15 rfl ?_
    refine x_ishr dJ8_vectorizedMismatch_456ae_17 ?_
    refine x_icmp_ge 122 dJ8_vectorizedMismatch_456ae_18 rfl (fun hc => ?_) (fun hc => ?_)
    · have h := ifT hc h
      refine x_iload dJ8_vectorizedMismatch_456ae_122 rfl ?_
      refine x_iload dJ8_vectorizedMismatch_456ae_124 rfl ?_
      refine x_iload dJ8_vectorizedMismatch_456ae_126 rfl ?_
      refine x_ishl dJ8_vectorizedMismatch_456ae_128 ?_
      refine x_isub dJ8_vectorizedMismatch_456ae_129 ?_
      refine x_istore dJ8_vectorizedMismatch_456ae_130 (Nat.le_of_ble_eq_true rfl) rfl rfl ?_
      refine x_iload dJ8_vectorizedMismatch_456ae_132 rfl ?_
      refine x_gsI (show Cond.fieldLink RJ8 51 "jdk/internal/util/ArraysSupport" "LOG2_ARRAY_INT_INDEX_SCALE" "I" ∈ wsG from inT8 214 rfl rfl) dJ8_vectorizedMismatch_456ae_134 ?_
      refine x_icmp_ge 263 dJ8_vectorizedMismatch_456ae_137 rfl (fun hc => ?_) (fun hc => ?_)
      · have h := ifT hc h
        refine x_iload dJ8_vectorizedMismatch_456ae_263 rfl ?_
        refine x_iconst (-1) dJ8_vectorizedMismatch_456ae_265 rfl ?_
        refine x_ixor dJ8_vectorizedMismatch_456ae_266 ?_
        cases h
        exact x_iret rfl dJ8_vectorizedMismatch_456ae_267 ⟨rfl, rfl, rfl⟩
      have h := ifF hc h
      refine x_iconst 1 dJ8_vectorizedMismatch_456ae_140 rfl ?_
      refine x_gsI (show Cond.fieldLink RJ8 51 "jdk/internal/util/ArraysSupport" "LOG2_ARRAY_INT_INDEX_SCALE" "I" ∈ wsG from inT8 214 rfl rfl) dJ8_vectorizedMismatch_456ae_141 ?_
      refine x_iload dJ8_vectorizedMismatch_456ae_144 rfl ?_
      refine x_isub dJ8_vectorizedMismatch_456ae_146 ?_
      refine x_ishl dJ8_vectorizedMismatch_456ae_147 ?_
      refine x_istore dJ8_vectorizedMismatch_456ae_148 (Nat.le_of_ble_eq_true rfl) rfl rfl ?_
      refine x_iload dJ8_vectorizedMismatch_456ae_150 rfl ?_
      refine x_iload dJ8_vectorizedMismatch_456ae_152 rfl ?_
      refine x_icmp_lt 258 dJ8_vectorizedMismatch_456ae_154 rfl (fun hc => ?_) (fun hc => ?_)
      · have h := ifT hc h
        refine x_iload dJ8_vectorizedMismatch_456ae_258 rfl ?_
        refine x_iconst (-1) dJ8_vectorizedMismatch_456ae_260 rfl ?_
        refine x_ixor dJ8_vectorizedMismatch_456ae_261 ?_
        cases h
        exact x_iret rfl dJ8_vectorizedMismatch_456ae_262 ⟨rfl, rfl, rfl⟩
      have h := ifF hc h
      cases h
    have h := ifF hc h
    refine x_iload dJ8_vectorizedMismatch_456ae_21 rfl ?_
    refine x_i2l dJ8_vectorizedMismatch_456ae_23 ?_
    refine x_gsL (show Cond.fieldLink RJ8 20 "jdk/internal/util/ArraysSupport" "LOG2_ARRAY_LONG_INDEX_SCALE" "I" ∈ wsG from inT8 138 rfl rfl) dJ8_vectorizedMismatch_456ae_24 ?_
    refine x_lshl dJ8_vectorizedMismatch_456ae_27 ?_
    refine x_lstore dJ8_vectorizedMismatch_456ae_28 (Nat.le_of_ble_eq_true rfl) rfl rfl ?_
    refine x_gsU (show Cond.fieldLink RJ8 26 "jdk/internal/util/ArraysSupport" "U" "Ljdk/internal/misc/Unsafe;" ∈ wsG from inT8 143 rfl rfl) dJ8_vectorizedMismatch_456ae_30 ?_
    refine x_aloadn dJ8_vectorizedMismatch_456ae_33 rfl ?_
    refine x_lloadn dJ8_vectorizedMismatch_456ae_34 rfl ?_
    refine x_lload dJ8_vectorizedMismatch_456ae_35 rfl ?_
    refine x_ladd dJ8_vectorizedMismatch_456ae_37 ?_
    obtain ⟨v2, hq3, h⟩ := b1_s h
    have hq := c_Jx9a822_getLongUnaligned_f02c6 d hq3
    refine X.c0 (z_Ufcall [.ref x0, .long (x1 + ((x9 : Int32).toInt64 <<< ((3 : Int32).toInt64 &&& 63)))] [] (cs_J8_30 _) rfl (dep (show d + 0 + 2 + 1 ≤ (d + 3) from by omega) (Nat.le_of_ble_eq_true rfl)) dJ8_vectorizedMismatch_456ae_38 rfl rfl (Nat.le_of_ble_eq_true rfl) hq ?_)
    refine x_lstore dJ8_vectorizedMismatch_456ae_41 (Nat.le_of_ble_eq_true rfl) rfl rfl ?_
    refine x_gsU (show Cond.fieldLink RJ8 26 "jdk/internal/util/ArraysSupport" "U" "Ljdk/internal/misc/Unsafe;" ∈ wsG from inT8 143 rfl rfl) dJ8_vectorizedMismatch_456ae_43 ?_
    refine x_aloadn dJ8_vectorizedMismatch_456ae_46 rfl ?_
    refine x_lload dJ8_vectorizedMismatch_456ae_47 rfl ?_
    refine x_lload dJ8_vectorizedMismatch_456ae_49 rfl ?_
    refine x_ladd dJ8_vectorizedMismatch_456ae_51 ?_
    obtain ⟨v5, hq6, h⟩ := b1_s h
    have hq := c_Jx9a822_getLongUnaligned_f02c6 d hq6
    refine X.c0 (z_Ufcall [.ref x3, .long (x4 + ((x9 : Int32).toInt64 <<< ((3 : Int32).toInt64 &&& 63)))] [] (cs_J8_30 _) rfl (dep (show d + 0 + 2 + 1 ≤ (d + 3) from by omega) (Nat.le_of_ble_eq_true rfl)) dJ8_vectorizedMismatch_456ae_52 rfl rfl (Nat.le_of_ble_eq_true rfl) hq ?_)
    refine x_lstore dJ8_vectorizedMismatch_456ae_55 (Nat.le_of_ble_eq_true rfl) rfl rfl ?_
    refine x_lload dJ8_vectorizedMismatch_456ae_57 rfl ?_
    refine x_lload dJ8_vectorizedMismatch_456ae_59 rfl ?_
    refine x_lcmp dJ8_vectorizedMismatch_456ae_61 ?_
    refine x_if_eq 116 dJ8_vectorizedMismatch_456ae_62 rfl (fun hc => ?_) (fun hc => ?_)
    · have h := ifT hc h
      refine z_iinc 1 (by decide) dJ8_vectorizedMismatch_456ae_116 rfl rfl rfl ?_
      refine x_goto 11 dJ8_vectorizedMismatch_456ae_119 rfl ?_
      exact X.forget (L' := [.ref x0, .long x1, .retAddr 0, .ref x3, .long x4, .retAddr 0, .int x6, .int x7, .int x8, .int (x9 + 1), .retAddr 0, .retAddr 0, .retAddr 0, .retAddr 0, .retAddr 0, .retAddr 0, .retAddr 0, .retAddr 0, .retAddr 0]) ⟨Or.inl rfl, ⟨Or.inl rfl, ⟨Or.inl rfl, ⟨Or.inl rfl, ⟨Or.inl rfl, ⟨Or.inl rfl, ⟨Or.inl rfl, ⟨Or.inl rfl, ⟨Or.inl rfl, ⟨Or.inl rfl, ⟨Or.inr rfl, ⟨Or.inl rfl, ⟨Or.inr rfl, ⟨Or.inl rfl, ⟨Or.inr rfl, ⟨Or.inl rfl, ⟨Or.inl rfl, ⟨Or.inl rfl, ⟨Or.inl rfl, trivial⟩⟩⟩⟩⟩⟩⟩⟩⟩⟩⟩⟩⟩⟩⟩⟩⟩⟩⟩ (ih h)
    have h := ifF hc h
    cases h
noncomputable def f_J8_vectorizedMismatch_456ae (I : Mem) (K : Kt) (x0 : Nat) (x1 : Int64) (x2 : Nat) (x3 : Int64) (x4 : Int32) (x5 : Int32) : Option (Int32) := l_J8_vectorizedMismatch_456ae_11 FU I K x0 x1 x2 x3 x4 x5 (3 - x5) 0
theorem c_J8_vectorizedMismatch_456ae (d : Nat) {K : Kt} {I : Mem} {x0 : Nat} {x1 : Int64} {x2 : Nat} {x3 : Int64} {x4 : Int32} {x5 : Int32} {v : Int32} (h : f_J8_vectorizedMismatch_456ae I K x0 x1 x2 x3 x4 x5 = some v) : Ct (mJ8_vectorizedMismatch_456ae (d + 3)) cJ8_vectorizedMismatch_456ae 0 0 [.ref x0, .long x1, .ref x2, .long x3, .int x4, .int x5] I K (Ro (.inl (some (.int v))) I K) := by
  refine Ct.of2 rfl pn_J8 (Nat.le_of_ble_eq_true rfl) (show X (mJ8_vectorizedMismatch_456ae (d + 3)) cJ8_vectorizedMismatch_456ae 0 0 I K 0 [.ref x0, .long x1, .retAddr 0, .ref x2, .long x3, .retAddr 0, .int x4, .int x5, .retAddr 0, .retAddr 0, .retAddr 0, .retAddr 0, .retAddr 0, .retAddr 0, .retAddr 0, .retAddr 0, .retAddr 0, .retAddr 0, .retAddr 0] [] (Ro (.inl (some (.int v))) I K) from ?_)
  unfold f_J8_vectorizedMismatch_456ae at h
  refine x_gsL (show Cond.fieldLink RJ8 20 "jdk/internal/util/ArraysSupport" "LOG2_ARRAY_LONG_INDEX_SCALE" "I" ∈ wsG from inT8 138 rfl rfl) dJ8_vectorizedMismatch_456ae_0 ?_
  refine x_iload dJ8_vectorizedMismatch_456ae_3 rfl ?_
  refine x_isub dJ8_vectorizedMismatch_456ae_5 ?_
  refine x_istore dJ8_vectorizedMismatch_456ae_6 (Nat.le_of_ble_eq_true rfl) rfl rfl ?_
  refine x_iconst 0 dJ8_vectorizedMismatch_456ae_8 rfl ?_
  refine x_istore dJ8_vectorizedMismatch_456ae_9 (Nat.le_of_ble_eq_true rfl) rfl rfl ?_
  exact (tl_J8_vectorizedMismatch_456ae_11 d FU h)
noncomputable def f_J8_mismatch_974f6 (I : Mem) (K : Kt) (x0 : Nat) (x1 : Nat) (x2 : Int32) : Option (Int32) := if x2 = 0 then (some ((-1))) else (b1 (cA K 103 x0) fun m2 => b1 (ix 0 m2) fun j1 => b1 (cA K 103 x1) fun m6 => b1 (ix 0 m6) fun j5 => if (lg_cmp (kJ K x0 j1) (kJ K x1 j5)) = 0 then (b1 (f_J8_vectorizedMismatch_456ae I K x0 (16 : Int32).toInt64 x1 (16 : Int32).toInt64 x2 3) fun v9 => if v9 < 0 then (some ((-1))) else (some (v9))) else (some (0)))
theorem c_J8_mismatch_974f6 (d : Nat) {K : Kt} {I : Mem} {x0 : Nat} {x1 : Nat} {x2 : Int32} {v : Int32} (h : f_J8_mismatch_974f6 I K x0 x1 x2 = some v) : Ct (mJ8_mismatch_974f6 (d + 4)) cJ8_mismatch_974f6 0 0 [.ref x0, .ref x1, .int x2] I K (Ro (.inl (some (.int v))) I K) := by
  refine Ct.of rfl pn_J8 (catR (catR (catI cat0))) (Nat.le_of_ble_eq_true rfl) (show X (mJ8_mismatch_974f6 (d + 4)) cJ8_mismatch_974f6 0 0 I K 0 [.ref x0, .ref x1, .int x2, .retAddr 0] [] (Ro (.inl (some (.int v))) I K) from ?_)
  unfold f_J8_mismatch_974f6 at h
  refine x_iloadn dJ8_mismatch_974f6_0 rfl ?_
  refine x_if_ne 6 dJ8_mismatch_974f6_1 rfl (fun hc => ?_) (fun hc => ?_)
  · have h := ifF hc h
    refine x_aloadn dJ8_mismatch_974f6_6 rfl ?_
    refine x_iconst 0 dJ8_mismatch_974f6_7 rfl ?_
    obtain ⟨m2, hq3, h⟩ := b1_s h
    obtain ⟨j1, hq4, h⟩ := b1_s h
    refine x_lald (cA_s hq3).1 (cA_s hq3).2 (ix_s hq4).1 (ix_s hq4).2 dJ8_mismatch_974f6_8 ?_
    refine x_aloadn dJ8_mismatch_974f6_9 rfl ?_
    refine x_iconst 0 dJ8_mismatch_974f6_10 rfl ?_
    obtain ⟨m6, hq7, h⟩ := b1_s h
    obtain ⟨j5, hq8, h⟩ := b1_s h
    refine x_lald (cA_s hq7).1 (cA_s hq7).2 (ix_s hq8).1 (ix_s hq8).2 dJ8_mismatch_974f6_11 ?_
    refine x_lcmp dJ8_mismatch_974f6_12 ?_
    refine x_if_eq 18 dJ8_mismatch_974f6_13 rfl (fun hc => ?_) (fun hc => ?_)
    · have h := ifT hc h
      refine x_aloadn dJ8_mismatch_974f6_18 rfl ?_
      refine x_gsO (show Cond.fieldLink RJ8 170 "jdk/internal/misc/Unsafe" "ARRAY_LONG_BASE_OFFSET" "I" ∈ wsG from inT8 136 rfl rfl) dJ8_mismatch_974f6_19 ?_
      refine x_i2l dJ8_mismatch_974f6_22 ?_
      refine x_aloadn dJ8_mismatch_974f6_23 rfl ?_
      refine x_gsO (show Cond.fieldLink RJ8 170 "jdk/internal/misc/Unsafe" "ARRAY_LONG_BASE_OFFSET" "I" ∈ wsG from inT8 136 rfl rfl) dJ8_mismatch_974f6_24 ?_
      refine x_i2l dJ8_mismatch_974f6_27 ?_
      refine x_iloadn dJ8_mismatch_974f6_28 rfl ?_
      refine x_gsL (show Cond.fieldLink RJ8 20 "jdk/internal/util/ArraysSupport" "LOG2_ARRAY_LONG_INDEX_SCALE" "I" ∈ wsG from inT8 138 rfl rfl) dJ8_mismatch_974f6_29 ?_
      obtain ⟨v9, hq10, h⟩ := b1_s h
      have hq := c_J8_vectorizedMismatch_456ae d hq10
      refine X.c0 (z_Scall [.ref x0, .long (16 : Int32).toInt64, .ref x1, .long (16 : Int32).toInt64, .int x2, .int 3] [] (cs_J8_122 _) (dep (show d + 0 + 3 + 1 ≤ (d + 4) from by omega) (Nat.le_of_ble_eq_true rfl)) dJ8_mismatch_974f6_32 rfl rfl (Nat.le_of_ble_eq_true rfl) hq ?_)
      refine x_istoren dJ8_mismatch_974f6_35 (Nat.le_of_ble_eq_true rfl) rfl rfl ?_
      refine x_iloadn dJ8_mismatch_974f6_36 rfl ?_
      refine x_if_lt 44 dJ8_mismatch_974f6_37 rfl (fun hc => ?_) (fun hc => ?_)
      · have h := ifT hc h
        refine x_iconst (-1) dJ8_mismatch_974f6_44 rfl ?_
        cases h
        exact x_iret rfl dJ8_mismatch_974f6_45 ⟨rfl, rfl, rfl⟩
      have h := ifF hc h
      refine x_iloadn dJ8_mismatch_974f6_40 rfl ?_
      refine x_goto 45 dJ8_mismatch_974f6_41 rfl ?_
      cases h
      exact x_iret rfl dJ8_mismatch_974f6_45 ⟨rfl, rfl, rfl⟩
    have h := ifF hc h
    refine x_iconst 0 dJ8_mismatch_974f6_16 rfl ?_
    cases h
    exact x_iret rfl dJ8_mismatch_974f6_17 ⟨rfl, rfl, rfl⟩
  have h := ifT hc h
  refine x_iconst (-1) dJ8_mismatch_974f6_4 rfl ?_
  cases h
  exact x_iret rfl dJ8_mismatch_974f6_5 ⟨rfl, rfl, rfl⟩
noncomputable def f_J7_equals_331f6 (I : Mem) (K : Kt) (x0 : Nat) (x1 : Nat) : Option (Int32) := b1 (cNe K x0 x1) fun _ => b1 (cLen K x0) fun m2 => b1 (cLen K x1) fun m4 => if (nI m4) = (nI m2) then (b1 (f_J8_mismatch_974f6 I K x0 x1 (nI m2)) fun v6 => if 0 ≤ v6 then (some (0)) else (some (1))) else (some (0))
theorem c_J7_equals_331f6 (d : Nat) {K : Kt} {I : Mem} {x0 : Nat} {x1 : Nat} {v : Int32} (h : f_J7_equals_331f6 I K x0 x1 = some v) : Ct (mJ7_equals_331f6 (d + 5)) cJ7_equals_331f6 0 0 [.ref x0, .ref x1] I K (Ro (.inl (some (.int v))) I K) := by
  refine Ct.of rfl pn_J7 (catR (catR cat0)) (Nat.le_of_ble_eq_true rfl) (show X (mJ7_equals_331f6 (d + 5)) cJ7_equals_331f6 0 0 I K 0 [.ref x0, .ref x1, .retAddr 0] [] (Ro (.inl (some (.int v))) I K) from ?_)
  unfold f_J7_equals_331f6 at h
  refine x_aloadn dJ7_equals_331f6_0 rfl ?_
  refine x_aloadn dJ7_equals_331f6_1 rfl ?_
  obtain ⟨u1, hq8, h⟩ := b1_s h
  refine x_acmpD 7 (cNe_s hq8).1 (cNe_s hq8).2.1 (cNe_s hq8).2.2 dJ7_equals_331f6_2 rfl ?_
  refine x_aloadn dJ7_equals_331f6_7 rfl ?_
  refine x_ifnull dJ7_equals_331f6_8 ?_
  refine x_aloadn dJ7_equals_331f6_11 rfl ?_
  refine x_ifnonnull 17 dJ7_equals_331f6_12 rfl ?_
  refine x_aloadn dJ7_equals_331f6_17 rfl ?_
  obtain ⟨m2, hq3, h⟩ := b1_s h
  refine z_lenD hq3 dJ7_equals_331f6_18 ?_
  refine x_istoren dJ7_equals_331f6_19 (Nat.le_of_ble_eq_true rfl) rfl rfl ?_
  refine x_aloadn dJ7_equals_331f6_20 rfl ?_
  obtain ⟨m4, hq5, h⟩ := b1_s h
  refine z_lenD hq5 dJ7_equals_331f6_21 ?_
  refine x_iloadn dJ7_equals_331f6_22 rfl ?_
  refine x_icmp_eq 28 dJ7_equals_331f6_23 rfl (fun hc => ?_) (fun hc => ?_)
  · have h := ifT hc h
    refine x_aloadn dJ7_equals_331f6_28 rfl ?_
    refine x_aloadn dJ7_equals_331f6_29 rfl ?_
    refine x_iloadn dJ7_equals_331f6_30 rfl ?_
    obtain ⟨v6, hq7, h⟩ := b1_s h
    have hq := c_J8_mismatch_974f6 d hq7
    refine X.c0 (z_Scall [.ref x0, .ref x1, .int (nI m2)] [] (cs_J7_245 _) (dep (show d + 0 + 4 + 1 ≤ (d + 5) from by omega) (Nat.le_of_ble_eq_true rfl)) dJ7_equals_331f6_31 rfl rfl (Nat.le_of_ble_eq_true rfl) hq ?_)
    refine x_if_ge 41 dJ7_equals_331f6_34 rfl (fun hc => ?_) (fun hc => ?_)
    · have h := ifT hc h
      refine x_iconst 0 dJ7_equals_331f6_41 rfl ?_
      cases h
      exact x_zret rfl rfl dJ7_equals_331f6_42 ⟨rfl, rfl, rfl⟩
    have h := ifF hc h
    refine x_iconst 1 dJ7_equals_331f6_37 rfl ?_
    refine x_goto 42 dJ7_equals_331f6_38 rfl ?_
    cases h
    exact x_zret rfl rfl dJ7_equals_331f6_42 ⟨rfl, rfl, rfl⟩
  have h := ifF hc h
  refine x_iconst 0 dJ7_equals_331f6_26 rfl ?_
  cases h
  exact x_zret rfl rfl dJ7_equals_331f6_27 ⟨rfl, rfl, rfl⟩
