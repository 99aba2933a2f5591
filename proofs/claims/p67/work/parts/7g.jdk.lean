noncomputable def f_Jxa1e45_init_da8c8 (I : Mem) (K : Kt) (x0 : Nat) : Option (Unit) := some (())
theorem c_Jxa1e45_init_da8c8 (d : Nat) {K : Kt} {I : Mem} {x0 : Nat} {u9 : Unit} (h : f_Jxa1e45_init_da8c8 I K x0 = some u9) : Ct (mJxa1e45_init_da8c8 (d + 1)) cJxa1e45_init_da8c8 0 0 [.ref x0] I K (Ro (.inl none) I K) := by
  refine Ct.of rfl pn_Jxa1e45 (catR cat0) (Nat.le_of_ble_eq_true rfl) (show X (mJxa1e45_init_da8c8 (d + 1)) cJxa1e45_init_da8c8 0 0 I K 0 [.ref x0] [] (Ro (.inl none) I K) from ?_)
  unfold f_Jxa1e45_init_da8c8 at h
  refine x_aloadn dJxa1e45_init_da8c8_0 rfl ?_
  refine x_objInit (show Cond.methodLink RJxa1e45 1 Lib.objectInit ∈ wsG from inT5 214 rfl rfl) (show Cond.instanceMethod Lib.objectInit ∈ wsG from inT1 46 rfl rfl) (show Cond.code Lib.objectInit ⟨#[0xb1]⟩ 1 none ∈ wsG from inT1 47 rfl rfl) (Nat.le_of_ble_eq_true rfl) (by show 1 ≤ (d + 1); omega) dJxa1e45_init_da8c8_1 ?_
  cases h
  exact x_vret rfl dJxa1e45_init_da8c8_4 ⟨rfl, rfl, rfl⟩
noncomputable def f_Jxc12de_init_da8c8 (I : Mem) (K : Kt) (x0 : Nat) : Option (Mem) := b1 (f_Jxa1e45_init_da8c8 I K x0) fun u1 => b1 (cO K 11 x0) fun _ => b1 (pu I x0 0 0) fun I5 => some (I5)
theorem c_Jxc12de_init_da8c8 (d : Nat) {K : Kt} {I : Mem} {x0 : Nat} {I9 : Mem} (h : f_Jxc12de_init_da8c8 I K x0 = some I9) : Ct (mJxc12de_init_da8c8 (d + 2)) cJxc12de_init_da8c8 0 0 [.ref x0] I K (Ro (.inl none) I9 K) := by
  refine Ct.of rfl pn_Jxc12de (catR cat0) (Nat.le_of_ble_eq_true rfl) (show X (mJxc12de_init_da8c8 (d + 2)) cJxc12de_init_da8c8 0 0 I K 0 [.ref x0] [] (Ro (.inl none) I9 K) from ?_)
  unfold f_Jxc12de_init_da8c8 at h
  refine x_aloadn dJxc12de_init_da8c8_0 rfl ?_
  obtain ⟨u1, hq2, h⟩ := b1_s h
  have hq := c_Jxa1e45_init_da8c8 d hq2
  refine X.c0 (z_Icall [] [] (Or.inl (cs_Jxc12de_1 _)) (dep (show d + 0 + 1 + 1 ≤ (d + 2) from by omega) (Nat.le_of_ble_eq_true rfl)) dJxc12de_init_da8c8_1 rfl rfl (Nat.le_of_ble_eq_true rfl) hq ?_)
  refine x_aloadn dJxc12de_init_da8c8_4 rfl ?_
  refine x_iconst 0 dJxc12de_init_da8c8_5 rfl ?_
  obtain ⟨u3, hq4, h⟩ := b1_s h
  obtain ⟨I5, hq6, h⟩ := b1_s h
  refine z_putA fs_Jxc12de_7 (cO_s hq4) ⟨rfl, rfl⟩ hq6 dJxc12de_init_da8c8_6 ?_
  cases h
  exact x_vret rfl dJxc12de_init_da8c8_9 ⟨rfl, rfl, rfl⟩
noncomputable def f_Jx4a65c_init_da8c8 (I : Mem) (K : Kt) (x0 : Nat) : Option (Mem × Kt) := b1 (f_Jxc12de_init_da8c8 I K x0) fun I1 => b1 (cO K 11 x0) fun _ => b1 (puG K x0 1 (xE 43)) fun K5 => some (I1, K5)
theorem c_Jx4a65c_init_da8c8 (d : Nat) {K : Kt} {I : Mem} {x0 : Nat} {I9 : Mem} {K9 : Kt} (h : f_Jx4a65c_init_da8c8 I K x0 = some (I9, K9)) : CtG (mJx4a65c_init_da8c8 (d + 3)) cJx4a65c_init_da8c8 0 0 K9 [.ref x0] I K (Ro (.inl none) I9 K9) := by
  refine CtG.of rfl pn_Jx4a65c (catR cat0) (Nat.le_of_ble_eq_true rfl) (show XG (mJx4a65c_init_da8c8 (d + 3)) cJx4a65c_init_da8c8 0 0 K9 I K 0 [.ref x0] [] (Ro (.inl none) I9 K9) from ?_)
  unfold f_Jx4a65c_init_da8c8 at h
  refine XG.l (fun z9 => x_aloadn dJx4a65c_init_da8c8_0 rfl z9) ?_
  obtain ⟨I1, hq2, h⟩ := b1_s h
  have hq := c_Jxc12de_init_da8c8 d hq2
  refine XG.l (fun z9 => X.c0 (z_Icall [] [] (Or.inl (cs_Jx4a65c_1 _)) (dep (show d + 0 + 2 + 1 ≤ (d + 3) from by omega) (Nat.le_of_ble_eq_true rfl)) dJx4a65c_init_da8c8_1 rfl rfl (Nat.le_of_ble_eq_true rfl) hq z9)) ?_
  refine XG.l (fun z9 => x_aloadn dJx4a65c_init_da8c8_4 rfl z9) ?_
  refine XG.l (fun z9 => x_gsE (show Cond.fieldLink RJx4a65c 39 "java/util/ArrayList" "DEFAULTCAPACITY_EMPTY_ELEMENTDATA" "[Ljava/lang/Object;" ∈ wsG from inT5 215 rfl rfl) dJx4a65c_init_da8c8_5 z9) ?_
  obtain ⟨u3, hq4, h⟩ := b1_s h
  obtain ⟨K5, hq6, h⟩ := b1_s h
  refine XG.sg hq6 ?_ (fun z9 => x_putR fs_Jx4a65c_9 (fun h => by cases h) (cO_s hq4).1 (cO_s hq4).2 (fun q => ⟨rfl, rfl⟩) dJx4a65c_init_da8c8_8 z9)
  cases h
  exact XG.z (x_vret rfl dJx4a65c_init_da8c8_11 ⟨rfl, rfl, rfl⟩)
noncomputable def f_J15_checkIndex_7cf53 (I : Mem) (K : Kt) (x0 : Int32) (x1 : Int32) : Option (Int32) := b1 (f_J3_checkIndex_8e157 x0 x1) fun v1 => some (v1)
theorem c_J15_checkIndex_7cf53 (d : Nat) {K : Kt} {I : Mem} {x0 : Int32} {x1 : Int32} {v : Int32} (h : f_J15_checkIndex_7cf53 I K x0 x1 = some v) : Ct (mJ15_checkIndex_7cf53 (d + 1)) cJ15_checkIndex_7cf53 0 0 [.int x0, .int x1] I K (Ro (.inl (some (.int v))) I K) := by
  refine Ct.of rfl pn_J15 (catI (catI cat0)) (Nat.le_of_ble_eq_true rfl) (show X (mJ15_checkIndex_7cf53 (d + 1)) cJ15_checkIndex_7cf53 0 0 I K 0 [.int x0, .int x1] [] (Ro (.inl (some (.int v))) I K) from ?_)
  unfold f_J15_checkIndex_7cf53 at h
  refine x_iloadn dJ15_checkIndex_7cf53_0 rfl ?_
  refine x_iloadn dJ15_checkIndex_7cf53_1 rfl ?_
  refine x_null dJ15_checkIndex_7cf53_2 ?_
  obtain ⟨v1, hq2, h⟩ := b1_s h
  have hq := c_J3_checkIndex_8e157 d (K := K) (I := I) (Or.inl rfl) hq2
  refine X.c0 (z_Scall [.int x0, .int x1, .null] [] (cs_J15_105 _) (dep (show d + 0 + 0 + 1 ≤ (d + 1) from by omega) (Nat.le_of_ble_eq_true rfl)) dJ15_checkIndex_7cf53_3 rfl rfl (Nat.le_of_ble_eq_true rfl) hq ?_)
  cases h
  exact x_iret rfl dJ15_checkIndex_7cf53_6 ⟨rfl, rfl, rfl⟩
noncomputable def f_Jx4a65c_elementData_915e3 (I : Mem) (K : Kt) (x0 : Nat) (x1 : Int32) : Option (Nat) := b1 (cO K 11 x0) fun _ => b1 (gR K x0 1) fun r3 => b1 (cA K 109 r3) fun m6 => b1 (ix x1 m6) fun j5 => b1 (gR K r3 j5) fun r9 => some (r9)
theorem c_Jx4a65c_elementData_915e3 (d : Nat) {K : Kt} {I : Mem} {x0 : Nat} {x1 : Int32} {v : Nat} (h : f_Jx4a65c_elementData_915e3 I K x0 x1 = some v) : Ct (mJx4a65c_elementData_915e3 d) cJx4a65c_elementData_915e3 0 0 [.ref x0, .int x1] I K (Ro (.inl (some (.ref v))) I K) := by
  refine Ct.of rfl pn_Jx4a65c (catR (catI cat0)) (Nat.le_of_ble_eq_true rfl) (show X (mJx4a65c_elementData_915e3 d) cJx4a65c_elementData_915e3 0 0 I K 0 [.ref x0, .int x1] [] (Ro (.inl (some (.ref v))) I K) from ?_)
  unfold f_Jx4a65c_elementData_915e3 at h
  refine x_aloadn dJx4a65c_elementData_915e3_0 rfl ?_
  obtain ⟨u1, hq2, h⟩ := b1_s h
  obtain ⟨r3, hq4, h⟩ := b1_s h
  refine x_getR fs_Jx4a65c_9 (cO_s hq2).1 (cO_s hq2).2 hq4 dJx4a65c_elementData_915e3_1 ?_
  refine x_iloadn dJx4a65c_elementData_915e3_4 rfl ?_
  obtain ⟨m6, hq7, h⟩ := b1_s h
  obtain ⟨j5, hq8, h⟩ := b1_s h
  obtain ⟨r9, hq10, h⟩ := b1_s h
  refine z_aald (cA_s hq7) ⟨by decide, by decide⟩ hq8 hq10 dJx4a65c_elementData_915e3_5 ?_
  cases h
  exact x_aret rfl (Or.inl ⟨_, rfl⟩) dJx4a65c_elementData_915e3_6 ⟨rfl, rfl, rfl⟩
noncomputable def f_Jx4a65c_get_915e3 (I : Mem) (K : Kt) (x0 : Nat) (x1 : Int32) : Option (Nat) := b1 (cO K 11 x0) fun _ => b1 (f_J15_checkIndex_7cf53 I K x1 (I x0 2)) fun v3 => b1 (cO K 11 x0) fun _ => b1 (f_Jx4a65c_elementData_915e3 I K x0 x1) fun v7 => some (v7)
theorem c_Jx4a65c_get_915e3 (d : Nat) {K : Kt} {I : Mem} {x0 : Nat} {x1 : Int32} {v : Nat} (h : f_Jx4a65c_get_915e3 I K x0 x1 = some v) : Ct (mJx4a65c_get_915e3 (d + 2)) cJx4a65c_get_915e3 0 0 [.ref x0, .int x1] I K (Ro (.inl (some (.ref v))) I K) := by
  refine Ct.of rfl pn_Jx4a65c (catR (catI cat0)) (Nat.le_of_ble_eq_true rfl) (show X (mJx4a65c_get_915e3 (d + 2)) cJx4a65c_get_915e3 0 0 I K 0 [.ref x0, .int x1] [] (Ro (.inl (some (.ref v))) I K) from ?_)
  unfold f_Jx4a65c_get_915e3 at h
  refine x_iloadn dJx4a65c_get_915e3_0 rfl ?_
  refine x_aloadn dJx4a65c_get_915e3_1 rfl ?_
  obtain ⟨u1, hq2, h⟩ := b1_s h
  refine x_getI fs_Jx4a65c_48 (cO_s hq2).1 (cO_s hq2).2 dJx4a65c_get_915e3_2 ?_
  obtain ⟨v3, hq4, h⟩ := b1_s h
  have hq := c_J15_checkIndex_7cf53 d hq4
  refine X.c0 (z_Scall [.int x1, .int (I x0 2)] [] (cs_Jx4a65c_118 _) (dep (show d + 0 + 1 + 1 ≤ (d + 2) from by omega) (Nat.le_of_ble_eq_true rfl)) dJx4a65c_get_915e3_5 rfl rfl (Nat.le_of_ble_eq_true rfl) hq ?_)
  refine x_pop dJx4a65c_get_915e3_8 rfl ?_
  refine x_aloadn dJx4a65c_get_915e3_9 rfl ?_
  refine x_iloadn dJx4a65c_get_915e3_10 rfl ?_
  obtain ⟨u5, hq6, h⟩ := b1_s h
  obtain ⟨v7, hq8, h⟩ := b1_s h
  have hq := c_Jx4a65c_elementData_915e3 (d + 1) hq8
  refine X.c0 (z_Vcall [.int x1] [] (cs_Jx4a65c_123 _) (ci := 11) rfl (cO_s hq6) (dep (show d + 1 + 0 + 1 ≤ (d + 2) from by omega) (Nat.le_of_ble_eq_true rfl)) dJx4a65c_get_915e3_11 rfl rfl (Nat.le_of_ble_eq_true rfl) hq ?_)
  cases h
  exact x_aret rfl (Or.inl ⟨_, rfl⟩) dJx4a65c_get_915e3_14 ⟨rfl, rfl, rfl⟩
noncomputable def f_Jx4a65c_size_8abf5 (I : Mem) (K : Kt) (x0 : Nat) : Option (Int32) := b1 (cO K 11 x0) fun _ => some ((I x0 2))
theorem c_Jx4a65c_size_8abf5 (d : Nat) {K : Kt} {I : Mem} {x0 : Nat} {v : Int32} (h : f_Jx4a65c_size_8abf5 I K x0 = some v) : Ct (mJx4a65c_size_8abf5 d) cJx4a65c_size_8abf5 0 0 [.ref x0] I K (Ro (.inl (some (.int v))) I K) := by
  refine Ct.of rfl pn_Jx4a65c (catR cat0) (Nat.le_of_ble_eq_true rfl) (show X (mJx4a65c_size_8abf5 d) cJx4a65c_size_8abf5 0 0 I K 0 [.ref x0] [] (Ro (.inl (some (.int v))) I K) from ?_)
  unfold f_Jx4a65c_size_8abf5 at h
  refine x_aloadn dJx4a65c_size_8abf5_0 rfl ?_
  obtain ⟨u1, hq2, h⟩ := b1_s h
  refine x_getI fs_Jx4a65c_48 (cO_s hq2).1 (cO_s hq2).2 dJx4a65c_size_8abf5_1 ?_
  cases h
  exact x_iret rfl dJx4a65c_size_8abf5_4 ⟨rfl, rfl, rfl⟩
noncomputable def l_J8_newLength_cabcc_21 (I : Mem) (K : Kt) (x0 : Int32) (x1 : Int32) : Option (Int32) := none
theorem tl_J8_newLength_cabcc_21 (d : Nat) : ∀ {I : Mem} {K : Kt} {x0 : Int32} {x1 : Int32} {v : Int32}, l_J8_newLength_cabcc_21 I K x0 x1 = some v → X (mJ8_newLength_cabcc (d + 1)) cJ8_newLength_cabcc 0 0 I K 21 [.int x0, .int x1, .retAddr 0, .retAddr 0] [] (Ro (.inl (some (.int v))) I K) := by
  intro I K x0 x1 v h
  unfold l_J8_newLength_cabcc_21 at h
  cases h
noncomputable def f_J8_newLength_cabcc (I : Mem) (K : Kt) (x0 : Int32) (x1 : Int32) (x2 : Int32) : Option (Int32) := if (x0 + (if x1 < x2 then x2 else x1)) ≤ 0 then (l_J8_newLength_cabcc_21 I K x0 x1) else (if 2147483639 < (x0 + (if x1 < x2 then x2 else x1)) then (l_J8_newLength_cabcc_21 I K x0 x1) else (some ((x0 + (if x1 < x2 then x2 else x1)))))
theorem c_J8_newLength_cabcc (d : Nat) {K : Kt} {I : Mem} {x0 : Int32} {x1 : Int32} {x2 : Int32} {v : Int32} (h : f_J8_newLength_cabcc I K x0 x1 x2 = some v) : Ct (mJ8_newLength_cabcc (d + 1)) cJ8_newLength_cabcc 0 0 [.int x0, .int x1, .int x2] I K (Ro (.inl (some (.int v))) I K) := by
  refine Ct.of rfl pn_J8 (catI (catI (catI cat0))) (Nat.le_of_ble_eq_true rfl) (show X (mJ8_newLength_cabcc (d + 1)) cJ8_newLength_cabcc 0 0 I K 0 [.int x0, .int x1, .int x2, .retAddr 0] [] (Ro (.inl (some (.int v))) I K) from ?_)
  unfold f_J8_newLength_cabcc at h
  refine x_iloadn dJ8_newLength_cabcc_0 rfl ?_
  refine x_iloadn dJ8_newLength_cabcc_1 rfl ?_
  refine x_iloadn dJ8_newLength_cabcc_2 rfl ?_
  refine x_mmax ms_J8_194 (Nat.le_of_ble_eq_true rfl) (by show 1 ≤ (d + 1); omega) dJ8_newLength_cabcc_3 ?_
  refine x_iadd dJ8_newLength_cabcc_6 ?_
  refine x_istoren dJ8_newLength_cabcc_7 (Nat.le_of_ble_eq_true rfl) rfl rfl ?_
  refine x_iconst 0 dJ8_newLength_cabcc_8 rfl ?_
  refine x_iloadn dJ8_newLength_cabcc_9 rfl ?_
  refine x_icmp_ge 21 dJ8_newLength_cabcc_10 rfl (fun hc => ?_) (fun hc => ?_)
  · have h := ifT hc h
    exact X.forget (L' := [.int x0, .int x1, .retAddr 0, .retAddr 0]) ⟨Or.inl rfl, ⟨Or.inl rfl, ⟨Or.inr rfl, ⟨Or.inr rfl, trivial⟩⟩⟩⟩ (tl_J8_newLength_cabcc_21 d h)
  have h := ifF hc h
  refine x_iloadn dJ8_newLength_cabcc_13 rfl ?_
  refine x_ldc 2147483639 (show Cond.constant RJ8 200 2147483639 ∈ wsG from inT6 49 rfl rfl) dJ8_newLength_cabcc_14 ?_
  refine x_icmp_gt 21 dJ8_newLength_cabcc_16 rfl (fun hc => ?_) (fun hc => ?_)
  · have h := ifT hc h
    exact X.forget (L' := [.int x0, .int x1, .retAddr 0, .retAddr 0]) ⟨Or.inl rfl, ⟨Or.inl rfl, ⟨Or.inr rfl, ⟨Or.inr rfl, trivial⟩⟩⟩⟩ (tl_J8_newLength_cabcc_21 d h)
  have h := ifF hc h
  refine x_iloadn dJ8_newLength_cabcc_19 rfl ?_
  cases h
  exact x_iret rfl dJ8_newLength_cabcc_20 ⟨rfl, rfl, rfl⟩
noncomputable def f_Jx4a65c_grow_92f84 (I : Mem) (K : Kt) (x0 : Nat) (x1 : Int32) : Option (Nat × Mem × Kt) := b1 (cO K 11 x0) fun _ => b1 (gR K x0 1) fun r3 => b1 (cLen K r3) fun m5 => if 0 < (nI m5) then (b1 (f_J8_newLength_cabcc I K (nI m5) (x1 - (nI m5)) ((nI m5) >>> (1 &&& 31))) fun v7 => b1 (cO K 11 x0) fun _ => b1 (gR K x0 1) fun r11 => none) else (b1 (cO K 11 x0) fun _ => b1 (gR K x0 1) fun r15 => b1 (ckE r15 (xE 43)) fun _ => b1 (ixn (if 10 < x1 then x1 else 10)) fun m18 => b1 (cL K) fun _ => b2 (puN I K (109, m18)) fun I20 K21 => b1 (cO K21 11 x0) fun _ => b1 (puG K21 x0 1 (kN K)) fun K27 => some ((kN K), I20, K27))
theorem c_Jx4a65c_grow_92f84 (d : Nat) {K : Kt} {I : Mem} {x0 : Nat} {x1 : Int32} {v : Nat} {I9 : Mem} {K9 : Kt} (h : f_Jx4a65c_grow_92f84 I K x0 x1 = some (v, I9, K9)) : CtG (mJx4a65c_grow_92f84 (d + 2)) cJx4a65c_grow_92f84 0 0 K9 [.ref x0, .int x1] I K (Ro (.inl (some (.ref v))) I9 K9) := by
  refine CtG.of rfl pn_Jx4a65c (catR (catI cat0)) (Nat.le_of_ble_eq_true rfl) (show XG (mJx4a65c_grow_92f84 (d + 2)) cJx4a65c_grow_92f84 0 0 K9 I K 0 [.ref x0, .int x1, .retAddr 0, .retAddr 0] [] (Ro (.inl (some (.ref v))) I9 K9) from ?_)
  unfold f_Jx4a65c_grow_92f84 at h
  refine XG.l (fun z9 => x_aloadn dJx4a65c_grow_92f84_0 rfl z9) ?_
  obtain ⟨u1, hq2, h⟩ := b1_s h
  obtain ⟨r3, hq4, h⟩ := b1_s h
  refine XG.l (fun z9 => x_getR fs_Jx4a65c_9 (cO_s hq2).1 (cO_s hq2).2 hq4 dJx4a65c_grow_92f84_1 z9) ?_
  obtain ⟨m5, hq6, h⟩ := b1_s h
  refine XG.l (fun z9 => z_lenD hq6 dJx4a65c_grow_92f84_4 z9) ?_
  refine XG.l (fun z9 => x_istoren dJx4a65c_grow_92f84_5 (Nat.le_of_ble_eq_true rfl) rfl rfl z9) ?_
  refine XG.l (fun z9 => x_iloadn dJx4a65c_grow_92f84_6 rfl z9) ?_
  rcases Classical.em (0 < (nI m5)) with hc | hc
  · have h := ifT hc h
    refine XG.l (fun z9 => x_if_gt 20 dJx4a65c_grow_92f84_7 rfl (fun _ => z9) (fun hn => absurd hc hn)) ?_
    refine XG.l (fun z9 => x_iloadn dJx4a65c_grow_92f84_20 rfl z9) ?_
    refine XG.l (fun z9 => x_iloadn dJx4a65c_grow_92f84_21 rfl z9) ?_
    refine XG.l (fun z9 => x_iloadn dJx4a65c_grow_92f84_22 rfl z9) ?_
    refine XG.l (fun z9 => x_isub dJx4a65c_grow_92f84_23 z9) ?_
    refine XG.l (fun z9 => x_iloadn dJx4a65c_grow_92f84_24 rfl z9) ?_
    refine XG.l (fun z9 => x_iconst 1 dJx4a65c_grow_92f84_25 rfl z9) ?_
    refine XG.l (fun z9 => x_ishr dJx4a65c_grow_92f84_26 z9) ?_
    obtain ⟨v7, hq8, h⟩ := b1_s h
    have hq := c_J8_newLength_cabcc d hq8
    refine XG.l (fun z9 => X.c0 (z_Scall [.int (nI m5), .int (x1 - (nI m5)), .int ((nI m5) >>> (1 &&& 31))] [] (cs_Jx4a65c_73 _) (dep (show d + 0 + 1 + 1 ≤ (d + 2) from by omega) (Nat.le_of_ble_eq_true rfl)) dJx4a65c_grow_92f84_27 rfl rfl (Nat.le_of_ble_eq_true rfl) hq z9)) ?_
    refine XG.l (fun z9 => x_istoren dJx4a65c_grow_92f84_30 (Nat.le_of_ble_eq_true rfl) rfl rfl z9) ?_
    refine XG.l (fun z9 => x_aloadn dJx4a65c_grow_92f84_31 rfl z9) ?_
    refine XG.l (fun z9 => x_aloadn dJx4a65c_grow_92f84_32 rfl z9) ?_
    obtain ⟨u9, hq10, h⟩ := b1_s h
    obtain ⟨r11, hq12, h⟩ := b1_s h
    refine XG.l (fun z9 => x_getR fs_Jx4a65c_9 (cO_s hq10).1 (cO_s hq10).2 hq12 dJx4a65c_grow_92f84_33 z9) ?_
    cases h
  have h := ifF hc h
  refine XG.l (fun z9 => x_if_gt 20 dJx4a65c_grow_92f84_7 rfl (fun hn => absurd hn hc) (fun _ => z9)) ?_
  refine XG.l (fun z9 => x_aloadn dJx4a65c_grow_92f84_10 rfl z9) ?_
  obtain ⟨u13, hq14, h⟩ := b1_s h
  obtain ⟨r15, hq16, h⟩ := b1_s h
  refine XG.l (fun z9 => x_getR fs_Jx4a65c_9 (cO_s hq14).1 (cO_s hq14).2 hq16 dJx4a65c_grow_92f84_11 z9) ?_
  refine XG.l (fun z9 => x_gsE (show Cond.fieldLink RJx4a65c 39 "java/util/ArrayList" "DEFAULTCAPACITY_EMPTY_ELEMENTDATA" "[Ljava/lang/Object;" ∈ wsG from inT5 215 rfl rfl) dJx4a65c_grow_92f84_14 z9) ?_
  obtain ⟨u17, hq29, h⟩ := b1_s h
  refine XG.l (fun z9 => x_acmpE 45 (ckE_s hq29) dJx4a65c_grow_92f84_17 rfl z9) ?_
  refine XG.l (fun z9 => x_aloadn dJx4a65c_grow_92f84_45 rfl z9) ?_
  refine XG.l (fun z9 => x_bipush 10 dJx4a65c_grow_92f84_46 (by decide) z9) ?_
  refine XG.l (fun z9 => x_iloadn dJx4a65c_grow_92f84_48 rfl z9) ?_
  refine XG.l (fun z9 => x_mmax ms_Jx4a65c_79 (Nat.le_of_ble_eq_true rfl) (by show 1 ≤ (d + 2); omega) dJx4a65c_grow_92f84_49 z9) ?_
  obtain ⟨m18, hq22, h⟩ := b1_s h
  obtain ⟨u19, hq23, h⟩ := b1_s h
  obtain ⟨I20, K21, hq24, h⟩ := b2_s h
  refine XG.sn hq24 ?_ (fun z9 => x_newq (ci := 109) (t0 := 4) (by decide) (fun _ => rfl) (show Cond.classLink RJx4a65c 7 "java/lang/Object" ∈ wsG from inT6 90 rfl rfl) (List.mem_filter.mpr ⟨inTb6 83 rfl, rfl⟩) (ixn_s hq22).1 (ixn_s hq22).2 (cL_s hq23) dJx4a65c_grow_92f84_52 z9)
  refine XG.l (fun z9 => x_dup_x1 dJx4a65c_grow_92f84_55 rfl rfl z9) ?_
  obtain ⟨u25, hq26, h⟩ := b1_s h
  obtain ⟨K27, hq28, h⟩ := b1_s h
  refine XG.sg hq28 ?_ (fun z9 => x_putR fs_Jx4a65c_9 (fun h => by cases h) (cO_s hq26).1 (cO_s hq26).2 (fun q => ⟨rfl, rfl⟩) dJx4a65c_grow_92f84_56 z9)
  cases h
  exact XG.z (x_aret rfl (Or.inr ⟨_, rfl⟩) dJx4a65c_grow_92f84_59 ⟨rfl, rfl, rfl⟩)
noncomputable def f_Jx4a65c_grow_d5877 (I : Mem) (K : Kt) (x0 : Nat) : Option (Nat × Mem × Kt) := b1 (cO K 11 x0) fun _ => b1 (cO K 11 x0) fun _ => b3 (f_Jx4a65c_grow_92f84 I K x0 ((I x0 2) + 1)) fun v5 I6 K7 => some (v5, I6, K7)
theorem c_Jx4a65c_grow_d5877 (d : Nat) {K : Kt} {I : Mem} {x0 : Nat} {v : Nat} {I9 : Mem} {K9 : Kt} (h : f_Jx4a65c_grow_d5877 I K x0 = some (v, I9, K9)) : CtG (mJx4a65c_grow_d5877 (d + 3)) cJx4a65c_grow_d5877 0 0 K9 [.ref x0] I K (Ro (.inl (some (.ref v))) I9 K9) := by
  refine CtG.of rfl pn_Jx4a65c (catR cat0) (Nat.le_of_ble_eq_true rfl) (show XG (mJx4a65c_grow_d5877 (d + 3)) cJx4a65c_grow_d5877 0 0 K9 I K 0 [.ref x0] [] (Ro (.inl (some (.ref v))) I9 K9) from ?_)
  unfold f_Jx4a65c_grow_d5877 at h
  refine XG.l (fun z9 => x_aloadn dJx4a65c_grow_d5877_0 rfl z9) ?_
  refine XG.l (fun z9 => x_aloadn dJx4a65c_grow_d5877_1 rfl z9) ?_
  obtain ⟨u1, hq2, h⟩ := b1_s h
  refine XG.l (fun z9 => x_getI fs_Jx4a65c_48 (cO_s hq2).1 (cO_s hq2).2 dJx4a65c_grow_d5877_2 z9) ?_
  refine XG.l (fun z9 => x_iconst 1 dJx4a65c_grow_d5877_5 rfl z9) ?_
  refine XG.l (fun z9 => x_iadd dJx4a65c_grow_d5877_6 z9) ?_
  obtain ⟨u3, hq4, h⟩ := b1_s h
  obtain ⟨v5, I6, K7, hq8, h⟩ := b3_s h
  have hq := c_Jx4a65c_grow_92f84 d hq8
  refine XG.call hq.1 ?_ (fun z9 => z_Vcall [.int ((I x0 2) + 1)] [] (cs_Jx4a65c_69 _) (ci := 11) rfl (cO_s hq4) (dep (show d + 0 + 2 + 1 ≤ (d + 3) from by omega) (Nat.le_of_ble_eq_true rfl)) dJx4a65c_grow_d5877_7 rfl rfl (Nat.le_of_ble_eq_true rfl) hq.2 z9)
  cases h
  exact XG.z (x_aret rfl (Or.inr ⟨_, rfl⟩) dJx4a65c_grow_d5877_10 ⟨rfl, rfl, rfl⟩)
noncomputable def l_Jx4a65c_add_72be8_11 (I : Mem) (K : Kt) (x0 : Nat) (x1 : Nat) (x2 : Nat) (x3 : Int32) : Option (Mem × Kt) := b1 (cA K 109 x2) fun m4 => b1 (ix x3 m4) fun j3 => b1 (cAny K x1) fun _ => b1 (puG K x2 j3 x1) fun K7 => b1 (cO K7 11 x0) fun _ => b1 (pu I x0 2 (x3 + 1)) fun I13 => some (I13, K7)
theorem tl_Jx4a65c_add_72be8_11 (d : Nat) : ∀ {I : Mem} {K : Kt} {x0 : Nat} {x1 : Nat} {x2 : Nat} {x3 : Int32} {I9 : Mem} {K9 : Kt}, l_Jx4a65c_add_72be8_11 I K x0 x1 x2 x3 = some (I9, K9) → XG (mJx4a65c_add_72be8 (d + 4)) cJx4a65c_add_72be8 0 0 K9 I K 11 [.ref x0, .ref x1, .ref x2, .int x3] [] (Ro (.inl none) I9 K9) := by
  intro I K x0 x1 x2 x3 I9 K9 h
  unfold l_Jx4a65c_add_72be8_11 at h
  refine XG.l (fun z9 => x_aloadn dJx4a65c_add_72be8_11 rfl z9) ?_
  refine XG.l (fun z9 => x_iloadn dJx4a65c_add_72be8_12 rfl z9) ?_
  refine XG.l (fun z9 => x_aloadn dJx4a65c_add_72be8_13 rfl z9) ?_
  obtain ⟨m4, hq5, h⟩ := b1_s h
  obtain ⟨j3, hq6, h⟩ := b1_s h
  obtain ⟨u8, hq9, h⟩ := b1_s h
  obtain ⟨K7, hq10, h⟩ := b1_s h
  refine XG.sg hq10 ?_ (fun z9 => x_aastX (cA_s hq5).1 (cA_s hq5).2 (cAny_l hq9) (ix_s hq6).1 (ix_s hq6).2 (cAny_a hq9) dJx4a65c_add_72be8_14 z9)
  refine XG.l (fun z9 => x_aloadn dJx4a65c_add_72be8_15 rfl z9) ?_
  refine XG.l (fun z9 => x_iloadn dJx4a65c_add_72be8_16 rfl z9) ?_
  refine XG.l (fun z9 => x_iconst 1 dJx4a65c_add_72be8_17 rfl z9) ?_
  refine XG.l (fun z9 => x_iadd dJx4a65c_add_72be8_18 z9) ?_
  obtain ⟨u11, hq12, h⟩ := b1_s h
  obtain ⟨I13, hq14, h⟩ := b1_s h
  refine XG.l (fun z9 => z_putA fs_Jx4a65c_48 (cO_s hq12) ⟨rfl, rfl⟩ hq14 dJx4a65c_add_72be8_19 z9) ?_
  cases h
  exact XG.z (x_vret rfl dJx4a65c_add_72be8_22 ⟨rfl, rfl, rfl⟩)
noncomputable def f_Jx4a65c_add_72be8 (I : Mem) (K : Kt) (x0 : Nat) (x1 : Nat) (x2 : Nat) (x3 : Int32) : Option (Mem × Kt) := b1 (cLen K x2) fun m1 => if x3 = (nI m1) then (b1 (cO K 11 x0) fun _ => b3 (f_Jx4a65c_grow_d5877 I K x0) fun v17 I18 K19 => l_Jx4a65c_add_72be8_11 I18 K19 x0 x1 v17 x3) else (l_Jx4a65c_add_72be8_11 I K x0 x1 x2 x3)
theorem c_Jx4a65c_add_72be8 (d : Nat) {K : Kt} {I : Mem} {x0 : Nat} {x1 : Nat} {x2 : Nat} {x3 : Int32} {I9 : Mem} {K9 : Kt} (h : f_Jx4a65c_add_72be8 I K x0 x1 x2 x3 = some (I9, K9)) : CtG (mJx4a65c_add_72be8 (d + 4)) cJx4a65c_add_72be8 0 0 K9 [.ref x0, .ref x1, .ref x2, .int x3] I K (Ro (.inl none) I9 K9) := by
  refine CtG.of rfl pn_Jx4a65c (catR (catR (catR (catI cat0)))) (Nat.le_of_ble_eq_true rfl) (show XG (mJx4a65c_add_72be8 (d + 4)) cJx4a65c_add_72be8 0 0 K9 I K 0 [.ref x0, .ref x1, .ref x2, .int x3] [] (Ro (.inl none) I9 K9) from ?_)
  unfold f_Jx4a65c_add_72be8 at h
  refine XG.l (fun z9 => x_iloadn dJx4a65c_add_72be8_0 rfl z9) ?_
  refine XG.l (fun z9 => x_aloadn dJx4a65c_add_72be8_1 rfl z9) ?_
  obtain ⟨m1, hq2, h⟩ := b1_s h
  refine XG.l (fun z9 => z_lenD hq2 dJx4a65c_add_72be8_2 z9) ?_
  rcases Classical.em (x3 = (nI m1)) with hc | hc
  · have h := ifT hc h
    refine XG.l (fun z9 => x_icmp_ne 11 dJx4a65c_add_72be8_3 rfl (fun hn => absurd hc hn) (fun _ => z9)) ?_
    refine XG.l (fun z9 => x_aloadn dJx4a65c_add_72be8_6 rfl z9) ?_
    obtain ⟨u15, hq16, h⟩ := b1_s h
    obtain ⟨v17, I18, K19, hq20, h⟩ := b3_s h
    have hq := c_Jx4a65c_grow_d5877 d hq20
    refine XG.call hq.1 ?_ (fun z9 => z_Vcall [] [] (cs_Jx4a65c_129 _) (ci := 11) rfl (cO_s hq16) (dep (show d + 0 + 3 + 1 ≤ (d + 4) from by omega) (Nat.le_of_ble_eq_true rfl)) dJx4a65c_add_72be8_7 rfl rfl (Nat.le_of_ble_eq_true rfl) hq.2 z9)
    refine XG.l (fun z9 => x_astoren dJx4a65c_add_72be8_10 (Nat.le_of_ble_eq_true rfl) rfl rfl z9) ?_
    exact (tl_Jx4a65c_add_72be8_11 d h)
  have h := ifF hc h
  refine XG.l (fun z9 => x_icmp_ne 11 dJx4a65c_add_72be8_3 rfl (fun _ => z9) (fun hn => absurd hn hc)) ?_
  exact (tl_Jx4a65c_add_72be8_11 d h)
noncomputable def f_Jx4a65c_add_9ea2d (I : Mem) (K : Kt) (x0 : Nat) (x1 : Nat) : Option (Int32 × Mem × Kt) := b1 (cO K 11 x0) fun _ => b1 (cO K 11 x0) fun _ => b1 (pu I x0 0 ((I x0 0) + 1)) fun I5 => b1 (cO K 11 x0) fun _ => b1 (gR K x0 1) fun r9 => b1 (cO K 11 x0) fun _ => b1 (cO K 11 x0) fun _ => b2 (f_Jx4a65c_add_72be8 I5 K x0 x1 r9 (I5 x0 2)) fun I15 K16 => some (1, I15, K16)
theorem c_Jx4a65c_add_9ea2d (d : Nat) {K : Kt} {I : Mem} {x0 : Nat} {x1 : Nat} {v : Int32} {I9 : Mem} {K9 : Kt} (h : f_Jx4a65c_add_9ea2d I K x0 x1 = some (v, I9, K9)) : CtG (mJx4a65c_add_9ea2d (d + 5)) cJx4a65c_add_9ea2d 0 0 K9 [.ref x0, .ref x1] I K (Ro (.inl (some (.int v))) I9 K9) := by
  refine CtG.of rfl pn_Jx4a65c (catR (catR cat0)) (Nat.le_of_ble_eq_true rfl) (show XG (mJx4a65c_add_9ea2d (d + 5)) cJx4a65c_add_9ea2d 0 0 K9 I K 0 [.ref x0, .ref x1] [] (Ro (.inl (some (.int v))) I9 K9) from ?_)
  unfold f_Jx4a65c_add_9ea2d at h
  refine XG.l (fun z9 => x_aloadn dJx4a65c_add_9ea2d_0 rfl z9) ?_
  refine XG.l (fun z9 => x_dup dJx4a65c_add_9ea2d_1 rfl z9) ?_
  obtain ⟨u1, hq2, h⟩ := b1_s h
  refine XG.l (fun z9 => x_getIS fq_Jx4a65c_63 (cO_s hq2).1 (cO_s hq2).2 dJx4a65c_add_9ea2d_2 z9) ?_
  refine XG.l (fun z9 => x_iconst 1 dJx4a65c_add_9ea2d_5 rfl z9) ?_
  refine XG.l (fun z9 => x_iadd dJx4a65c_add_9ea2d_6 z9) ?_
  obtain ⟨u3, hq4, h⟩ := b1_s h
  obtain ⟨I5, hq6, h⟩ := b1_s h
  refine XG.l (fun z9 => z_putAS fq_Jx4a65c_63 (cO_s hq4) ⟨rfl, rfl⟩ hq6 dJx4a65c_add_9ea2d_7 z9) ?_
  refine XG.l (fun z9 => x_aloadn dJx4a65c_add_9ea2d_10 rfl z9) ?_
  refine XG.l (fun z9 => x_aloadn dJx4a65c_add_9ea2d_11 rfl z9) ?_
  refine XG.l (fun z9 => x_aloadn dJx4a65c_add_9ea2d_12 rfl z9) ?_
  obtain ⟨u7, hq8, h⟩ := b1_s h
  obtain ⟨r9, hq10, h⟩ := b1_s h
  refine XG.l (fun z9 => x_getR fs_Jx4a65c_9 (cO_s hq8).1 (cO_s hq8).2 hq10 dJx4a65c_add_9ea2d_13 z9) ?_
  refine XG.l (fun z9 => x_aloadn dJx4a65c_add_9ea2d_16 rfl z9) ?_
  obtain ⟨u11, hq12, h⟩ := b1_s h
  refine XG.l (fun z9 => x_getI fs_Jx4a65c_48 (cO_s hq12).1 (cO_s hq12).2 dJx4a65c_add_9ea2d_17 z9) ?_
  obtain ⟨u13, hq14, h⟩ := b1_s h
  obtain ⟨I15, K16, hq17, h⟩ := b2_s h
  have hq := c_Jx4a65c_add_72be8 d hq17
  refine XG.call hq.1 ?_ (fun z9 => z_Vcall [.ref x1, .ref r9, .int (I5 x0 2)] [] (cs_Jx4a65c_131 _) (ci := 11) rfl (cO_s hq14) (dep (show d + 0 + 4 + 1 ≤ (d + 5) from by omega) (Nat.le_of_ble_eq_true rfl)) dJx4a65c_add_9ea2d_20 rfl rfl (Nat.le_of_ble_eq_true rfl) hq.2 z9)
  refine XG.l (fun z9 => x_iconst 1 dJx4a65c_add_9ea2d_23 rfl z9) ?_
  cases h
  exact XG.z (x_zret rfl rfl dJx4a65c_add_9ea2d_24 ⟨rfl, rfl, rfl⟩)
noncomputable def f_J5_newCapacity_0f7a4 (I : Mem) (K : Kt) (x0 : Nat) (x1 : Int32) : Option (Int32) := b1 (cO K 0 x0) fun _ => b1 (gR K x0 0) fun r3 => b1 (cLen K r3) fun m5 => b1 (cO K 0 x0) fun _ => b1 (cO K 0 x0) fun _ => b1 (f_J8_newLength_cabcc I K (nI m5) ((x1 <<< ((I x0 1) &&& 31)) - (nI m5)) ((nI m5) + (2 <<< ((I x0 1) &&& 31)))) fun v11 => if v11 = 2147483647 then (none) else (b1 (cO K 0 x0) fun _ => some ((v11 >>> ((I x0 1) &&& 31))))
theorem c_J5_newCapacity_0f7a4 (d : Nat) {K : Kt} {I : Mem} {x0 : Nat} {x1 : Int32} {v : Int32} (h : f_J5_newCapacity_0f7a4 I K x0 x1 = some v) : Ct (mJ5_newCapacity_0f7a4 (d + 2)) cJ5_newCapacity_0f7a4 0 0 [.ref x0, .int x1] I K (Ro (.inl (some (.int v))) I K) := by
  refine Ct.of rfl pn_J5 (catR (catI cat0)) (Nat.le_of_ble_eq_true rfl) (show X (mJ5_newCapacity_0f7a4 (d + 2)) cJ5_newCapacity_0f7a4 0 0 I K 0 [.ref x0, .int x1, .retAddr 0, .retAddr 0, .retAddr 0, .retAddr 0] [] (Ro (.inl (some (.int v))) I K) from ?_)
  unfold f_J5_newCapacity_0f7a4 at h
  refine x_aloadn dJ5_newCapacity_0f7a4_0 rfl ?_
  obtain ⟨u1, hq2, h⟩ := b1_s h
  obtain ⟨r3, hq4, h⟩ := b1_s h
  refine x_getR fs_J5_15 (cO_s hq2).1 (cO_s hq2).2 hq4 dJ5_newCapacity_0f7a4_1 ?_
  obtain ⟨m5, hq6, h⟩ := b1_s h
  refine z_lenD hq6 dJ5_newCapacity_0f7a4_4 ?_
  refine x_istoren dJ5_newCapacity_0f7a4_5 (Nat.le_of_ble_eq_true rfl) rfl rfl ?_
  refine x_iloadn dJ5_newCapacity_0f7a4_6 rfl ?_
  refine x_aloadn dJ5_newCapacity_0f7a4_7 rfl ?_
  obtain ⟨u7, hq8, h⟩ := b1_s h
  refine x_getI fs_J5_22 (cO_s hq8).1 (cO_s hq8).2 dJ5_newCapacity_0f7a4_8 ?_
  refine x_ishl dJ5_newCapacity_0f7a4_11 ?_
  refine x_istoren dJ5_newCapacity_0f7a4_12 (Nat.le_of_ble_eq_true rfl) rfl rfl ?_
  refine x_iloadn dJ5_newCapacity_0f7a4_13 rfl ?_
  refine x_iloadn dJ5_newCapacity_0f7a4_14 rfl ?_
  refine x_isub dJ5_newCapacity_0f7a4_15 ?_
  refine x_istore dJ5_newCapacity_0f7a4_16 (Nat.le_of_ble_eq_true rfl) rfl rfl ?_
  refine x_iloadn dJ5_newCapacity_0f7a4_18 rfl ?_
  refine x_iload dJ5_newCapacity_0f7a4_19 rfl ?_
  refine x_iloadn dJ5_newCapacity_0f7a4_21 rfl ?_
  refine x_iconst 2 dJ5_newCapacity_0f7a4_22 rfl ?_
  refine x_aloadn dJ5_newCapacity_0f7a4_23 rfl ?_
  obtain ⟨u9, hq10, h⟩ := b1_s h
  refine x_getI fs_J5_22 (cO_s hq10).1 (cO_s hq10).2 dJ5_newCapacity_0f7a4_24 ?_
  refine x_ishl dJ5_newCapacity_0f7a4_27 ?_
  refine x_iadd dJ5_newCapacity_0f7a4_28 ?_
  obtain ⟨v11, hq12, h⟩ := b1_s h
  have hq := c_J8_newLength_cabcc d hq12
  refine X.c0 (z_Scall [.int (nI m5), .int ((x1 <<< ((I x0 1) &&& 31)) - (nI m5)), .int ((nI m5) + (2 <<< ((I x0 1) &&& 31)))] [] (cs_J5_114 _) (dep (show d + 0 + 1 + 1 ≤ (d + 2) from by omega) (Nat.le_of_ble_eq_true rfl)) dJ5_newCapacity_0f7a4_29 rfl rfl (Nat.le_of_ble_eq_true rfl) hq ?_)
  refine x_istore dJ5_newCapacity_0f7a4_32 (Nat.le_of_ble_eq_true rfl) rfl rfl ?_
  refine x_iload dJ5_newCapacity_0f7a4_34 rfl ?_
  refine x_ldc 2147483647 (show Cond.constant RJ5 39 2147483647 ∈ wsG from inT6 209 rfl rfl) dJ5_newCapacity_0f7a4_36 ?_
  refine x_icmp_ne 51 dJ5_newCapacity_0f7a4_38 rfl (fun hc => ?_) (fun hc => ?_)
  · have h := ifF hc h
    refine x_iload dJ5_newCapacity_0f7a4_51 rfl ?_
    refine x_aloadn dJ5_newCapacity_0f7a4_53 rfl ?_
    obtain ⟨u13, hq14, h⟩ := b1_s h
    refine x_getI fs_J5_22 (cO_s hq14).1 (cO_s hq14).2 dJ5_newCapacity_0f7a4_54 ?_
    refine x_ishr dJ5_newCapacity_0f7a4_57 ?_
    cases h
    exact x_iret rfl dJ5_newCapacity_0f7a4_58 ⟨rfl, rfl, rfl⟩
  have h := ifT hc h
  cases h
noncomputable def f_J7_copyOf_9075b (I : Mem) (K : Kt) (x0 : Nat) (x1 : Int32) : Option (Nat × Mem × Kt) := b1 (cLen K x0) fun m1 => if x1 = (nI m1) then (none) else (b1 (ixn x1) fun m3 => b1 (cL K) fun _ => b2 (puN I K (101, m3)) fun I5 K6 => b1 (cLen K6 x0) fun m10 => b1 (cA K6 101 (kN K)) fun m13 => b1 (cA K6 101 x0) fun m19 => b3 (cpy 0 0 (if x1 < (nI m10) then x1 else (nI m10)) m19 m13) fun j15 j16 j17 => b1 (cFit (I5 x0) j15 j17) fun _ => b1 (puY I5 (kN K) (va_cpy (I5 x0) (I5 (kN K)) j15 j16 j17)) fun I12 => some ((kN K), I12, K6))
theorem c_J7_copyOf_9075b (d : Nat) {K : Kt} {I : Mem} {x0 : Nat} {x1 : Int32} {v : Nat} {I9 : Mem} {K9 : Kt} (h : f_J7_copyOf_9075b I K x0 x1 = some (v, I9, K9)) : CtG (mJ7_copyOf_9075b (d + 1)) cJ7_copyOf_9075b 0 0 K9 [.ref x0, .int x1] I K (Ro (.inl (some (.ref v))) I9 K9) := by
  refine CtG.of rfl pn_J7 (catR (catI cat0)) (Nat.le_of_ble_eq_true rfl) (show XG (mJ7_copyOf_9075b (d + 1)) cJ7_copyOf_9075b 0 0 K9 I K 0 [.ref x0, .int x1, .retAddr 0] [] (Ro (.inl (some (.ref v))) I9 K9) from ?_)
  unfold f_J7_copyOf_9075b at h
  refine XG.l (fun z9 => x_iloadn dJ7_copyOf_9075b_0 rfl z9) ?_
  refine XG.l (fun z9 => x_aloadn dJ7_copyOf_9075b_1 rfl z9) ?_
  obtain ⟨m1, hq2, h⟩ := b1_s h
  refine XG.l (fun z9 => z_lenD hq2 dJ7_copyOf_9075b_2 z9) ?_
  rcases Classical.em (x1 = (nI m1)) with hc | hc
  · have h := ifT hc h
    refine XG.l (fun z9 => x_icmp_ne 14 dJ7_copyOf_9075b_3 rfl (fun hn => absurd hc hn) (fun _ => z9)) ?_
    cases h
  have h := ifF hc h
  refine XG.l (fun z9 => x_icmp_ne 14 dJ7_copyOf_9075b_3 rfl (fun _ => z9) (fun hn => absurd hn hc)) ?_
  refine XG.l (fun z9 => x_iloadn dJ7_copyOf_9075b_14 rfl z9) ?_
  obtain ⟨m3, hq7, h⟩ := b1_s h
  obtain ⟨u4, hq8, h⟩ := b1_s h
  obtain ⟨I5, K6, hq9, h⟩ := b2_s h
  refine XG.sn hq9 ?_ (fun z9 => x_newB (show Cond.arrayClass .byte ∈ wsG from inT1 85 rfl rfl) (ixn_s hq7).1 (ixn_s hq7).2 (cL_s hq8) dJ7_copyOf_9075b_15 z9)
  refine XG.l (fun z9 => x_astoren dJ7_copyOf_9075b_17 (Nat.le_of_ble_eq_true rfl) rfl rfl z9) ?_
  refine XG.l (fun z9 => x_aloadn dJ7_copyOf_9075b_18 rfl z9) ?_
  refine XG.l (fun z9 => x_iconst 0 dJ7_copyOf_9075b_19 rfl z9) ?_
  refine XG.l (fun z9 => x_aloadn dJ7_copyOf_9075b_20 rfl z9) ?_
  refine XG.l (fun z9 => x_iconst 0 dJ7_copyOf_9075b_21 rfl z9) ?_
  refine XG.l (fun z9 => x_aloadn dJ7_copyOf_9075b_22 rfl z9) ?_
  obtain ⟨m10, hq11, h⟩ := b1_s h
  refine XG.l (fun z9 => z_lenD hq11 dJ7_copyOf_9075b_23 z9) ?_
  refine XG.l (fun z9 => x_iloadn dJ7_copyOf_9075b_24 rfl z9) ?_
  refine XG.l (fun z9 => x_mmin ms_J7_304 (Nat.le_of_ble_eq_true rfl) (by show 1 ≤ (d + 1); omega) dJ7_copyOf_9075b_25 z9) ?_
  obtain ⟨m13, hq14, h⟩ := b1_s h
  obtain ⟨m19, hq20, h⟩ := b1_s h
  obtain ⟨j15, j16, j17, hq21, h⟩ := b3_s h
  obtain ⟨u18, hq22, h⟩ := b1_s h
  obtain ⟨I12, hq23, h⟩ := b1_s h
  cases hq23
  refine XG.l (fun z9 => x_copyBB (show Cond.methodLink RJ7 150 arraycopyName ∈ wsG from inT6 86 rfl rfl) (show Cond.native arraycopyName ∈ wsG from inT6 88 rfl rfl) (show Cond.static arraycopyName ∈ wsG from inT6 87 rfl rfl) (show Cond.initialized "java/lang/System" ∈ wsG from inT1 21 rfl rfl) (cA_s hq20) (cA_s hq14) hq21 hq22 (by show 1 ≤ (d + 1); omega) (Nat.le_of_ble_eq_true rfl) dJ7_copyOf_9075b_28 z9) ?_
  refine XG.l (fun z9 => x_aloadn dJ7_copyOf_9075b_31 rfl z9) ?_
  cases h
  exact XG.z (x_aret rfl (Or.inr ⟨_, rfl⟩) dJ7_copyOf_9075b_32 ⟨rfl, rfl, rfl⟩)
noncomputable def f_J5_ensureCapacityInternal_d00df (I : Mem) (K : Kt) (x0 : Nat) (x1 : Int32) : Option (Mem × Kt) := b1 (cO K 0 x0) fun _ => b1 (gR K x0 0) fun r3 => b1 (cLen K r3) fun m5 => b1 (cO K 0 x0) fun _ => if (x1 - ((nI m5) >>> ((I x0 1) &&& 31))) ≤ 0 then (some (I, K)) else (b1 (cO K 0 x0) fun _ => b1 (gR K x0 0) fun r11 => b1 (cO K 0 x0) fun _ => b1 (f_J5_newCapacity_0f7a4 I K x0 x1) fun v15 => b1 (cO K 0 x0) fun _ => b3 (f_J7_copyOf_9075b I K r11 (v15 <<< ((I x0 1) &&& 31))) fun v19 I20 K21 => b1 (cO K21 0 x0) fun _ => b1 (puG K21 x0 0 v19) fun K25 => some (I20, K25))
theorem c_J5_ensureCapacityInternal_d00df (d : Nat) {K : Kt} {I : Mem} {x0 : Nat} {x1 : Int32} {I9 : Mem} {K9 : Kt} (h : f_J5_ensureCapacityInternal_d00df I K x0 x1 = some (I9, K9)) : CtG (mJ5_ensureCapacityInternal_d00df (d + 3)) cJ5_ensureCapacityInternal_d00df 0 0 K9 [.ref x0, .int x1] I K (Ro (.inl none) I9 K9) := by
  refine CtG.of rfl pn_J5 (catR (catI cat0)) (Nat.le_of_ble_eq_true rfl) (show XG (mJ5_ensureCapacityInternal_d00df (d + 3)) cJ5_ensureCapacityInternal_d00df 0 0 K9 I K 0 [.ref x0, .int x1, .retAddr 0] [] (Ro (.inl none) I9 K9) from ?_)
  unfold f_J5_ensureCapacityInternal_d00df at h
  refine XG.l (fun z9 => x_aloadn dJ5_ensureCapacityInternal_d00df_0 rfl z9) ?_
  obtain ⟨u1, hq2, h⟩ := b1_s h
  obtain ⟨r3, hq4, h⟩ := b1_s h
  refine XG.l (fun z9 => x_getR fs_J5_15 (cO_s hq2).1 (cO_s hq2).2 hq4 dJ5_ensureCapacityInternal_d00df_1 z9) ?_
  obtain ⟨m5, hq6, h⟩ := b1_s h
  refine XG.l (fun z9 => z_lenD hq6 dJ5_ensureCapacityInternal_d00df_4 z9) ?_
  refine XG.l (fun z9 => x_aloadn dJ5_ensureCapacityInternal_d00df_5 rfl z9) ?_
  obtain ⟨u7, hq8, h⟩ := b1_s h
  refine XG.l (fun z9 => x_getI fs_J5_22 (cO_s hq8).1 (cO_s hq8).2 dJ5_ensureCapacityInternal_d00df_6 z9) ?_
  refine XG.l (fun z9 => x_ishr dJ5_ensureCapacityInternal_d00df_9 z9) ?_
  refine XG.l (fun z9 => x_istoren dJ5_ensureCapacityInternal_d00df_10 (Nat.le_of_ble_eq_true rfl) rfl rfl z9) ?_
  refine XG.l (fun z9 => x_iloadn dJ5_ensureCapacityInternal_d00df_11 rfl z9) ?_
  refine XG.l (fun z9 => x_iloadn dJ5_ensureCapacityInternal_d00df_12 rfl z9) ?_
  refine XG.l (fun z9 => x_isub dJ5_ensureCapacityInternal_d00df_13 z9) ?_
  rcases Classical.em ((x1 - ((nI m5) >>> ((I x0 1) &&& 31))) ≤ 0) with hc | hc
  · have h := ifT hc h
    refine XG.l (fun z9 => x_if_le 38 dJ5_ensureCapacityInternal_d00df_14 rfl (fun _ => z9) (fun hn => absurd hc hn)) ?_
    cases h
    exact XG.z (x_vret rfl dJ5_ensureCapacityInternal_d00df_38 ⟨rfl, rfl, rfl⟩)
  have h := ifF hc h
  refine XG.l (fun z9 => x_if_le 38 dJ5_ensureCapacityInternal_d00df_14 rfl (fun hn => absurd hn hc) (fun _ => z9)) ?_
  refine XG.l (fun z9 => x_aloadn dJ5_ensureCapacityInternal_d00df_17 rfl z9) ?_
  refine XG.l (fun z9 => x_aloadn dJ5_ensureCapacityInternal_d00df_18 rfl z9) ?_
  obtain ⟨u9, hq10, h⟩ := b1_s h
  obtain ⟨r11, hq12, h⟩ := b1_s h
  refine XG.l (fun z9 => x_getR fs_J5_15 (cO_s hq10).1 (cO_s hq10).2 hq12 dJ5_ensureCapacityInternal_d00df_19 z9) ?_
  refine XG.l (fun z9 => x_aloadn dJ5_ensureCapacityInternal_d00df_22 rfl z9) ?_
  refine XG.l (fun z9 => x_iloadn dJ5_ensureCapacityInternal_d00df_23 rfl z9) ?_
  obtain ⟨u13, hq14, h⟩ := b1_s h
  obtain ⟨v15, hq16, h⟩ := b1_s h
  have hq := c_J5_newCapacity_0f7a4 d hq16
  refine XG.l (fun z9 => X.c0 (z_VCcall [.int x1] [.ref r11, .ref x0] (cs_J5_104 _) (ci := 0) rfl (cO_s hq14) (dep (show d + 0 + 2 + 1 ≤ (d + 3) from by omega) (Nat.le_of_ble_eq_true rfl)) dJ5_ensureCapacityInternal_d00df_24 rfl rfl (Nat.le_of_ble_eq_true rfl) hq z9)) ?_
  refine XG.l (fun z9 => x_aloadn dJ5_ensureCapacityInternal_d00df_27 rfl z9) ?_
  obtain ⟨u17, hq18, h⟩ := b1_s h
  refine XG.l (fun z9 => x_getI fs_J5_22 (cO_s hq18).1 (cO_s hq18).2 dJ5_ensureCapacityInternal_d00df_28 z9) ?_
  refine XG.l (fun z9 => x_ishl dJ5_ensureCapacityInternal_d00df_31 z9) ?_
  obtain ⟨v19, I20, K21, hq22, h⟩ := b3_s h
  have hq := c_J7_copyOf_9075b (d + 1) hq22
  refine XG.call hq.1 ?_ (fun z9 => z_Scall [.ref r11, .int (v15 <<< ((I x0 1) &&& 31))] [.ref x0] (cs_J5_108 _) (dep (show d + 1 + 1 + 1 ≤ (d + 3) from by omega) (Nat.le_of_ble_eq_true rfl)) dJ5_ensureCapacityInternal_d00df_32 rfl rfl (Nat.le_of_ble_eq_true rfl) hq.2 z9)
  obtain ⟨u23, hq24, h⟩ := b1_s h
  obtain ⟨K25, hq26, h⟩ := b1_s h
  refine XG.sg hq26 ?_ (fun z9 => x_putR fs_J5_15 (fun h => by cases h) (cO_s hq24).1 (cO_s hq24).2 (fun q => ⟨rfl, rfl⟩) dJ5_ensureCapacityInternal_d00df_35 z9)
  cases h
  exact XG.z (x_vret rfl dJ5_ensureCapacityInternal_d00df_38 ⟨rfl, rfl, rfl⟩)
noncomputable def f_J0_getBytes_840e7 (I : Mem) (K : Kt) (x0 : Nat) (x1 : Nat) (x2 : Int32) (x3 : Int32) : Option (Mem) := b1 (ckS x0) fun _ => b1 (f_J0_coder_7d493 I x0) fun v3 => if v3 = x3 then (b1 (ckS x0) fun _ => b1 (ckS x0) fun _ => b1 (ckS x0) fun _ => b1 (cA K 101 x1) fun m18 => b1 (ckS x0) fun _ => b3 (cpy 0 (x2 <<< (x3 &&& 31)) (nI (lenT.getD x0 0)) (lenT.getD x0 0) m18) fun j20 j21 j22 => b1 (puY I x1 (va_cpy (fun j => (bytT.getD x0 []).getD j 0) (I x1) j20 j21 j22)) fun I17 => some (I17)) else (b1 (ckS x0) fun _ => b1 (ckS x0) fun _ => b1 (ckS x0) fun _ => none)
theorem c_J0_getBytes_840e7 (d : Nat) {K : Kt} {I : Mem} {x0 : Nat} {x1 : Nat} {x2 : Int32} {x3 : Int32} {I9 : Mem} (h : f_J0_getBytes_840e7 I K x0 x1 x2 x3 = some I9) : Ct (mJ0_getBytes_840e7 (d + 1)) cJ0_getBytes_840e7 0 0 [.ref (xE (100 + x0)), .ref x1, .int x2, .int x3] I K (Ro (.inl none) I9 K) := by
  refine Ct.of rfl pn_J0 (catR (catR (catI (catI cat0)))) (Nat.le_of_ble_eq_true rfl) (show X (mJ0_getBytes_840e7 (d + 1)) cJ0_getBytes_840e7 0 0 I K 0 [.ref (xE (100 + x0)), .ref x1, .int x2, .int x3] [] (Ro (.inl none) I9 K) from ?_)
  unfold f_J0_getBytes_840e7 at h
  refine x_aloadn dJ0_getBytes_840e7_0 rfl ?_
  obtain ⟨u1, hq2, h⟩ := b1_s h
  obtain ⟨v3, hq4, h⟩ := b1_s h
  have hq := c_J0_coder_7d493 d (K := K) (I := I)  hq4
  refine z_FScall [] [] (cs_J0_335 _) rfl hq2 (dep (show d + 0 + 0 + 1 ≤ (d + 1) from by omega) (Nat.le_of_ble_eq_true rfl)) dJ0_getBytes_840e7_1 rfl rfl (Nat.le_of_ble_eq_true rfl) hq ?_
  refine x_iloadn dJ0_getBytes_840e7_4 rfl ?_
  refine x_icmp_ne 28 dJ0_getBytes_840e7_5 rfl (fun hc => ?_) (fun hc => ?_)
  · have h := ifF hc h
    refine x_aloadn dJ0_getBytes_840e7_28 rfl ?_
    obtain ⟨u5, hq6, h⟩ := b1_s h
    refine x_fgV hq6 (show Cond.fieldLink RJ0 9 RJ0 "value" "[B" ∈ wsG from inT8 29 rfl rfl) dJ0_getBytes_840e7_29 ?_
    refine x_iconst 0 dJ0_getBytes_840e7_32 rfl ?_
    refine x_aloadn dJ0_getBytes_840e7_33 rfl ?_
    refine x_iloadn dJ0_getBytes_840e7_34 rfl ?_
    refine x_aloadn dJ0_getBytes_840e7_35 rfl ?_
    obtain ⟨u7, hq8, h⟩ := b1_s h
    refine x_fgV hq8 (show Cond.fieldLink RJ0 9 RJ0 "value" "[B" ∈ wsG from inT8 29 rfl rfl) dJ0_getBytes_840e7_36 ?_
    obtain ⟨u9, hq10, h⟩ := b1_s h
    refine x_flen hq10 dJ0_getBytes_840e7_39 ?_
    cases h
  have h := ifT hc h
  refine x_aloadn dJ0_getBytes_840e7_8 rfl ?_
  obtain ⟨u11, hq12, h⟩ := b1_s h
  refine x_fgV hq12 (show Cond.fieldLink RJ0 9 RJ0 "value" "[B" ∈ wsG from inT8 29 rfl rfl) dJ0_getBytes_840e7_9 ?_
  refine x_iconst 0 dJ0_getBytes_840e7_12 rfl ?_
  refine x_aloadn dJ0_getBytes_840e7_13 rfl ?_
  refine x_iloadn dJ0_getBytes_840e7_14 rfl ?_
  refine x_iloadn dJ0_getBytes_840e7_15 rfl ?_
  refine x_ishl dJ0_getBytes_840e7_16 ?_
  refine x_aloadn dJ0_getBytes_840e7_17 rfl ?_
  obtain ⟨u13, hq14, h⟩ := b1_s h
  refine x_fgV hq14 (show Cond.fieldLink RJ0 9 RJ0 "value" "[B" ∈ wsG from inT8 29 rfl rfl) dJ0_getBytes_840e7_18 ?_
  obtain ⟨u15, hq16, h⟩ := b1_s h
  refine x_flen hq16 dJ0_getBytes_840e7_21 ?_
  obtain ⟨m18, hq19, h⟩ := b1_s h
  obtain ⟨u23, hq24, h⟩ := b1_s h
  obtain ⟨j20, j21, j22, hq25, h⟩ := b3_s h
  obtain ⟨I17, hq26, h⟩ := b1_s h
  cases hq26
  refine x_copyFB (show Cond.methodLink RJ0 212 arraycopyName ∈ wsG from inT7 57 rfl rfl) (show Cond.native arraycopyName ∈ wsG from inT6 88 rfl rfl) (show Cond.static arraycopyName ∈ wsG from inT6 87 rfl rfl) (show Cond.initialized "java/lang/System" ∈ wsG from inT1 21 rfl rfl) hq24 (cA_s hq19) hq25 (by show 1 ≤ (d + 1); omega) (Nat.le_of_ble_eq_true rfl) dJ0_getBytes_840e7_22 ?_
  refine x_goto 43 dJ0_getBytes_840e7_25 rfl ?_
  cases h
  exact x_vret rfl dJ0_getBytes_840e7_43 ⟨rfl, rfl, rfl⟩
noncomputable def f_J5_inflateIfNeededFor_a7421 (I : Mem) (K : Kt) (x0 : Nat) (x1 : Nat) : Option (Unit) := if (1 : Int32) = 0 then (some (())) else (b1 (cO K 0 x0) fun _ => b1 (ckS x1) fun _ => b1 (f_J0_coder_7d493 I x1) fun v5 => if (I x0 1) = v5 then (some (())) else (none))
theorem c_J5_inflateIfNeededFor_a7421 (d : Nat) {K : Kt} {I : Mem} {x0 : Nat} {x1 : Nat} {u9 : Unit} (h : f_J5_inflateIfNeededFor_a7421 I K x0 x1 = some u9) : Ct (mJ5_inflateIfNeededFor_a7421 (d + 1)) cJ5_inflateIfNeededFor_a7421 0 0 [.ref x0, .ref (xE (100 + x1))] I K (Ro (.inl none) I K) := by
  refine Ct.of rfl pn_J5 (catR (catR cat0)) (Nat.le_of_ble_eq_true rfl) (show X (mJ5_inflateIfNeededFor_a7421 (d + 1)) cJ5_inflateIfNeededFor_a7421 0 0 I K 0 [.ref x0, .ref (xE (100 + x1))] [] (Ro (.inl none) I K) from ?_)
  unfold f_J5_inflateIfNeededFor_a7421 at h
  refine x_gsC (show Cond.fieldLink RJ5 18 "java/lang/String" "COMPACT_STRINGS" "Z" ∈ wsG from inT2 106 rfl rfl) dJ5_inflateIfNeededFor_a7421_0 ?_
  refine x_if_eq 21 dJ5_inflateIfNeededFor_a7421_3 rfl (fun hc => ?_) (fun hc => ?_)
  · have h := ifT hc h
    cases h
    exact x_vret rfl dJ5_inflateIfNeededFor_a7421_21 ⟨rfl, rfl, rfl⟩
  have h := ifF hc h
  refine x_aloadn dJ5_inflateIfNeededFor_a7421_6 rfl ?_
  obtain ⟨u1, hq2, h⟩ := b1_s h
  refine x_getI fs_J5_22 (cO_s hq2).1 (cO_s hq2).2 dJ5_inflateIfNeededFor_a7421_7 ?_
  refine x_aloadn dJ5_inflateIfNeededFor_a7421_10 rfl ?_
  obtain ⟨u3, hq4, h⟩ := b1_s h
  obtain ⟨v5, hq6, h⟩ := b1_s h
  have hq := c_J0_coder_7d493 d (K := K) (I := I)  hq6
  refine z_FScall [] [.int (I x0 1)] (cs_J5_40 _) rfl hq4 (dep (show d + 0 + 0 + 1 ≤ (d + 1) from by omega) (Nat.le_of_ble_eq_true rfl)) dJ5_inflateIfNeededFor_a7421_11 rfl rfl (Nat.le_of_ble_eq_true rfl) hq ?_
  refine x_icmp_eq 21 dJ5_inflateIfNeededFor_a7421_14 rfl (fun hc => ?_) (fun hc => ?_)
  · have h := ifT hc h
    cases h
    exact x_vret rfl dJ5_inflateIfNeededFor_a7421_21 ⟨rfl, rfl, rfl⟩
  have h := ifF hc h
  cases h
noncomputable def f_J5_putStringAt_47b60 (I : Mem) (K : Kt) (x0 : Nat) (x1 : Int32) (x2 : Nat) : Option (Mem) := b1 (cO K 0 x0) fun _ => b1 (f_J5_inflateIfNeededFor_a7421 I K x0 x2) fun u3 => b1 (cO K 0 x0) fun _ => b1 (gR K x0 0) fun r7 => b1 (cO K 0 x0) fun _ => b1 (ckS x2) fun _ => b1 (f_J0_getBytes_840e7 I K x2 r7 x1 (I x0 1)) fun I13 => some (I13)
theorem c_J5_putStringAt_47b60 (d : Nat) {K : Kt} {I : Mem} {x0 : Nat} {x1 : Int32} {x2 : Nat} {I9 : Mem} (h : f_J5_putStringAt_47b60 I K x0 x1 x2 = some I9) : Ct (mJ5_putStringAt_47b60 (d + 2)) cJ5_putStringAt_47b60 0 0 [.ref x0, .int x1, .ref (xE (100 + x2))] I K (Ro (.inl none) I9 K) := by
  refine Ct.of rfl pn_J5 (catR (catI (catR cat0))) (Nat.le_of_ble_eq_true rfl) (show X (mJ5_putStringAt_47b60 (d + 2)) cJ5_putStringAt_47b60 0 0 I K 0 [.ref x0, .int x1, .ref (xE (100 + x2))] [] (Ro (.inl none) I9 K) from ?_)
  unfold f_J5_putStringAt_47b60 at h
  refine x_aloadn dJ5_putStringAt_47b60_0 rfl ?_
  refine x_aloadn dJ5_putStringAt_47b60_1 rfl ?_
  obtain ⟨u1, hq2, h⟩ := b1_s h
  obtain ⟨u3, hq4, h⟩ := b1_s h
  have hq := c_J5_inflateIfNeededFor_a7421 d hq4
  refine X.c0 (z_VCcall [.ref (xE (100 + x2))] [] (cs_J5_397 _) (ci := 0) rfl (cO_s hq2) (dep (show d + 0 + 1 + 1 ≤ (d + 2) from by omega) (Nat.le_of_ble_eq_true rfl)) dJ5_putStringAt_47b60_2 rfl rfl (Nat.le_of_ble_eq_true rfl) hq ?_)
  refine x_aloadn dJ5_putStringAt_47b60_5 rfl ?_
  refine x_aloadn dJ5_putStringAt_47b60_6 rfl ?_
  obtain ⟨u5, hq6, h⟩ := b1_s h
  obtain ⟨r7, hq8, h⟩ := b1_s h
  refine x_getR fs_J5_15 (cO_s hq6).1 (cO_s hq6).2 hq8 dJ5_putStringAt_47b60_7 ?_
  refine x_iloadn dJ5_putStringAt_47b60_10 rfl ?_
  refine x_aloadn dJ5_putStringAt_47b60_11 rfl ?_
  obtain ⟨u9, hq10, h⟩ := b1_s h
  refine x_getI fs_J5_22 (cO_s hq10).1 (cO_s hq10).2 dJ5_putStringAt_47b60_12 ?_
  obtain ⟨u11, hq12, h⟩ := b1_s h
  obtain ⟨I13, hq14, h⟩ := b1_s h
  have hq := c_J0_getBytes_840e7 d hq14
  refine z_FScall [.ref r7, .int x1, .int (I x0 1)] [] (cs_J5_399 _) rfl hq12 (dep (show d + 0 + 1 + 1 ≤ (d + 2) from by omega) (Nat.le_of_ble_eq_true rfl)) dJ5_putStringAt_47b60_15 rfl rfl (Nat.le_of_ble_eq_true rfl) hq ?_
  cases h
  exact x_vret rfl dJ5_putStringAt_47b60_18 ⟨rfl, rfl, rfl⟩
noncomputable def f_J5_append_cf1ce (I : Mem) (K : Kt) (x0 : Nat) (x1 : Nat) : Option (Nat × Mem × Kt) := b1 (ckS x1) fun _ => b1 (f_J0_length_8abf5 I x1) fun v3 => b1 (cO K 0 x0) fun _ => b1 (cO K 0 x0) fun _ => b2 (f_J5_ensureCapacityInternal_d00df I K x0 ((I x0 3) + v3)) fun I9 K10 => b1 (cO K10 0 x0) fun _ => b1 (cO K10 0 x0) fun _ => b1 (f_J5_putStringAt_47b60 I9 K10 x0 (I9 x0 3) x1) fun I16 => b1 (cO K10 0 x0) fun _ => b1 (cO K10 0 x0) fun _ => b1 (pu I16 x0 3 ((I16 x0 3) + v3)) fun I22 => some (x0, I22, K10)
theorem c_J5_append_cf1ce (d : Nat) {K : Kt} {I : Mem} {x0 : Nat} {x1 : Nat} {v : Nat} {I9 : Mem} {K9 : Kt} (h : f_J5_append_cf1ce I K x0 x1 = some (v, I9, K9)) : CtG (mJ5_append_cf1ce (d + 4)) cJ5_append_cf1ce 0 0 K9 [.ref x0, .ref (xE (100 + x1))] I K (Ro (.inl (some (.ref v))) I9 K9) := by
  refine CtG.of rfl pn_J5 (catR (catR cat0)) (Nat.le_of_ble_eq_true rfl) (show XG (mJ5_append_cf1ce (d + 4)) cJ5_append_cf1ce 0 0 K9 I K 0 [.ref x0, .ref (xE (100 + x1)), .retAddr 0] [] (Ro (.inl (some (.ref v))) I9 K9) from ?_)
  unfold f_J5_append_cf1ce at h
  refine XG.l (fun z9 => x_aloadn dJ5_append_cf1ce_0 rfl z9) ?_
  refine XG.l (fun z9 => x_ifnonnull 9 dJ5_append_cf1ce_1 rfl z9) ?_
  refine XG.l (fun z9 => x_aloadn dJ5_append_cf1ce_9 rfl z9) ?_
  obtain ⟨u1, hq2, h⟩ := b1_s h
  obtain ⟨v3, hq4, h⟩ := b1_s h
  have hq := c_J0_length_8abf5 (d + 2) (K := K) (I := I)  hq4
  refine XG.l (fun z9 => z_FScall [] [] (cs_J5_32 _) rfl hq2 (dep (show d + 2 + 1 + 1 ≤ (d + 4) from by omega) (Nat.le_of_ble_eq_true rfl)) dJ5_append_cf1ce_10 rfl rfl (Nat.le_of_ble_eq_true rfl) hq z9) ?_
  refine XG.l (fun z9 => x_istoren dJ5_append_cf1ce_13 (Nat.le_of_ble_eq_true rfl) rfl rfl z9) ?_
  refine XG.l (fun z9 => x_aloadn dJ5_append_cf1ce_14 rfl z9) ?_
  refine XG.l (fun z9 => x_aloadn dJ5_append_cf1ce_15 rfl z9) ?_
  obtain ⟨u5, hq6, h⟩ := b1_s h
  refine XG.l (fun z9 => x_getI fs_J5_79 (cO_s hq6).1 (cO_s hq6).2 dJ5_append_cf1ce_16 z9) ?_
  refine XG.l (fun z9 => x_iloadn dJ5_append_cf1ce_19 rfl z9) ?_
  refine XG.l (fun z9 => x_iadd dJ5_append_cf1ce_20 z9) ?_
  obtain ⟨u7, hq8, h⟩ := b1_s h
  obtain ⟨I9, K10, hq11, h⟩ := b2_s h
  have hq := c_J5_ensureCapacityInternal_d00df d hq11
  refine XG.call hq.1 ?_ (fun z9 => z_VCcall [.int ((I x0 3) + v3)] [] (cs_J5_100 _) (ci := 0) rfl (cO_s hq8) (dep (show d + 0 + 3 + 1 ≤ (d + 4) from by omega) (Nat.le_of_ble_eq_true rfl)) dJ5_append_cf1ce_21 rfl rfl (Nat.le_of_ble_eq_true rfl) hq.2 z9)
  refine XG.l (fun z9 => x_aloadn dJ5_append_cf1ce_24 rfl z9) ?_
  refine XG.l (fun z9 => x_aloadn dJ5_append_cf1ce_25 rfl z9) ?_
  obtain ⟨u12, hq13, h⟩ := b1_s h
  refine XG.l (fun z9 => x_getI fs_J5_79 (cO_s hq13).1 (cO_s hq13).2 dJ5_append_cf1ce_26 z9) ?_
  refine XG.l (fun z9 => x_aloadn dJ5_append_cf1ce_29 rfl z9) ?_
  obtain ⟨u14, hq15, h⟩ := b1_s h
  obtain ⟨I16, hq17, h⟩ := b1_s h
  have hq := c_J5_putStringAt_47b60 (d + 1) hq17
  refine XG.l (fun z9 => X.c0 (z_VCcall [.int (I9 x0 3), .ref (xE (100 + x1))] [] (cs_J5_208 _) (ci := 0) rfl (cO_s hq15) (dep (show d + 1 + 2 + 1 ≤ (d + 4) from by omega) (Nat.le_of_ble_eq_true rfl)) dJ5_append_cf1ce_30 rfl rfl (Nat.le_of_ble_eq_true rfl) hq z9)) ?_
  refine XG.l (fun z9 => x_aloadn dJ5_append_cf1ce_33 rfl z9) ?_
  refine XG.l (fun z9 => x_dup dJ5_append_cf1ce_34 rfl z9) ?_
  obtain ⟨u18, hq19, h⟩ := b1_s h
  refine XG.l (fun z9 => x_getI fs_J5_79 (cO_s hq19).1 (cO_s hq19).2 dJ5_append_cf1ce_35 z9) ?_
  refine XG.l (fun z9 => x_iloadn dJ5_append_cf1ce_38 rfl z9) ?_
  refine XG.l (fun z9 => x_iadd dJ5_append_cf1ce_39 z9) ?_
  obtain ⟨u20, hq21, h⟩ := b1_s h
  obtain ⟨I22, hq23, h⟩ := b1_s h
  refine XG.l (fun z9 => z_putA fs_J5_79 (cO_s hq21) ⟨rfl, rfl⟩ hq23 dJ5_append_cf1ce_40 z9) ?_
  refine XG.l (fun z9 => x_aloadn dJ5_append_cf1ce_43 rfl z9) ?_
  cases h
  exact XG.z (x_aret rfl (Or.inl ⟨_, rfl⟩) dJ5_append_cf1ce_44 ⟨rfl, rfl, rfl⟩)
noncomputable def f_J4_append_15ec4 (I : Mem) (K : Kt) (x0 : Nat) (x1 : Nat) : Option (Nat × Mem × Kt) := b1 (cO K 0 x0) fun _ => b3 (f_J5_append_cf1ce I K x0 x1) fun v3 I4 K5 => some (x0, I4, K5)
theorem c_J4_append_15ec4 (d : Nat) {K : Kt} {I : Mem} {x0 : Nat} {x1 : Nat} {v : Nat} {I9 : Mem} {K9 : Kt} (h : f_J4_append_15ec4 I K x0 x1 = some (v, I9, K9)) : CtG (mJ4_append_15ec4 (d + 5)) cJ4_append_15ec4 0 0 K9 [.ref x0, .ref (xE (100 + x1))] I K (Ro (.inl (some (.ref v))) I9 K9) := by
  refine CtG.of rfl pn_J4 (catR (catR cat0)) (Nat.le_of_ble_eq_true rfl) (show XG (mJ4_append_15ec4 (d + 5)) cJ4_append_15ec4 0 0 K9 I K 0 [.ref x0, .ref (xE (100 + x1))] [] (Ro (.inl (some (.ref v))) I9 K9) from ?_)
  unfold f_J4_append_15ec4 at h
  refine XG.l (fun z9 => x_aloadn dJ4_append_15ec4_0 rfl z9) ?_
  refine XG.l (fun z9 => x_aloadn dJ4_append_15ec4_1 rfl z9) ?_
  obtain ⟨u1, hq2, h⟩ := b1_s h
  obtain ⟨v3, I4, K5, hq6, h⟩ := b3_s h
  have hq := c_J5_append_cf1ce d hq6
  refine XG.call hq.1 ?_ (fun z9 => z_SUcall [.ref (xE (100 + x1))] [] (cs_J4_29 _) (ci := 0) rfl (cO_s hq2) (dep (show d + 0 + 4 + 1 ≤ (d + 5) from by omega) (Nat.le_of_ble_eq_true rfl)) dJ4_append_15ec4_2 rfl rfl (Nat.le_of_ble_eq_true rfl) hq.2 z9)
  refine XG.l (fun z9 => x_pop dJ4_append_15ec4_5 rfl z9) ?_
  refine XG.l (fun z9 => x_aloadn dJ4_append_15ec4_6 rfl z9) ?_
  cases h
  exact XG.z (x_aret rfl (Or.inl ⟨_, rfl⟩) dJ4_append_15ec4_7 ⟨rfl, rfl, rfl⟩)
noncomputable def f_J5_isLatin1_aae02 (I : Mem) (K : Kt) (x0 : Nat) : Option (Int32) := if (1 : Int32) = 0 then (some (0)) else (b1 (cO K 0 x0) fun _ => if (I x0 1) = 0 then (some (1)) else (some (0)))
theorem c_J5_isLatin1_aae02 (d : Nat) {K : Kt} {I : Mem} {x0 : Nat} {v : Int32} (h : f_J5_isLatin1_aae02 I K x0 = some v) : Ct (mJ5_isLatin1_aae02 d) cJ5_isLatin1_aae02 0 0 [.ref x0] I K (Ro (.inl (some (.int v))) I K) := by
  refine Ct.of rfl pn_J5 (catR cat0) (Nat.le_of_ble_eq_true rfl) (show X (mJ5_isLatin1_aae02 d) cJ5_isLatin1_aae02 0 0 I K 0 [.ref x0] [] (Ro (.inl (some (.int v))) I K) from ?_)
  unfold f_J5_isLatin1_aae02 at h
  refine x_gsC (show Cond.fieldLink RJ5 18 "java/lang/String" "COMPACT_STRINGS" "Z" ∈ wsG from inT2 106 rfl rfl) dJ5_isLatin1_aae02_0 ?_
  refine x_if_eq 17 dJ5_isLatin1_aae02_3 rfl (fun hc => ?_) (fun hc => ?_)
  · have h := ifT hc h
    refine x_iconst 0 dJ5_isLatin1_aae02_17 rfl ?_
    cases h
    exact x_zret rfl rfl dJ5_isLatin1_aae02_18 ⟨rfl, rfl, rfl⟩
  have h := ifF hc h
  refine x_aloadn dJ5_isLatin1_aae02_6 rfl ?_
  obtain ⟨u1, hq2, h⟩ := b1_s h
  refine x_getI fs_J5_22 (cO_s hq2).1 (cO_s hq2).2 dJ5_isLatin1_aae02_7 ?_
  refine x_if_ne 17 dJ5_isLatin1_aae02_10 rfl (fun hc => ?_) (fun hc => ?_)
  · have h := ifF hc h
    refine x_iconst 0 dJ5_isLatin1_aae02_17 rfl ?_
    cases h
    exact x_zret rfl rfl dJ5_isLatin1_aae02_18 ⟨rfl, rfl, rfl⟩
  have h := ifT hc h
  refine x_iconst 1 dJ5_isLatin1_aae02_13 rfl ?_
  refine x_goto 18 dJ5_isLatin1_aae02_14 rfl ?_
  cases h
  exact x_zret rfl rfl dJ5_isLatin1_aae02_18 ⟨rfl, rfl, rfl⟩
noncomputable def l_J6_getChars_ba4f3_104 (I : Mem) (K : Kt) (x2 : Nat) (x5 : Int32) (x6 : Int32) : Option (Int32 × Mem) := if x6 = 0 then (some (x5, I)) else (b1 (cA K 101 x2) fun m10 => b1 (ix (x5 + (-1)) m10) fun j9 => b1 (pu I x2 j9 (vp_nar .byte 45)) fun I13 => some ((x5 + (-1)), I13))
theorem tl_J6_getChars_ba4f3_104 (d : Nat) : ∀ {I : Mem} {K : Kt} {x2 : Nat} {x5 : Int32} {x6 : Int32} {v : Int32} {I9 : Mem}, l_J6_getChars_ba4f3_104 I K x2 x5 x6 = some (v, I9) → X (mJ6_getChars_ba4f3 d) cJ6_getChars_ba4f3 0 0 I K 104 [.retAddr 0, .retAddr 0, .ref x2, .retAddr 0, .retAddr 0, .int x5, .int x6] [] (Ro (.inl (some (.int v))) I9 K) := by
  intro I K x2 x5 x6 v I9 h
  unfold l_J6_getChars_ba4f3_104 at h
  refine x_iload dJ6_getChars_ba4f3_104 rfl ?_
  refine x_if_eq 118 dJ6_getChars_ba4f3_106 rfl (fun hc => ?_) (fun hc => ?_)
  · have h := ifT hc h
    refine x_iload dJ6_getChars_ba4f3_118 rfl ?_
    obtain ⟨rfl, rfl⟩ := Prod.mk.inj (Option.some.inj h)
    exact x_iret rfl dJ6_getChars_ba4f3_120 ⟨rfl, rfl, rfl⟩
  have h := ifF hc h
  refine x_aloadn dJ6_getChars_ba4f3_109 rfl ?_
  refine z_iinc (-1) (by decide) dJ6_getChars_ba4f3_110 rfl rfl rfl ?_
  refine x_iload dJ6_getChars_ba4f3_113 rfl ?_
  refine x_bipush 45 dJ6_getChars_ba4f3_115 (by decide) ?_
  obtain ⟨m10, hq11, h⟩ := b1_s h
  obtain ⟨j9, hq12, h⟩ := b1_s h
  obtain ⟨I13, hq14, h⟩ := b1_s h
  refine z_bast (cA_s hq11) hq12 hq14 dJ6_getChars_ba4f3_117 ?_
  refine x_iload dJ6_getChars_ba4f3_118 rfl ?_
  obtain ⟨rfl, rfl⟩ := Prod.mk.inj (Option.some.inj h)
  exact x_iret rfl dJ6_getChars_ba4f3_120 ⟨rfl, rfl, rfl⟩
noncomputable def l_J6_getChars_ba4f3_22 (m9 : Nat) (I : Mem) (K : Kt) (x0 : Int32) (x2 : Nat) (x5 : Int32) (x6 : Int32) : Option (Int32 × Mem) := match m9 with
  | 0 => none
  | m9 + 1 => if (-100) < x0 then (b1 (ix (-x0) 100) fun j1 => b1 (cA K 101 x2) fun m4 => b1 (ix (x5 + (-1)) m4) fun j3 => b1 (pu I x2 j3 (vp_nar .byte (nI (48 + j1 % 10)))) fun I7 => if (-9) ≤ x0 then (l_J6_getChars_ba4f3_104 I7 K x2 (x5 + (-1)) x6) else (b1 (ix (-x0) 100) fun j15 => b1 (cA K 101 x2) fun m18 => b1 (ix ((x5 + (-1)) + (-1)) m18) fun j17 => b1 (pu I7 x2 j17 (vp_nar .byte (nI (48 + j15 / 10)))) fun I21 => l_J6_getChars_ba4f3_104 I21 K x2 ((x5 + (-1)) + (-1)) x6)) else (b1 (ix (((x0 / 100) * 100) - x0) 100) fun j23 => b1 (cA K 101 x2) fun m26 => b1 (ix (x5 + (-1)) m26) fun j25 => b1 (pu I x2 j25 (vp_nar .byte (nI (48 + j23 % 10)))) fun I29 => b1 (ix (((x0 / 100) * 100) - x0) 100) fun j31 => b1 (cA K 101 x2) fun m34 => b1 (ix ((x5 + (-1)) + (-1)) m34) fun j33 => b1 (pu I29 x2 j33 (vp_nar .byte (nI (48 + j31 / 10)))) fun I37 => l_J6_getChars_ba4f3_22 m9 I37 K (x0 / 100) x2 ((x5 + (-1)) + (-1)) x6)
theorem tl_J6_getChars_ba4f3_22 (d : Nat) (m9 : Nat) : ∀ {I : Mem} {K : Kt} {x0 : Int32} {x2 : Nat} {x5 : Int32} {x6 : Int32} {v : Int32} {I9 : Mem}, l_J6_getChars_ba4f3_22 m9 I K x0 x2 x5 x6 = some (v, I9) → X (mJ6_getChars_ba4f3 d) cJ6_getChars_ba4f3 0 0 I K 22 [.int x0, .retAddr 0, .ref x2, .retAddr 0, .retAddr 0, .int x5, .int x6] [] (Ro (.inl (some (.int v))) I9 K) := by
  induction m9 with
  | zero =>
    intro I K x0 x2 x5 x6 v I9 h
    cases h
  | succ m9 ih =>
    intro I K x0 x2 x5 x6 v I9 h
    unfold l_J6_getChars_ba4f3_22 at h
    refine x_iloadn dJ6_getChars_ba4f3_22 rfl ?_
    refine x_bipush (-100) dJ6_getChars_ba4f3_23 (by decide) ?_
    refine x_icmp_gt 72 dJ6_getChars_ba4f3_25 rfl (fun hc => ?_) (fun hc => ?_)
    · have h := ifT hc h
      refine x_aloadn dJ6_getChars_ba4f3_72 rfl ?_
      refine z_iinc (-1) (by decide) dJ6_getChars_ba4f3_73 rfl rfl rfl ?_
      refine x_iload dJ6_getChars_ba4f3_76 rfl ?_
      refine x_gsOnes (show Cond.fieldLink RJ6 83 "java/lang/Integer" "DigitOnes" "[B" ∈ wsG from inT7 72 rfl rfl) dJ6_getChars_ba4f3_78 ?_
      refine x_iloadn dJ6_getChars_ba4f3_81 rfl ?_
      refine x_ineg dJ6_getChars_ba4f3_82 ?_
      obtain ⟨j1, hq2, h⟩ := b1_s h
      refine x_ones hq2 dJ6_getChars_ba4f3_83 ?_
      obtain ⟨m4, hq5, h⟩ := b1_s h
      obtain ⟨j3, hq6, h⟩ := b1_s h
      obtain ⟨I7, hq8, h⟩ := b1_s h
      refine z_bast (cA_s hq5) hq6 hq8 dJ6_getChars_ba4f3_84 ?_
      refine x_iloadn dJ6_getChars_ba4f3_85 rfl ?_
      refine x_bipush (-9) dJ6_getChars_ba4f3_86 (by decide) ?_
      refine x_icmp_ge 104 dJ6_getChars_ba4f3_88 rfl (fun hc => ?_) (fun hc => ?_)
      · have h := ifT hc h
        exact X.forget (L' := [.retAddr 0, .retAddr 0, .ref x2, .retAddr 0, .retAddr 0, .int (x5 + (-1)), .int x6]) ⟨Or.inr rfl, ⟨Or.inl rfl, ⟨Or.inl rfl, ⟨Or.inl rfl, ⟨Or.inl rfl, ⟨Or.inl rfl, ⟨Or.inl rfl, trivial⟩⟩⟩⟩⟩⟩⟩ (tl_J6_getChars_ba4f3_104 d h)
      have h := ifF hc h
      refine x_aloadn dJ6_getChars_ba4f3_91 rfl ?_
      refine z_iinc (-1) (by decide) dJ6_getChars_ba4f3_92 rfl rfl rfl ?_
      refine x_iload dJ6_getChars_ba4f3_95 rfl ?_
      refine x_gsTens (show Cond.fieldLink RJ6 87 "java/lang/Integer" "DigitTens" "[B" ∈ wsG from inT7 74 rfl rfl) dJ6_getChars_ba4f3_97 ?_
      refine x_iloadn dJ6_getChars_ba4f3_100 rfl ?_
      refine x_ineg dJ6_getChars_ba4f3_101 ?_
      obtain ⟨j15, hq16, h⟩ := b1_s h
      refine x_tens hq16 dJ6_getChars_ba4f3_102 ?_
      obtain ⟨m18, hq19, h⟩ := b1_s h
      obtain ⟨j17, hq20, h⟩ := b1_s h
      obtain ⟨I21, hq22, h⟩ := b1_s h
      refine z_bast (cA_s hq19) hq20 hq22 dJ6_getChars_ba4f3_103 ?_
      exact X.forget (L' := [.retAddr 0, .retAddr 0, .ref x2, .retAddr 0, .retAddr 0, .int ((x5 + (-1)) + (-1)), .int x6]) ⟨Or.inr rfl, ⟨Or.inl rfl, ⟨Or.inl rfl, ⟨Or.inl rfl, ⟨Or.inl rfl, ⟨Or.inl rfl, ⟨Or.inl rfl, trivial⟩⟩⟩⟩⟩⟩⟩ (tl_J6_getChars_ba4f3_104 d h)
    have h := ifF hc h
    refine x_iloadn dJ6_getChars_ba4f3_28 rfl ?_
    refine x_bipush 100 dJ6_getChars_ba4f3_29 (by decide) ?_
    refine x_idiv dJ6_getChars_ba4f3_31 (by decide) ?_
    refine x_istoren dJ6_getChars_ba4f3_32 (Nat.le_of_ble_eq_true rfl) rfl rfl ?_
    refine x_iloadn dJ6_getChars_ba4f3_33 rfl ?_
    refine x_bipush 100 dJ6_getChars_ba4f3_34 (by decide) ?_
    refine x_imul dJ6_getChars_ba4f3_36 ?_
    refine x_iloadn dJ6_getChars_ba4f3_37 rfl ?_
    refine x_isub dJ6_getChars_ba4f3_38 ?_
    refine x_istore dJ6_getChars_ba4f3_39 (Nat.le_of_ble_eq_true rfl) rfl rfl ?_
    refine x_iloadn dJ6_getChars_ba4f3_41 rfl ?_
    refine x_istoren dJ6_getChars_ba4f3_42 (Nat.le_of_ble_eq_true rfl) rfl rfl ?_
    refine x_aloadn dJ6_getChars_ba4f3_43 rfl ?_
    refine z_iinc (-1) (by decide) dJ6_getChars_ba4f3_44 rfl rfl rfl ?_
    refine x_iload dJ6_getChars_ba4f3_47 rfl ?_
    refine x_gsOnes (show Cond.fieldLink RJ6 83 "java/lang/Integer" "DigitOnes" "[B" ∈ wsG from inT7 72 rfl rfl) dJ6_getChars_ba4f3_49 ?_
    refine x_iload dJ6_getChars_ba4f3_52 rfl ?_
    obtain ⟨j23, hq24, h⟩ := b1_s h
    refine x_ones hq24 dJ6_getChars_ba4f3_54 ?_
    obtain ⟨m26, hq27, h⟩ := b1_s h
    obtain ⟨j25, hq28, h⟩ := b1_s h
    obtain ⟨I29, hq30, h⟩ := b1_s h
    refine z_bast (cA_s hq27) hq28 hq30 dJ6_getChars_ba4f3_55 ?_
    refine x_aloadn dJ6_getChars_ba4f3_56 rfl ?_
    refine z_iinc (-1) (by decide) dJ6_getChars_ba4f3_57 rfl rfl rfl ?_
    refine x_iload dJ6_getChars_ba4f3_60 rfl ?_
    refine x_gsTens (show Cond.fieldLink RJ6 87 "java/lang/Integer" "DigitTens" "[B" ∈ wsG from inT7 74 rfl rfl) dJ6_getChars_ba4f3_62 ?_
    refine x_iload dJ6_getChars_ba4f3_65 rfl ?_
    obtain ⟨j31, hq32, h⟩ := b1_s h
    refine x_tens hq32 dJ6_getChars_ba4f3_67 ?_
    obtain ⟨m34, hq35, h⟩ := b1_s h
    obtain ⟨j33, hq36, h⟩ := b1_s h
    obtain ⟨I37, hq38, h⟩ := b1_s h
    refine z_bast (cA_s hq35) hq36 hq38 dJ6_getChars_ba4f3_68 ?_
    refine x_goto 22 dJ6_getChars_ba4f3_69 rfl ?_
    exact X.forget (L' := [.int (x0 / 100), .retAddr 0, .ref x2, .retAddr 0, .retAddr 0, .int ((x5 + (-1)) + (-1)), .int x6]) ⟨Or.inl rfl, ⟨Or.inl rfl, ⟨Or.inl rfl, ⟨Or.inr rfl, ⟨Or.inr rfl, ⟨Or.inl rfl, ⟨Or.inl rfl, trivial⟩⟩⟩⟩⟩⟩⟩ (ih h)
noncomputable def l_J6_getChars_ba4f3_12 (I : Mem) (K : Kt) (x0 : Int32) (x2 : Nat) (x5 : Int32) (y0 : Int32) : Option (Int32 × Mem) := if y0 = 0 then (l_J6_getChars_ba4f3_22 FU I K (-x0) x2 x5 y0) else (l_J6_getChars_ba4f3_22 FU I K x0 x2 x5 y0)
theorem tl_J6_getChars_ba4f3_12 (d : Nat) : ∀ {I : Mem} {K : Kt} {x0 : Int32} {x2 : Nat} {x5 : Int32} {y0 : Int32} {v : Int32} {I9 : Mem}, l_J6_getChars_ba4f3_12 I K x0 x2 x5 y0 = some (v, I9) → X (mJ6_getChars_ba4f3 d) cJ6_getChars_ba4f3 0 0 I K 12 [.int x0, .retAddr 0, .ref x2, .retAddr 0, .retAddr 0, .int x5, .retAddr 0] [.int y0] (Ro (.inl (some (.int v))) I9 K) := by
  intro I K x0 x2 x5 y0 v I9 h
  unfold l_J6_getChars_ba4f3_12 at h
  refine x_istore dJ6_getChars_ba4f3_12 (Nat.le_of_ble_eq_true rfl) rfl rfl ?_
  refine x_iload dJ6_getChars_ba4f3_14 rfl ?_
  refine x_if_ne 22 dJ6_getChars_ba4f3_16 rfl (fun hc => ?_) (fun hc => ?_)
  · have h := ifF hc h
    exact (tl_J6_getChars_ba4f3_22 d FU h)
  have h := ifT hc h
  refine x_iloadn dJ6_getChars_ba4f3_19 rfl ?_
  refine x_ineg dJ6_getChars_ba4f3_20 ?_
  refine x_istoren dJ6_getChars_ba4f3_21 (Nat.le_of_ble_eq_true rfl) rfl rfl ?_
  exact (tl_J6_getChars_ba4f3_22 d FU h)
noncomputable def f_J6_getChars_ba4f3 (I : Mem) (K : Kt) (x0 : Int32) (x1 : Int32) (x2 : Nat) : Option (Int32 × Mem) := if 0 ≤ x0 then (l_J6_getChars_ba4f3_12 I K x0 x2 x1 0) else (l_J6_getChars_ba4f3_12 I K x0 x2 x1 1)
theorem c_J6_getChars_ba4f3 (d : Nat) {K : Kt} {I : Mem} {x0 : Int32} {x1 : Int32} {x2 : Nat} {v : Int32} {I9 : Mem} (h : f_J6_getChars_ba4f3 I K x0 x1 x2 = some (v, I9)) : Ct (mJ6_getChars_ba4f3 d) cJ6_getChars_ba4f3 0 0 [.int x0, .int x1, .ref x2] I K (Ro (.inl (some (.int v))) I9 K) := by
  refine Ct.of rfl pn_J6 (catI (catI (catR cat0))) (Nat.le_of_ble_eq_true rfl) (show X (mJ6_getChars_ba4f3 d) cJ6_getChars_ba4f3 0 0 I K 0 [.int x0, .int x1, .ref x2, .retAddr 0, .retAddr 0, .retAddr 0, .retAddr 0] [] (Ro (.inl (some (.int v))) I9 K) from ?_)
  unfold f_J6_getChars_ba4f3 at h
  refine x_iloadn dJ6_getChars_ba4f3_0 rfl ?_
  refine x_istore dJ6_getChars_ba4f3_1 (Nat.le_of_ble_eq_true rfl) rfl rfl ?_
  refine x_iloadn dJ6_getChars_ba4f3_3 rfl ?_
  refine x_if_ge 11 dJ6_getChars_ba4f3_4 rfl (fun hc => ?_) (fun hc => ?_)
  · have h := ifT hc h
    refine x_iconst 0 dJ6_getChars_ba4f3_11 rfl ?_
    exact X.forget (L' := [.int x0, .retAddr 0, .ref x2, .retAddr 0, .retAddr 0, .int x1, .retAddr 0]) ⟨Or.inl rfl, ⟨Or.inr rfl, ⟨Or.inl rfl, ⟨Or.inl rfl, ⟨Or.inl rfl, ⟨Or.inl rfl, ⟨Or.inl rfl, trivial⟩⟩⟩⟩⟩⟩⟩ (tl_J6_getChars_ba4f3_12 d h)
  have h := ifF hc h
  refine x_iconst 1 dJ6_getChars_ba4f3_7 rfl ?_
  refine x_goto 12 dJ6_getChars_ba4f3_8 rfl ?_
  exact X.forget (L' := [.int x0, .retAddr 0, .ref x2, .retAddr 0, .retAddr 0, .int x1, .retAddr 0]) ⟨Or.inl rfl, ⟨Or.inr rfl, ⟨Or.inl rfl, ⟨Or.inl rfl, ⟨Or.inl rfl, ⟨Or.inl rfl, ⟨Or.inl rfl, trivial⟩⟩⟩⟩⟩⟩⟩ (tl_J6_getChars_ba4f3_12 d h)
noncomputable def l_J6_stringSize_0f7a4_16 (m9 : Nat) (I : Mem) (K : Kt) (x0 : Int32) (x1 : Int32) (x2 : Int32) (x3 : Int32) : Option (Int32) := match m9 with
  | 0 => none
  | m9 + 1 => if 10 ≤ x3 then (some ((10 + x1))) else (if x0 ≤ x2 then (l_J6_stringSize_0f7a4_16 m9 I K x0 x1 (10 * x2) (x3 + 1)) else (some ((x3 + x1))))
theorem tl_J6_stringSize_0f7a4_16 (d : Nat) (m9 : Nat) : ∀ {I : Mem} {K : Kt} {x0 : Int32} {x1 : Int32} {x2 : Int32} {x3 : Int32} {v : Int32}, l_J6_stringSize_0f7a4_16 m9 I K x0 x1 x2 x3 = some v → X (mJ6_stringSize_0f7a4 d) cJ6_stringSize_0f7a4 0 0 I K 16 [.int x0, .int x1, .int x2, .int x3] [] (Ro (.inl (some (.int v))) I K) := by
  induction m9 with
  | zero =>
    intro I K x0 x1 x2 x3 v h
    cases h
  | succ m9 ih =>
    intro I K x0 x1 x2 x3 v h
    unfold l_J6_stringSize_0f7a4_16 at h
    refine x_iloadn dJ6_stringSize_0f7a4_16 rfl ?_
    refine x_bipush 10 dJ6_stringSize_0f7a4_17 (by decide) ?_
    refine x_icmp_ge 42 dJ6_stringSize_0f7a4_19 rfl (fun hc => ?_) (fun hc => ?_)
    · have h := ifT hc h
      refine x_bipush 10 dJ6_stringSize_0f7a4_42 (by decide) ?_
      refine x_iloadn dJ6_stringSize_0f7a4_44 rfl ?_
      refine x_iadd dJ6_stringSize_0f7a4_45 ?_
      cases h
      exact x_iret rfl dJ6_stringSize_0f7a4_46 ⟨rfl, rfl, rfl⟩
    have h := ifF hc h
    refine x_iloadn dJ6_stringSize_0f7a4_22 rfl ?_
    refine x_iloadn dJ6_stringSize_0f7a4_23 rfl ?_
    refine x_icmp_le 31 dJ6_stringSize_0f7a4_24 rfl (fun hc => ?_) (fun hc => ?_)
    · have h := ifT hc h
      refine x_bipush 10 dJ6_stringSize_0f7a4_31 (by decide) ?_
      refine x_iloadn dJ6_stringSize_0f7a4_33 rfl ?_
      refine x_imul dJ6_stringSize_0f7a4_34 ?_
      refine x_istoren dJ6_stringSize_0f7a4_35 (Nat.le_of_ble_eq_true rfl) rfl rfl ?_
      refine z_iinc 1 (by decide) dJ6_stringSize_0f7a4_36 rfl rfl rfl ?_
      refine x_goto 16 dJ6_stringSize_0f7a4_39 rfl ?_
      exact (ih h)
    have h := ifF hc h
    refine x_iloadn dJ6_stringSize_0f7a4_27 rfl ?_
    refine x_iloadn dJ6_stringSize_0f7a4_28 rfl ?_
    refine x_iadd dJ6_stringSize_0f7a4_29 ?_
    cases h
    exact x_iret rfl dJ6_stringSize_0f7a4_30 ⟨rfl, rfl, rfl⟩
noncomputable def f_J6_stringSize_0f7a4 (I : Mem) (K : Kt) (x0 : Int32) : Option (Int32) := if x0 < 0 then (l_J6_stringSize_0f7a4_16 FU I K x0 1 (-10) 1) else (l_J6_stringSize_0f7a4_16 FU I K (-x0) 0 (-10) 1)
theorem c_J6_stringSize_0f7a4 (d : Nat) {K : Kt} {I : Mem} {x0 : Int32} {v : Int32} (h : f_J6_stringSize_0f7a4 I K x0 = some v) : Ct (mJ6_stringSize_0f7a4 d) cJ6_stringSize_0f7a4 0 0 [.int x0] I K (Ro (.inl (some (.int v))) I K) := by
  refine Ct.of rfl pn_J6 (catI cat0) (Nat.le_of_ble_eq_true rfl) (show X (mJ6_stringSize_0f7a4 d) cJ6_stringSize_0f7a4 0 0 I K 0 [.int x0, .retAddr 0, .retAddr 0, .retAddr 0] [] (Ro (.inl (some (.int v))) I K) from ?_)
  unfold f_J6_stringSize_0f7a4 at h
  refine x_iconst 1 dJ6_stringSize_0f7a4_0 rfl ?_
  refine x_istoren dJ6_stringSize_0f7a4_1 (Nat.le_of_ble_eq_true rfl) rfl rfl ?_
  refine x_iloadn dJ6_stringSize_0f7a4_2 rfl ?_
  refine x_if_lt 11 dJ6_stringSize_0f7a4_3 rfl (fun hc => ?_) (fun hc => ?_)
  · have h := ifT hc h
    refine x_bipush (-10) dJ6_stringSize_0f7a4_11 (by decide) ?_
    refine x_istoren dJ6_stringSize_0f7a4_13 (Nat.le_of_ble_eq_true rfl) rfl rfl ?_
    refine x_iconst 1 dJ6_stringSize_0f7a4_14 rfl ?_
    refine x_istoren dJ6_stringSize_0f7a4_15 (Nat.le_of_ble_eq_true rfl) rfl rfl ?_
    exact (tl_J6_stringSize_0f7a4_16 d FU h)
  have h := ifF hc h
  refine x_iconst 0 dJ6_stringSize_0f7a4_6 rfl ?_
  refine x_istoren dJ6_stringSize_0f7a4_7 (Nat.le_of_ble_eq_true rfl) rfl rfl ?_
  refine x_iloadn dJ6_stringSize_0f7a4_8 rfl ?_
  refine x_ineg dJ6_stringSize_0f7a4_9 ?_
  refine x_istoren dJ6_stringSize_0f7a4_10 (Nat.le_of_ble_eq_true rfl) rfl rfl ?_
  refine x_bipush (-10) dJ6_stringSize_0f7a4_11 (by decide) ?_
  refine x_istoren dJ6_stringSize_0f7a4_13 (Nat.le_of_ble_eq_true rfl) rfl rfl ?_
  refine x_iconst 1 dJ6_stringSize_0f7a4_14 rfl ?_
  refine x_istoren dJ6_stringSize_0f7a4_15 (Nat.le_of_ble_eq_true rfl) rfl rfl ?_
  exact (tl_J6_stringSize_0f7a4_16 d FU h)
noncomputable def f_J5_append_c97b9 (I : Mem) (K : Kt) (x0 : Nat) (x1 : Int32) : Option (Nat × Mem × Kt) := b1 (cO K 0 x0) fun _ => b1 (f_J6_stringSize_0f7a4 I K x1) fun v3 => b1 (cO K 0 x0) fun _ => b2 (f_J5_ensureCapacityInternal_d00df I K x0 ((I x0 3) + v3)) fun I7 K8 => b1 (cO K8 0 x0) fun _ => b1 (f_J5_isLatin1_aae02 I7 K8 x0) fun v12 => if v12 = 0 then (b1 (cO K8 0 x0) fun _ => b1 (gR K8 x0 0) fun r16 => none) else (b1 (cO K8 0 x0) fun _ => b1 (gR K8 x0 0) fun r20 => b2 (f_J6_getChars_ba4f3 I7 K8 x1 ((I x0 3) + v3) r20) fun v22 I23 => b1 (cO K8 0 x0) fun _ => b1 (pu I23 x0 3 ((I x0 3) + v3)) fun I27 => some (x0, I27, K8))
theorem c_J5_append_c97b9 (d : Nat) {K : Kt} {I : Mem} {x0 : Nat} {x1 : Int32} {v : Nat} {I9 : Mem} {K9 : Kt} (h : f_J5_append_c97b9 I K x0 x1 = some (v, I9, K9)) : CtG (mJ5_append_c97b9 (d + 4)) cJ5_append_c97b9 0 0 K9 [.ref x0, .int x1] I K (Ro (.inl (some (.ref v))) I9 K9) := by
  refine CtG.of rfl pn_J5 (catR (catI cat0)) (Nat.le_of_ble_eq_true rfl) (show XG (mJ5_append_c97b9 (d + 4)) cJ5_append_c97b9 0 0 K9 I K 0 [.ref x0, .int x1, .retAddr 0, .retAddr 0] [] (Ro (.inl (some (.ref v))) I9 K9) from ?_)
  unfold f_J5_append_c97b9 at h
  refine XG.l (fun z9 => x_aloadn dJ5_append_c97b9_0 rfl z9) ?_
  obtain ⟨u1, hq2, h⟩ := b1_s h
  refine XG.l (fun z9 => x_getI fs_J5_79 (cO_s hq2).1 (cO_s hq2).2 dJ5_append_c97b9_1 z9) ?_
  refine XG.l (fun z9 => x_istoren dJ5_append_c97b9_4 (Nat.le_of_ble_eq_true rfl) rfl rfl z9) ?_
  refine XG.l (fun z9 => x_iloadn dJ5_append_c97b9_5 rfl z9) ?_
  refine XG.l (fun z9 => x_iloadn dJ5_append_c97b9_6 rfl z9) ?_
  obtain ⟨v3, hq4, h⟩ := b1_s h
  have hq := c_J6_stringSize_0f7a4 (d + 3) hq4
  refine XG.l (fun z9 => X.c0 (z_Scall [.int x1] [.int (I x0 3)] (cs_J5_245 _) (dep (show d + 3 + 0 + 1 ≤ (d + 4) from by omega) (Nat.le_of_ble_eq_true rfl)) dJ5_append_c97b9_7 rfl rfl (Nat.le_of_ble_eq_true rfl) hq z9)) ?_
  refine XG.l (fun z9 => x_iadd dJ5_append_c97b9_10 z9) ?_
  refine XG.l (fun z9 => x_istoren dJ5_append_c97b9_11 (Nat.le_of_ble_eq_true rfl) rfl rfl z9) ?_
  refine XG.l (fun z9 => x_aloadn dJ5_append_c97b9_12 rfl z9) ?_
  refine XG.l (fun z9 => x_iloadn dJ5_append_c97b9_13 rfl z9) ?_
  obtain ⟨u5, hq6, h⟩ := b1_s h
  obtain ⟨I7, K8, hq9, h⟩ := b2_s h
  have hq := c_J5_ensureCapacityInternal_d00df d hq9
  refine XG.call hq.1 ?_ (fun z9 => z_VCcall [.int ((I x0 3) + v3)] [] (cs_J5_100 _) (ci := 0) rfl (cO_s hq6) (dep (show d + 0 + 3 + 1 ≤ (d + 4) from by omega) (Nat.le_of_ble_eq_true rfl)) dJ5_append_c97b9_14 rfl rfl (Nat.le_of_ble_eq_true rfl) hq.2 z9)
  refine XG.l (fun z9 => x_aloadn dJ5_append_c97b9_17 rfl z9) ?_
  obtain ⟨u10, hq11, h⟩ := b1_s h
  obtain ⟨v12, hq13, h⟩ := b1_s h
  have hq := c_J5_isLatin1_aae02 (d + 3) hq13
  refine XG.l (fun z9 => X.c0 (z_VCcall [] [] (cs_J5_83 _) (ci := 0) rfl (cO_s hq11) (dep (show d + 3 + 0 + 1 ≤ (d + 4) from by omega) (Nat.le_of_ble_eq_true rfl)) dJ5_append_c97b9_18 rfl rfl (Nat.le_of_ble_eq_true rfl) hq z9)) ?_
  rcases Classical.em (v12 = 0) with hc | hc
  · have h := ifT hc h
    refine XG.l (fun z9 => x_if_eq 37 dJ5_append_c97b9_21 rfl (fun _ => z9) (fun hn => absurd hc hn)) ?_
    refine XG.l (fun z9 => x_iloadn dJ5_append_c97b9_37 rfl z9) ?_
    refine XG.l (fun z9 => x_iloadn dJ5_append_c97b9_38 rfl z9) ?_
    refine XG.l (fun z9 => x_iloadn dJ5_append_c97b9_39 rfl z9) ?_
    refine XG.l (fun z9 => x_aloadn dJ5_append_c97b9_40 rfl z9) ?_
    obtain ⟨u14, hq15, h⟩ := b1_s h
    obtain ⟨r16, hq17, h⟩ := b1_s h
    refine XG.l (fun z9 => x_getR fs_J5_15 (cO_s hq15).1 (cO_s hq15).2 hq17 dJ5_append_c97b9_41 z9) ?_
    cases h
  have h := ifF hc h
  refine XG.l (fun z9 => x_if_eq 37 dJ5_append_c97b9_21 rfl (fun hn => absurd hn hc) (fun _ => z9)) ?_
  refine XG.l (fun z9 => x_iloadn dJ5_append_c97b9_24 rfl z9) ?_
  refine XG.l (fun z9 => x_iloadn dJ5_append_c97b9_25 rfl z9) ?_
  refine XG.l (fun z9 => x_aloadn dJ5_append_c97b9_26 rfl z9) ?_
  obtain ⟨u18, hq19, h⟩ := b1_s h
  obtain ⟨r20, hq21, h⟩ := b1_s h
  refine XG.l (fun z9 => x_getR fs_J5_15 (cO_s hq19).1 (cO_s hq19).2 hq21 dJ5_append_c97b9_27 z9) ?_
  obtain ⟨v22, I23, hq24, h⟩ := b2_s h
  have hq := c_J6_getChars_ba4f3 (d + 3) hq24
  refine XG.l (fun z9 => X.c0 (z_Scall [.int x1, .int ((I x0 3) + v3), .ref r20] [] (cs_J5_248 _) (dep (show d + 3 + 0 + 1 ≤ (d + 4) from by omega) (Nat.le_of_ble_eq_true rfl)) dJ5_append_c97b9_30 rfl rfl (Nat.le_of_ble_eq_true rfl) hq z9)) ?_
  refine XG.l (fun z9 => x_pop dJ5_append_c97b9_33 rfl z9) ?_
  refine XG.l (fun z9 => x_goto 48 dJ5_append_c97b9_34 rfl z9) ?_
  refine XG.l (fun z9 => x_aloadn dJ5_append_c97b9_48 rfl z9) ?_
  refine XG.l (fun z9 => x_iloadn dJ5_append_c97b9_49 rfl z9) ?_
  obtain ⟨u25, hq26, h⟩ := b1_s h
  obtain ⟨I27, hq28, h⟩ := b1_s h
  refine XG.l (fun z9 => z_putA fs_J5_79 (cO_s hq26) ⟨rfl, rfl⟩ hq28 dJ5_append_c97b9_50 z9) ?_
  refine XG.l (fun z9 => x_aloadn dJ5_append_c97b9_53 rfl z9) ?_
  cases h
  exact XG.z (x_aret rfl (Or.inl ⟨_, rfl⟩) dJ5_append_c97b9_54 ⟨rfl, rfl, rfl⟩)
noncomputable def f_J4_append_bf812 (I : Mem) (K : Kt) (x0 : Nat) (x1 : Int32) : Option (Nat × Mem × Kt) := b1 (cO K 0 x0) fun _ => b3 (f_J5_append_c97b9 I K x0 x1) fun v3 I4 K5 => some (x0, I4, K5)
theorem c_J4_append_bf812 (d : Nat) {K : Kt} {I : Mem} {x0 : Nat} {x1 : Int32} {v : Nat} {I9 : Mem} {K9 : Kt} (h : f_J4_append_bf812 I K x0 x1 = some (v, I9, K9)) : CtG (mJ4_append_bf812 (d + 5)) cJ4_append_bf812 0 0 K9 [.ref x0, .int x1] I K (Ro (.inl (some (.ref v))) I9 K9) := by
  refine CtG.of rfl pn_J4 (catR (catI cat0)) (Nat.le_of_ble_eq_true rfl) (show XG (mJ4_append_bf812 (d + 5)) cJ4_append_bf812 0 0 K9 I K 0 [.ref x0, .int x1] [] (Ro (.inl (some (.ref v))) I9 K9) from ?_)
  unfold f_J4_append_bf812 at h
  refine XG.l (fun z9 => x_aloadn dJ4_append_bf812_0 rfl z9) ?_
  refine XG.l (fun z9 => x_iloadn dJ4_append_bf812_1 rfl z9) ?_
  obtain ⟨u1, hq2, h⟩ := b1_s h
  obtain ⟨v3, I4, K5, hq6, h⟩ := b3_s h
  have hq := c_J5_append_c97b9 d hq6
  refine XG.call hq.1 ?_ (fun z9 => z_SUcall [.int x1] [] (cs_J4_53 _) (ci := 0) rfl (cO_s hq2) (dep (show d + 0 + 4 + 1 ≤ (d + 5) from by omega) (Nat.le_of_ble_eq_true rfl)) dJ4_append_bf812_2 rfl rfl (Nat.le_of_ble_eq_true rfl) hq.2 z9)
  refine XG.l (fun z9 => x_pop dJ4_append_bf812_5 rfl z9) ?_
  refine XG.l (fun z9 => x_aloadn dJ4_append_bf812_6 rfl z9) ?_
  cases h
  exact XG.z (x_aret rfl (Or.inl ⟨_, rfl⟩) dJ4_append_bf812_7 ⟨rfl, rfl, rfl⟩)
noncomputable def f_J1_canEncode_fc78d (I : Mem) (K : Kt) (x0 : Int32) : Option (Int32) := if 255 < x0 then (some (0)) else (some (1))
theorem c_J1_canEncode_fc78d (d : Nat) {K : Kt} {I : Mem} {x0 : Int32} {v : Int32} (h : f_J1_canEncode_fc78d I K x0 = some v) : Ct (mJ1_canEncode_fc78d d) cJ1_canEncode_fc78d 0 0 [.int x0] I K (Ro (.inl (some (.int v))) I K) := by
  refine Ct.of rfl pn_J1 (catI cat0) (Nat.le_of_ble_eq_true rfl) (show X (mJ1_canEncode_fc78d d) cJ1_canEncode_fc78d 0 0 I K 0 [.int x0] [] (Ro (.inl (some (.int v))) I K) from ?_)
  unfold f_J1_canEncode_fc78d at h
  refine x_iloadn dJ1_canEncode_fc78d_0 rfl ?_
  refine x_sipush 255 dJ1_canEncode_fc78d_1 (by decide) ?_
  refine x_icmp_gt 11 dJ1_canEncode_fc78d_4 rfl (fun hc => ?_) (fun hc => ?_)
  · have h := ifT hc h
    refine x_iconst 0 dJ1_canEncode_fc78d_11 rfl ?_
    cases h
    exact x_zret rfl rfl dJ1_canEncode_fc78d_12 ⟨rfl, rfl, rfl⟩
  have h := ifF hc h
  refine x_iconst 1 dJ1_canEncode_fc78d_7 rfl ?_
  refine x_goto 12 dJ1_canEncode_fc78d_8 rfl ?_
  cases h
  exact x_zret rfl rfl dJ1_canEncode_fc78d_12 ⟨rfl, rfl, rfl⟩
noncomputable def l_J5_append_3fe6f_45 (I : Mem) (K : Kt) (x0 : Nat) (x1 : Int32) : Option (Nat × Mem × Kt) := b1 (cO K 0 x0) fun _ => b1 (f_J5_isLatin1_aae02 I K x0) fun v14 => if v14 = 0 then (b1 (cO K 0 x0) fun _ => b1 (gR K x0 0) fun r18 => b1 (cO K 0 x0) fun _ => b1 (cO K 0 x0) fun _ => b1 (pu I x0 3 ((I x0 3) + 1)) fun I24 => none) else (none)
theorem tl_J5_append_3fe6f_45 (d : Nat) : ∀ {I : Mem} {K : Kt} {x0 : Nat} {x1 : Int32} {v : Nat} {I9 : Mem} {K9 : Kt}, l_J5_append_3fe6f_45 I K x0 x1 = some (v, I9, K9) → XG (mJ5_append_3fe6f (d + 4)) cJ5_append_3fe6f 0 0 K9 I K 45 [.ref x0, .int x1] [] (Ro (.inl (some (.ref v))) I9 K9) := by
  intro I K x0 x1 v I9 K9 h
  unfold l_J5_append_3fe6f_45 at h
  refine XG.l (fun z9 => x_aloadn dJ5_append_3fe6f_45 rfl z9) ?_
  obtain ⟨u12, hq13, h⟩ := b1_s h
  obtain ⟨v14, hq15, h⟩ := b1_s h
  have hq := c_J5_isLatin1_aae02 (d + 3) hq15
  refine XG.l (fun z9 => X.c0 (z_VCcall [] [] (cs_J5_83 _) (ci := 0) rfl (cO_s hq13) (dep (show d + 3 + 0 + 1 ≤ (d + 4) from by omega) (Nat.le_of_ble_eq_true rfl)) dJ5_append_3fe6f_46 rfl rfl (Nat.le_of_ble_eq_true rfl) hq z9)) ?_
  rcases Classical.em (v14 = 0) with hc | hc
  · have h := ifT hc h
    refine XG.l (fun z9 => x_if_eq 56 dJ5_append_3fe6f_49 rfl (fun _ => z9) (fun hn => absurd hc hn)) ?_
    refine XG.l (fun z9 => x_aloadn dJ5_append_3fe6f_56 rfl z9) ?_
    obtain ⟨u16, hq17, h⟩ := b1_s h
    obtain ⟨r18, hq19, h⟩ := b1_s h
    refine XG.l (fun z9 => x_getR fs_J5_15 (cO_s hq17).1 (cO_s hq17).2 hq19 dJ5_append_3fe6f_57 z9) ?_
    refine XG.l (fun z9 => x_aloadn dJ5_append_3fe6f_60 rfl z9) ?_
    refine XG.l (fun z9 => x_dup dJ5_append_3fe6f_61 rfl z9) ?_
    obtain ⟨u20, hq21, h⟩ := b1_s h
    refine XG.l (fun z9 => x_getI fs_J5_79 (cO_s hq21).1 (cO_s hq21).2 dJ5_append_3fe6f_62 z9) ?_
    refine XG.l (fun z9 => x_dup_x1 dJ5_append_3fe6f_65 rfl rfl z9) ?_
    refine XG.l (fun z9 => x_iconst 1 dJ5_append_3fe6f_66 rfl z9) ?_
    refine XG.l (fun z9 => x_iadd dJ5_append_3fe6f_67 z9) ?_
    obtain ⟨u22, hq23, h⟩ := b1_s h
    obtain ⟨I24, hq25, h⟩ := b1_s h
    refine XG.l (fun z9 => z_putA fs_J5_79 (cO_s hq23) ⟨rfl, rfl⟩ hq25 dJ5_append_3fe6f_68 z9) ?_
    cases h
  have h := ifF hc h
  refine XG.l (fun z9 => x_if_eq 56 dJ5_append_3fe6f_49 rfl (fun hn => absurd hn hc) (fun _ => z9)) ?_
  cases h
noncomputable def f_J5_append_3fe6f (I : Mem) (K : Kt) (x0 : Nat) (x1 : Int32) : Option (Nat × Mem × Kt) := b1 (cO K 0 x0) fun _ => b1 (cO K 0 x0) fun _ => b2 (f_J5_ensureCapacityInternal_d00df I K x0 ((I x0 3) + 1)) fun I5 K6 => b1 (cO K6 0 x0) fun _ => b1 (f_J5_isLatin1_aae02 I5 K6 x0) fun v10 => if v10 = 0 then (l_J5_append_3fe6f_45 I5 K6 x0 x1) else (b1 (f_J1_canEncode_fc78d I5 K6 x1) fun v26 => if v26 = 0 then (l_J5_append_3fe6f_45 I5 K6 x0 x1) else (b1 (cO K6 0 x0) fun _ => b1 (gR K6 x0 0) fun r30 => b1 (cO K6 0 x0) fun _ => b1 (cO K6 0 x0) fun _ => b1 (pu I5 x0 3 ((I5 x0 3) + 1)) fun I36 => b1 (cA K6 101 r30) fun m39 => b1 (ix (I5 x0 3) m39) fun j38 => b1 (pu I36 r30 j38 (vp_nar .byte (x1).toInt8.toInt32)) fun I42 => some (x0, I42, K6)))
theorem c_J5_append_3fe6f (d : Nat) {K : Kt} {I : Mem} {x0 : Nat} {x1 : Int32} {v : Nat} {I9 : Mem} {K9 : Kt} (h : f_J5_append_3fe6f I K x0 x1 = some (v, I9, K9)) : CtG (mJ5_append_3fe6f (d + 4)) cJ5_append_3fe6f 0 0 K9 [.ref x0, .int x1] I K (Ro (.inl (some (.ref v))) I9 K9) := by
  refine CtG.of rfl pn_J5 (catR (catI cat0)) (Nat.le_of_ble_eq_true rfl) (show XG (mJ5_append_3fe6f (d + 4)) cJ5_append_3fe6f 0 0 K9 I K 0 [.ref x0, .int x1] [] (Ro (.inl (some (.ref v))) I9 K9) from ?_)
  unfold f_J5_append_3fe6f at h
  refine XG.l (fun z9 => x_aloadn dJ5_append_3fe6f_0 rfl z9) ?_
  refine XG.l (fun z9 => x_aloadn dJ5_append_3fe6f_1 rfl z9) ?_
  obtain ⟨u1, hq2, h⟩ := b1_s h
  refine XG.l (fun z9 => x_getI fs_J5_79 (cO_s hq2).1 (cO_s hq2).2 dJ5_append_3fe6f_2 z9) ?_
  refine XG.l (fun z9 => x_iconst 1 dJ5_append_3fe6f_5 rfl z9) ?_
  refine XG.l (fun z9 => x_iadd dJ5_append_3fe6f_6 z9) ?_
  obtain ⟨u3, hq4, h⟩ := b1_s h
  obtain ⟨I5, K6, hq7, h⟩ := b2_s h
  have hq := c_J5_ensureCapacityInternal_d00df d hq7
  refine XG.call hq.1 ?_ (fun z9 => z_VCcall [.int ((I x0 3) + 1)] [] (cs_J5_100 _) (ci := 0) rfl (cO_s hq4) (dep (show d + 0 + 3 + 1 ≤ (d + 4) from by omega) (Nat.le_of_ble_eq_true rfl)) dJ5_append_3fe6f_7 rfl rfl (Nat.le_of_ble_eq_true rfl) hq.2 z9)
  refine XG.l (fun z9 => x_aloadn dJ5_append_3fe6f_10 rfl z9) ?_
  obtain ⟨u8, hq9, h⟩ := b1_s h
  obtain ⟨v10, hq11, h⟩ := b1_s h
  have hq := c_J5_isLatin1_aae02 (d + 3) hq11
  refine XG.l (fun z9 => X.c0 (z_VCcall [] [] (cs_J5_83 _) (ci := 0) rfl (cO_s hq9) (dep (show d + 3 + 0 + 1 ≤ (d + 4) from by omega) (Nat.le_of_ble_eq_true rfl)) dJ5_append_3fe6f_11 rfl rfl (Nat.le_of_ble_eq_true rfl) hq z9)) ?_
  rcases Classical.em (v10 = 0) with hc | hc
  · have h := ifT hc h
    refine XG.l (fun z9 => x_if_eq 45 dJ5_append_3fe6f_14 rfl (fun _ => z9) (fun hn => absurd hc hn)) ?_
    exact (tl_J5_append_3fe6f_45 d h)
  have h := ifF hc h
  refine XG.l (fun z9 => x_if_eq 45 dJ5_append_3fe6f_14 rfl (fun hn => absurd hn hc) (fun _ => z9)) ?_
  refine XG.l (fun z9 => x_iloadn dJ5_append_3fe6f_17 rfl z9) ?_
  obtain ⟨v26, hq27, h⟩ := b1_s h
  have hq := c_J1_canEncode_fc78d (d + 3) hq27
  refine XG.l (fun z9 => X.c0 (z_Scall [.int x1] [] (cs_J5_191 _) (dep (show d + 3 + 0 + 1 ≤ (d + 4) from by omega) (Nat.le_of_ble_eq_true rfl)) dJ5_append_3fe6f_18 rfl rfl (Nat.le_of_ble_eq_true rfl) hq z9)) ?_
  rcases Classical.em (v26 = 0) with hc | hc
  · have h := ifT hc h
    refine XG.l (fun z9 => x_if_eq 45 dJ5_append_3fe6f_21 rfl (fun _ => z9) (fun hn => absurd hc hn)) ?_
    exact (tl_J5_append_3fe6f_45 d h)
  have h := ifF hc h
  refine XG.l (fun z9 => x_if_eq 45 dJ5_append_3fe6f_21 rfl (fun hn => absurd hn hc) (fun _ => z9)) ?_
  refine XG.l (fun z9 => x_aloadn dJ5_append_3fe6f_24 rfl z9) ?_
  obtain ⟨u28, hq29, h⟩ := b1_s h
  obtain ⟨r30, hq31, h⟩ := b1_s h
  refine XG.l (fun z9 => x_getR fs_J5_15 (cO_s hq29).1 (cO_s hq29).2 hq31 dJ5_append_3fe6f_25 z9) ?_
  refine XG.l (fun z9 => x_aloadn dJ5_append_3fe6f_28 rfl z9) ?_
  refine XG.l (fun z9 => x_dup dJ5_append_3fe6f_29 rfl z9) ?_
  obtain ⟨u32, hq33, h⟩ := b1_s h
  refine XG.l (fun z9 => x_getI fs_J5_79 (cO_s hq33).1 (cO_s hq33).2 dJ5_append_3fe6f_30 z9) ?_
  refine XG.l (fun z9 => x_dup_x1 dJ5_append_3fe6f_33 rfl rfl z9) ?_
  refine XG.l (fun z9 => x_iconst 1 dJ5_append_3fe6f_34 rfl z9) ?_
  refine XG.l (fun z9 => x_iadd dJ5_append_3fe6f_35 z9) ?_
  obtain ⟨u34, hq35, h⟩ := b1_s h
  obtain ⟨I36, hq37, h⟩ := b1_s h
  refine XG.l (fun z9 => z_putA fs_J5_79 (cO_s hq35) ⟨rfl, rfl⟩ hq37 dJ5_append_3fe6f_36 z9) ?_
  refine XG.l (fun z9 => x_iloadn dJ5_append_3fe6f_39 rfl z9) ?_
  refine XG.l (fun z9 => x_i2b dJ5_append_3fe6f_40 z9) ?_
  obtain ⟨m39, hq40, h⟩ := b1_s h
  obtain ⟨j38, hq41, h⟩ := b1_s h
  obtain ⟨I42, hq43, h⟩ := b1_s h
  refine XG.l (fun z9 => z_bast (cA_s hq40) hq41 hq43 dJ5_append_3fe6f_41 z9) ?_
  refine XG.l (fun z9 => x_goto 75 dJ5_append_3fe6f_42 rfl z9) ?_
  refine XG.l (fun z9 => x_aloadn dJ5_append_3fe6f_75 rfl z9) ?_
  cases h
  exact XG.z (x_aret rfl (Or.inl ⟨_, rfl⟩) dJ5_append_3fe6f_76 ⟨rfl, rfl, rfl⟩)
noncomputable def f_J4_append_cf468 (I : Mem) (K : Kt) (x0 : Nat) (x1 : Int32) : Option (Nat × Mem × Kt) := b1 (cO K 0 x0) fun _ => b3 (f_J5_append_3fe6f I K x0 x1) fun v3 I4 K5 => some (x0, I4, K5)
theorem c_J4_append_cf468 (d : Nat) {K : Kt} {I : Mem} {x0 : Nat} {x1 : Int32} {v : Nat} {I9 : Mem} {K9 : Kt} (h : f_J4_append_cf468 I K x0 x1 = some (v, I9, K9)) : CtG (mJ4_append_cf468 (d + 5)) cJ4_append_cf468 0 0 K9 [.ref x0, .int x1] I K (Ro (.inl (some (.ref v))) I9 K9) := by
  refine CtG.of rfl pn_J4 (catR (catI cat0)) (Nat.le_of_ble_eq_true rfl) (show XG (mJ4_append_cf468 (d + 5)) cJ4_append_cf468 0 0 K9 I K 0 [.ref x0, .int x1] [] (Ro (.inl (some (.ref v))) I9 K9) from ?_)
  unfold f_J4_append_cf468 at h
  refine XG.l (fun z9 => x_aloadn dJ4_append_cf468_0 rfl z9) ?_
  refine XG.l (fun z9 => x_iloadn dJ4_append_cf468_1 rfl z9) ?_
  obtain ⟨u1, hq2, h⟩ := b1_s h
  obtain ⟨v3, I4, K5, hq6, h⟩ := b3_s h
  have hq := c_J5_append_3fe6f d hq6
  refine XG.call hq.1 ?_ (fun z9 => z_SUcall [.int x1] [] (cs_J4_50 _) (ci := 0) rfl (cO_s hq2) (dep (show d + 0 + 4 + 1 ≤ (d + 5) from by omega) (Nat.le_of_ble_eq_true rfl)) dJ4_append_cf468_2 rfl rfl (Nat.le_of_ble_eq_true rfl) hq.2 z9)
  refine XG.l (fun z9 => x_pop dJ4_append_cf468_5 rfl z9) ?_
  refine XG.l (fun z9 => x_aloadn dJ4_append_cf468_6 rfl z9) ?_
  cases h
  exact XG.z (x_aret rfl (Or.inl ⟨_, rfl⟩) dJ4_append_cf468_7 ⟨rfl, rfl, rfl⟩)
noncomputable def f_J4_append_cf1ce (I : Mem) (K : Kt) (x0 : Nat) (x1 : Nat) : Option (Nat × Mem × Kt) := b1 (cO K 0 x0) fun _ => b3 (f_J4_append_15ec4 I K x0 x1) fun v3 I4 K5 => some (v3, I4, K5)
theorem c_J4_append_cf1ce (d : Nat) {K : Kt} {I : Mem} {x0 : Nat} {x1 : Nat} {v : Nat} {I9 : Mem} {K9 : Kt} (h : f_J4_append_cf1ce I K x0 x1 = some (v, I9, K9)) : CtG (mJ4_append_cf1ce (d + 6)) cJ4_append_cf1ce 0 0 K9 [.ref x0, .ref (xE (100 + x1))] I K (Ro (.inl (some (.ref v))) I9 K9) := by
  refine CtG.of rfl pn_J4 (catR (catR cat0)) (Nat.le_of_ble_eq_true rfl) (show XG (mJ4_append_cf1ce (d + 6)) cJ4_append_cf1ce 0 0 K9 I K 0 [.ref x0, .ref (xE (100 + x1))] [] (Ro (.inl (some (.ref v))) I9 K9) from ?_)
  unfold f_J4_append_cf1ce at h
  refine XG.l (fun z9 => x_aloadn dJ4_append_cf1ce_0 rfl z9) ?_
  refine XG.l (fun z9 => x_aloadn dJ4_append_cf1ce_1 rfl z9) ?_
  obtain ⟨u1, hq2, h⟩ := b1_s h
  obtain ⟨v3, I4, K5, hq6, h⟩ := b3_s h
  have hq := c_J4_append_15ec4 d hq6
  refine XG.call hq.1 ?_ (fun z9 => z_Vcall [.ref (xE (100 + x1))] [] (cs_J4_23 _) (ci := 0) rfl (cO_s hq2) (dep (show d + 0 + 5 + 1 ≤ (d + 6) from by omega) (Nat.le_of_ble_eq_true rfl)) dJ4_append_cf1ce_2 rfl rfl (Nat.le_of_ble_eq_true rfl) hq.2 z9)
  cases h
  exact XG.z (x_aret rfl (Or.inl ⟨_, rfl⟩) dJ4_append_cf1ce_5 ⟨rfl, rfl, rfl⟩)
noncomputable def l_J5_init_a7421_24 (I : Mem) (K : Kt) (x0 : Nat) (x1 : Nat) (y0 : Int32) : Option (Mem × Kt) := b1 (ckS x1) fun _ => b1 (f_J0_coder_7d493 I x1) fun v7 => b1 (cO K 0 x0) fun _ => b1 (cF .byte v7) fun _ => b1 (pu I x0 1 v7) fun I11 => if v7 = 0 then (b1 (ixn y0) fun m15 => b1 (cL K) fun _ => b2 (puN I11 K (101, m15)) fun I17 K18 => b1 (cO K18 0 x0) fun _ => b1 (puG K18 x0 0 (kN K)) fun K24 => b1 (cO K24 0 x0) fun _ => b3 (f_J4_append_cf1ce I17 K24 x0 x1) fun v28 I29 K30 => some (I29, K30)) else (none)
theorem tl_J5_init_a7421_24 (d : Nat) : ∀ {I : Mem} {K : Kt} {x0 : Nat} {x1 : Nat} {y0 : Int32} {I9 : Mem} {K9 : Kt}, l_J5_init_a7421_24 I K x0 x1 y0 = some (I9, K9) → XG (mJ5_init_a7421 (d + 7)) cJ5_init_a7421 0 0 K9 I K 24 [.ref x0, .ref (xE (100 + x1)), .retAddr 0, .retAddr 0, .retAddr 0] [.int y0] (Ro (.inl none) I9 K9) := by
  intro I K x0 x1 y0 I9 K9 h
  unfold l_J5_init_a7421_24 at h
  refine XG.l (fun z9 => x_istoren dJ5_init_a7421_24 (Nat.le_of_ble_eq_true rfl) rfl rfl z9) ?_
  refine XG.l (fun z9 => x_aloadn dJ5_init_a7421_25 rfl z9) ?_
  obtain ⟨u5, hq6, h⟩ := b1_s h
  obtain ⟨v7, hq8, h⟩ := b1_s h
  have hq := c_J0_coder_7d493 (d + 6) (K := K) (I := I)  hq8
  refine XG.l (fun z9 => z_FScall [] [] (cs_J5_40 _) rfl hq6 (dep (show d + 6 + 0 + 1 ≤ (d + 7) from by omega) (Nat.le_of_ble_eq_true rfl)) dJ5_init_a7421_26 rfl rfl (Nat.le_of_ble_eq_true rfl) hq z9) ?_
  refine XG.l (fun z9 => x_istore dJ5_init_a7421_29 (Nat.le_of_ble_eq_true rfl) rfl rfl z9) ?_
  refine XG.l (fun z9 => x_aloadn dJ5_init_a7421_31 rfl z9) ?_
  refine XG.l (fun z9 => x_iload dJ5_init_a7421_32 rfl z9) ?_
  obtain ⟨u9, hq10, h⟩ := b1_s h
  obtain ⟨u12, hq13, h⟩ := b1_s h
  obtain ⟨I11, hq14, h⟩ := b1_s h
  refine XG.l (fun z9 => z_putA fs_J5_22 (cO_s hq10) (cF_s hq13) hq14 dJ5_init_a7421_34 z9) ?_
  refine XG.l (fun z9 => x_aloadn dJ5_init_a7421_37 rfl z9) ?_
  refine XG.l (fun z9 => x_iload dJ5_init_a7421_38 rfl z9) ?_
  rcases Classical.em (v7 = 0) with hc | hc
  · have h := ifT hc h
    refine XG.l (fun z9 => x_if_ne 49 dJ5_init_a7421_40 rfl (fun hn => absurd hc hn) (fun _ => z9)) ?_
    refine XG.l (fun z9 => x_iloadn dJ5_init_a7421_43 rfl z9) ?_
    obtain ⟨m15, hq19, h⟩ := b1_s h
    obtain ⟨u16, hq20, h⟩ := b1_s h
    obtain ⟨I17, K18, hq21, h⟩ := b2_s h
    refine XG.sn hq21 ?_ (fun z9 => x_newB (show Cond.arrayClass .byte ∈ wsG from inT1 85 rfl rfl) (ixn_s hq19).1 (ixn_s hq19).2 (cL_s hq20) dJ5_init_a7421_44 z9)
    refine XG.l (fun z9 => x_goto 53 dJ5_init_a7421_46 rfl z9) ?_
    obtain ⟨u22, hq23, h⟩ := b1_s h
    obtain ⟨K24, hq25, h⟩ := b1_s h
    refine XG.sg hq25 ?_ (fun z9 => x_putR fs_J5_15 (fun h => by cases h) (cO_s hq23).1 (cO_s hq23).2 (fun q => ⟨rfl, rfl⟩) dJ5_init_a7421_53 z9)
    refine XG.l (fun z9 => x_aloadn dJ5_init_a7421_56 rfl z9) ?_
    refine XG.l (fun z9 => x_aloadn dJ5_init_a7421_57 rfl z9) ?_
    obtain ⟨u26, hq27, h⟩ := b1_s h
    obtain ⟨v28, I29, K30, hq31, h⟩ := b3_s h
    have hq := c_J4_append_cf1ce d hq31
    refine XG.call hq.1 ?_ (fun z9 => z_Ucall [.ref (xE (100 + x1))] [] (cs_J5_43 _) (ci := 0) rfl (cO_s hq27) (dep (show d + 0 + 6 + 1 ≤ (d + 7) from by omega) (Nat.le_of_ble_eq_true rfl)) dJ5_init_a7421_58 rfl rfl (Nat.le_of_ble_eq_true rfl) hq.2 z9)
    refine XG.l (fun z9 => x_pop dJ5_init_a7421_61 rfl z9) ?_
    cases h
    exact XG.z (x_vret rfl dJ5_init_a7421_62 ⟨rfl, rfl, rfl⟩)
  have h := ifF hc h
  refine XG.l (fun z9 => x_if_ne 49 dJ5_init_a7421_40 rfl (fun _ => z9) (fun hn => absurd hn hc)) ?_
  cases h
noncomputable def f_J5_init_a7421 (I : Mem) (K : Kt) (x0 : Nat) (x1 : Nat) : Option (Mem × Kt) := b1 (ckS x1) fun _ => b1 (f_J0_length_8abf5 I x1) fun v3 => if 2147483631 ≤ v3 then (l_J5_init_a7421_24 I K x0 x1 2147483647) else (l_J5_init_a7421_24 I K x0 x1 (v3 + 16))
theorem c_J5_init_a7421 (d : Nat) {K : Kt} {I : Mem} {x0 : Nat} {x1 : Nat} {I9 : Mem} {K9 : Kt} (h : f_J5_init_a7421 I K x0 x1 = some (I9, K9)) : CtG (mJ5_init_a7421 (d + 7)) cJ5_init_a7421 0 0 K9 [.ref x0, .ref (xE (100 + x1))] I K (Ro (.inl none) I9 K9) := by
  refine CtG.of rfl pn_J5 (catR (catR cat0)) (Nat.le_of_ble_eq_true rfl) (show XG (mJ5_init_a7421 (d + 7)) cJ5_init_a7421 0 0 K9 I K 0 [.ref x0, .ref (xE (100 + x1)), .retAddr 0, .retAddr 0, .retAddr 0] [] (Ro (.inl none) I9 K9) from ?_)
  unfold f_J5_init_a7421 at h
  refine XG.l (fun z9 => x_aloadn dJ5_init_a7421_0 rfl z9) ?_
  refine XG.l (fun z9 => x_objInit (show Cond.methodLink RJ5 3 Lib.objectInit ∈ wsG from inT2 105 rfl rfl) (show Cond.instanceMethod Lib.objectInit ∈ wsG from inT1 46 rfl rfl) (show Cond.code Lib.objectInit ⟨#[0xb1]⟩ 1 none ∈ wsG from inT1 47 rfl rfl) (Nat.le_of_ble_eq_true rfl) (by show 1 ≤ (d + 7); omega) dJ5_init_a7421_1 z9) ?_
  refine XG.l (fun z9 => x_aloadn dJ5_init_a7421_4 rfl z9) ?_
  obtain ⟨u1, hq2, h⟩ := b1_s h
  obtain ⟨v3, hq4, h⟩ := b1_s h
  have hq := c_J0_length_8abf5 (d + 5) (K := K) (I := I)  hq4
  refine XG.l (fun z9 => z_FScall [] [] (cs_J5_32 _) rfl hq2 (dep (show d + 5 + 1 + 1 ≤ (d + 7) from by omega) (Nat.le_of_ble_eq_true rfl)) dJ5_init_a7421_5 rfl rfl (Nat.le_of_ble_eq_true rfl) hq z9) ?_
  refine XG.l (fun z9 => x_istoren dJ5_init_a7421_8 (Nat.le_of_ble_eq_true rfl) rfl rfl z9) ?_
  refine XG.l (fun z9 => x_iloadn dJ5_init_a7421_9 rfl z9) ?_
  refine XG.l (fun z9 => x_ldc 2147483631 (show Cond.constant RJ5 38 2147483631 ∈ wsG from inT6 208 rfl rfl) dJ5_init_a7421_10 z9) ?_
  rcases Classical.em (2147483631 ≤ v3) with hc | hc
  · have h := ifT hc h
    refine XG.l (fun z9 => x_icmp_ge 22 dJ5_init_a7421_12 rfl (fun _ => z9) (fun hn => absurd hc hn)) ?_
    refine XG.l (fun z9 => x_ldc 2147483647 (show Cond.constant RJ5 39 2147483647 ∈ wsG from inT6 209 rfl rfl) dJ5_init_a7421_22 z9) ?_
    exact XG.forget (L' := [.ref x0, .ref (xE (100 + x1)), .retAddr 0, .retAddr 0, .retAddr 0]) ⟨Or.inl rfl, ⟨Or.inl rfl, ⟨Or.inr rfl, ⟨Or.inl rfl, ⟨Or.inl rfl, trivial⟩⟩⟩⟩⟩ (tl_J5_init_a7421_24 d h)
  have h := ifF hc h
  refine XG.l (fun z9 => x_icmp_ge 22 dJ5_init_a7421_12 rfl (fun hn => absurd hn hc) (fun _ => z9)) ?_
  refine XG.l (fun z9 => x_iloadn dJ5_init_a7421_15 rfl z9) ?_
  refine XG.l (fun z9 => x_bipush 16 dJ5_init_a7421_16 (by decide) z9) ?_
  refine XG.l (fun z9 => x_iadd dJ5_init_a7421_18 z9) ?_
  refine XG.l (fun z9 => x_goto 24 dJ5_init_a7421_19 rfl z9) ?_
  exact XG.forget (L' := [.ref x0, .ref (xE (100 + x1)), .retAddr 0, .retAddr 0, .retAddr 0]) ⟨Or.inl rfl, ⟨Or.inl rfl, ⟨Or.inr rfl, ⟨Or.inl rfl, ⟨Or.inl rfl, trivial⟩⟩⟩⟩⟩ (tl_J5_init_a7421_24 d h)
noncomputable def f_J4_init_a7421 (I : Mem) (K : Kt) (x0 : Nat) (x1 : Nat) : Option (Mem × Kt) := b2 (f_J5_init_a7421 I K x0 x1) fun I1 K2 => some (I1, K2)
theorem c_J4_init_a7421 (d : Nat) {K : Kt} {I : Mem} {x0 : Nat} {x1 : Nat} {I9 : Mem} {K9 : Kt} (h : f_J4_init_a7421 I K x0 x1 = some (I9, K9)) : CtG (mJ4_init_a7421 (d + 8)) cJ4_init_a7421 0 0 K9 [.ref x0, .ref (xE (100 + x1))] I K (Ro (.inl none) I9 K9) := by
  refine CtG.of rfl pn_J4 (catR (catR cat0)) (Nat.le_of_ble_eq_true rfl) (show XG (mJ4_init_a7421 (d + 8)) cJ4_init_a7421 0 0 K9 I K 0 [.ref x0, .ref (xE (100 + x1))] [] (Ro (.inl none) I9 K9) from ?_)
  unfold f_J4_init_a7421 at h
  refine XG.l (fun z9 => x_aloadn dJ4_init_a7421_0 rfl z9) ?_
  refine XG.l (fun z9 => x_aloadn dJ4_init_a7421_1 rfl z9) ?_
  obtain ⟨I1, K2, hq3, h⟩ := b2_s h
  have hq := c_J5_init_a7421 d hq3
  refine XG.call hq.1 ?_ (fun z9 => z_Icall [.ref (xE (100 + x1))] [] (Or.inl (cs_J4_7 _)) (dep (show d + 0 + 7 + 1 ≤ (d + 8) from by omega) (Nat.le_of_ble_eq_true rfl)) dJ4_init_a7421_2 rfl rfl (Nat.le_of_ble_eq_true rfl) hq.2 z9)
  cases h
  exact XG.z (x_vret rfl dJ4_init_a7421_5 ⟨rfl, rfl, rfl⟩)
noncomputable def f_J5_length_8abf5 (I : Mem) (K : Kt) (x0 : Nat) : Option (Int32) := b1 (cO K 0 x0) fun _ => some ((I x0 3))
theorem c_J5_length_8abf5 (d : Nat) {K : Kt} {I : Mem} {x0 : Nat} {v : Int32} (h : f_J5_length_8abf5 I K x0 = some v) : Ct (mJ5_length_8abf5 d) cJ5_length_8abf5 0 0 [.ref x0] I K (Ro (.inl (some (.int v))) I K) := by
  refine Ct.of rfl pn_J5 (catR cat0) (Nat.le_of_ble_eq_true rfl) (show X (mJ5_length_8abf5 d) cJ5_length_8abf5 0 0 I K 0 [.ref x0] [] (Ro (.inl (some (.int v))) I K) from ?_)
  unfold f_J5_length_8abf5 at h
  refine x_aloadn dJ5_length_8abf5_0 rfl ?_
  obtain ⟨u1, hq2, h⟩ := b1_s h
  refine x_getI fs_J5_79 (cO_s hq2).1 (cO_s hq2).2 dJ5_length_8abf5_1 ?_
  cases h
  exact x_iret rfl dJ5_length_8abf5_4 ⟨rfl, rfl, rfl⟩
noncomputable def f_J4_length_8abf5 (I : Mem) (K : Kt) (x0 : Nat) : Option (Int32) := b1 (cO K 0 x0) fun _ => b1 (f_J5_length_8abf5 I K x0) fun v3 => some (v3)
theorem c_J4_length_8abf5 (d : Nat) {K : Kt} {I : Mem} {x0 : Nat} {v : Int32} (h : f_J4_length_8abf5 I K x0 = some v) : Ct (mJ4_length_8abf5 (d + 1)) cJ4_length_8abf5 0 0 [.ref x0] I K (Ro (.inl (some (.int v))) I K) := by
  refine Ct.of rfl pn_J4 (catR cat0) (Nat.le_of_ble_eq_true rfl) (show X (mJ4_length_8abf5 (d + 1)) cJ4_length_8abf5 0 0 I K 0 [.ref x0] [] (Ro (.inl (some (.int v))) I K) from ?_)
  unfold f_J4_length_8abf5 at h
  refine x_aloadn dJ4_length_8abf5_0 rfl ?_
  obtain ⟨u1, hq2, h⟩ := b1_s h
  obtain ⟨v3, hq4, h⟩ := b1_s h
  have hq := c_J5_length_8abf5 d hq4
  refine X.c0 (z_SUcall [] [] (cs_J4_343 _) (ci := 0) rfl (cO_s hq2) (dep (show d + 0 + 0 + 1 ≤ (d + 1) from by omega) (Nat.le_of_ble_eq_true rfl)) dJ4_length_8abf5_1 rfl rfl (Nat.le_of_ble_eq_true rfl) hq ?_)
  cases h
  exact x_iret rfl dJ4_length_8abf5_4 ⟨rfl, rfl, rfl⟩
noncomputable def f_J5_getValue_6d5f1 (I : Mem) (K : Kt) (x0 : Nat) : Option (Nat) := b1 (cO K 0 x0) fun _ => b1 (gR K x0 0) fun r3 => some (r3)
theorem c_J5_getValue_6d5f1 (d : Nat) {K : Kt} {I : Mem} {x0 : Nat} {v : Nat} (h : f_J5_getValue_6d5f1 I K x0 = some v) : Ct (mJ5_getValue_6d5f1 d) cJ5_getValue_6d5f1 0 0 [.ref x0] I K (Ro (.inl (some (.ref v))) I K) := by
  refine Ct.of rfl pn_J5 (catR cat0) (Nat.le_of_ble_eq_true rfl) (show X (mJ5_getValue_6d5f1 d) cJ5_getValue_6d5f1 0 0 I K 0 [.ref x0] [] (Ro (.inl (some (.ref v))) I K) from ?_)
  unfold f_J5_getValue_6d5f1 at h
  refine x_aloadn dJ5_getValue_6d5f1_0 rfl ?_
  obtain ⟨u1, hq2, h⟩ := b1_s h
  obtain ⟨r3, hq4, h⟩ := b1_s h
  refine x_getR fs_J5_15 (cO_s hq2).1 (cO_s hq2).2 hq4 dJ5_getValue_6d5f1_1 ?_
  cases h
  exact x_aret rfl (Or.inr ⟨_, rfl⟩) dJ5_getValue_6d5f1_4 ⟨rfl, rfl, rfl⟩
noncomputable def f_J7_checkLength_df160 (I : Mem) (K : Kt) (x0 : Int32) (x1 : Int32) : Option (Unit) := if x0 ≤ x1 then (some (())) else (none)
theorem c_J7_checkLength_df160 (d : Nat) {K : Kt} {I : Mem} {x0 : Int32} {x1 : Int32} {u9 : Unit} (h : f_J7_checkLength_df160 I K x0 x1 = some u9) : Ct (mJ7_checkLength_df160 d) cJ7_checkLength_df160 0 0 [.int x0, .int x1] I K (Ro (.inl none) I K) := by
  refine Ct.of rfl pn_J7 (catI (catI cat0)) (Nat.le_of_ble_eq_true rfl) (show X (mJ7_checkLength_df160 d) cJ7_checkLength_df160 0 0 I K 0 [.int x0, .int x1] [] (Ro (.inl none) I K) from ?_)
  unfold f_J7_checkLength_df160 at h
  refine x_iloadn dJ7_checkLength_df160_0 rfl ?_
  refine x_iloadn dJ7_checkLength_df160_1 rfl ?_
  refine x_icmp_ge 37 dJ7_checkLength_df160_2 rfl (fun hc => ?_) (fun hc => ?_)
  · have h := ifT hc h
    cases h
    exact x_vret rfl dJ7_checkLength_df160_37 ⟨rfl, rfl, rfl⟩
  have h := ifF hc h
  cases h
noncomputable def f_J7_copyOfRangeByte_39247 (I : Mem) (K : Kt) (x0 : Nat) (x1 : Int32) (x2 : Int32) : Option (Nat × Mem × Kt) := b1 (f_J7_checkLength_df160 I K x1 x2) fun u1 => b1 (ixn (x2 - x1)) fun m3 => b1 (cL K) fun _ => b2 (puN I K (101, m3)) fun I5 K6 => b1 (cLen K6 x0) fun m10 => b1 (cA K6 101 (kN K)) fun m13 => b1 (cA K6 101 x0) fun m19 => b3 (cpy x1 0 (if (x2 - x1) < ((nI m10) - x1) then (x2 - x1) else ((nI m10) - x1)) m19 m13) fun j15 j16 j17 => b1 (cFit (I5 x0) j15 j17) fun _ => b1 (puY I5 (kN K) (va_cpy (I5 x0) (I5 (kN K)) j15 j16 j17)) fun I12 => some ((kN K), I12, K6)
theorem c_J7_copyOfRangeByte_39247 (d : Nat) {K : Kt} {I : Mem} {x0 : Nat} {x1 : Int32} {x2 : Int32} {v : Nat} {I9 : Mem} {K9 : Kt} (h : f_J7_copyOfRangeByte_39247 I K x0 x1 x2 = some (v, I9, K9)) : CtG (mJ7_copyOfRangeByte_39247 (d + 1)) cJ7_copyOfRangeByte_39247 0 0 K9 [.ref x0, .int x1, .int x2] I K (Ro (.inl (some (.ref v))) I9 K9) := by
  refine CtG.of rfl pn_J7 (catR (catI (catI cat0))) (Nat.le_of_ble_eq_true rfl) (show XG (mJ7_copyOfRangeByte_39247 (d + 1)) cJ7_copyOfRangeByte_39247 0 0 K9 I K 0 [.ref x0, .int x1, .int x2, .retAddr 0, .retAddr 0] [] (Ro (.inl (some (.ref v))) I9 K9) from ?_)
  unfold f_J7_copyOfRangeByte_39247 at h
  refine XG.l (fun z9 => x_iloadn dJ7_copyOfRangeByte_39247_0 rfl z9) ?_
  refine XG.l (fun z9 => x_iloadn dJ7_copyOfRangeByte_39247_1 rfl z9) ?_
  obtain ⟨u1, hq2, h⟩ := b1_s h
  have hq := c_J7_checkLength_df160 d hq2
  refine XG.l (fun z9 => X.c0 (z_Scall [.int x1, .int x2] [] (cs_J7_343 _) (dep (show d + 0 + 0 + 1 ≤ (d + 1) from by omega) (Nat.le_of_ble_eq_true rfl)) dJ7_copyOfRangeByte_39247_2 rfl rfl (Nat.le_of_ble_eq_true rfl) hq z9)) ?_
  refine XG.l (fun z9 => x_iloadn dJ7_copyOfRangeByte_39247_5 rfl z9) ?_
  refine XG.l (fun z9 => x_iloadn dJ7_copyOfRangeByte_39247_6 rfl z9) ?_
  refine XG.l (fun z9 => x_isub dJ7_copyOfRangeByte_39247_7 z9) ?_
  refine XG.l (fun z9 => x_istoren dJ7_copyOfRangeByte_39247_8 (Nat.le_of_ble_eq_true rfl) rfl rfl z9) ?_
  refine XG.l (fun z9 => x_iloadn dJ7_copyOfRangeByte_39247_9 rfl z9) ?_
  obtain ⟨m3, hq7, h⟩ := b1_s h
  obtain ⟨u4, hq8, h⟩ := b1_s h
  obtain ⟨I5, K6, hq9, h⟩ := b2_s h
  refine XG.sn hq9 ?_ (fun z9 => x_newB (show Cond.arrayClass .byte ∈ wsG from inT1 85 rfl rfl) (ixn_s hq7).1 (ixn_s hq7).2 (cL_s hq8) dJ7_copyOfRangeByte_39247_10 z9)
  refine XG.l (fun z9 => x_astore dJ7_copyOfRangeByte_39247_12 (Nat.le_of_ble_eq_true rfl) rfl rfl z9) ?_
  refine XG.l (fun z9 => x_aloadn dJ7_copyOfRangeByte_39247_14 rfl z9) ?_
  refine XG.l (fun z9 => x_iloadn dJ7_copyOfRangeByte_39247_15 rfl z9) ?_
  refine XG.l (fun z9 => x_aload dJ7_copyOfRangeByte_39247_16 rfl z9) ?_
  refine XG.l (fun z9 => x_iconst 0 dJ7_copyOfRangeByte_39247_18 rfl z9) ?_
  refine XG.l (fun z9 => x_aloadn dJ7_copyOfRangeByte_39247_19 rfl z9) ?_
  obtain ⟨m10, hq11, h⟩ := b1_s h
  refine XG.l (fun z9 => z_lenD hq11 dJ7_copyOfRangeByte_39247_20 z9) ?_
  refine XG.l (fun z9 => x_iloadn dJ7_copyOfRangeByte_39247_21 rfl z9) ?_
  refine XG.l (fun z9 => x_isub dJ7_copyOfRangeByte_39247_22 z9) ?_
  refine XG.l (fun z9 => x_iloadn dJ7_copyOfRangeByte_39247_23 rfl z9) ?_
  refine XG.l (fun z9 => x_mmin ms_J7_304 (Nat.le_of_ble_eq_true rfl) (by show 1 ≤ (d + 1); omega) dJ7_copyOfRangeByte_39247_24 z9) ?_
  obtain ⟨m13, hq14, h⟩ := b1_s h
  obtain ⟨m19, hq20, h⟩ := b1_s h
  obtain ⟨j15, j16, j17, hq21, h⟩ := b3_s h
  obtain ⟨u18, hq22, h⟩ := b1_s h
  obtain ⟨I12, hq23, h⟩ := b1_s h
  cases hq23
  refine XG.l (fun z9 => x_copyBB (show Cond.methodLink RJ7 150 arraycopyName ∈ wsG from inT6 86 rfl rfl) (show Cond.native arraycopyName ∈ wsG from inT6 88 rfl rfl) (show Cond.static arraycopyName ∈ wsG from inT6 87 rfl rfl) (show Cond.initialized "java/lang/System" ∈ wsG from inT1 21 rfl rfl) (cA_s hq20) (cA_s hq14) hq21 hq22 (by show 1 ≤ (d + 1); omega) (Nat.le_of_ble_eq_true rfl) dJ7_copyOfRangeByte_39247_27 z9) ?_
  refine XG.l (fun z9 => x_aload dJ7_copyOfRangeByte_39247_30 rfl z9) ?_
  cases h
  exact XG.z (x_aret rfl (Or.inr ⟨_, rfl⟩) dJ7_copyOfRangeByte_39247_32 ⟨rfl, rfl, rfl⟩)
noncomputable def l_J7_copyOfRange_39247_10 (I : Mem) (K : Kt) (x0 : Nat) (x1 : Int32) (x2 : Int32) : Option (Nat × Mem × Kt) := b3 (f_J7_copyOfRangeByte_39247 I K x0 x1 x2) fun v1 I2 K3 => some (v1, I2, K3)
theorem tl_J7_copyOfRange_39247_10 (d : Nat) : ∀ {I : Mem} {K : Kt} {x0 : Nat} {x1 : Int32} {x2 : Int32} {v : Nat} {I9 : Mem} {K9 : Kt}, l_J7_copyOfRange_39247_10 I K x0 x1 x2 = some (v, I9, K9) → XG (mJ7_copyOfRange_39247 (d + 2)) cJ7_copyOfRange_39247 0 0 K9 I K 10 [.ref x0, .int x1, .int x2] [] (Ro (.inl (some (.ref v))) I9 K9) := by
  intro I K x0 x1 x2 v I9 K9 h
  unfold l_J7_copyOfRange_39247_10 at h
  refine XG.l (fun z9 => x_aloadn dJ7_copyOfRange_39247_10 rfl z9) ?_
  refine XG.l (fun z9 => x_iloadn dJ7_copyOfRange_39247_11 rfl z9) ?_
  refine XG.l (fun z9 => x_iloadn dJ7_copyOfRange_39247_12 rfl z9) ?_
  obtain ⟨v1, I2, K3, hq4, h⟩ := b3_s h
  have hq := c_J7_copyOfRangeByte_39247 d hq4
  refine XG.call hq.1 ?_ (fun z9 => z_Scall [.ref x0, .int x1, .int x2] [] (cs_J7_339 _) (dep (show d + 0 + 1 + 1 ≤ (d + 2) from by omega) (Nat.le_of_ble_eq_true rfl)) dJ7_copyOfRange_39247_13 rfl rfl (Nat.le_of_ble_eq_true rfl) hq.2 z9)
  cases h
  exact XG.z (x_aret rfl (Or.inr ⟨_, rfl⟩) dJ7_copyOfRange_39247_16 ⟨rfl, rfl, rfl⟩)
noncomputable def f_J7_copyOfRange_39247 (I : Mem) (K : Kt) (x0 : Nat) (x1 : Int32) (x2 : Int32) : Option (Nat × Mem × Kt) := if x1 = 0 then (b1 (cLen K x0) fun m5 => if x2 = (nI m5) then (b1 (cA K 101 x0) fun m7 => b1 (cL K) fun _ => b1 (cFit (I x0) 0 m7) fun _ => b2 (puC I K x0 (101, m7)) fun I10 K11 => b1 (cA K11 101 (kN K)) fun _ => some ((kN K), I10, K11)) else (l_J7_copyOfRange_39247_10 I K x0 x1 x2)) else (l_J7_copyOfRange_39247_10 I K x0 x1 x2)
theorem c_J7_copyOfRange_39247 (d : Nat) {K : Kt} {I : Mem} {x0 : Nat} {x1 : Int32} {x2 : Int32} {v : Nat} {I9 : Mem} {K9 : Kt} (h : f_J7_copyOfRange_39247 I K x0 x1 x2 = some (v, I9, K9)) : CtG (mJ7_copyOfRange_39247 (d + 2)) cJ7_copyOfRange_39247 0 0 K9 [.ref x0, .int x1, .int x2] I K (Ro (.inl (some (.ref v))) I9 K9) := by
  refine CtG.of rfl pn_J7 (catR (catI (catI cat0))) (Nat.le_of_ble_eq_true rfl) (show XG (mJ7_copyOfRange_39247 (d + 2)) cJ7_copyOfRange_39247 0 0 K9 I K 0 [.ref x0, .int x1, .int x2] [] (Ro (.inl (some (.ref v))) I9 K9) from ?_)
  unfold f_J7_copyOfRange_39247 at h
  refine XG.l (fun z9 => x_iloadn dJ7_copyOfRange_39247_0 rfl z9) ?_
  rcases Classical.em (x1 = 0) with hc | hc
  · have h := ifT hc h
    refine XG.l (fun z9 => x_if_ne 10 dJ7_copyOfRange_39247_1 rfl (fun hn => absurd hc hn) (fun _ => z9)) ?_
    refine XG.l (fun z9 => x_iloadn dJ7_copyOfRange_39247_4 rfl z9) ?_
    refine XG.l (fun z9 => x_aloadn dJ7_copyOfRange_39247_5 rfl z9) ?_
    obtain ⟨m5, hq6, h⟩ := b1_s h
    refine XG.l (fun z9 => z_lenD hq6 dJ7_copyOfRange_39247_6 z9) ?_
    rcases Classical.em (x2 = (nI m5)) with hc | hc
    · have h := ifT hc h
      refine XG.l (fun z9 => x_icmp_eq 17 dJ7_copyOfRange_39247_7 rfl (fun _ => z9) (fun hn => absurd hc hn)) ?_
      refine XG.l (fun z9 => x_aloadn dJ7_copyOfRange_39247_17 rfl z9) ?_
      obtain ⟨m7, hq12, h⟩ := b1_s h
      obtain ⟨u8, hq13, h⟩ := b1_s h
      obtain ⟨u9, hq14, h⟩ := b1_s h
      obtain ⟨I10, K11, hq15, h⟩ := b2_s h
      refine XG.sc hq15 ?_ (fun z9 => x_cloneB cc_J7_310 (cA_s hq12) (cFit_s hq14) (cL_s hq13) (by show 1 ≤ (d + 2); omega) (Nat.le_of_ble_eq_true rfl) dJ7_copyOfRange_39247_18 z9)
      obtain ⟨u16, hq17, h⟩ := b1_s h
      refine XG.l (fun z9 => x_castB (show Cond.classLink RJ7 311 "[B" ∈ wsG from inT7 5 rfl rfl) (cA_s hq17) dJ7_copyOfRange_39247_21 z9) ?_
      cases h
      exact XG.z (x_aret rfl (Or.inr ⟨_, rfl⟩) dJ7_copyOfRange_39247_24 ⟨rfl, rfl, rfl⟩)
    have h := ifF hc h
    refine XG.l (fun z9 => x_icmp_eq 17 dJ7_copyOfRange_39247_7 rfl (fun hn => absurd hn hc) (fun _ => z9)) ?_
    exact (tl_J7_copyOfRange_39247_10 d h)
  have h := ifF hc h
  refine XG.l (fun z9 => x_if_ne 10 dJ7_copyOfRange_39247_1 rfl (fun _ => z9) (fun hn => absurd hn hc)) ?_
  exact (tl_J7_copyOfRange_39247_10 d h)
noncomputable def l_J0_init_db425_79 (I : Mem) (K : Kt) (x0 : Nat) (x3 : Nat) (x4 : Int32) : Option (Mem × Kt) := b1 (cO K 12 x0) fun _ => b1 (cF .byte 1) fun _ => b1 (pu I x0 1 1) fun I15 => b3 (f_J7_copyOfRange_39247 I15 K x3 0 (x4 <<< (1 &&& 31))) fun v19 I20 K21 => b1 (cO K21 12 x0) fun _ => b1 (puG K21 x0 0 v19) fun K25 => some (I20, K25)
theorem tl_J0_init_db425_79 (d : Nat) : ∀ {I : Mem} {K : Kt} {x0 : Nat} {x3 : Nat} {x4 : Int32} {I9 : Mem} {K9 : Kt}, l_J0_init_db425_79 I K x0 x3 x4 = some (I9, K9) → XG (mJ0_init_db425 (d + 3)) cJ0_init_db425 0 0 K9 I K 79 [.ref x0, .retAddr 0, .retAddr 0, .ref x3, .int x4] [] (Ro (.inl none) I9 K9) := by
  intro I K x0 x3 x4 I9 K9 h
  unfold l_J0_init_db425_79 at h
  refine XG.l (fun z9 => x_aloadn dJ0_init_db425_79 rfl z9) ?_
  refine XG.l (fun z9 => x_iconst 1 dJ0_init_db425_80 rfl z9) ?_
  obtain ⟨u13, hq14, h⟩ := b1_s h
  obtain ⟨u16, hq17, h⟩ := b1_s h
  obtain ⟨I15, hq18, h⟩ := b1_s h
  refine XG.l (fun z9 => z_putAF fs_J0_15 rfl (cO_s hq14) (cF_s hq17) hq18 dJ0_init_db425_81 z9) ?_
  refine XG.l (fun z9 => x_aloadn dJ0_init_db425_84 rfl z9) ?_
  refine XG.l (fun z9 => x_aloadn dJ0_init_db425_85 rfl z9) ?_
  refine XG.l (fun z9 => x_iconst 0 dJ0_init_db425_86 rfl z9) ?_
  refine XG.l (fun z9 => x_iload dJ0_init_db425_87 rfl z9) ?_
  refine XG.l (fun z9 => x_iconst 1 dJ0_init_db425_89 rfl z9) ?_
  refine XG.l (fun z9 => x_ishl dJ0_init_db425_90 z9) ?_
  obtain ⟨v19, I20, K21, hq22, h⟩ := b3_s h
  have hq := c_J7_copyOfRange_39247 d hq22
  refine XG.call hq.1 ?_ (fun z9 => z_Scall [.ref x3, .int 0, .int (x4 <<< (1 &&& 31))] [.ref x0] (cs_J0_54 _) (dep (show d + 0 + 2 + 1 ≤ (d + 3) from by omega) (Nat.le_of_ble_eq_true rfl)) dJ0_init_db425_91 rfl rfl (Nat.le_of_ble_eq_true rfl) hq.2 z9)
  obtain ⟨u23, hq24, h⟩ := b1_s h
  obtain ⟨K25, hq26, h⟩ := b1_s h
  refine XG.sg hq26 ?_ (fun z9 => x_putR fs_J0_9 (fun _ => rfl) (cO_s hq24).1 (cO_s hq24).2 (fun q => ⟨rfl, rfl⟩) dJ0_init_db425_94 z9)
  cases h
  exact XG.z (x_vret rfl dJ0_init_db425_97 ⟨rfl, rfl, rfl⟩)
noncomputable def f_J0_init_db425 (I : Mem) (K : Kt) (x0 : Nat) (x1 : Nat) : Option (Mem × Kt) := b1 (cO K 0 x1) fun _ => b1 (f_J5_getValue_6d5f1 I K x1) fun v3 => b1 (cO K 0 x1) fun _ => b1 (f_J4_length_8abf5 I K x1) fun v7 => b1 (cO K 0 x1) fun _ => b1 (f_J5_isLatin1_aae02 I K x1) fun v11 => if v11 = 0 then (if (1 : Int32) = 0 then (l_J0_init_db425_79 I K x0 v3 v7) else (b1 (cO K 0 x1) fun _ => if (I x1 2) = 0 then (l_J0_init_db425_79 I K x0 v3 v7) else (none))) else (b1 (cO K 12 x0) fun _ => b1 (cF .byte 0) fun _ => b1 (pu I x0 1 0) fun I31 => b3 (f_J7_copyOfRange_39247 I31 K v3 0 v7) fun v35 I36 K37 => b1 (cO K37 12 x0) fun _ => b1 (puG K37 x0 0 v35) fun K41 => some (I36, K41))
theorem c_J0_init_db425 (d : Nat) {K : Kt} {I : Mem} {x0 : Nat} {x1 : Nat} {I9 : Mem} {K9 : Kt} (h : f_J0_init_db425 I K x0 x1 = some (I9, K9)) : CtG (mJ0_init_db425 (d + 3)) cJ0_init_db425 0 0 K9 [.ref x0, .ref x1, .null] I K (Ro (.inl none) I9 K9) := by
  refine CtG.of rfl pn_J0 (catR (catR (catN cat0))) (Nat.le_of_ble_eq_true rfl) (show XG (mJ0_init_db425 (d + 3)) cJ0_init_db425 0 0 K9 I K 0 [.ref x0, .ref x1, .null, .retAddr 0, .retAddr 0] [] (Ro (.inl none) I9 K9) from ?_)
  unfold f_J0_init_db425 at h
  refine XG.l (fun z9 => x_aloadn dJ0_init_db425_0 rfl z9) ?_
  refine XG.l (fun z9 => x_objInit (show Cond.methodLink RJ0 1 Lib.objectInit ∈ wsG from inT7 227 rfl rfl) (show Cond.instanceMethod Lib.objectInit ∈ wsG from inT1 46 rfl rfl) (show Cond.code Lib.objectInit ⟨#[0xb1]⟩ 1 none ∈ wsG from inT1 47 rfl rfl) (Nat.le_of_ble_eq_true rfl) (by show 1 ≤ (d + 3); omega) dJ0_init_db425_1 z9) ?_
  refine XG.l (fun z9 => x_aloadn dJ0_init_db425_4 rfl z9) ?_
  obtain ⟨u1, hq2, h⟩ := b1_s h
  obtain ⟨v3, hq4, h⟩ := b1_s h
  have hq := c_J5_getValue_6d5f1 (d + 2) hq4
  refine XG.l (fun z9 => X.c0 (z_VCcall [] [] (cs_J0_552 _) (ci := 0) rfl (cO_s hq2) (dep (show d + 2 + 0 + 1 ≤ (d + 3) from by omega) (Nat.le_of_ble_eq_true rfl)) dJ0_init_db425_5 rfl rfl (Nat.le_of_ble_eq_true rfl) hq z9)) ?_
  refine XG.l (fun z9 => x_astoren dJ0_init_db425_8 (Nat.le_of_ble_eq_true rfl) rfl rfl z9) ?_
  refine XG.l (fun z9 => x_aloadn dJ0_init_db425_9 rfl z9) ?_
  obtain ⟨u5, hq6, h⟩ := b1_s h
  obtain ⟨v7, hq8, h⟩ := b1_s h
  have hq := c_J4_length_8abf5 (d + 1) hq8
  refine XG.l (fun z9 => X.c0 (z_Ucall [] [] (cs_J0_549 _) (ci := 0) rfl (cO_s hq6) (dep (show d + 1 + 1 + 1 ≤ (d + 3) from by omega) (Nat.le_of_ble_eq_true rfl)) dJ0_init_db425_10 rfl rfl (Nat.le_of_ble_eq_true rfl) hq z9)) ?_
  refine XG.l (fun z9 => x_istore dJ0_init_db425_13 (Nat.le_of_ble_eq_true rfl) rfl rfl z9) ?_
  refine XG.l (fun z9 => x_aloadn dJ0_init_db425_15 rfl z9) ?_
  obtain ⟨u9, hq10, h⟩ := b1_s h
  obtain ⟨v11, hq12, h⟩ := b1_s h
  have hq := c_J5_isLatin1_aae02 (d + 2) hq12
  refine XG.l (fun z9 => X.c0 (z_VCcall [] [] (cs_J0_1047 _) (ci := 0) rfl (cO_s hq10) (dep (show d + 2 + 0 + 1 ≤ (d + 3) from by omega) (Nat.le_of_ble_eq_true rfl)) dJ0_init_db425_16 rfl rfl (Nat.le_of_ble_eq_true rfl) hq z9)) ?_
  rcases Classical.em (v11 = 0) with hc | hc
  · have h := ifT hc h
    refine XG.l (fun z9 => x_if_eq 41 dJ0_init_db425_19 rfl (fun _ => z9) (fun hn => absurd hc hn)) ?_
    refine XG.l (fun z9 => x_gsC (show Cond.fieldLink RJ0 38 "java/lang/String" "COMPACT_STRINGS" "Z" ∈ wsG from inT3 47 rfl rfl) dJ0_init_db425_41 z9) ?_
    rcases Classical.em ((1 : Int32) = 0) with hc | hc
    · have h := ifT hc h
      refine XG.l (fun z9 => x_if_eq 79 dJ0_init_db425_44 rfl (fun _ => z9) (fun hn => absurd hc hn)) ?_
      exact XG.forget (L' := [.ref x0, .retAddr 0, .retAddr 0, .ref v3, .int v7]) ⟨Or.inl rfl, ⟨Or.inr rfl, ⟨Or.inr rfl, ⟨Or.inl rfl, ⟨Or.inl rfl, trivial⟩⟩⟩⟩⟩ (tl_J0_init_db425_79 d h)
    have h := ifF hc h
    refine XG.l (fun z9 => x_if_eq 79 dJ0_init_db425_44 rfl (fun hn => absurd hn hc) (fun _ => z9)) ?_
    refine XG.l (fun z9 => x_aloadn dJ0_init_db425_47 rfl z9) ?_
    obtain ⟨u27, hq28, h⟩ := b1_s h
    refine XG.l (fun z9 => x_getI fs_J0_1048 (cO_s hq28).1 (cO_s hq28).2 dJ0_init_db425_48 z9) ?_
    rcases Classical.em ((I x1 2) = 0) with hc | hc
    · have h := ifT hc h
      refine XG.l (fun z9 => x_if_eq 79 dJ0_init_db425_51 rfl (fun _ => z9) (fun hn => absurd hc hn)) ?_
      exact XG.forget (L' := [.ref x0, .retAddr 0, .retAddr 0, .ref v3, .int v7]) ⟨Or.inl rfl, ⟨Or.inr rfl, ⟨Or.inr rfl, ⟨Or.inl rfl, ⟨Or.inl rfl, trivial⟩⟩⟩⟩⟩ (tl_J0_init_db425_79 d h)
    have h := ifF hc h
    refine XG.l (fun z9 => x_if_eq 79 dJ0_init_db425_51 rfl (fun hn => absurd hn hc) (fun _ => z9)) ?_
    cases h
  have h := ifF hc h
  refine XG.l (fun z9 => x_if_eq 41 dJ0_init_db425_19 rfl (fun hn => absurd hn hc) (fun _ => z9)) ?_
  refine XG.l (fun z9 => x_aloadn dJ0_init_db425_22 rfl z9) ?_
  refine XG.l (fun z9 => x_iconst 0 dJ0_init_db425_23 rfl z9) ?_
  obtain ⟨u29, hq30, h⟩ := b1_s h
  obtain ⟨u32, hq33, h⟩ := b1_s h
  obtain ⟨I31, hq34, h⟩ := b1_s h
  refine XG.l (fun z9 => z_putAF fs_J0_15 rfl (cO_s hq30) (cF_s hq33) hq34 dJ0_init_db425_24 z9) ?_
  refine XG.l (fun z9 => x_aloadn dJ0_init_db425_27 rfl z9) ?_
  refine XG.l (fun z9 => x_aloadn dJ0_init_db425_28 rfl z9) ?_
  refine XG.l (fun z9 => x_iconst 0 dJ0_init_db425_29 rfl z9) ?_
  refine XG.l (fun z9 => x_iload dJ0_init_db425_30 rfl z9) ?_
  obtain ⟨v35, I36, K37, hq38, h⟩ := b3_s h
  have hq := c_J7_copyOfRange_39247 d hq38
  refine XG.call hq.1 ?_ (fun z9 => z_Scall [.ref v3, .int 0, .int v7] [.ref x0] (cs_J0_54 _) (dep (show d + 0 + 2 + 1 ≤ (d + 3) from by omega) (Nat.le_of_ble_eq_true rfl)) dJ0_init_db425_32 rfl rfl (Nat.le_of_ble_eq_true rfl) hq.2 z9)
  obtain ⟨u39, hq40, h⟩ := b1_s h
  obtain ⟨K41, hq42, h⟩ := b1_s h
  refine XG.sg hq42 ?_ (fun z9 => x_putR fs_J0_9 (fun _ => rfl) (cO_s hq40).1 (cO_s hq40).2 (fun q => ⟨rfl, rfl⟩) dJ0_init_db425_35 z9)
  refine XG.l (fun z9 => x_goto 97 dJ0_init_db425_38 rfl z9) ?_
  cases h
  exact XG.z (x_vret rfl dJ0_init_db425_97 ⟨rfl, rfl, rfl⟩)
noncomputable def f_J0_init_81219 (I : Mem) (K : Kt) (x0 : Nat) (x1 : Nat) : Option (Mem × Kt) := b2 (f_J0_init_db425 I K x0 x1) fun I1 K2 => some (I1, K2)
theorem c_J0_init_81219 (d : Nat) {K : Kt} {I : Mem} {x0 : Nat} {x1 : Nat} {I9 : Mem} {K9 : Kt} (h : f_J0_init_81219 I K x0 x1 = some (I9, K9)) : CtG (mJ0_init_81219 (d + 4)) cJ0_init_81219 0 0 K9 [.ref x0, .ref x1] I K (Ro (.inl none) I9 K9) := by
  refine CtG.of rfl pn_J0 (catR (catR cat0)) (Nat.le_of_ble_eq_true rfl) (show XG (mJ0_init_81219 (d + 4)) cJ0_init_81219 0 0 K9 I K 0 [.ref x0, .ref x1] [] (Ro (.inl none) I9 K9) from ?_)
  unfold f_J0_init_81219 at h
  refine XG.l (fun z9 => x_aloadn dJ0_init_81219_0 rfl z9) ?_
  refine XG.l (fun z9 => x_aloadn dJ0_init_81219_1 rfl z9) ?_
  refine XG.l (fun z9 => x_null dJ0_init_81219_2 z9) ?_
  obtain ⟨I1, K2, hq3, h⟩ := b2_s h
  have hq := c_J0_init_db425 d hq3
  refine XG.call hq.1 ?_ (fun z9 => z_Icall [.ref x1, .null] [] (Or.inl (cs_J0_489 _)) (dep (show d + 0 + 3 + 1 ≤ (d + 4) from by omega) (Nat.le_of_ble_eq_true rfl)) dJ0_init_81219_3 rfl rfl (Nat.le_of_ble_eq_true rfl) hq.2 z9)
  cases h
  exact XG.z (x_vret rfl dJ0_init_81219_6 ⟨rfl, rfl, rfl⟩)
noncomputable def f_J4_toString_0e30d (I : Mem) (K : Kt) (x0 : Nat) : Option (Nat × Mem × Kt) := b1 (cL K) fun _ => b2 (puN I K (12, 4)) fun I2 K3 => b2 (f_J0_init_81219 I2 K3 (kN K) x0) fun I6 K7 => some ((kN K), I6, K7)
theorem c_J4_toString_0e30d (d : Nat) {K : Kt} {I : Mem} {x0 : Nat} {v : Nat} {I9 : Mem} {K9 : Kt} (h : f_J4_toString_0e30d I K x0 = some (v, I9, K9)) : CtG (mJ4_toString_0e30d (d + 5)) cJ4_toString_0e30d 0 0 K9 [.ref x0] I K (Ro (.inl (some (.ref v))) I9 K9) := by
  refine CtG.of rfl pn_J4 (catR cat0) (Nat.le_of_ble_eq_true rfl) (show XG (mJ4_toString_0e30d (d + 5)) cJ4_toString_0e30d 0 0 K9 I K 0 [.ref x0] [] (Ro (.inl (some (.ref v))) I9 K9) from ?_)
  unfold f_J4_toString_0e30d at h
  obtain ⟨u1, hq4, h⟩ := b1_s h
  obtain ⟨I2, K3, hq5, h⟩ := b2_s h
  refine XG.sn hq5 ?_ (fun z9 => x_new ns_J4_18 (cL_s hq4) dJ4_toString_0e30d_0 z9)
  refine XG.l (fun z9 => x_dup dJ4_toString_0e30d_3 rfl z9) ?_
  refine XG.l (fun z9 => x_aloadn dJ4_toString_0e30d_4 rfl z9) ?_
  obtain ⟨I6, K7, hq8, h⟩ := b2_s h
  have hq := c_J0_init_81219 d hq8
  refine XG.call hq.1 ?_ (fun z9 => z_Icall [.ref x0] [.ref (kN K)] (Or.inl (cs_J4_137 _)) (dep (show d + 0 + 4 + 1 ≤ (d + 5) from by omega) (Nat.le_of_ble_eq_true rfl)) dJ4_toString_0e30d_5 rfl rfl (Nat.le_of_ble_eq_true rfl) hq.2 z9)
  cases h
  exact XG.z (x_aret rfl (Or.inl ⟨_, rfl⟩) dJ4_toString_0e30d_8 ⟨rfl, rfl, rfl⟩)
noncomputable def f_J0_isLatin1_aae02_o (I : Mem) (K : Kt) (x0 : Nat) : Option (Int32) := if (1 : Int32) = 0 then (some (0)) else (b1 (cO K 12 x0) fun _ => if (I x0 1) = 0 then (some (1)) else (some (0)))
theorem c_J0_isLatin1_aae02_o (d : Nat) {K : Kt} {I : Mem} {x0 : Nat} {v : Int32} (h : f_J0_isLatin1_aae02_o I K x0 = some v) : Ct (mJ0_isLatin1_aae02 d) cJ0_isLatin1_aae02 0 0 [.ref x0] I K (Ro (.inl (some (.int v))) I K) := by
  refine Ct.of rfl pn_J0 (catR cat0) (Nat.le_of_ble_eq_true rfl) (show X (mJ0_isLatin1_aae02 d) cJ0_isLatin1_aae02 0 0 I K 0 [.ref x0] [] (Ro (.inl (some (.int v))) I K) from ?_)
  unfold f_J0_isLatin1_aae02_o at h
  refine x_gsC (show Cond.fieldLink RJ0 38 "java/lang/String" "COMPACT_STRINGS" "Z" ∈ wsG from inT3 47 rfl rfl) dJ0_isLatin1_aae02_0 ?_
  refine x_if_eq 17 dJ0_isLatin1_aae02_3 rfl (fun hc => ?_) (fun hc => ?_)
  · have h := ifT hc h
    refine x_iconst 0 dJ0_isLatin1_aae02_17 rfl ?_
    cases h
    exact x_zret rfl rfl dJ0_isLatin1_aae02_18 ⟨rfl, rfl, rfl⟩
  have h := ifF hc h
  refine x_aloadn dJ0_isLatin1_aae02_6 rfl ?_
  obtain ⟨u1, hq2, h⟩ := b1_s h
  refine x_getI fs_J0_15 (cO_s hq2).1 (cO_s hq2).2 dJ0_isLatin1_aae02_7 ?_
  refine x_if_ne 17 dJ0_isLatin1_aae02_10 rfl (fun hc => ?_) (fun hc => ?_)
  · have h := ifF hc h
    refine x_iconst 0 dJ0_isLatin1_aae02_17 rfl ?_
    cases h
    exact x_zret rfl rfl dJ0_isLatin1_aae02_18 ⟨rfl, rfl, rfl⟩
  have h := ifT hc h
  refine x_iconst 1 dJ0_isLatin1_aae02_13 rfl ?_
  refine x_goto 18 dJ0_isLatin1_aae02_14 rfl ?_
  cases h
  exact x_zret rfl rfl dJ0_isLatin1_aae02_18 ⟨rfl, rfl, rfl⟩
noncomputable def f_J1_charAt_3b067_o (I : Mem) (K : Kt) (x0 : Nat) (x1 : Int32) : Option (Int32) := b1 (cLen K x0) fun m1 => b1 (f_J0_checkIndex_df160 x1 (nI m1)) fun u3 => b1 (cA K 101 x0) fun m6 => b1 (ix x1 m6) fun j5 => b1 (cN .char ((((I x0 j5) &&& 255)).toUInt32 % 65536).toInt32) fun _ => some (((((I x0 j5) &&& 255)).toUInt32 % 65536).toInt32)
theorem c_J1_charAt_3b067_o (d : Nat) {K : Kt} {I : Mem} {x0 : Nat} {x1 : Int32} {v : Int32} (h : f_J1_charAt_3b067_o I K x0 x1 = some v) : Ct (mJ1_charAt_3b067 (d + 2)) cJ1_charAt_3b067 0 0 [.ref x0, .int x1] I K (Ro (.inl (some (.int v))) I K) := by
  refine Ct.of rfl pn_J1 (catR (catI cat0)) (Nat.le_of_ble_eq_true rfl) (show X (mJ1_charAt_3b067 (d + 2)) cJ1_charAt_3b067 0 0 I K 0 [.ref x0, .int x1] [] (Ro (.inl (some (.int v))) I K) from ?_)
  unfold f_J1_charAt_3b067_o at h
  refine x_iloadn dJ1_charAt_3b067_0 rfl ?_
  refine x_aloadn dJ1_charAt_3b067_1 rfl ?_
  obtain ⟨m1, hq2, h⟩ := b1_s h
  refine z_lenD hq2 dJ1_charAt_3b067_2 ?_
  obtain ⟨u3, hq4, h⟩ := b1_s h
  have hq := c_J0_checkIndex_df160 d (K := K) (I := I)  hq4
  refine X.c0 (z_Scall [.int x1, .int (nI m1)] [] (cs_J1_9 _) (dep (show d + 0 + 1 + 1 ≤ (d + 2) from by omega) (Nat.le_of_ble_eq_true rfl)) dJ1_charAt_3b067_3 rfl rfl (Nat.le_of_ble_eq_true rfl) hq ?_)
  refine x_aloadn dJ1_charAt_3b067_6 rfl ?_
  refine x_iloadn dJ1_charAt_3b067_7 rfl ?_
  obtain ⟨m6, hq7, h⟩ := b1_s h
  obtain ⟨j5, hq8, h⟩ := b1_s h
  refine z_bald (cA_s hq7) hq8 dJ1_charAt_3b067_8 ?_
  refine x_sipush 255 dJ1_charAt_3b067_9 (by decide) ?_
  refine x_iand dJ1_charAt_3b067_12 ?_
  refine x_i2c dJ1_charAt_3b067_13 ?_
  obtain ⟨u9, hu9, h⟩ := b1_s h
  cases h
  exact x_zret rfl (cN_s rfl hu9) dJ1_charAt_3b067_14 ⟨rfl, rfl, rfl⟩
noncomputable def f_J0_charAt_5068e_o (I : Mem) (K : Kt) (x0 : Nat) (x1 : Int32) : Option (Int32) := b1 (cO K 12 x0) fun _ => b1 (f_J0_isLatin1_aae02_o I K x0) fun v3 => if v3 = 0 then (b1 (cO K 12 x0) fun _ => b1 (gR K x0 0) fun r7 => none) else (b1 (cO K 12 x0) fun _ => b1 (gR K x0 0) fun r11 => b1 (f_J1_charAt_3b067_o I K r11 x1) fun v13 => b1 (cN .char v13) fun _ => some (v13))
theorem c_J0_charAt_5068e_o (d : Nat) {K : Kt} {I : Mem} {x0 : Nat} {x1 : Int32} {v : Int32} (h : f_J0_charAt_5068e_o I K x0 x1 = some v) : Ct (mJ0_charAt_5068e (d + 3)) cJ0_charAt_5068e 0 0 [.ref x0, .int x1] I K (Ro (.inl (some (.int v))) I K) := by
  refine Ct.of rfl pn_J0 (catR (catI cat0)) (Nat.le_of_ble_eq_true rfl) (show X (mJ0_charAt_5068e (d + 3)) cJ0_charAt_5068e 0 0 I K 0 [.ref x0, .int x1] [] (Ro (.inl (some (.int v))) I K) from ?_)
  unfold f_J0_charAt_5068e_o at h
  refine x_aloadn dJ0_charAt_5068e_0 rfl ?_
  obtain ⟨u1, hq2, h⟩ := b1_s h
  obtain ⟨v3, hq4, h⟩ := b1_s h
  have hq := c_J0_isLatin1_aae02_o (d + 2) hq4
  refine X.c0 (z_Vcall [] [] (cs_J0_492 _) (ci := 12) rfl (cO_s hq2) (dep (show d + 2 + 0 + 1 ≤ (d + 3) from by omega) (Nat.le_of_ble_eq_true rfl)) dJ0_charAt_5068e_1 rfl rfl (Nat.le_of_ble_eq_true rfl) hq ?_)
  refine x_if_eq 16 dJ0_charAt_5068e_4 rfl (fun hc => ?_) (fun hc => ?_)
  · have h := ifT hc h
    refine x_aloadn dJ0_charAt_5068e_16 rfl ?_
    obtain ⟨u5, hq6, h⟩ := b1_s h
    obtain ⟨r7, hq8, h⟩ := b1_s h
    refine x_getR fs_J0_9 (cO_s hq6).1 (cO_s hq6).2 hq8 dJ0_charAt_5068e_17 ?_
    cases h
  have h := ifF hc h
  refine x_aloadn dJ0_charAt_5068e_7 rfl ?_
  obtain ⟨u9, hq10, h⟩ := b1_s h
  obtain ⟨r11, hq12, h⟩ := b1_s h
  refine x_getR fs_J0_9 (cO_s hq10).1 (cO_s hq10).2 hq12 dJ0_charAt_5068e_8 ?_
  refine x_iloadn dJ0_charAt_5068e_11 rfl ?_
  obtain ⟨v13, hq14, h⟩ := b1_s h
  have hq := c_J1_charAt_3b067_o d hq14
  refine X.c0 (z_Scall [.ref r11, .int x1] [] (cs_J0_495 _) (dep (show d + 0 + 2 + 1 ≤ (d + 3) from by omega) (Nat.le_of_ble_eq_true rfl)) dJ0_charAt_5068e_12 rfl rfl (Nat.le_of_ble_eq_true rfl) hq ?_)
  obtain ⟨u15, hu15, h⟩ := b1_s h
  cases h
  exact x_zret rfl (cN_s rfl hu15) dJ0_charAt_5068e_15 ⟨rfl, rfl, rfl⟩
noncomputable def f_J0_coder_7d493_o (I : Mem) (K : Kt) (x0 : Nat) : Option (Int32) := if (1 : Int32) = 0 then (some (1)) else (b1 (cO K 12 x0) fun _ => b1 (cN .byte (I x0 1)) fun _ => some ((I x0 1)))
theorem c_J0_coder_7d493_o (d : Nat) {K : Kt} {I : Mem} {x0 : Nat} {v : Int32} (h : f_J0_coder_7d493_o I K x0 = some v) : Ct (mJ0_coder_7d493 d) cJ0_coder_7d493 0 0 [.ref x0] I K (Ro (.inl (some (.int v))) I K) := by
  refine Ct.of rfl pn_J0 (catR cat0) (Nat.le_of_ble_eq_true rfl) (show X (mJ0_coder_7d493 d) cJ0_coder_7d493 0 0 I K 0 [.ref x0] [] (Ro (.inl (some (.int v))) I K) from ?_)
  unfold f_J0_coder_7d493_o at h
  refine x_gsC (show Cond.fieldLink RJ0 38 "java/lang/String" "COMPACT_STRINGS" "Z" ∈ wsG from inT3 47 rfl rfl) dJ0_coder_7d493_0 ?_
  refine x_if_eq 13 dJ0_coder_7d493_3 rfl (fun hc => ?_) (fun hc => ?_)
  · have h := ifT hc h
    refine x_iconst 1 dJ0_coder_7d493_13 rfl ?_
    cases h
    exact x_zret rfl rfl dJ0_coder_7d493_14 ⟨rfl, rfl, rfl⟩
  have h := ifF hc h
  refine x_aloadn dJ0_coder_7d493_6 rfl ?_
  obtain ⟨u1, hq2, h⟩ := b1_s h
  refine x_getI fs_J0_15 (cO_s hq2).1 (cO_s hq2).2 dJ0_coder_7d493_7 ?_
  refine x_goto 14 dJ0_coder_7d493_10 rfl ?_
  obtain ⟨u3, hu3, h⟩ := b1_s h
  cases h
  exact x_zret rfl (cN_s rfl hu3) dJ0_coder_7d493_14 ⟨rfl, rfl, rfl⟩
noncomputable def f_J0_length_8abf5_o (I : Mem) (K : Kt) (x0 : Nat) : Option (Int32) := b1 (cO K 12 x0) fun _ => b1 (gR K x0 0) fun r3 => b1 (cLen K r3) fun m5 => b1 (cO K 12 x0) fun _ => b1 (f_J0_coder_7d493_o I K x0) fun v9 => some (((nI m5) >>> (v9 &&& 31)))
theorem c_J0_length_8abf5_o (d : Nat) {K : Kt} {I : Mem} {x0 : Nat} {v : Int32} (h : f_J0_length_8abf5_o I K x0 = some v) : Ct (mJ0_length_8abf5 (d + 1)) cJ0_length_8abf5 0 0 [.ref x0] I K (Ro (.inl (some (.int v))) I K) := by
  refine Ct.of rfl pn_J0 (catR cat0) (Nat.le_of_ble_eq_true rfl) (show X (mJ0_length_8abf5 (d + 1)) cJ0_length_8abf5 0 0 I K 0 [.ref x0] [] (Ro (.inl (some (.int v))) I K) from ?_)
  unfold f_J0_length_8abf5_o at h
  refine x_aloadn dJ0_length_8abf5_0 rfl ?_
  obtain ⟨u1, hq2, h⟩ := b1_s h
  obtain ⟨r3, hq4, h⟩ := b1_s h
  refine x_getR fs_J0_9 (cO_s hq2).1 (cO_s hq2).2 hq4 dJ0_length_8abf5_1 ?_
  obtain ⟨m5, hq6, h⟩ := b1_s h
  refine z_lenD hq6 dJ0_length_8abf5_4 ?_
  refine x_aloadn dJ0_length_8abf5_5 rfl ?_
  obtain ⟨u7, hq8, h⟩ := b1_s h
  obtain ⟨v9, hq10, h⟩ := b1_s h
  have hq := c_J0_coder_7d493_o d hq10
  refine X.c0 (z_Vcall [] [.int (nI m5)] (cs_J0_335 _) (ci := 12) rfl (cO_s hq8) (dep (show d + 0 + 0 + 1 ≤ (d + 1) from by omega) (Nat.le_of_ble_eq_true rfl)) dJ0_length_8abf5_6 rfl rfl (Nat.le_of_ble_eq_true rfl) hq ?_)
  refine x_ishr dJ0_length_8abf5_9 ?_
  cases h
  exact x_iret rfl dJ0_length_8abf5_10 ⟨rfl, rfl, rfl⟩
noncomputable def l_J7_fill_d0a16_6 (m9 : Nat) (I : Mem) (K : Kt) (x0 : Nat) (x1 : Int64) (x3 : Int32) (x4 : Int32) : Option (Mem × Kt) := match m9 with
  | 0 => none
  | m9 + 1 => if x4 ≤ x3 then (some (I, K)) else (b1 (cA K 103 x0) fun m4 => b1 (ix x3 m4) fun j3 => b1 (puJ K x0 j3 x1) fun K7 => l_J7_fill_d0a16_6 m9 I K7 x0 x1 (x3 + 1) x4)
theorem tl_J7_fill_d0a16_6 (d : Nat) (m9 : Nat) : ∀ {I : Mem} {K : Kt} {x0 : Nat} {x1 : Int64} {x3 : Int32} {x4 : Int32} {I9 : Mem} {K9 : Kt}, l_J7_fill_d0a16_6 m9 I K x0 x1 x3 x4 = some (I9, K9) → XG (mJ7_fill_d0a16 d) cJ7_fill_d0a16 0 0 K9 I K 6 [.ref x0, .long x1, .retAddr 0, .int x3, .int x4] [] (Ro (.inl none) I9 K9) := by
  induction m9 with
  | zero =>
    intro I K x0 x1 x3 x4 I9 K9 h
    cases h
  | succ m9 ih =>
    intro I K x0 x1 x3 x4 I9 K9 h
    unfold l_J7_fill_d0a16_6 at h
    refine XG.l (fun z9 => x_iloadn dJ7_fill_d0a16_6 rfl z9) ?_
    refine XG.l (fun z9 => x_iload dJ7_fill_d0a16_7 rfl z9) ?_
    rcases Classical.em (x4 ≤ x3) with hc | hc
    · have h := ifT hc h
      refine XG.l (fun z9 => x_icmp_ge 22 dJ7_fill_d0a16_9 rfl (fun _ => z9) (fun hn => absurd hc hn)) ?_
      cases h
      exact XG.z (x_vret rfl dJ7_fill_d0a16_22 ⟨rfl, rfl, rfl⟩)
    have h := ifF hc h
    refine XG.l (fun z9 => x_icmp_ge 22 dJ7_fill_d0a16_9 rfl (fun hn => absurd hn hc) (fun _ => z9)) ?_
    refine XG.l (fun z9 => x_aloadn dJ7_fill_d0a16_12 rfl z9) ?_
    refine XG.l (fun z9 => x_iloadn dJ7_fill_d0a16_13 rfl z9) ?_
    refine XG.l (fun z9 => x_lloadn dJ7_fill_d0a16_14 rfl z9) ?_
    obtain ⟨m4, hq5, h⟩ := b1_s h
    obtain ⟨j3, hq6, h⟩ := b1_s h
    obtain ⟨K7, hq8, h⟩ := b1_s h
    refine XG.sj hq8 ?_ (fun z9 => x_last (cA_s hq5).1 (cA_s hq5).2 (ix_s hq6).1 (ix_s hq6).2 dJ7_fill_d0a16_15 z9)
    refine XG.l (fun z9 => z_iinc 1 (by decide) dJ7_fill_d0a16_16 rfl rfl rfl z9) ?_
    refine XG.l (fun z9 => x_goto 6 dJ7_fill_d0a16_19 rfl z9) ?_
    exact (ih h)
noncomputable def f_J7_fill_d0a16 (I : Mem) (K : Kt) (x0 : Nat) (x1 : Int64) : Option (Mem × Kt) := b1 (cLen K x0) fun m1 => l_J7_fill_d0a16_6 FU I K x0 x1 0 (nI m1)
theorem c_J7_fill_d0a16 (d : Nat) {K : Kt} {I : Mem} {x0 : Nat} {x1 : Int64} {I9 : Mem} {K9 : Kt} (h : f_J7_fill_d0a16 I K x0 x1 = some (I9, K9)) : CtG (mJ7_fill_d0a16 d) cJ7_fill_d0a16 0 0 K9 [.ref x0, .long x1] I K (Ro (.inl none) I9 K9) := by
  refine CtG.of2 rfl pn_J7 (Nat.le_of_ble_eq_true rfl) (show XG (mJ7_fill_d0a16 d) cJ7_fill_d0a16 0 0 K9 I K 0 [.ref x0, .long x1, .retAddr 0, .retAddr 0, .retAddr 0] [] (Ro (.inl none) I9 K9) from ?_)
  unfold f_J7_fill_d0a16 at h
  refine XG.l (fun z9 => x_iconst 0 dJ7_fill_d0a16_0 rfl z9) ?_
  refine XG.l (fun z9 => x_istoren dJ7_fill_d0a16_1 (Nat.le_of_ble_eq_true rfl) rfl rfl z9) ?_
  refine XG.l (fun z9 => x_aloadn dJ7_fill_d0a16_2 rfl z9) ?_
  obtain ⟨m1, hq2, h⟩ := b1_s h
  refine XG.l (fun z9 => z_lenD hq2 dJ7_fill_d0a16_3 z9) ?_
  refine XG.l (fun z9 => x_istore dJ7_fill_d0a16_4 (Nat.le_of_ble_eq_true rfl) rfl rfl z9) ?_
  exact (tl_J7_fill_d0a16_6 d FU h)
