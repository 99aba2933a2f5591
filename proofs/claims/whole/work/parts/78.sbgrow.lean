/-! Arrays.copyOf, to a greater length -/
def Gn (K K2 : Kt) : Prop := Gw K K2 ∧ ∀ a j, a < kN K → kG K2 a j = kG K a j
noncomputable def ckN (K K2 : Kt) (_ : Nat) : Option Unit := @ite _ (Gn K K2) (Classical.propDecidable _) (some ()) none
theorem ckN_s {K K2 : Kt} {v : Nat} {u : Unit} (h : ckN K K2 v = some u) : Gn K K2 := by
  unfold ckN at h
  split at h
  · assumption
  · cases h
theorem ckN_n {K K2 : Kt} {v : Nat} (h : Gn K K2) : ckN K K2 v = some () := if_pos h
theorem Gn_new {K : Kt} {sh : Nat × Nat} : Gn K (kNew K sh) := ⟨⟨Nat.le_succ _, fun a ha => u1_n (Nat.ne_of_lt ha), fun a j ha _ => by show u1 K.2.2.1 K.1 (fun _ => none) a j = _; rw [u1_n (Nat.ne_of_lt ha)]⟩, fun a j ha => by show u1 K.2.2.1 K.1 (fun _ => none) a j = _; rw [u1_n (Nat.ne_of_lt ha)]⟩
theorem vOf_gn {K K2 : Kt} {b : Nat} (hb : b < kN K) (g : Gn K K2) : vOf K2 b = vOf K b := by
  unfold vOf
  rw [g.2 b 0 hb]
theorem LSb.gn {K K2 : Kt} {b : Nat} (h : LSb K b) (g : Gn K K2) : LSb K2 b := by
  have hv := vOf_gn h.1.2 g
  have hn : nOf K2 b = nOf K b := by
    unfold nOf
    rw [hv, g.1.2.1 _ h.2.2.2]
  unfold LSb
  rw [hv, hn]
  exact ⟨h.1.gw g.1, by rw [g.2 b 0 h.1.2]; exact h.2.1, h.2.2.gw g.1⟩
def okC (I : Mem) (K : Kt) (v n m : Nat) (x : Int32) : Prop := x = nI m ∧ n < m ∧ m ≤ 60000 ∧ kN K < xB ∧ ∀ i, i < n → fits .byte (.int (I v i)) = true
noncomputable def ckC (I : Mem) (K : Kt) (v n : Nat) (x : Int32) : Option Nat := @ite _ (okC I K v n x.toInt.toNat x) (Classical.propDecidable _) (some x.toInt.toNat) none
theorem ckC_s {I : Mem} {K : Kt} {v n m : Nat} {x : Int32} (h : ckC I K v n x = some m) : okC I K v n m x := by
  unfold ckC at h
  split at h
  · cases h; assumption
  · cases h
theorem ckC_n {I : Mem} {K : Kt} {v n m : Nat} (h : okC I K v n m (nI m)) : ckC I K v n (nI m) = some m := by
  have e : (nI m).toInt.toNat = m := by rw [nI_toInt (by have := h.2.2.1; omega)]; rfl
  unfold ckC
  rw [e]
  exact if_pos h
noncomputable def f_J7_copyOf_9075b (I : Mem) (K : Kt) (x0 n0 : Nat) (x1 : Int32) : Option (Nat × Mem × Kt) :=
  b1 (ckC I K x0 n0 x1) fun m => some (kN K, u1 (u1 I (kN K) (fun _ => 0)) (kN K) (va_cpy (u1 I (kN K) (fun _ => 0) x0) (u1 I (kN K) (fun _ => 0) (kN K)) 0 0 n0), kNew K (101, m))
theorem c_J7_copyOf_9075b (d : Nat) {K : Kt} {I : Mem} {x0 n0 : Nat} (H0 : LA K 101 n0 x0) {x1 : Int32} {v : Nat} {I9 : Mem} {K9 : Kt} (h : f_J7_copyOf_9075b I K x0 n0 x1 = some (v, I9, K9)) : CtG (mJ7_copyOf_9075b (d + 1)) cJ7_copyOf_9075b 0 0 K9 [.ref x0, .int x1] I K (Ro (.inl (some (.ref v))) I9 K9) := by
  obtain ⟨m, hm, h9⟩ := b1_s h
  obtain ⟨rfl, k1, k2, k3, k4⟩ := ckC_s hm
  cases h9
  have hz : gz (kNew K (101, m)) = gz K + m := gz_new
  refine ⟨⟨Nat.le_succ _, by rw [hz]; exact Nat.le_add_right _ _⟩, Ct.of rfl pn_J7 (catR (catI cat0)) (Nat.le_of_ble_eq_true rfl) (show X _ _ _ _ _ _ 0 [.ref x0, .int (nI m), .retAddr 0] [] _ from X.less (bc' := 1 + 0) (bs' := m + 0) ?_ (by show 1 + 0 ≤ 0 + (kN K + 1 - kN K); omega) (by rw [hz]; omega))⟩
  refine x_iloadn dJ7_copyOf_9075b_0 rfl ?_
  refine x_aloadn dJ7_copyOf_9075b_1 rfl ?_
  refine z_len H0 ⟨by decide, by decide⟩ dJ7_copyOf_9075b_2 ?_
  refine x_icmp_ne 14 dJ7_copyOf_9075b_3 rfl (fun hc => ?_) (fun hc => absurd hc ?_)
  · refine x_iloadn dJ7_copyOf_9075b_14 rfl ?_
    refine x_newB (show Cond.arrayClass .byte ∈ wsG from inT1 77 rfl rfl) rfl k2 k3 dJ7_copyOf_9075b_15 ?_
    have H1 : LA (kNew K (101, m)) 101 n0 x0 := H0.gw Gn_new.1
    have H2 : LA (kNew K (101, m)) 101 m (kN K) := ⟨u1_s, Nat.lt_succ_self _⟩
    have hI : u1 I (kN K) (fun _ => 0) x0 = I x0 := u1_n (by have := H0.2; omega)
    refine x_astoren dJ7_copyOf_9075b_17 (Nat.le_of_ble_eq_true rfl) rfl rfl ?_
    refine x_aloadn dJ7_copyOf_9075b_18 rfl ?_
    refine x_iconst 0 dJ7_copyOf_9075b_19 rfl ?_
    refine x_aloadn dJ7_copyOf_9075b_20 rfl ?_
    refine x_iconst 0 dJ7_copyOf_9075b_21 rfl ?_
    refine x_aloadn dJ7_copyOf_9075b_22 rfl ?_
    refine z_len H1 ⟨by decide, by decide⟩ dJ7_copyOf_9075b_23 ?_
    refine x_iloadn dJ7_copyOf_9075b_24 rfl ?_
    refine x_mmin ms_J7_304 (Nat.le_of_ble_eq_true rfl) (by show 1 ≤ d + 1; omega) dJ7_copyOf_9075b_25 ?_
    refine X.e2 (w := .int (nI n0)) (congrArg Value.int (if_neg (nI_nlt (by omega) (by omega)))) ?_
    refine x_copyB (show Cond.methodLink RJ7 150 arraycopyName ∈ wsG from inT6 214 rfl rfl) (show Cond.native arraycopyName ∈ wsG from inT6 216 rfl rfl) (show Cond.static arraycopyName ∈ wsG from inT6 215 rfl rfl) (show Cond.initialized "java/lang/System" ∈ wsG from inT1 29 rfl rfl) H1 H2 (Nat.le_refl _) (by omega) (by omega) (by rw [hI]; exact k4) (by show 1 ≤ d + 1; omega) (Nat.le_of_ble_eq_true rfl) dJ7_copyOf_9075b_28 ?_
    refine x_aloadn dJ7_copyOf_9075b_31 rfl ?_
    exact x_aret rfl (Or.inr ⟨_, rfl⟩) dJ7_copyOf_9075b_32 ⟨rfl, rfl, rfl⟩
  · intro z
    have z2 : m = n0 := by rw [nJ_i (by omega) (by omega)] at z; exact z
    omega
noncomputable def f_J5_ensureCapacityInternal_d00df (I : Mem) (K : Kt) (x0 : Nat) (x1 : Int32) : Option (Mem × Kt) := if (x1 - ((nI (nOf K x0)) >>> ((I x0 1) &&& 31))) ≤ 0 then (some (I, K)) else (b1 (f_J5_newCapacity_0f7a4 I K x0 x1) fun v1 => b3 (f_J7_copyOf_9075b I K (vOf K x0) (nOf K x0) (v1 <<< ((I x0 1) &&& 31))) fun v3 I4 K5 => b1 (ckN K K5 v3) fun _ => b1 (pK K5 x0 v3) fun K8 => b1 (ckG K5 K8 x0) fun _ => some (I4, K8))
theorem c_J5_ensureCapacityInternal_d00df (d : Nat) {K : Kt} {I : Mem} {x0 : Nat} (H0 : LSb K x0) {x1 : Int32} {I9 : Mem} {K9 : Kt} (h : f_J5_ensureCapacityInternal_d00df I K x0 x1 = some (I9, K9)) : CtG (mJ5_ensureCapacityInternal_d00df (d + 3)) cJ5_ensureCapacityInternal_d00df 0 0 K9 [.ref x0, .int x1] I K (Ro (.inl none) I9 K9) := by
  refine CtG.of rfl pn_J5 (catR (catI cat0)) (Nat.le_of_ble_eq_true rfl) (show XG _ _ _ _ _ _ _ 0 [.ref x0, .int x1, .retAddr 0] [] _ from ?_)
  unfold f_J5_ensureCapacityInternal_d00df at h
  refine XG.l (fun z9 => x_aloadn dJ5_ensureCapacityInternal_d00df_0 rfl z9) ?_
  refine XG.l (fun z9 => z_getR fs_J5_15 (LSb.o H0) (LSb.g H0) dJ5_ensureCapacityInternal_d00df_1 z9) ?_
  refine XG.l (fun z9 => z_len (LSb.l H0) ⟨by decide, by decide⟩ dJ5_ensureCapacityInternal_d00df_4 z9) ?_
  refine XG.l (fun z9 => x_aloadn dJ5_ensureCapacityInternal_d00df_5 rfl z9) ?_
  refine XG.l (fun z9 => z_getI fs_J5_22 (LSb.o H0) dJ5_ensureCapacityInternal_d00df_6 z9) ?_
  refine XG.l (fun z9 => x_ishr dJ5_ensureCapacityInternal_d00df_9 z9) ?_
  refine XG.l (fun z9 => x_istoren dJ5_ensureCapacityInternal_d00df_10 (Nat.le_of_ble_eq_true rfl) rfl rfl z9) ?_
  refine XG.l (fun z9 => x_iloadn dJ5_ensureCapacityInternal_d00df_11 rfl z9) ?_
  refine XG.l (fun z9 => x_iloadn dJ5_ensureCapacityInternal_d00df_12 rfl z9) ?_
  refine XG.l (fun z9 => x_isub dJ5_ensureCapacityInternal_d00df_13 z9) ?_
  rcases Classical.em ((x1 - ((nI (nOf K x0)) >>> ((I x0 1) &&& 31))) ≤ 0) with hc | hc
  · have h := ifT hc h
    refine XG.l (fun z9 => x_if_le 38 dJ5_ensureCapacityInternal_d00df_14 rfl (fun _ => z9) (fun hn => absurd hc hn)) ?_
    cases h
    exact XG.z (x_vret rfl dJ5_ensureCapacityInternal_d00df_38 ⟨rfl, rfl, rfl⟩)
  have h := ifF hc h
  refine XG.l (fun z9 => x_if_le 38 dJ5_ensureCapacityInternal_d00df_14 rfl (fun hn => absurd hn hc) (fun _ => z9)) ?_
  refine XG.l (fun z9 => x_aloadn dJ5_ensureCapacityInternal_d00df_17 rfl z9) ?_
  refine XG.l (fun z9 => x_aloadn dJ5_ensureCapacityInternal_d00df_18 rfl z9) ?_
  refine XG.l (fun z9 => z_getR fs_J5_15 (LSb.o H0) (LSb.g H0) dJ5_ensureCapacityInternal_d00df_19 z9) ?_
  refine XG.l (fun z9 => x_aloadn dJ5_ensureCapacityInternal_d00df_22 rfl z9) ?_
  refine XG.l (fun z9 => x_iloadn dJ5_ensureCapacityInternal_d00df_23 rfl z9) ?_
  obtain ⟨v1, h2, h⟩ := b1_s h
  refine XG.l (fun z9 => z_VC0 [.int x1] [.ref (vOf K x0), .ref x0] (cs_J5_104 _) (ci := 0) rfl (LSb.o H0) (dep (show d + 0 + 2 + 1 ≤ (d + 3) from by omega) (Nat.le_of_ble_eq_true rfl)) dJ5_ensureCapacityInternal_d00df_24 rfl rfl (Nat.le_of_ble_eq_true rfl) (c_J5_newCapacity_0f7a4 d (K := K) (I := I) H0 h2) z9) ?_
  refine XG.l (fun z9 => x_aloadn dJ5_ensureCapacityInternal_d00df_27 rfl z9) ?_
  refine XG.l (fun z9 => z_getI fs_J5_22 (LSb.o H0) dJ5_ensureCapacityInternal_d00df_28 z9) ?_
  refine XG.l (fun z9 => x_ishl dJ5_ensureCapacityInternal_d00df_31 z9) ?_
  obtain ⟨v3, I4, K5, h6, h⟩ := b3_s h
  refine XG.S1 [.ref (vOf K x0), .int (v1 <<< ((I x0 1) &&& 31))] [.ref x0] (cs_J5_108 _) (dep (show d + 1 + 1 + 1 ≤ (d + 3) from by omega) (Nat.le_of_ble_eq_true rfl)) dJ5_ensureCapacityInternal_d00df_32 rfl rfl (Nat.le_of_ble_eq_true rfl) (c_J7_copyOf_9075b (d + 1) (K := K) (I := I) (LSb.l H0) h6) ?_
  obtain ⟨u7, hu7, h⟩ := b1_s h
  obtain ⟨K8, hK8, h⟩ := b1_s h
  obtain ⟨u9, hu9, h⟩ := b1_s h
  refine XG.putV fs_J5_15 (LSb.o (LSb.gn H0 (ckN_s hu7))) hK8 dJ5_ensureCapacityInternal_d00df_35 ?_
  cases h
  exact XG.z (x_vret rfl dJ5_ensureCapacityInternal_d00df_38 ⟨rfl, rfl, rfl⟩)
noncomputable def l_J5_append_3fe6f_56 (I : Mem) (K : Kt) (x0 : Nat) (x1 : Int32) : Option (Nat × Mem × Kt) := b1 (pu I x0 3 ((I x0 3) + 1)) fun I9 => none
theorem tl_J5_append_3fe6f_56 (d : Nat) : ∀ {I : Mem} {K : Kt} {x0 : Nat} (H0 : LSb K x0) {x1 : Int32} {v : Nat} {I9 : Mem} {K9 : Kt}, l_J5_append_3fe6f_56 I K x0 x1 = some (v, I9, K9) → XG (mJ5_append_3fe6f (d + 4)) cJ5_append_3fe6f 0 0 K9 I K 56 [.ref x0, .int x1] [] (Ro (.inl (some (.ref v))) I9 K9) := by
  intro I K x0 H0 x1 v I9 K9 h
  unfold l_J5_append_3fe6f_56 at h
  refine XG.l (fun z9 => x_aloadn dJ5_append_3fe6f_56 rfl z9) ?_
  refine XG.l (fun z9 => z_getR fs_J5_15 (LSb.o H0) (LSb.g H0) dJ5_append_3fe6f_57 z9) ?_
  refine XG.l (fun z9 => x_aloadn dJ5_append_3fe6f_60 rfl z9) ?_
  refine XG.l (fun z9 => x_dup dJ5_append_3fe6f_61 rfl z9) ?_
  refine XG.l (fun z9 => z_getI fs_J5_79 (LSb.o H0) dJ5_append_3fe6f_62 z9) ?_
  refine XG.l (fun z9 => x_dup_x1 dJ5_append_3fe6f_65 rfl rfl z9) ?_
  refine XG.l (fun z9 => x_iconst 1 dJ5_append_3fe6f_66 rfl z9) ?_
  refine XG.l (fun z9 => x_iadd dJ5_append_3fe6f_67 z9) ?_
  obtain ⟨I9, hI9, h⟩ := b1_s h
  refine XG.l (fun z9 => z_putI fs_J5_79 (LSb.o H0) hI9 dJ5_append_3fe6f_68 z9) ?_
  refine XG.l (fun z9 => x_iloadn dJ5_append_3fe6f_71 rfl z9) ?_
  cases h
noncomputable def l_J5_append_3fe6f_45 (I : Mem) (K : Kt) (x0 : Nat) (x1 : Int32) : Option (Nat × Mem × Kt) := b1 (f_J5_isLatin1_aae02 I K x0) fun v7 => if v7 = 0 then (l_J5_append_3fe6f_56 I K x0 x1) else (none)
theorem tl_J5_append_3fe6f_45 (d : Nat) : ∀ {I : Mem} {K : Kt} {x0 : Nat} (H0 : LSb K x0) {x1 : Int32} {v : Nat} {I9 : Mem} {K9 : Kt}, l_J5_append_3fe6f_45 I K x0 x1 = some (v, I9, K9) → XG (mJ5_append_3fe6f (d + 4)) cJ5_append_3fe6f 0 0 K9 I K 45 [.ref x0, .int x1] [] (Ro (.inl (some (.ref v))) I9 K9) := by
  intro I K x0 H0 x1 v I9 K9 h
  unfold l_J5_append_3fe6f_45 at h
  refine XG.l (fun z9 => x_aloadn dJ5_append_3fe6f_45 rfl z9) ?_
  obtain ⟨v7, h8, h⟩ := b1_s h
  refine XG.l (fun z9 => z_VC0 [] [] (cs_J5_83 _) (ci := 0) rfl (LSb.o H0) (dep (show d + 3 + 0 + 1 ≤ (d + 4) from by omega) (Nat.le_of_ble_eq_true rfl)) dJ5_append_3fe6f_46 rfl rfl (Nat.le_of_ble_eq_true rfl) (c_J5_isLatin1_aae02 (d + 3) (K := K) (I := I) H0 h8) z9) ?_
  rcases Classical.em (v7 = 0) with hc | hc
  · have h := ifT hc h
    refine XG.l (fun z9 => x_if_eq 56 dJ5_append_3fe6f_49 rfl (fun _ => z9) (fun hn => absurd hc hn)) ?_
    exact tl_J5_append_3fe6f_56 d H0 h
  have h := ifF hc h
  refine XG.l (fun z9 => x_if_eq 56 dJ5_append_3fe6f_49 rfl (fun hn => absurd hn hc) (fun _ => z9)) ?_
  refine XG.l (fun z9 => x_aloadn dJ5_append_3fe6f_52 rfl z9) ?_
  cases h
noncomputable def f_J5_append_3fe6f (I : Mem) (K : Kt) (x0 : Nat) (x1 : Int32) : Option (Nat × Mem × Kt) := b2 (f_J5_ensureCapacityInternal_d00df I K x0 ((I x0 3) + 1)) fun I1 K2 => b1 (ckG K K2 x0) fun _ => b1 (f_J5_isLatin1_aae02 I1 K2 x0) fun v5 => if v5 = 0 then (l_J5_append_3fe6f_45 I1 K2 x0 x1) else (b1 (f_J1_canEncode_fc78d x1) fun v10 => if v10 = 0 then (l_J5_append_3fe6f_45 I1 K2 x0 x1) else (b1 (pu I1 x0 3 ((I1 x0 3) + 1)) fun I12 => b1 (ix (I1 x0 3) (nOf K2 x0)) fun j13 => b1 (pu I12 (vOf K2 x0) j13 (vp_nar .byte (x1).toInt8.toInt32)) fun I14 => some (x0, I14, K2)))
theorem c_J5_append_3fe6f (d : Nat) {K : Kt} {I : Mem} {x0 : Nat} (H0 : LSb K x0) {x1 : Int32} {v : Nat} {I9 : Mem} {K9 : Kt} (h : f_J5_append_3fe6f I K x0 x1 = some (v, I9, K9)) : CtG (mJ5_append_3fe6f (d + 4)) cJ5_append_3fe6f 0 0 K9 [.ref x0, .int x1] I K (Ro (.inl (some (.ref v))) I9 K9) := by
  refine CtG.of rfl pn_J5 (catR (catI cat0)) (Nat.le_of_ble_eq_true rfl) (show XG _ _ _ _ _ _ _ 0 [.ref x0, .int x1] [] _ from ?_)
  unfold f_J5_append_3fe6f at h
  refine XG.l (fun z9 => x_aloadn dJ5_append_3fe6f_0 rfl z9) ?_
  refine XG.l (fun z9 => x_aloadn dJ5_append_3fe6f_1 rfl z9) ?_
  refine XG.l (fun z9 => z_getI fs_J5_79 (LSb.o H0) dJ5_append_3fe6f_2 z9) ?_
  refine XG.l (fun z9 => x_iconst 1 dJ5_append_3fe6f_5 rfl z9) ?_
  refine XG.l (fun z9 => x_iadd dJ5_append_3fe6f_6 z9) ?_
  obtain ⟨I1, K2, h3, h⟩ := b2_s h
  refine XG.VC [.int ((I x0 3) + 1)] [] (cs_J5_100 _) (ci := 0) rfl (LSb.o H0) (dep (show d + 0 + 3 + 1 ≤ (d + 4) from by omega) (Nat.le_of_ble_eq_true rfl)) dJ5_append_3fe6f_7 rfl rfl (Nat.le_of_ble_eq_true rfl) (c_J5_ensureCapacityInternal_d00df d (K := K) (I := I) H0 h3) ?_
  obtain ⟨u4, hu4, h⟩ := b1_s h
  refine XG.l (fun z9 => x_aloadn dJ5_append_3fe6f_10 rfl z9) ?_
  obtain ⟨v5, h6, h⟩ := b1_s h
  refine XG.l (fun z9 => z_VC0 [] [] (cs_J5_83 _) (ci := 0) rfl (LSb.o ((ckG_s hu4).2)) (dep (show d + 3 + 0 + 1 ≤ (d + 4) from by omega) (Nat.le_of_ble_eq_true rfl)) dJ5_append_3fe6f_11 rfl rfl (Nat.le_of_ble_eq_true rfl) (c_J5_isLatin1_aae02 (d + 3) (K := K2) (I := I1) ((ckG_s hu4).2) h6) z9) ?_
  rcases Classical.em (v5 = 0) with hc | hc
  · have h := ifT hc h
    refine XG.l (fun z9 => x_if_eq 45 dJ5_append_3fe6f_14 rfl (fun _ => z9) (fun hn => absurd hc hn)) ?_
    exact tl_J5_append_3fe6f_45 d ((ckG_s hu4).2) h
  have h := ifF hc h
  refine XG.l (fun z9 => x_if_eq 45 dJ5_append_3fe6f_14 rfl (fun hn => absurd hn hc) (fun _ => z9)) ?_
  refine XG.l (fun z9 => x_iloadn dJ5_append_3fe6f_17 rfl z9) ?_
  obtain ⟨v10, h11, h⟩ := b1_s h
  refine XG.l (fun z9 => z_S1 [.int x1] [] (cs_J5_191 _) (dep (show d + 3 + 0 + 1 ≤ (d + 4) from by omega) (Nat.le_of_ble_eq_true rfl)) dJ5_append_3fe6f_18 rfl rfl (Nat.le_of_ble_eq_true rfl) (c_J1_canEncode_fc78d (d + 3) (K := K2) (I := I1) h11) z9) ?_
  rcases Classical.em (v10 = 0) with hc | hc
  · have h := ifT hc h
    refine XG.l (fun z9 => x_if_eq 45 dJ5_append_3fe6f_21 rfl (fun _ => z9) (fun hn => absurd hc hn)) ?_
    exact tl_J5_append_3fe6f_45 d ((ckG_s hu4).2) h
  have h := ifF hc h
  refine XG.l (fun z9 => x_if_eq 45 dJ5_append_3fe6f_21 rfl (fun hn => absurd hn hc) (fun _ => z9)) ?_
  refine XG.l (fun z9 => x_aloadn dJ5_append_3fe6f_24 rfl z9) ?_
  refine XG.l (fun z9 => z_getR fs_J5_15 (LSb.o ((ckG_s hu4).2)) (LSb.g ((ckG_s hu4).2)) dJ5_append_3fe6f_25 z9) ?_
  refine XG.l (fun z9 => x_aloadn dJ5_append_3fe6f_28 rfl z9) ?_
  refine XG.l (fun z9 => x_dup dJ5_append_3fe6f_29 rfl z9) ?_
  refine XG.l (fun z9 => z_getI fs_J5_79 (LSb.o ((ckG_s hu4).2)) dJ5_append_3fe6f_30 z9) ?_
  refine XG.l (fun z9 => x_dup_x1 dJ5_append_3fe6f_33 rfl rfl z9) ?_
  refine XG.l (fun z9 => x_iconst 1 dJ5_append_3fe6f_34 rfl z9) ?_
  refine XG.l (fun z9 => x_iadd dJ5_append_3fe6f_35 z9) ?_
  obtain ⟨I12, hI12, h⟩ := b1_s h
  refine XG.l (fun z9 => z_putI fs_J5_79 (LSb.o ((ckG_s hu4).2)) hI12 dJ5_append_3fe6f_36 z9) ?_
  refine XG.l (fun z9 => x_iloadn dJ5_append_3fe6f_39 rfl z9) ?_
  refine XG.l (fun z9 => x_i2b dJ5_append_3fe6f_40 z9) ?_
  obtain ⟨j13, hj13, h⟩ := b1_s h
  obtain ⟨I14, hI14, h⟩ := b1_s h
  refine XG.l (fun z9 => z_bast (LSb.l ((ckG_s hu4).2)) hj13 hI14 dJ5_append_3fe6f_41 z9) ?_
  refine XG.l (fun z9 => x_goto 75 dJ5_append_3fe6f_42 rfl z9) ?_
  refine XG.l (fun z9 => x_aloadn dJ5_append_3fe6f_75 rfl z9) ?_
  cases h
  exact XG.z (x_aret rfl (Or.inl ⟨_, rfl⟩) dJ5_append_3fe6f_76 ⟨rfl, rfl, rfl⟩)
noncomputable def f_J5_append_c97b9 (I : Mem) (K : Kt) (x0 : Nat) (x1 : Int32) : Option (Nat × Mem × Kt) := b1 (f_J6_stringSize_0f7a4 x1) fun v1 => b2 (f_J5_ensureCapacityInternal_d00df I K x0 ((I x0 3) + v1)) fun I3 K4 => b1 (ckG K K4 x0) fun _ => b1 (f_J5_isLatin1_aae02 I3 K4 x0) fun v7 => if v7 = 0 then (none) else (b2 (f_J6_getChars_ba4f3 I3 x1 ((I x0 3) + v1) (vOf K4 x0) (nOf K4 x0)) fun v9 I10 => b1 (pu I10 x0 3 ((I x0 3) + v1)) fun I12 => some (x0, I12, K4))
theorem c_J5_append_c97b9 (d : Nat) {K : Kt} {I : Mem} {x0 : Nat} (H0 : LSb K x0) {x1 : Int32} {v : Nat} {I9 : Mem} {K9 : Kt} (h : f_J5_append_c97b9 I K x0 x1 = some (v, I9, K9)) : CtG (mJ5_append_c97b9 (d + 4)) cJ5_append_c97b9 0 0 K9 [.ref x0, .int x1] I K (Ro (.inl (some (.ref v))) I9 K9) := by
  refine CtG.of rfl pn_J5 (catR (catI cat0)) (Nat.le_of_ble_eq_true rfl) (show XG _ _ _ _ _ _ _ 0 [.ref x0, .int x1, .retAddr 0, .retAddr 0] [] _ from ?_)
  unfold f_J5_append_c97b9 at h
  refine XG.l (fun z9 => x_aloadn dJ5_append_c97b9_0 rfl z9) ?_
  refine XG.l (fun z9 => z_getI fs_J5_79 (LSb.o H0) dJ5_append_c97b9_1 z9) ?_
  refine XG.l (fun z9 => x_istoren dJ5_append_c97b9_4 (Nat.le_of_ble_eq_true rfl) rfl rfl z9) ?_
  refine XG.l (fun z9 => x_iloadn dJ5_append_c97b9_5 rfl z9) ?_
  refine XG.l (fun z9 => x_iloadn dJ5_append_c97b9_6 rfl z9) ?_
  obtain ⟨v1, h2, h⟩ := b1_s h
  refine XG.l (fun z9 => z_S1 [.int x1] [.int (I x0 3)] (cs_J5_245 _) (dep (show d + 3 + 0 + 1 ≤ (d + 4) from by omega) (Nat.le_of_ble_eq_true rfl)) dJ5_append_c97b9_7 rfl rfl (Nat.le_of_ble_eq_true rfl) (c_J6_stringSize_0f7a4 (d + 3) (K := K) (I := I) h2) z9) ?_
  refine XG.l (fun z9 => x_iadd dJ5_append_c97b9_10 z9) ?_
  refine XG.l (fun z9 => x_istoren dJ5_append_c97b9_11 (Nat.le_of_ble_eq_true rfl) rfl rfl z9) ?_
  refine XG.l (fun z9 => x_aloadn dJ5_append_c97b9_12 rfl z9) ?_
  refine XG.l (fun z9 => x_iloadn dJ5_append_c97b9_13 rfl z9) ?_
  obtain ⟨I3, K4, h5, h⟩ := b2_s h
  refine XG.VC [.int ((I x0 3) + v1)] [] (cs_J5_100 _) (ci := 0) rfl (LSb.o H0) (dep (show d + 0 + 3 + 1 ≤ (d + 4) from by omega) (Nat.le_of_ble_eq_true rfl)) dJ5_append_c97b9_14 rfl rfl (Nat.le_of_ble_eq_true rfl) (c_J5_ensureCapacityInternal_d00df d (K := K) (I := I) H0 h5) ?_
  obtain ⟨u6, hu6, h⟩ := b1_s h
  refine XG.l (fun z9 => x_aloadn dJ5_append_c97b9_17 rfl z9) ?_
  obtain ⟨v7, h8, h⟩ := b1_s h
  refine XG.l (fun z9 => z_VC0 [] [] (cs_J5_83 _) (ci := 0) rfl (LSb.o ((ckG_s hu6).2)) (dep (show d + 3 + 0 + 1 ≤ (d + 4) from by omega) (Nat.le_of_ble_eq_true rfl)) dJ5_append_c97b9_18 rfl rfl (Nat.le_of_ble_eq_true rfl) (c_J5_isLatin1_aae02 (d + 3) (K := K4) (I := I3) ((ckG_s hu6).2) h8) z9) ?_
  rcases Classical.em (v7 = 0) with hc | hc
  · have h := ifT hc h
    refine XG.l (fun z9 => x_if_eq 37 dJ5_append_c97b9_21 rfl (fun _ => z9) (fun hn => absurd hc hn)) ?_
    refine XG.l (fun z9 => x_iloadn dJ5_append_c97b9_37 rfl z9) ?_
    refine XG.l (fun z9 => x_iloadn dJ5_append_c97b9_38 rfl z9) ?_
    refine XG.l (fun z9 => x_iloadn dJ5_append_c97b9_39 rfl z9) ?_
    refine XG.l (fun z9 => x_aloadn dJ5_append_c97b9_40 rfl z9) ?_
    refine XG.l (fun z9 => z_getR fs_J5_15 (LSb.o ((ckG_s hu6).2)) (LSb.g ((ckG_s hu6).2)) dJ5_append_c97b9_41 z9) ?_
    cases h
  have h := ifF hc h
  refine XG.l (fun z9 => x_if_eq 37 dJ5_append_c97b9_21 rfl (fun hn => absurd hn hc) (fun _ => z9)) ?_
  refine XG.l (fun z9 => x_iloadn dJ5_append_c97b9_24 rfl z9) ?_
  refine XG.l (fun z9 => x_iloadn dJ5_append_c97b9_25 rfl z9) ?_
  refine XG.l (fun z9 => x_aloadn dJ5_append_c97b9_26 rfl z9) ?_
  refine XG.l (fun z9 => z_getR fs_J5_15 (LSb.o ((ckG_s hu6).2)) (LSb.g ((ckG_s hu6).2)) dJ5_append_c97b9_27 z9) ?_
  obtain ⟨v9, I10, h11, h⟩ := b2_s h
  refine XG.l (fun z9 => z_S1 [.int x1, .int ((I x0 3) + v1), .ref (vOf K4 x0)] [] (cs_J5_248 _) (dep (show d + 3 + 0 + 1 ≤ (d + 4) from by omega) (Nat.le_of_ble_eq_true rfl)) dJ5_append_c97b9_30 rfl rfl (Nat.le_of_ble_eq_true rfl) (c_J6_getChars_ba4f3 (d + 3) (K := K4) (I := I3) (LSb.l ((ckG_s hu6).2)) h11) z9) ?_
  refine XG.l (fun z9 => x_pop dJ5_append_c97b9_33 rfl z9) ?_
  refine XG.l (fun z9 => x_goto 48 dJ5_append_c97b9_34 rfl z9) ?_
  refine XG.l (fun z9 => x_aloadn dJ5_append_c97b9_48 rfl z9) ?_
  refine XG.l (fun z9 => x_iloadn dJ5_append_c97b9_49 rfl z9) ?_
  obtain ⟨I12, hI12, h⟩ := b1_s h
  refine XG.l (fun z9 => z_putI fs_J5_79 (LSb.o ((ckG_s hu6).2)) hI12 dJ5_append_c97b9_50 z9) ?_
  refine XG.l (fun z9 => x_aloadn dJ5_append_c97b9_53 rfl z9) ?_
  cases h
  exact XG.z (x_aret rfl (Or.inl ⟨_, rfl⟩) dJ5_append_c97b9_54 ⟨rfl, rfl, rfl⟩)
noncomputable def f_J5_setLength_d00df (I : Mem) (K : Kt) (x0 : Nat) (x1 : Int32) : Option (Mem × Kt) := if 0 ≤ x1 then (b2 (f_J5_ensureCapacityInternal_d00df I K x0 x1) fun I1 K2 => b1 (ckG K K2 x0) fun _ => if x1 ≤ (I1 x0 3) then (if (I1 x0 3) ≤ x1 then (b1 (pu I1 x0 3 x1) fun I5 => some (I5, K2)) else (b1 (pu I1 x0 2 1) fun I6 => b1 (pu I6 x0 3 x1) fun I7 => some (I7, K2))) else (b1 (f_J5_isLatin1_aae02 I1 K2 x0) fun v8 => if v8 = 0 then (none) else (none))) else (none)
theorem c_J5_setLength_d00df (d : Nat) {K : Kt} {I : Mem} {x0 : Nat} (H0 : LSb K x0) {x1 : Int32} {I9 : Mem} {K9 : Kt} (h : f_J5_setLength_d00df I K x0 x1 = some (I9, K9)) : CtG (mJ5_setLength_d00df (d + 4)) cJ5_setLength_d00df 0 0 K9 [.ref x0, .int x1] I K (Ro (.inl none) I9 K9) := by
  refine CtG.of rfl pn_J5 (catR (catI cat0)) (Nat.le_of_ble_eq_true rfl) (show XG _ _ _ _ _ _ _ 0 [.ref x0, .int x1] [] _ from ?_)
  unfold f_J5_setLength_d00df at h
  refine XG.l (fun z9 => x_iloadn dJ5_setLength_d00df_0 rfl z9) ?_
  rcases Classical.em (0 ≤ x1) with hc | hc
  · have h := ifT hc h
    refine XG.l (fun z9 => x_if_ge 13 dJ5_setLength_d00df_1 rfl (fun _ => z9) (fun hn => absurd hc hn)) ?_
    refine XG.l (fun z9 => x_aloadn dJ5_setLength_d00df_13 rfl z9) ?_
    refine XG.l (fun z9 => x_iloadn dJ5_setLength_d00df_14 rfl z9) ?_
    obtain ⟨I1, K2, h3, h⟩ := b2_s h
    refine XG.VC [.int x1] [] (cs_J5_100 _) (ci := 0) rfl (LSb.o H0) (dep (show d + 0 + 3 + 1 ≤ (d + 4) from by omega) (Nat.le_of_ble_eq_true rfl)) dJ5_setLength_d00df_15 rfl rfl (Nat.le_of_ble_eq_true rfl) (c_J5_ensureCapacityInternal_d00df d (K := K) (I := I) H0 h3) ?_
    obtain ⟨u4, hu4, h⟩ := b1_s h
    refine XG.l (fun z9 => x_aloadn dJ5_setLength_d00df_18 rfl z9) ?_
    refine XG.l (fun z9 => z_getI fs_J5_79 (LSb.o ((ckG_s hu4).2)) dJ5_setLength_d00df_19 z9) ?_
    refine XG.l (fun z9 => x_iloadn dJ5_setLength_d00df_22 rfl z9) ?_
    rcases Classical.em (x1 ≤ (I1 x0 3)) with hc | hc
    · have h := ifT hc h
      refine XG.l (fun z9 => x_icmp_ge 63 dJ5_setLength_d00df_23 rfl (fun _ => z9) (fun hn => absurd hc hn)) ?_
      refine XG.l (fun z9 => x_aloadn dJ5_setLength_d00df_63 rfl z9) ?_
      refine XG.l (fun z9 => z_getI fs_J5_79 (LSb.o ((ckG_s hu4).2)) dJ5_setLength_d00df_64 z9) ?_
      refine XG.l (fun z9 => x_iloadn dJ5_setLength_d00df_67 rfl z9) ?_
      rcases Classical.em ((I1 x0 3) ≤ x1) with hc | hc
      · have h := ifT hc h
        refine XG.l (fun z9 => x_icmp_le 76 dJ5_setLength_d00df_68 rfl (fun _ => z9) (fun hn => absurd hc hn)) ?_
        refine XG.l (fun z9 => x_aloadn dJ5_setLength_d00df_76 rfl z9) ?_
        refine XG.l (fun z9 => x_iloadn dJ5_setLength_d00df_77 rfl z9) ?_
        obtain ⟨I5, hI5, h⟩ := b1_s h
        refine XG.l (fun z9 => z_putI fs_J5_79 (LSb.o ((ckG_s hu4).2)) hI5 dJ5_setLength_d00df_78 z9) ?_
        cases h
        exact XG.z (x_vret rfl dJ5_setLength_d00df_81 ⟨rfl, rfl, rfl⟩)
      have h := ifF hc h
      refine XG.l (fun z9 => x_icmp_le 76 dJ5_setLength_d00df_68 rfl (fun hn => absurd hn hc) (fun _ => z9)) ?_
      refine XG.l (fun z9 => x_aloadn dJ5_setLength_d00df_71 rfl z9) ?_
      refine XG.l (fun z9 => x_iconst 1 dJ5_setLength_d00df_72 rfl z9) ?_
      obtain ⟨I6, hI6, h⟩ := b1_s h
      refine XG.l (fun z9 => z_putZ (u := ()) fs_J5_73 (LSb.o ((ckG_s hu4).2)) rfl hI6 dJ5_setLength_d00df_73 z9) ?_
      refine XG.l (fun z9 => x_aloadn dJ5_setLength_d00df_76 rfl z9) ?_
      refine XG.l (fun z9 => x_iloadn dJ5_setLength_d00df_77 rfl z9) ?_
      obtain ⟨I7, hI7, h⟩ := b1_s h
      refine XG.l (fun z9 => z_putI fs_J5_79 (LSb.o ((ckG_s hu4).2)) hI7 dJ5_setLength_d00df_78 z9) ?_
      cases h
      exact XG.z (x_vret rfl dJ5_setLength_d00df_81 ⟨rfl, rfl, rfl⟩)
    have h := ifF hc h
    refine XG.l (fun z9 => x_icmp_ge 63 dJ5_setLength_d00df_23 rfl (fun hn => absurd hn hc) (fun _ => z9)) ?_
    refine XG.l (fun z9 => x_aloadn dJ5_setLength_d00df_26 rfl z9) ?_
    obtain ⟨v8, h9, h⟩ := b1_s h
    refine XG.l (fun z9 => z_VC0 [] [] (cs_J5_83 _) (ci := 0) rfl (LSb.o ((ckG_s hu4).2)) (dep (show d + 3 + 0 + 1 ≤ (d + 4) from by omega) (Nat.le_of_ble_eq_true rfl)) dJ5_setLength_d00df_27 rfl rfl (Nat.le_of_ble_eq_true rfl) (c_J5_isLatin1_aae02 (d + 3) (K := K2) (I := I1) ((ckG_s hu4).2) h9) z9) ?_
    rcases Classical.em (v8 = 0) with hc | hc
    · have h := ifT hc h
      refine XG.l (fun z9 => x_if_eq 48 dJ5_setLength_d00df_30 rfl (fun _ => z9) (fun hn => absurd hc hn)) ?_
      refine XG.l (fun z9 => x_aloadn dJ5_setLength_d00df_48 rfl z9) ?_
      refine XG.l (fun z9 => z_getR fs_J5_15 (LSb.o ((ckG_s hu4).2)) (LSb.g ((ckG_s hu4).2)) dJ5_setLength_d00df_49 z9) ?_
      refine XG.l (fun z9 => x_aloadn dJ5_setLength_d00df_52 rfl z9) ?_
      refine XG.l (fun z9 => z_getI fs_J5_79 (LSb.o ((ckG_s hu4).2)) dJ5_setLength_d00df_53 z9) ?_
      refine XG.l (fun z9 => x_iloadn dJ5_setLength_d00df_56 rfl z9) ?_
      cases h
    have h := ifF hc h
    refine XG.l (fun z9 => x_if_eq 48 dJ5_setLength_d00df_30 rfl (fun hn => absurd hn hc) (fun _ => z9)) ?_
    refine XG.l (fun z9 => x_aloadn dJ5_setLength_d00df_33 rfl z9) ?_
    refine XG.l (fun z9 => z_getR fs_J5_15 (LSb.o ((ckG_s hu4).2)) (LSb.g ((ckG_s hu4).2)) dJ5_setLength_d00df_34 z9) ?_
    refine XG.l (fun z9 => x_aloadn dJ5_setLength_d00df_37 rfl z9) ?_
    refine XG.l (fun z9 => z_getI fs_J5_79 (LSb.o ((ckG_s hu4).2)) dJ5_setLength_d00df_38 z9) ?_
    refine XG.l (fun z9 => x_iloadn dJ5_setLength_d00df_41 rfl z9) ?_
    cases h
  have h := ifF hc h
  refine XG.l (fun z9 => x_if_ge 13 dJ5_setLength_d00df_1 rfl (fun hn => absurd hn hc) (fun _ => z9)) ?_
  cases h
noncomputable def f_J4_append_cf468 (I : Mem) (K : Kt) (x0 : Nat) (x1 : Int32) : Option (Nat × Mem × Kt) := b3 (f_J5_append_3fe6f I K x0 x1) fun v1 I2 K3 => b1 (ckG K K3 x0) fun _ => some (x0, I2, K3)
theorem c_J4_append_cf468 (d : Nat) {K : Kt} {I : Mem} {x0 : Nat} (H0 : LSb K x0) {x1 : Int32} {v : Nat} {I9 : Mem} {K9 : Kt} (h : f_J4_append_cf468 I K x0 x1 = some (v, I9, K9)) : CtG (mJ4_append_cf468 (d + 5)) cJ4_append_cf468 0 0 K9 [.ref x0, .int x1] I K (Ro (.inl (some (.ref v))) I9 K9) := by
  refine CtG.of rfl pn_J4 (catR (catI cat0)) (Nat.le_of_ble_eq_true rfl) (show XG _ _ _ _ _ _ _ 0 [.ref x0, .int x1] [] _ from ?_)
  unfold f_J4_append_cf468 at h
  refine XG.l (fun z9 => x_aloadn dJ4_append_cf468_0 rfl z9) ?_
  refine XG.l (fun z9 => x_iloadn dJ4_append_cf468_1 rfl z9) ?_
  obtain ⟨v1, I2, K3, h4, h⟩ := b3_s h
  refine XG.SU [.int x1] [] (cs_J4_50 _) (ci := 0) rfl (LSb.o H0) (dep (show d + 0 + 4 + 1 ≤ (d + 5) from by omega) (Nat.le_of_ble_eq_true rfl)) dJ4_append_cf468_2 rfl rfl (Nat.le_of_ble_eq_true rfl) (c_J5_append_3fe6f d (K := K) (I := I) H0 h4) ?_
  obtain ⟨u5, hu5, h⟩ := b1_s h
  refine XG.l (fun z9 => x_pop dJ4_append_cf468_5 rfl z9) ?_
  refine XG.l (fun z9 => x_aloadn dJ4_append_cf468_6 rfl z9) ?_
  cases h
  exact XG.z (x_aret rfl (Or.inl ⟨_, rfl⟩) dJ4_append_cf468_7 ⟨rfl, rfl, rfl⟩)
noncomputable def f_J4_append_bf812 (I : Mem) (K : Kt) (x0 : Nat) (x1 : Int32) : Option (Nat × Mem × Kt) := b3 (f_J5_append_c97b9 I K x0 x1) fun v1 I2 K3 => b1 (ckG K K3 x0) fun _ => some (x0, I2, K3)
theorem c_J4_append_bf812 (d : Nat) {K : Kt} {I : Mem} {x0 : Nat} (H0 : LSb K x0) {x1 : Int32} {v : Nat} {I9 : Mem} {K9 : Kt} (h : f_J4_append_bf812 I K x0 x1 = some (v, I9, K9)) : CtG (mJ4_append_bf812 (d + 5)) cJ4_append_bf812 0 0 K9 [.ref x0, .int x1] I K (Ro (.inl (some (.ref v))) I9 K9) := by
  refine CtG.of rfl pn_J4 (catR (catI cat0)) (Nat.le_of_ble_eq_true rfl) (show XG _ _ _ _ _ _ _ 0 [.ref x0, .int x1] [] _ from ?_)
  unfold f_J4_append_bf812 at h
  refine XG.l (fun z9 => x_aloadn dJ4_append_bf812_0 rfl z9) ?_
  refine XG.l (fun z9 => x_iloadn dJ4_append_bf812_1 rfl z9) ?_
  obtain ⟨v1, I2, K3, h4, h⟩ := b3_s h
  refine XG.SU [.int x1] [] (cs_J4_53 _) (ci := 0) rfl (LSb.o H0) (dep (show d + 0 + 4 + 1 ≤ (d + 5) from by omega) (Nat.le_of_ble_eq_true rfl)) dJ4_append_bf812_2 rfl rfl (Nat.le_of_ble_eq_true rfl) (c_J5_append_c97b9 d (K := K) (I := I) H0 h4) ?_
  obtain ⟨u5, hu5, h⟩ := b1_s h
  refine XG.l (fun z9 => x_pop dJ4_append_bf812_5 rfl z9) ?_
  refine XG.l (fun z9 => x_aloadn dJ4_append_bf812_6 rfl z9) ?_
  cases h
  exact XG.z (x_aret rfl (Or.inl ⟨_, rfl⟩) dJ4_append_bf812_7 ⟨rfl, rfl, rfl⟩)
noncomputable def f_J4_setLength_d00df (I : Mem) (K : Kt) (x0 : Nat) (x1 : Int32) : Option (Mem × Kt) := b2 (f_J5_setLength_d00df I K x0 x1) fun I1 K2 => b1 (ckG K K2 x0) fun _ => some (I1, K2)
theorem c_J4_setLength_d00df (d : Nat) {K : Kt} {I : Mem} {x0 : Nat} (H0 : LSb K x0) {x1 : Int32} {I9 : Mem} {K9 : Kt} (h : f_J4_setLength_d00df I K x0 x1 = some (I9, K9)) : CtG (mJ4_setLength_d00df (d + 5)) cJ4_setLength_d00df 0 0 K9 [.ref x0, .int x1] I K (Ro (.inl none) I9 K9) := by
  refine CtG.of rfl pn_J4 (catR (catI cat0)) (Nat.le_of_ble_eq_true rfl) (show XG _ _ _ _ _ _ _ 0 [.ref x0, .int x1] [] _ from ?_)
  unfold f_J4_setLength_d00df at h
  refine XG.l (fun z9 => x_aloadn dJ4_setLength_d00df_0 rfl z9) ?_
  refine XG.l (fun z9 => x_iloadn dJ4_setLength_d00df_1 rfl z9) ?_
  obtain ⟨I1, K2, h3, h⟩ := b2_s h
  refine XG.SU [.int x1] [] (cs_J4_333 _) (ci := 0) rfl (LSb.o H0) (dep (show d + 0 + 4 + 1 ≤ (d + 5) from by omega) (Nat.le_of_ble_eq_true rfl)) dJ4_setLength_d00df_2 rfl rfl (Nat.le_of_ble_eq_true rfl) (c_J5_setLength_d00df d (K := K) (I := I) H0 h3) ?_
  obtain ⟨u4, hu4, h⟩ := b1_s h
  cases h
  exact XG.z (x_vret rfl dJ4_setLength_d00df_5 ⟨rfl, rfl, rfl⟩)
