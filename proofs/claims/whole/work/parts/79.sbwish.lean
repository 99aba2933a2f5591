noncomputable def l_X9_writeName_2 (n : Nat) (I : Mem) (K : Kt) (x0 : Nat) (x1 : Int32) (x2 : Int32) : Option (Mem × Kt) := match n with
  | 0 => none
  | n + 1 => if 6 ≤ x2 then (some (I, K)) else (b1 (f_X9_letterOf x1 x2) fun v1 => if v1 = (-1) then (l_X9_writeName_2 n I K x0 x1 (x2 + 1)) else (b3 (f_J4_append_cf468 I K (x0 + 102) ((v1).toUInt32 % 65536).toInt32) fun v3 I4 K5 => b1 (ckG K K5 (x0 + 102)) fun _ => l_X9_writeName_2 n I4 K5 x0 x1 (x2 + 1)))
theorem tl_X9_writeName_2 (d : Nat) (n : Nat) : ∀ {I : Mem} {K : Kt} {x0 : Nat} (H0 : LW K x0 ∧ LSb K (x0 + 102)) {x1 : Int32} {x2 : Int32} {I9 : Mem} {K9 : Kt}, l_X9_writeName_2 n I K x0 x1 x2 = some (I9, K9) → XG (mX9_writeName (d + 6)) cX9_writeName 0 0 K9 I K 2 [.ref x0, .int x1, .int x2, .retAddr 0] [] (Ro (.inl none) I9 K9) := by
  induction n with
  | zero =>
    intro I K x0 H0 x1 x2 I9 K9 h
    cases h
  | succ n ih =>
    intro I K x0 H0 x1 x2 I9 K9 h
    unfold l_X9_writeName_2 at h
    refine XG.l (fun z9 => x_iloadn dX9_writeName_2 rfl z9) ?_
    refine XG.l (fun z9 => x_bipush 6 dX9_writeName_3 rfl z9) ?_
    rcases Classical.em (6 ≤ x2) with hc | hc
    · have h := ifT hc h
      refine XG.l (fun z9 => x_icmp_ge 35 dX9_writeName_5 rfl (fun _ => z9) (fun hn => absurd hc hn)) ?_
      cases h
      exact XG.z (x_vret rfl dX9_writeName_35 ⟨rfl, rfl, rfl⟩)
    have h := ifF hc h
    refine XG.l (fun z9 => x_icmp_ge 35 dX9_writeName_5 rfl (fun hn => absurd hn hc) (fun _ => z9)) ?_
    refine XG.l (fun z9 => x_iloadn dX9_writeName_8 rfl z9) ?_
    refine XG.l (fun z9 => x_iloadn dX9_writeName_9 rfl z9) ?_
    obtain ⟨v1, h2, h⟩ := b1_s h
    refine XG.l (fun z9 => z_S1 [.int x1, .int x2] [] (cs_X9_152 _) (dep (show d + 5 + 0 + 1 ≤ (d + 6) from by omega) (Nat.le_of_ble_eq_true rfl)) dX9_writeName_10 rfl rfl (Nat.le_of_ble_eq_true rfl) (c_X9_letterOf (d + 5) (K := K) (I := I) h2) z9) ?_
    refine XG.l (fun z9 => x_istoren dX9_writeName_13 (Nat.le_of_ble_eq_true rfl) rfl rfl z9) ?_
    refine XG.l (fun z9 => x_iloadn dX9_writeName_14 rfl z9) ?_
    refine XG.l (fun z9 => x_iconst (-1) dX9_writeName_15 rfl z9) ?_
    rcases Classical.em (v1 = (-1)) with hc | hc
    · have h := ifT hc h
      refine XG.l (fun z9 => x_icmp_eq 29 dX9_writeName_16 rfl (fun _ => z9) (fun hn => absurd hc hn)) ?_
      refine XG.l (fun z9 => z_iinc 1 (by decide) dX9_writeName_29 rfl rfl rfl z9) ?_
      refine XG.l (fun z9 => x_goto 2 dX9_writeName_32 rfl z9) ?_
      exact XG.forget (L' := [.ref x0, .int x1, .int (x2 + 1), .retAddr 0]) ⟨Or.inl rfl, ⟨Or.inl rfl, ⟨Or.inl rfl, ⟨Or.inr rfl, trivial⟩⟩⟩⟩ (ih ⟨H0.1, H0.2⟩ h)
    have h := ifF hc h
    refine XG.l (fun z9 => x_icmp_eq 29 dX9_writeName_16 rfl (fun hn => absurd hn hc) (fun _ => z9)) ?_
    refine XG.l (fun z9 => x_aloadn dX9_writeName_19 rfl z9) ?_
    refine XG.l (fun z9 => z_getR fs_X9_40 (LW.o H0.1) (LW.g6 H0.1) dX9_writeName_20 z9) ?_
    refine XG.l (fun z9 => x_iloadn dX9_writeName_23 rfl z9) ?_
    refine XG.l (fun z9 => x_i2c dX9_writeName_24 z9) ?_
    obtain ⟨v3, I4, K5, h6, h⟩ := b3_s h
    refine XG.V1 [.int ((v1).toUInt32 % 65536).toInt32] [] (cs_X9_292 _) (ci := 0) rfl (LSb.o H0.2) (dep (show d + 0 + 5 + 1 ≤ (d + 6) from by omega) (Nat.le_of_ble_eq_true rfl)) dX9_writeName_25 rfl rfl (Nat.le_of_ble_eq_true rfl) (c_J4_append_cf468 d (K := K) (I := I) H0.2 h6) ?_
    obtain ⟨u7, hu7, h⟩ := b1_s h
    refine XG.l (fun z9 => x_pop dX9_writeName_28 rfl z9) ?_
    refine XG.l (fun z9 => z_iinc 1 (by decide) dX9_writeName_29 rfl rfl rfl z9) ?_
    refine XG.l (fun z9 => x_goto 2 dX9_writeName_32 rfl z9) ?_
    exact XG.forget (L' := [.ref x0, .int x1, .int (x2 + 1), .retAddr 0]) ⟨Or.inl rfl, ⟨Or.inl rfl, ⟨Or.inl rfl, ⟨Or.inr rfl, trivial⟩⟩⟩⟩ (ih ⟨(LW.gw H0.1 (ckG_s hu7).1), (ckG_s hu7).2⟩ h)
noncomputable def f_X9_writeName (I : Mem) (K : Kt) (x0 : Nat) (x1 : Int32) : Option (Mem × Kt) := l_X9_writeName_2 FU I K x0 x1 0
theorem c_X9_writeName (d : Nat) {K : Kt} {I : Mem} {x0 : Nat} (H0 : LW K x0 ∧ LSb K (x0 + 102)) {x1 : Int32} {I9 : Mem} {K9 : Kt} (h : f_X9_writeName I K x0 x1 = some (I9, K9)) : CtG (mX9_writeName (d + 6)) cX9_writeName 0 0 K9 [.ref x0, .int x1] I K (Ro (.inl none) I9 K9) := by
  refine CtG.of rfl pn_X9 (catR (catI cat0)) (Nat.le_of_ble_eq_true rfl) (show XG _ _ _ _ _ _ _ 0 [.ref x0, .int x1, .retAddr 0, .retAddr 0] [] _ from ?_)
  unfold f_X9_writeName at h
  refine XG.l (fun z9 => x_iconst 0 dX9_writeName_0 rfl z9) ?_
  refine XG.l (fun z9 => x_istoren dX9_writeName_1 (Nat.le_of_ble_eq_true rfl) rfl rfl z9) ?_
  exact tl_X9_writeName_2 d FU ⟨H0.1, H0.2⟩ h
noncomputable def l_X9_writeStall_130 (I : Mem) (K : Kt) (x0 : Nat) : Option (Except String Int32 × Mem × Kt) := b1 (f_J4_length_8abf5 I K (x0 + 102)) fun v9 => some (.ok v9, I, K)
theorem tl_X9_writeStall_130 (d : Nat) : ∀ {I : Mem} {K : Kt} {x0 : Nat} (H0 : LW K x0 ∧ LSb K (x0 + 102)) {x : Except String Int32} {I9 : Mem} {K9 : Kt}, l_X9_writeStall_130 I K x0 = some (x, I9, K9) → XG (mX9_writeStall (d + 10)) cX9_writeStall (cst x) (cs6 x) K9 I K 130 [.ref x0, .retAddr 0, .retAddr 0] [] (Ro (rI x) I9 K9) := by
  intro I K x0 H0 x I9 K9 h
  unfold l_X9_writeStall_130 at h
  refine XG.l (fun z9 => x_aloadn dX9_writeStall_130 rfl z9) ?_
  refine XG.l (fun z9 => z_getR fs_X9_40 (LW.o H0.1) (LW.g6 H0.1) dX9_writeStall_131 z9) ?_
  obtain ⟨v9, h10, h⟩ := b1_s h
  refine XG.l (fun z9 => z_V1 [] [] (cs_X9_289 _) (ci := 0) rfl (LSb.o H0.2) (dep (show d + 8 + 1 + 1 ≤ (d + 10) from by omega) (Nat.le_of_ble_eq_true rfl)) dX9_writeStall_134 rfl rfl (Nat.le_of_ble_eq_true rfl) (c_J4_length_8abf5 (d + 8) (K := K) (I := I) H0.2 h10) z9) ?_
  cases h
  exact XG.z (x_iret rfl dX9_writeStall_137 ⟨rfl, rfl, rfl⟩)
noncomputable def l_X9_writeStall_62 (c15 : Mem → Kt → Nat → Int32 → Int32 → Option (Except String Int32 × Mem × Kt)) (I : Mem) (K : Kt) (x0 : Nat) (x1 : Int32) (x2 : Int32) : Option (Except String Int32 × Mem × Kt) := b1 (ix x2 16) fun j19 => b2 (f_X9_writeName I K x0 (I ((x0 + 37) + 15 + j19) 0)) fun I20 K21 => b1 (ckG K K21 (x0 + 102)) fun _ => b3 (f_J4_append_cf468 I20 K21 (x0 + 102) 61) fun v24 I25 K26 => b1 (ckG K21 K26 (x0 + 102)) fun _ => b1 (f_X3_priceOf I25 (x0 + 37) x2) fun v29 => b3 (f_J4_append_bf812 I25 K26 (x0 + 102) v29) fun v31 I32 K33 => b1 (ckG K26 K33 (x0 + 102)) fun _ => c15 I32 K33 x0 x1 (x2 + 1)
theorem tl_X9_writeStall_62 (d : Nat) {c15 : Mem → Kt → Nat → Int32 → Int32 → Option (Except String Int32 × Mem × Kt)} (hc15 : ∀ {I : Mem} {K : Kt} {x0 : Nat} (H0 : LW K x0 ∧ LSb K (x0 + 102)) {x1 : Int32} {x2 : Int32} {x : Except String Int32} {I9 : Mem} {K9 : Kt}, c15 I K x0 x1 x2 = some (x, I9, K9) → XG (mX9_writeStall (d + 10)) cX9_writeStall (cst x) (cs6 x) K9 I K 15 [.ref x0, .int x1, .int x2] [] (Ro (rI x) I9 K9)) : ∀ {I : Mem} {K : Kt} {x0 : Nat} (H0 : LW K x0 ∧ LSb K (x0 + 102)) {x1 : Int32} {x2 : Int32} {x : Except String Int32} {I9 : Mem} {K9 : Kt}, l_X9_writeStall_62 c15 I K x0 x1 x2 = some (x, I9, K9) → XG (mX9_writeStall (d + 10)) cX9_writeStall (cst x) (cs6 x) K9 I K 62 [.ref x0, .int x1, .int x2] [] (Ro (rI x) I9 K9) := by
  intro I K x0 H0 x1 x2 x I9 K9 h
  unfold l_X9_writeStall_62 at h
  refine XG.l (fun z9 => x_aloadn dX9_writeStall_62 rfl z9) ?_
  refine XG.l (fun z9 => x_aloadn dX9_writeStall_63 rfl z9) ?_
  refine XG.l (fun z9 => z_getR fs_X9_19 (LW.o H0.1) (LW.g1 H0.1) dX9_writeStall_64 z9) ?_
  refine XG.l (fun z9 => z_getRG gs_X9_241 (LM.o (LW.q H0.1)) (LM.g2 (LW.q H0.1)) dX9_writeStall_67 z9) ?_
  refine XG.l (fun z9 => x_iloadn dX9_writeStall_70 rfl z9) ?_
  obtain ⟨j19, hj19, h⟩ := b1_s h
  refine XG.l (fun z9 => z_aald (LM.l2 (LW.q H0.1)) ⟨by decide, by decide⟩ hj19 (LM.w (LW.q H0.1) (ix_s hj19).2.1) dX9_writeStall_71 z9) ?_
  refine XG.l (fun z9 => z_getI fs_X9_205 (LM.wo (LW.q H0.1) (ix_s hj19).2.1) dX9_writeStall_72 z9) ?_
  obtain ⟨I20, K21, h22, h⟩ := b2_s h
  refine XG.V0 [.int (I ((x0 + 37) + 15 + j19) 0)] [] (cs_X9_296 _) (ci := 7) rfl (LW.o H0.1) (dep (show d + 3 + 6 + 1 ≤ (d + 10) from by omega) (Nat.le_of_ble_eq_true rfl)) dX9_writeStall_75 rfl rfl (Nat.le_of_ble_eq_true rfl) (c_X9_writeName (d + 3) (K := K) (I := I) ⟨H0.1, H0.2⟩ h22) ?_
  obtain ⟨u23, hu23, h⟩ := b1_s h
  refine XG.l (fun z9 => x_aloadn dX9_writeStall_78 rfl z9) ?_
  refine XG.l (fun z9 => z_getR fs_X9_40 (LW.o (LW.gw H0.1 (ckG_s hu23).1)) (LW.g6 (LW.gw H0.1 (ckG_s hu23).1)) dX9_writeStall_79 z9) ?_
  refine XG.l (fun z9 => x_bipush 61 dX9_writeStall_82 rfl z9) ?_
  obtain ⟨v24, I25, K26, h27, h⟩ := b3_s h
  refine XG.V1 [.int 61] [] (cs_X9_292 _) (ci := 0) rfl (LSb.o (ckG_s hu23).2) (dep (show d + 4 + 5 + 1 ≤ (d + 10) from by omega) (Nat.le_of_ble_eq_true rfl)) dX9_writeStall_84 rfl rfl (Nat.le_of_ble_eq_true rfl) (c_J4_append_cf468 (d + 4) (K := K21) (I := I20) (ckG_s hu23).2 h27) ?_
  obtain ⟨u28, hu28, h⟩ := b1_s h
  refine XG.l (fun z9 => x_pop dX9_writeStall_87 rfl z9) ?_
  refine XG.l (fun z9 => x_aloadn dX9_writeStall_88 rfl z9) ?_
  refine XG.l (fun z9 => z_getR fs_X9_40 (LW.o (LW.gw (LW.gw H0.1 (ckG_s hu23).1) (ckG_s hu28).1)) (LW.g6 (LW.gw (LW.gw H0.1 (ckG_s hu23).1) (ckG_s hu28).1)) dX9_writeStall_89 z9) ?_
  refine XG.l (fun z9 => x_aloadn dX9_writeStall_92 rfl z9) ?_
  refine XG.l (fun z9 => z_getR fs_X9_19 (LW.o (LW.gw (LW.gw H0.1 (ckG_s hu23).1) (ckG_s hu28).1)) (LW.g1 (LW.gw (LW.gw H0.1 (ckG_s hu23).1) (ckG_s hu28).1)) dX9_writeStall_93 z9) ?_
  refine XG.l (fun z9 => x_iloadn dX9_writeStall_96 rfl z9) ?_
  obtain ⟨v29, h30, h⟩ := b1_s h
  refine XG.l (fun z9 => z_V1 [.int x2] [.ref (x0 + 102)] (cs_X9_238 _) (ci := 1) rfl (LM.o (LW.q (LW.gw (LW.gw H0.1 (ckG_s hu23).1) (ckG_s hu28).1))) (dep (show d + 9 + 0 + 1 ≤ (d + 10) from by omega) (Nat.le_of_ble_eq_true rfl)) dX9_writeStall_97 rfl rfl (Nat.le_of_ble_eq_true rfl) (c_X3_priceOf (d + 9) (K := K26) (I := I25) (LW.q (LW.gw (LW.gw H0.1 (ckG_s hu23).1) (ckG_s hu28).1)) h30) z9) ?_
  obtain ⟨v31, I32, K33, h34, h⟩ := b3_s h
  refine XG.V1 [.int v29] [] (cs_X9_299 _) (ci := 0) rfl (LSb.o (ckG_s hu28).2) (dep (show d + 4 + 5 + 1 ≤ (d + 10) from by omega) (Nat.le_of_ble_eq_true rfl)) dX9_writeStall_100 rfl rfl (Nat.le_of_ble_eq_true rfl) (c_J4_append_bf812 (d + 4) (K := K26) (I := I25) (ckG_s hu28).2 h34) ?_
  obtain ⟨u35, hu35, h⟩ := b1_s h
  refine XG.l (fun z9 => x_pop dX9_writeStall_103 rfl z9) ?_
  refine XG.l (fun z9 => z_iinc 1 (by decide) dX9_writeStall_104 rfl rfl rfl z9) ?_
  refine XG.l (fun z9 => x_goto 15 dX9_writeStall_107 rfl z9) ?_
  exact hc15 ⟨(LW.gw (LW.gw (LW.gw H0.1 (ckG_s hu23).1) (ckG_s hu28).1) (ckG_s hu35).1), (ckG_s hu35).2⟩ h
noncomputable def l_X9_writeStall_15 (n : Nat) (I : Mem) (K : Kt) (x0 : Nat) (x1 : Int32) (x2 : Int32) : Option (Except String Int32 × Mem × Kt) := match n with
  | 0 => none
  | n + 1 => if (I (x0 + 37) 5) ≤ x2 then (b1 (f_J4_length_8abf5 I K (x0 + 102)) fun v7 => if v7 = 0 then (b3 (f_J4_append_cf468 I K (x0 + 102) 45) fun v11 I12 K13 => b1 (ckG K K13 (x0 + 102)) fun _ => l_X9_writeStall_130 I12 K13 x0) else (l_X9_writeStall_130 I K x0)) else (b1 (ix x2 16) fun j16 => if (I ((x0 + 37) + 15 + j16) 4) = x1 then (b1 (f_J4_length_8abf5 I K (x0 + 102)) fun v17 => if v17 ≤ 0 then (l_X9_writeStall_62 (l_X9_writeStall_15 n) I K x0 x1 x2) else (b3 (f_J4_append_cf468 I K (x0 + 102) 32) fun v36 I37 K38 => b1 (ckG K K38 (x0 + 102)) fun _ => l_X9_writeStall_62 (l_X9_writeStall_15 n) I37 K38 x0 x1 x2)) else (l_X9_writeStall_15 n I K x0 x1 (x2 + 1)))
theorem tl_X9_writeStall_15 (d : Nat) (n : Nat) : ∀ {I : Mem} {K : Kt} {x0 : Nat} (H0 : LW K x0 ∧ LSb K (x0 + 102)) {x1 : Int32} {x2 : Int32} {x : Except String Int32} {I9 : Mem} {K9 : Kt}, l_X9_writeStall_15 n I K x0 x1 x2 = some (x, I9, K9) → XG (mX9_writeStall (d + 10)) cX9_writeStall (cst x) (cs6 x) K9 I K 15 [.ref x0, .int x1, .int x2] [] (Ro (rI x) I9 K9) := by
  induction n with
  | zero =>
    intro I K x0 H0 x1 x2 x I9 K9 h
    cases h
  | succ n ih =>
    intro I K x0 H0 x1 x2 x I9 K9 h
    unfold l_X9_writeStall_15 at h
    refine XG.l (fun z9 => x_iloadn dX9_writeStall_15 rfl z9) ?_
    refine XG.l (fun z9 => x_aloadn dX9_writeStall_16 rfl z9) ?_
    refine XG.l (fun z9 => z_getR fs_X9_19 (LW.o H0.1) (LW.g1 H0.1) dX9_writeStall_17 z9) ?_
    refine XG.l (fun z9 => z_getI fs_X9_88 (LM.o (LW.q H0.1)) dX9_writeStall_20 z9) ?_
    rcases Classical.em ((I (x0 + 37) 5) ≤ x2) with hc | hc
    · have h := ifT hc h
      refine XG.l (fun z9 => x_icmp_ge 110 dX9_writeStall_23 rfl (fun _ => z9) (fun hn => absurd hc hn)) ?_
      refine XG.l (fun z9 => x_aloadn dX9_writeStall_110 rfl z9) ?_
      refine XG.l (fun z9 => z_getR fs_X9_40 (LW.o H0.1) (LW.g6 H0.1) dX9_writeStall_111 z9) ?_
      obtain ⟨v7, h8, h⟩ := b1_s h
      refine XG.l (fun z9 => z_V1 [] [] (cs_X9_289 _) (ci := 0) rfl (LSb.o H0.2) (dep (show d + 8 + 1 + 1 ≤ (d + 10) from by omega) (Nat.le_of_ble_eq_true rfl)) dX9_writeStall_114 rfl rfl (Nat.le_of_ble_eq_true rfl) (c_J4_length_8abf5 (d + 8) (K := K) (I := I) H0.2 h8) z9) ?_
      rcases Classical.em (v7 = 0) with hc | hc
      · have h := ifT hc h
        refine XG.l (fun z9 => x_if_ne 130 dX9_writeStall_117 rfl (fun hn => absurd hc hn) (fun _ => z9)) ?_
        refine XG.l (fun z9 => x_aloadn dX9_writeStall_120 rfl z9) ?_
        refine XG.l (fun z9 => z_getR fs_X9_40 (LW.o H0.1) (LW.g6 H0.1) dX9_writeStall_121 z9) ?_
        refine XG.l (fun z9 => x_bipush 45 dX9_writeStall_124 rfl z9) ?_
        obtain ⟨v11, I12, K13, h14, h⟩ := b3_s h
        refine XG.V1 [.int 45] [] (cs_X9_292 _) (ci := 0) rfl (LSb.o H0.2) (dep (show d + 4 + 5 + 1 ≤ (d + 10) from by omega) (Nat.le_of_ble_eq_true rfl)) dX9_writeStall_126 rfl rfl (Nat.le_of_ble_eq_true rfl) (c_J4_append_cf468 (d + 4) (K := K) (I := I) H0.2 h14) ?_
        obtain ⟨u15, hu15, h⟩ := b1_s h
        refine XG.l (fun z9 => x_pop dX9_writeStall_129 rfl z9) ?_
        exact XG.forget (L' := [.ref x0, .retAddr 0, .retAddr 0]) ⟨Or.inl rfl, ⟨Or.inr rfl, ⟨Or.inr rfl, trivial⟩⟩⟩ (tl_X9_writeStall_130 d ⟨(LW.gw H0.1 (ckG_s hu15).1), (ckG_s hu15).2⟩ h)
      have h := ifF hc h
      refine XG.l (fun z9 => x_if_ne 130 dX9_writeStall_117 rfl (fun _ => z9) (fun hn => absurd hn hc)) ?_
      exact XG.forget (L' := [.ref x0, .retAddr 0, .retAddr 0]) ⟨Or.inl rfl, ⟨Or.inr rfl, ⟨Or.inr rfl, trivial⟩⟩⟩ (tl_X9_writeStall_130 d ⟨H0.1, H0.2⟩ h)
    have h := ifF hc h
    refine XG.l (fun z9 => x_icmp_ge 110 dX9_writeStall_23 rfl (fun hn => absurd hn hc) (fun _ => z9)) ?_
    refine XG.l (fun z9 => x_aloadn dX9_writeStall_26 rfl z9) ?_
    refine XG.l (fun z9 => z_getR fs_X9_19 (LW.o H0.1) (LW.g1 H0.1) dX9_writeStall_27 z9) ?_
    refine XG.l (fun z9 => z_getRG gs_X9_241 (LM.o (LW.q H0.1)) (LM.g2 (LW.q H0.1)) dX9_writeStall_30 z9) ?_
    refine XG.l (fun z9 => x_iloadn dX9_writeStall_33 rfl z9) ?_
    obtain ⟨j16, hj16, h⟩ := b1_s h
    refine XG.l (fun z9 => z_aald (LM.l2 (LW.q H0.1)) ⟨by decide, by decide⟩ hj16 (LM.w (LW.q H0.1) (ix_s hj16).2.1) dX9_writeStall_34 z9) ?_
    refine XG.l (fun z9 => z_getI fs_X9_223 (LM.wo (LW.q H0.1) (ix_s hj16).2.1) dX9_writeStall_35 z9) ?_
    refine XG.l (fun z9 => x_iloadn dX9_writeStall_38 rfl z9) ?_
    rcases Classical.em ((I ((x0 + 37) + 15 + j16) 4) = x1) with hc | hc
    · have h := ifT hc h
      refine XG.l (fun z9 => x_icmp_ne 104 dX9_writeStall_39 rfl (fun hn => absurd hc hn) (fun _ => z9)) ?_
      refine XG.l (fun z9 => x_aloadn dX9_writeStall_42 rfl z9) ?_
      refine XG.l (fun z9 => z_getR fs_X9_40 (LW.o H0.1) (LW.g6 H0.1) dX9_writeStall_43 z9) ?_
      obtain ⟨v17, h18, h⟩ := b1_s h
      refine XG.l (fun z9 => z_V1 [] [] (cs_X9_289 _) (ci := 0) rfl (LSb.o H0.2) (dep (show d + 8 + 1 + 1 ≤ (d + 10) from by omega) (Nat.le_of_ble_eq_true rfl)) dX9_writeStall_46 rfl rfl (Nat.le_of_ble_eq_true rfl) (c_J4_length_8abf5 (d + 8) (K := K) (I := I) H0.2 h18) z9) ?_
      rcases Classical.em (v17 ≤ 0) with hc | hc
      · have h := ifT hc h
        refine XG.l (fun z9 => x_if_le 62 dX9_writeStall_49 rfl (fun _ => z9) (fun hn => absurd hc hn)) ?_
        exact tl_X9_writeStall_62 d ih ⟨H0.1, H0.2⟩ h
      have h := ifF hc h
      refine XG.l (fun z9 => x_if_le 62 dX9_writeStall_49 rfl (fun hn => absurd hn hc) (fun _ => z9)) ?_
      refine XG.l (fun z9 => x_aloadn dX9_writeStall_52 rfl z9) ?_
      refine XG.l (fun z9 => z_getR fs_X9_40 (LW.o H0.1) (LW.g6 H0.1) dX9_writeStall_53 z9) ?_
      refine XG.l (fun z9 => x_bipush 32 dX9_writeStall_56 rfl z9) ?_
      obtain ⟨v36, I37, K38, h39, h⟩ := b3_s h
      refine XG.V1 [.int 32] [] (cs_X9_292 _) (ci := 0) rfl (LSb.o H0.2) (dep (show d + 4 + 5 + 1 ≤ (d + 10) from by omega) (Nat.le_of_ble_eq_true rfl)) dX9_writeStall_58 rfl rfl (Nat.le_of_ble_eq_true rfl) (c_J4_append_cf468 (d + 4) (K := K) (I := I) H0.2 h39) ?_
      obtain ⟨u40, hu40, h⟩ := b1_s h
      refine XG.l (fun z9 => x_pop dX9_writeStall_61 rfl z9) ?_
      exact tl_X9_writeStall_62 d ih ⟨(LW.gw H0.1 (ckG_s hu40).1), (ckG_s hu40).2⟩ h
    have h := ifF hc h
    refine XG.l (fun z9 => x_icmp_ne 104 dX9_writeStall_39 rfl (fun _ => z9) (fun hn => absurd hn hc)) ?_
    refine XG.l (fun z9 => z_iinc 1 (by decide) dX9_writeStall_104 rfl rfl rfl z9) ?_
    refine XG.l (fun z9 => x_goto 15 dX9_writeStall_107 rfl z9) ?_
    exact ih ⟨H0.1, H0.2⟩ h
noncomputable def f_X9_writeStall (I : Mem) (K : Kt) (x0 : Nat) (x1 : Int32) : Option (Except String Int32 × Mem × Kt) := e1 (f_X9_checkStall I x0 x1) (fun E => some (.error E, I, K)) fun u1 => b2 (f_J4_setLength_d00df I K (x0 + 102) 0) fun I3 K4 => b1 (ckG K K4 (x0 + 102)) fun _ => l_X9_writeStall_15 FU I3 K4 x0 x1 0
theorem c_X9_writeStall (d : Nat) {K : Kt} {I : Mem} {x0 : Nat} (H0 : LW K x0 ∧ LSb K (x0 + 102)) {x1 : Int32} {x : Except String Int32} {I9 : Mem} {K9 : Kt} (h : f_X9_writeStall I K x0 x1 = some (x, I9, K9)) : CtG (mX9_writeStall (d + 10)) cX9_writeStall (cst x) (cs6 x) K9 [.ref x0, .int x1] I K (Ro (rI x) I9 K9) := by
  refine CtG.of rfl pn_X9 (catR (catI cat0)) (Nat.le_of_ble_eq_true rfl) (show XG _ _ _ _ _ _ _ 0 [.ref x0, .int x1, .retAddr 0] [] _ from ?_)
  unfold f_X9_writeStall at h
  refine XG.l (fun z9 => x_aloadn dX9_writeStall_0 rfl z9) ?_
  refine XG.l (fun z9 => x_iloadn dX9_writeStall_1 rfl z9) ?_
  rcases e1_s h with ⟨u1, h2, h⟩ | ⟨E, h2, h⟩
  rotate_left
  · have hq := c_X9_checkStall (d + 2) (K := K) (I := I) H0.1 h2
    cases h
    exact XG.z (z_Ve [.int x1] [] (cs_X9_195 _) (ci := 7) rfl (LW.o H0.1) (dep (show d + 2 + 7 + 1 ≤ (d + 10) from by omega) (Nat.le_of_ble_eq_true rfl)) dX9_writeStall_2 rfl rfl (Nat.le_of_ble_eq_true rfl) hq rfl)
  have hq := c_X9_checkStall (d + 2) (K := K) (I := I) H0.1 h2
  refine XG.l (fun z9 => z_V0 [.int x1] [] (cs_X9_195 _) (ci := 7) rfl (LW.o H0.1) (dep (show d + 2 + 7 + 1 ≤ (d + 10) from by omega) (Nat.le_of_ble_eq_true rfl)) dX9_writeStall_2 rfl rfl (Nat.le_of_ble_eq_true rfl) hq z9) ?_
  refine XG.l (fun z9 => x_aloadn dX9_writeStall_5 rfl z9) ?_
  refine XG.l (fun z9 => z_getR fs_X9_40 (LW.o H0.1) (LW.g6 H0.1) dX9_writeStall_6 z9) ?_
  refine XG.l (fun z9 => x_iconst 0 dX9_writeStall_9 rfl z9) ?_
  obtain ⟨I3, K4, h5, h⟩ := b2_s h
  refine XG.V0 [.int 0] [] (cs_X9_286 _) (ci := 0) rfl (LSb.o H0.2) (dep (show d + 4 + 5 + 1 ≤ (d + 10) from by omega) (Nat.le_of_ble_eq_true rfl)) dX9_writeStall_10 rfl rfl (Nat.le_of_ble_eq_true rfl) (c_J4_setLength_d00df (d + 4) (K := K) (I := I) H0.2 h5) ?_
  obtain ⟨u6, hu6, h⟩ := b1_s h
  refine XG.l (fun z9 => x_iconst 0 dX9_writeStall_13 rfl z9) ?_
  refine XG.l (fun z9 => x_istoren dX9_writeStall_14 (Nat.le_of_ble_eq_true rfl) rfl rfl z9) ?_
  exact tl_X9_writeStall_15 d FU ⟨(LW.gw H0.1 (ckG_s hu6).1), (ckG_s hu6).2⟩ h
noncomputable def l_X9_writePerson_46 (n : Nat) (I : Mem) (K : Kt) (x0 : Nat) (x1 : Int32) (x3 : Int32) : Option (Except String Int32 × Mem × Kt) := match n with
  | 0 => none
  | n + 1 => if (I (x0 + 37) 5) ≤ x3 then (b1 (f_J4_length_8abf5 I K (x0 + 102)) fun v22 => some (.ok v22, I, K)) else (b1 (ix x3 16) fun j24 => if (I ((x0 + 37) + 15 + j24) 5) = x1 then (b3 (f_J4_append_cf468 I K (x0 + 102) 32) fun v25 I26 K27 => b1 (ckG K K27 (x0 + 102)) fun _ => b1 (ix x3 16) fun j30 => b2 (f_X9_writeName I26 K27 x0 (I26 ((x0 + 37) + 15 + j30) 0)) fun I31 K32 => b1 (ckG K27 K32 (x0 + 102)) fun _ => l_X9_writePerson_46 n I31 K32 x0 x1 (x3 + 1)) else (l_X9_writePerson_46 n I K x0 x1 (x3 + 1)))
theorem tl_X9_writePerson_46 (d : Nat) (n : Nat) : ∀ {I : Mem} {K : Kt} {x0 : Nat} (H0 : LW K x0 ∧ LSb K (x0 + 102)) {x1 : Int32} {x3 : Int32} {x : Except String Int32} {I9 : Mem} {K9 : Kt}, l_X9_writePerson_46 n I K x0 x1 x3 = some (x, I9, K9) → XG (mX9_writePerson (d + 10)) cX9_writePerson (cst x) (cs6 x) K9 I K 46 [.ref x0, .int x1, .retAddr 0, .int x3] [] (Ro (rI x) I9 K9) := by
  induction n with
  | zero =>
    intro I K x0 H0 x1 x3 x I9 K9 h
    cases h
  | succ n ih =>
    intro I K x0 H0 x1 x3 x I9 K9 h
    unfold l_X9_writePerson_46 at h
    refine XG.l (fun z9 => x_iloadn dX9_writePerson_46 rfl z9) ?_
    refine XG.l (fun z9 => x_aloadn dX9_writePerson_47 rfl z9) ?_
    refine XG.l (fun z9 => z_getR fs_X9_19 (LW.o H0.1) (LW.g1 H0.1) dX9_writePerson_48 z9) ?_
    refine XG.l (fun z9 => z_getI fs_X9_88 (LM.o (LW.q H0.1)) dX9_writePerson_51 z9) ?_
    rcases Classical.em ((I (x0 + 37) 5) ≤ x3) with hc | hc
    · have h := ifT hc h
      refine XG.l (fun z9 => x_icmp_ge 105 dX9_writePerson_54 rfl (fun _ => z9) (fun hn => absurd hc hn)) ?_
      refine XG.l (fun z9 => x_aloadn dX9_writePerson_105 rfl z9) ?_
      refine XG.l (fun z9 => z_getR fs_X9_40 (LW.o H0.1) (LW.g6 H0.1) dX9_writePerson_106 z9) ?_
      obtain ⟨v22, h23, h⟩ := b1_s h
      refine XG.l (fun z9 => z_V1 [] [] (cs_X9_289 _) (ci := 0) rfl (LSb.o H0.2) (dep (show d + 8 + 1 + 1 ≤ (d + 10) from by omega) (Nat.le_of_ble_eq_true rfl)) dX9_writePerson_109 rfl rfl (Nat.le_of_ble_eq_true rfl) (c_J4_length_8abf5 (d + 8) (K := K) (I := I) H0.2 h23) z9) ?_
      cases h
      exact XG.z (x_iret rfl dX9_writePerson_112 ⟨rfl, rfl, rfl⟩)
    have h := ifF hc h
    refine XG.l (fun z9 => x_icmp_ge 105 dX9_writePerson_54 rfl (fun hn => absurd hn hc) (fun _ => z9)) ?_
    refine XG.l (fun z9 => x_aloadn dX9_writePerson_57 rfl z9) ?_
    refine XG.l (fun z9 => z_getR fs_X9_19 (LW.o H0.1) (LW.g1 H0.1) dX9_writePerson_58 z9) ?_
    refine XG.l (fun z9 => z_getRG gs_X9_241 (LM.o (LW.q H0.1)) (LM.g2 (LW.q H0.1)) dX9_writePerson_61 z9) ?_
    refine XG.l (fun z9 => x_iloadn dX9_writePerson_64 rfl z9) ?_
    obtain ⟨j24, hj24, h⟩ := b1_s h
    refine XG.l (fun z9 => z_aald (LM.l2 (LW.q H0.1)) ⟨by decide, by decide⟩ hj24 (LM.w (LW.q H0.1) (ix_s hj24).2.1) dX9_writePerson_65 z9) ?_
    refine XG.l (fun z9 => z_getI fs_X9_220 (LM.wo (LW.q H0.1) (ix_s hj24).2.1) dX9_writePerson_66 z9) ?_
    refine XG.l (fun z9 => x_iloadn dX9_writePerson_69 rfl z9) ?_
    rcases Classical.em ((I ((x0 + 37) + 15 + j24) 5) = x1) with hc | hc
    · have h := ifT hc h
      refine XG.l (fun z9 => x_icmp_ne 99 dX9_writePerson_70 rfl (fun hn => absurd hc hn) (fun _ => z9)) ?_
      refine XG.l (fun z9 => x_aloadn dX9_writePerson_73 rfl z9) ?_
      refine XG.l (fun z9 => z_getR fs_X9_40 (LW.o H0.1) (LW.g6 H0.1) dX9_writePerson_74 z9) ?_
      refine XG.l (fun z9 => x_bipush 32 dX9_writePerson_77 rfl z9) ?_
      obtain ⟨v25, I26, K27, h28, h⟩ := b3_s h
      refine XG.V1 [.int 32] [] (cs_X9_292 _) (ci := 0) rfl (LSb.o H0.2) (dep (show d + 4 + 5 + 1 ≤ (d + 10) from by omega) (Nat.le_of_ble_eq_true rfl)) dX9_writePerson_79 rfl rfl (Nat.le_of_ble_eq_true rfl) (c_J4_append_cf468 (d + 4) (K := K) (I := I) H0.2 h28) ?_
      obtain ⟨u29, hu29, h⟩ := b1_s h
      refine XG.l (fun z9 => x_pop dX9_writePerson_82 rfl z9) ?_
      refine XG.l (fun z9 => x_aloadn dX9_writePerson_83 rfl z9) ?_
      refine XG.l (fun z9 => x_aloadn dX9_writePerson_84 rfl z9) ?_
      refine XG.l (fun z9 => z_getR fs_X9_19 (LW.o (LW.gw H0.1 (ckG_s hu29).1)) (LW.g1 (LW.gw H0.1 (ckG_s hu29).1)) dX9_writePerson_85 z9) ?_
      refine XG.l (fun z9 => z_getRG gs_X9_241 (LM.o (LW.q (LW.gw H0.1 (ckG_s hu29).1))) (LM.g2 (LW.q (LW.gw H0.1 (ckG_s hu29).1))) dX9_writePerson_88 z9) ?_
      refine XG.l (fun z9 => x_iloadn dX9_writePerson_91 rfl z9) ?_
      obtain ⟨j30, hj30, h⟩ := b1_s h
      refine XG.l (fun z9 => z_aald (LM.l2 (LW.q (LW.gw H0.1 (ckG_s hu29).1))) ⟨by decide, by decide⟩ hj30 (LM.w (LW.q (LW.gw H0.1 (ckG_s hu29).1)) (ix_s hj30).2.1) dX9_writePerson_92 z9) ?_
      refine XG.l (fun z9 => z_getI fs_X9_205 (LM.wo (LW.q (LW.gw H0.1 (ckG_s hu29).1)) (ix_s hj30).2.1) dX9_writePerson_93 z9) ?_
      obtain ⟨I31, K32, h33, h⟩ := b2_s h
      refine XG.V0 [.int (I26 ((x0 + 37) + 15 + j30) 0)] [] (cs_X9_296 _) (ci := 7) rfl (LW.o (LW.gw H0.1 (ckG_s hu29).1)) (dep (show d + 3 + 6 + 1 ≤ (d + 10) from by omega) (Nat.le_of_ble_eq_true rfl)) dX9_writePerson_96 rfl rfl (Nat.le_of_ble_eq_true rfl) (c_X9_writeName (d + 3) (K := K27) (I := I26) ⟨(LW.gw H0.1 (ckG_s hu29).1), (ckG_s hu29).2⟩ h33) ?_
      obtain ⟨u34, hu34, h⟩ := b1_s h
      refine XG.l (fun z9 => z_iinc 1 (by decide) dX9_writePerson_99 rfl rfl rfl z9) ?_
      refine XG.l (fun z9 => x_goto 46 dX9_writePerson_102 rfl z9) ?_
      exact ih ⟨(LW.gw (LW.gw H0.1 (ckG_s hu29).1) (ckG_s hu34).1), (ckG_s hu34).2⟩ h
    have h := ifF hc h
    refine XG.l (fun z9 => x_icmp_ne 99 dX9_writePerson_70 rfl (fun _ => z9) (fun hn => absurd hn hc)) ?_
    refine XG.l (fun z9 => z_iinc 1 (by decide) dX9_writePerson_99 rfl rfl rfl z9) ?_
    refine XG.l (fun z9 => x_goto 46 dX9_writePerson_102 rfl z9) ?_
    exact ih ⟨H0.1, H0.2⟩ h
noncomputable def f_X9_writePerson (I : Mem) (K : Kt) (x0 : Nat) (x1 : Int32) : Option (Except String Int32 × Mem × Kt) := e1 (f_X9_personAt I x0 x1) (fun E => some (.error E, I, K)) fun v1 => b1 (ckA v1 (x0 + 37 + 4) 6) fun j3 => b2 (f_J4_setLength_d00df I K (x0 + 102) 0) fun I4 K5 => b1 (ckG K K5 (x0 + 102)) fun _ => b2 (f_X9_writeName I4 K5 x0 (I4 ((x0 + 37 + 4) + j3) 0)) fun I8 K9 => b1 (ckG K5 K9 (x0 + 102)) fun _ => b3 (f_J4_append_cf468 I8 K9 (x0 + 102) 58) fun v12 I13 K14 => b1 (ckG K9 K14 (x0 + 102)) fun _ => b3 (f_J4_append_bf812 I13 K14 (x0 + 102) (I13 ((x0 + 37 + 4) + j3) 1)) fun v17 I18 K19 => b1 (ckG K14 K19 (x0 + 102)) fun _ => l_X9_writePerson_46 FU I18 K19 x0 x1 0
theorem c_X9_writePerson (d : Nat) {K : Kt} {I : Mem} {x0 : Nat} (H0 : LW K x0 ∧ LSb K (x0 + 102)) {x1 : Int32} {x : Except String Int32} {I9 : Mem} {K9 : Kt} (h : f_X9_writePerson I K x0 x1 = some (x, I9, K9)) : CtG (mX9_writePerson (d + 10)) cX9_writePerson (cst x) (cs6 x) K9 [.ref x0, .int x1] I K (Ro (rI x) I9 K9) := by
  refine CtG.of rfl pn_X9 (catR (catI cat0)) (Nat.le_of_ble_eq_true rfl) (show XG _ _ _ _ _ _ _ 0 [.ref x0, .int x1, .retAddr 0, .retAddr 0] [] _ from ?_)
  unfold f_X9_writePerson at h
  refine XG.l (fun z9 => x_aloadn dX9_writePerson_0 rfl z9) ?_
  refine XG.l (fun z9 => x_iloadn dX9_writePerson_1 rfl z9) ?_
  rcases e1_s h with ⟨v1, h2, h⟩ | ⟨E, h2, h⟩
  rotate_left
  · have hq := c_X9_personAt (d + 1) (K := K) (I := I) H0.1 h2
    cases h
    exact XG.z (z_Ve [.int x1] [] (cs_X9_143 _) (ci := 7) rfl (LW.o H0.1) (dep (show d + 1 + 8 + 1 ≤ (d + 10) from by omega) (Nat.le_of_ble_eq_true rfl)) dX9_writePerson_2 rfl rfl (Nat.le_of_ble_eq_true rfl) hq rfl)
  have hq := c_X9_personAt (d + 1) (K := K) (I := I) H0.1 h2
  refine XG.l (fun z9 => z_V1 [.int x1] [] (cs_X9_143 _) (ci := 7) rfl (LW.o H0.1) (dep (show d + 1 + 8 + 1 ≤ (d + 10) from by omega) (Nat.le_of_ble_eq_true rfl)) dX9_writePerson_2 rfl rfl (Nat.le_of_ble_eq_true rfl) hq z9) ?_
  obtain ⟨j3, hj3, h⟩ := b1_s h
  refine XG.e2 (congrArg Value.ref (ckA_s hj3).2) ?_
  have hj3 := (ckA_s hj3).1
  refine XG.l (fun z9 => x_astoren dX9_writePerson_5 (Nat.le_of_ble_eq_true rfl) rfl rfl z9) ?_
  refine XG.l (fun z9 => x_aloadn dX9_writePerson_6 rfl z9) ?_
  refine XG.l (fun z9 => z_getR fs_X9_40 (LW.o H0.1) (LW.g6 H0.1) dX9_writePerson_7 z9) ?_
  refine XG.l (fun z9 => x_iconst 0 dX9_writePerson_10 rfl z9) ?_
  obtain ⟨I4, K5, h6, h⟩ := b2_s h
  refine XG.V0 [.int 0] [] (cs_X9_286 _) (ci := 0) rfl (LSb.o H0.2) (dep (show d + 4 + 5 + 1 ≤ (d + 10) from by omega) (Nat.le_of_ble_eq_true rfl)) dX9_writePerson_11 rfl rfl (Nat.le_of_ble_eq_true rfl) (c_J4_setLength_d00df (d + 4) (K := K) (I := I) H0.2 h6) ?_
  obtain ⟨u7, hu7, h⟩ := b1_s h
  refine XG.l (fun z9 => x_aloadn dX9_writePerson_14 rfl z9) ?_
  refine XG.l (fun z9 => x_aloadn dX9_writePerson_15 rfl z9) ?_
  refine XG.l (fun z9 => z_getI fs_X9_147 (LO.gw (LM.po (LW.q H0.1) hj3) (ckG_s hu7).1) dX9_writePerson_16 z9) ?_
  obtain ⟨I8, K9, h10, h⟩ := b2_s h
  refine XG.V0 [.int (I4 ((x0 + 37 + 4) + j3) 0)] [] (cs_X9_296 _) (ci := 7) rfl (LW.o (LW.gw H0.1 (ckG_s hu7).1)) (dep (show d + 3 + 6 + 1 ≤ (d + 10) from by omega) (Nat.le_of_ble_eq_true rfl)) dX9_writePerson_19 rfl rfl (Nat.le_of_ble_eq_true rfl) (c_X9_writeName (d + 3) (K := K5) (I := I4) ⟨(LW.gw H0.1 (ckG_s hu7).1), (ckG_s hu7).2⟩ h10) ?_
  obtain ⟨u11, hu11, h⟩ := b1_s h
  refine XG.l (fun z9 => x_aloadn dX9_writePerson_22 rfl z9) ?_
  refine XG.l (fun z9 => z_getR fs_X9_40 (LW.o (LW.gw (LW.gw H0.1 (ckG_s hu7).1) (ckG_s hu11).1)) (LW.g6 (LW.gw (LW.gw H0.1 (ckG_s hu7).1) (ckG_s hu11).1)) dX9_writePerson_23 z9) ?_
  refine XG.l (fun z9 => x_bipush 58 dX9_writePerson_26 rfl z9) ?_
  obtain ⟨v12, I13, K14, h15, h⟩ := b3_s h
  refine XG.V1 [.int 58] [] (cs_X9_292 _) (ci := 0) rfl (LSb.o (ckG_s hu11).2) (dep (show d + 4 + 5 + 1 ≤ (d + 10) from by omega) (Nat.le_of_ble_eq_true rfl)) dX9_writePerson_28 rfl rfl (Nat.le_of_ble_eq_true rfl) (c_J4_append_cf468 (d + 4) (K := K9) (I := I8) (ckG_s hu11).2 h15) ?_
  obtain ⟨u16, hu16, h⟩ := b1_s h
  refine XG.l (fun z9 => x_pop dX9_writePerson_31 rfl z9) ?_
  refine XG.l (fun z9 => x_aloadn dX9_writePerson_32 rfl z9) ?_
  refine XG.l (fun z9 => z_getR fs_X9_40 (LW.o (LW.gw (LW.gw (LW.gw H0.1 (ckG_s hu7).1) (ckG_s hu11).1) (ckG_s hu16).1)) (LW.g6 (LW.gw (LW.gw (LW.gw H0.1 (ckG_s hu7).1) (ckG_s hu11).1) (ckG_s hu16).1)) dX9_writePerson_33 z9) ?_
  refine XG.l (fun z9 => x_aloadn dX9_writePerson_36 rfl z9) ?_
  refine XG.l (fun z9 => z_getI fs_X9_156 (LO.gw (LO.gw (LO.gw (LM.po (LW.q H0.1) hj3) (ckG_s hu7).1) (ckG_s hu11).1) (ckG_s hu16).1) dX9_writePerson_37 z9) ?_
  obtain ⟨v17, I18, K19, h20, h⟩ := b3_s h
  refine XG.V1 [.int (I13 ((x0 + 37 + 4) + j3) 1)] [] (cs_X9_299 _) (ci := 0) rfl (LSb.o (ckG_s hu16).2) (dep (show d + 4 + 5 + 1 ≤ (d + 10) from by omega) (Nat.le_of_ble_eq_true rfl)) dX9_writePerson_40 rfl rfl (Nat.le_of_ble_eq_true rfl) (c_J4_append_bf812 (d + 4) (K := K14) (I := I13) (ckG_s hu16).2 h20) ?_
  obtain ⟨u21, hu21, h⟩ := b1_s h
  refine XG.l (fun z9 => x_pop dX9_writePerson_43 rfl z9) ?_
  refine XG.l (fun z9 => x_iconst 0 dX9_writePerson_44 rfl z9) ?_
  refine XG.l (fun z9 => x_istoren dX9_writePerson_45 (Nat.le_of_ble_eq_true rfl) rfl rfl z9) ?_
  exact XG.forget (L' := [.ref x0, .int x1, .retAddr 0, .int 0]) ⟨Or.inl rfl, ⟨Or.inl rfl, ⟨Or.inr rfl, ⟨Or.inl rfl, trivial⟩⟩⟩⟩ (tl_X9_writePerson_46 d FU ⟨(LW.gw (LW.gw (LW.gw (LW.gw H0.1 (ckG_s hu7).1) (ckG_s hu11).1) (ckG_s hu16).1) (ckG_s hu21).1), (ckG_s hu21).2⟩ h)
noncomputable def l_X9_outputByte_15 (I : Mem) (K : Kt) : Option (Except String Int32) := some (.error "java/lang/IndexOutOfBoundsException")
theorem tl_X9_outputByte_15 (d : Nat) : ∀ {I : Mem} {K : Kt} {x : Except String Int32}, l_X9_outputByte_15 I K = some x → X (mX9_outputByte (d + 6)) cX9_outputByte (cst x) (cs6 x) I K 15 [.retAddr 0, .retAddr 0] [] (Ro (rI x) I K) := by
  intro I K x h
  unfold l_X9_outputByte_15 at h
  cases h
  exact z_throwW ts_X9_58_302_62 ⟨(by show 6 ≤ (d + 6); omega), (by show _ ≤ 40 * (d + 6); have e : ∀ n, n = 0 → n + 82 ≤ 40 * (d + 6) := (fun n hn => by omega); exact e _ rfl)⟩ rfl dX9_outputByte_15 dX9_outputByte_18 dX9_outputByte_19 dX9_outputByte_22 dX9_outputByte_25
noncomputable def f_X9_outputByte (I : Mem) (K : Kt) (x0 : Nat) (x1 : Int32) : Option (Except String Int32) := if x1 < 0 then (l_X9_outputByte_15 I K) else (b1 (f_J4_length_8abf5 I K (x0 + 102)) fun v1 => if x1 < v1 then (b1 (f_J4_charAt_5068e I K (x0 + 102) x1) fun v3 => some (.ok v3)) else (l_X9_outputByte_15 I K))
theorem c_X9_outputByte (d : Nat) {K : Kt} {I : Mem} {x0 : Nat} (H0 : LW K x0 ∧ LSb K (x0 + 102)) {x1 : Int32} {x : Except String Int32} (h : f_X9_outputByte I K x0 x1 = some x) : Ct (mX9_outputByte (d + 6)) cX9_outputByte (cst x) (cs6 x) [.ref x0, .int x1] I K (Ro (rI x) I K) := by
  refine Ct.of rfl pn_X9 (catR (catI cat0)) (Nat.le_of_ble_eq_true rfl) (show X _ _ _ _ _ _ 0 [.ref x0, .int x1] [] _ from ?_)
  unfold f_X9_outputByte at h
  refine x_iloadn dX9_outputByte_0 rfl ?_
  refine x_if_lt 15 dX9_outputByte_1 rfl (fun hc => ?_) (fun hc => ?_)
  · have h := ifT hc h
    exact X.forget (L' := [.retAddr 0, .retAddr 0]) ⟨Or.inr rfl, ⟨Or.inr rfl, trivial⟩⟩ (tl_X9_outputByte_15 d h)
  have h := ifF hc h
  refine x_iloadn dX9_outputByte_4 rfl ?_
  refine x_aloadn dX9_outputByte_5 rfl ?_
  refine z_getR fs_X9_40 (LW.o H0.1) (LW.g6 H0.1) dX9_outputByte_6 ?_
  obtain ⟨v1, h2, h⟩ := b1_s h
  refine z_V1 [] [.int x1] (cs_X9_289 _) (ci := 0) rfl (LSb.o H0.2) (dep (show d + 4 + 1 + 1 ≤ (d + 6) from by omega) (Nat.le_of_ble_eq_true rfl)) dX9_outputByte_9 rfl rfl (Nat.le_of_ble_eq_true rfl) (c_J4_length_8abf5 (d + 4) (K := K) (I := I) H0.2 h2) ?_
  refine x_icmp_lt 26 dX9_outputByte_12 rfl (fun hc => ?_) (fun hc => ?_)
  · have h := ifT hc h
    refine x_aloadn dX9_outputByte_26 rfl ?_
    refine z_getR fs_X9_40 (LW.o H0.1) (LW.g6 H0.1) dX9_outputByte_27 ?_
    refine x_iloadn dX9_outputByte_30 rfl ?_
    obtain ⟨v3, h4, h⟩ := b1_s h
    refine z_V1 [.int x1] [] (cs_X9_304 _) (ci := 0) rfl (LSb.o H0.2) (dep (show d + 1 + 4 + 1 ≤ (d + 6) from by omega) (Nat.le_of_ble_eq_true rfl)) dX9_outputByte_31 rfl rfl (Nat.le_of_ble_eq_true rfl) (c_J4_charAt_5068e (d + 1) (K := K) (I := I) H0.2 h4) ?_
    cases h
    exact x_iret rfl dX9_outputByte_34 ⟨rfl, rfl, rfl⟩
  have h := ifF hc h
  exact X.forget (L' := [.retAddr 0, .retAddr 0]) ⟨Or.inr rfl, ⟨Or.inr rfl, trivial⟩⟩ (tl_X9_outputByte_15 d h)
