noncomputable def l_X10_celebrates_47 (I : Mem) (x0 : Nat) (y0 : Int32) : Option (Mem) := if y0 = (-1) then (some (I)) else (b2 (f_X10_grants I x0 y0) fun v11 I12 => some (I12))
theorem tl_X10_celebrates_47 (d : Nat) {K : Kt} : ∀ {I : Mem} {x0 : Nat} (H0 : MK K x0) {y0 : Int32} {I9 : Mem}, l_X10_celebrates_47 I x0 y0 = some I9 → X (mX10_celebrates (d + 4)) cX10_celebrates 0 0 I K 47 [.ref x0, .retAddr 0, .retAddr 0, .retAddr 0] [.int y0] (Ro (.inl none) I9 K) := by
  intro I x0 H0 y0 I9 h
  unfold l_X10_celebrates_47 at h
  refine x_istoren dX10_celebrates_47 (Nat.le_of_ble_eq_true rfl) rfl rfl ?_
  refine x_iloadn dX10_celebrates_48 rfl ?_
  refine x_iconst (-1) dX10_celebrates_49 rfl ?_
  refine x_icmp_ne 54 dX10_celebrates_50 rfl (fun hc => ?_) (fun hc => ?_)
  · have h := ifF hc h
    refine x_aloadn dX10_celebrates_54 rfl ?_
    refine x_iloadn dX10_celebrates_55 rfl ?_
    obtain ⟨v11, I12, h13, h⟩ := b2_s h
    refine z_V1 [.int y0] [] (cs_X10_218 _) (ci := 8) rfl (MK.o H0) (dep (show d + 0 + 3 + 1 ≤ (d + 4) from by omega) (Nat.le_of_ble_eq_true rfl)) dX10_celebrates_56 rfl rfl (Nat.le_of_ble_eq_true rfl) (c_X10_grants d (K := K) (I := I) H0 h13) ?_
    refine x_istoren dX10_celebrates_59 (Nat.le_of_ble_eq_true rfl) rfl rfl ?_
    cases h
    exact x_vret rfl dX10_celebrates_60 ⟨rfl, rfl, rfl⟩
  have h := ifT hc h
  cases h
  exact x_vret rfl dX10_celebrates_53 ⟨rfl, rfl, rfl⟩
noncomputable def f_X10_celebrates (I : Mem) (x0 : Nat) (x1 : Int32) : Option (Mem) := b1 (f_X10_ofPerson I x0 x1 1) fun v1 => b1 (f_X10_today I x0) fun v3 => if v1 = v3 then (b1 (f_X10_ofPerson I x0 x1 2) fun v5 => b1 (f_X10_putsPerson I x0 x1 2 (v5 + 1)) fun I7 => b1 (f_X10_ofPerson I7 x0 x1 5) fun v9 => if v9 = 1 then (b1 (f_X10_greatestGrant I7 x0 x1) fun v14 => l_X10_celebrates_47 I7 x0 v14) else (l_X10_celebrates_47 I7 x0 (-1))) else (some (I))
theorem c_X10_celebrates (d : Nat) {K : Kt} {I : Mem} {x0 : Nat} (H0 : MK K x0) {x1 : Int32} {I9 : Mem} (h : f_X10_celebrates I x0 x1 = some I9) : Ct (mX10_celebrates (d + 4)) cX10_celebrates 0 0 [.ref x0, .int x1] I K (Ro (.inl none) I9 K) := by
  refine Ct.of rfl pn_X10 (catR (catI cat0)) (Nat.le_of_ble_eq_true rfl) (show X _ _ _ _ _ _ 0 [.ref x0, .int x1, .retAddr 0, .retAddr 0] [] _ from ?_)
  unfold f_X10_celebrates at h
  refine x_aloadn dX10_celebrates_0 rfl ?_
  refine x_iloadn dX10_celebrates_1 rfl ?_
  refine x_iconst 1 dX10_celebrates_2 rfl ?_
  obtain ⟨v1, h2, h⟩ := b1_s h
  refine z_V1 [.int x1, .int 1] [] (cs_X10_141 _) (ci := 8) rfl (MK.o H0) (dep (show d + 3 + 0 + 1 ≤ (d + 4) from by omega) (Nat.le_of_ble_eq_true rfl)) dX10_celebrates_3 rfl rfl (Nat.le_of_ble_eq_true rfl) (c_X10_ofPerson (d + 3) (K := K) (I := I) H0 h2) ?_
  refine x_aloadn dX10_celebrates_6 rfl ?_
  obtain ⟨v3, h4, h⟩ := b1_s h
  refine z_V1 [] [.int v1] (cs_X10_377 _) (ci := 8) rfl (MK.o H0) (dep (show d + 3 + 0 + 1 ≤ (d + 4) from by omega) (Nat.le_of_ble_eq_true rfl)) dX10_celebrates_7 rfl rfl (Nat.le_of_ble_eq_true rfl) (c_X10_today (d + 3) (K := K) (I := I) H0 h4) ?_
  refine x_icmp_eq 14 dX10_celebrates_10 rfl (fun hc => ?_) (fun hc => ?_)
  · have h := ifT hc h
    refine x_aloadn dX10_celebrates_14 rfl ?_
    refine x_iloadn dX10_celebrates_15 rfl ?_
    refine x_iconst 2 dX10_celebrates_16 rfl ?_
    refine x_aloadn dX10_celebrates_17 rfl ?_
    refine x_iloadn dX10_celebrates_18 rfl ?_
    refine x_iconst 2 dX10_celebrates_19 rfl ?_
    obtain ⟨v5, h6, h⟩ := b1_s h
    refine z_V1 [.int x1, .int 2] [.int 2, .int x1, .ref x0] (cs_X10_141 _) (ci := 8) rfl (MK.o H0) (dep (show d + 3 + 0 + 1 ≤ (d + 4) from by omega) (Nat.le_of_ble_eq_true rfl)) dX10_celebrates_20 rfl rfl (Nat.le_of_ble_eq_true rfl) (c_X10_ofPerson (d + 3) (K := K) (I := I) H0 h6) ?_
    refine x_iconst 1 dX10_celebrates_23 rfl ?_
    refine x_iadd dX10_celebrates_24 ?_
    obtain ⟨I7, h8, h⟩ := b1_s h
    refine z_V0 [.int x1, .int 2, .int (v5 + 1)] [] (cs_X10_144 _) (ci := 8) rfl (MK.o H0) (dep (show d + 3 + 0 + 1 ≤ (d + 4) from by omega) (Nat.le_of_ble_eq_true rfl)) dX10_celebrates_25 rfl rfl (Nat.le_of_ble_eq_true rfl) (c_X10_putsPerson (d + 3) (K := K) (I := I) H0 h8) ?_
    refine x_aloadn dX10_celebrates_28 rfl ?_
    refine x_iloadn dX10_celebrates_29 rfl ?_
    refine x_iconst 5 dX10_celebrates_30 rfl ?_
    obtain ⟨v9, h10, h⟩ := b1_s h
    refine z_V1 [.int x1, .int 5] [] (cs_X10_141 _) (ci := 8) rfl (MK.o H0) (dep (show d + 3 + 0 + 1 ≤ (d + 4) from by omega) (Nat.le_of_ble_eq_true rfl)) dX10_celebrates_31 rfl rfl (Nat.le_of_ble_eq_true rfl) (c_X10_ofPerson (d + 3) (K := K) (I := I7) H0 h10) ?_
    refine x_iconst 1 dX10_celebrates_34 rfl ?_
    refine x_icmp_ne 46 dX10_celebrates_35 rfl (fun hc => ?_) (fun hc => ?_)
    · have h := ifF hc h
      refine x_iconst (-1) dX10_celebrates_46 rfl ?_
      exact X.forget (L' := [.ref x0, .retAddr 0, .retAddr 0, .retAddr 0]) ⟨Or.inl rfl, ⟨Or.inr rfl, ⟨Or.inl rfl, ⟨Or.inl rfl, trivial⟩⟩⟩⟩ (tl_X10_celebrates_47 d H0 h)
    have h := ifT hc h
    refine x_aloadn dX10_celebrates_38 rfl ?_
    refine x_iloadn dX10_celebrates_39 rfl ?_
    obtain ⟨v14, h15, h⟩ := b1_s h
    refine z_V1 [.int x1] [] (cs_X10_395 _) (ci := 8) rfl (MK.o H0) (dep (show d + 0 + 3 + 1 ≤ (d + 4) from by omega) (Nat.le_of_ble_eq_true rfl)) dX10_celebrates_40 rfl rfl (Nat.le_of_ble_eq_true rfl) (c_X10_greatestGrant d (K := K) (I := I7) H0 h15) ?_
    refine x_goto 47 dX10_celebrates_43 rfl ?_
    exact X.forget (L' := [.ref x0, .retAddr 0, .retAddr 0, .retAddr 0]) ⟨Or.inl rfl, ⟨Or.inr rfl, ⟨Or.inl rfl, ⟨Or.inl rfl, trivial⟩⟩⟩⟩ (tl_X10_celebrates_47 d H0 h)
  have h := ifF hc h
  cases h
  exact x_vret rfl dX10_celebrates_13 ⟨rfl, rfl, rfl⟩
noncomputable def l_X10_poorest_4 (n : Nat) (I : Mem) (x0 : Nat) (x1 : Int32) (x2 : Int32) : Option (Int32) := match n with
  | 0 => none
  | n + 1 => b1 (ix 3 355) fun j1 => if (I (x0 + 1) j1) ≤ x2 then (some (x1)) else (b1 (f_X10_ofStall I x0 x2 1) fun v2 => b1 (f_X10_ofStall I x0 x1 1) fun v4 => if v4 ≤ v2 then (l_X10_poorest_4 n I x0 x1 (x2 + 1)) else (l_X10_poorest_4 n I x0 x2 (x2 + 1)))
theorem tl_X10_poorest_4 (d : Nat) {K : Kt} (n : Nat) : ∀ {I : Mem} {x0 : Nat} (H0 : MK K x0) {x1 : Int32} {x2 : Int32} {v : Int32}, l_X10_poorest_4 n I x0 x1 x2 = some v → X (mX10_poorest (d + 1)) cX10_poorest 0 0 I K 4 [.ref x0, .int x1, .int x2] [] (Ro (.inl (some (.int v))) I K) := by
  induction n with
  | zero =>
    intro I x0 H0 x1 x2 v h
    cases h
  | succ n ih =>
    intro I x0 H0 x1 x2 v h
    unfold l_X10_poorest_4 at h
    refine x_iloadn dX10_poorest_4 rfl ?_
    refine x_aloadn dX10_poorest_5 rfl ?_
    refine z_getR fs_X10_9 (MK.o H0) (MK.g1 H0) dX10_poorest_6 ?_
    refine x_iconst 3 dX10_poorest_9 rfl ?_
    obtain ⟨j1, hj1, h⟩ := b1_s h
    refine z_iald (MK.l1 H0) hj1 dX10_poorest_10 ?_
    refine x_icmp_ge 37 dX10_poorest_11 rfl (fun hc => ?_) (fun hc => ?_)
    · have h := ifT hc h
      refine x_iloadn dX10_poorest_37 rfl ?_
      cases h
      exact x_iret rfl dX10_poorest_38 ⟨rfl, rfl, rfl⟩
    have h := ifF hc h
    refine x_aloadn dX10_poorest_14 rfl ?_
    refine x_iloadn dX10_poorest_15 rfl ?_
    refine x_iconst 1 dX10_poorest_16 rfl ?_
    obtain ⟨v2, h3, h⟩ := b1_s h
    refine z_V1 [.int x2, .int 1] [] (cs_X10_356 _) (ci := 8) rfl (MK.o H0) (dep (show d + 0 + 0 + 1 ≤ (d + 1) from by omega) (Nat.le_of_ble_eq_true rfl)) dX10_poorest_17 rfl rfl (Nat.le_of_ble_eq_true rfl) (c_X10_ofStall d (K := K) (I := I) H0 h3) ?_
    refine x_aloadn dX10_poorest_20 rfl ?_
    refine x_iloadn dX10_poorest_21 rfl ?_
    refine x_iconst 1 dX10_poorest_22 rfl ?_
    obtain ⟨v4, h5, h⟩ := b1_s h
    refine z_V1 [.int x1, .int 1] [.int v2] (cs_X10_356 _) (ci := 8) rfl (MK.o H0) (dep (show d + 0 + 0 + 1 ≤ (d + 1) from by omega) (Nat.le_of_ble_eq_true rfl)) dX10_poorest_23 rfl rfl (Nat.le_of_ble_eq_true rfl) (c_X10_ofStall d (K := K) (I := I) H0 h5) ?_
    refine x_icmp_ge 31 dX10_poorest_26 rfl (fun hc => ?_) (fun hc => ?_)
    · have h := ifT hc h
      refine z_iinc 1 (by decide) dX10_poorest_31 rfl rfl rfl ?_
      refine x_goto 4 dX10_poorest_34 rfl ?_
      exact ih H0 h
    have h := ifF hc h
    refine x_iloadn dX10_poorest_29 rfl ?_
    refine x_istoren dX10_poorest_30 (Nat.le_of_ble_eq_true rfl) rfl rfl ?_
    refine z_iinc 1 (by decide) dX10_poorest_31 rfl rfl rfl ?_
    refine x_goto 4 dX10_poorest_34 rfl ?_
    exact ih H0 h
noncomputable def f_X10_poorest (I : Mem) (x0 : Nat) : Option (Int32) := l_X10_poorest_4 FU I x0 0 1
theorem c_X10_poorest (d : Nat) {K : Kt} {I : Mem} {x0 : Nat} (H0 : MK K x0) {v : Int32} (h : f_X10_poorest I x0 = some v) : Ct (mX10_poorest (d + 1)) cX10_poorest 0 0 [.ref x0] I K (Ro (.inl (some (.int v))) I K) := by
  refine Ct.of rfl pn_X10 (catR cat0) (Nat.le_of_ble_eq_true rfl) (show X _ _ _ _ _ _ 0 [.ref x0, .retAddr 0, .retAddr 0] [] _ from ?_)
  unfold f_X10_poorest at h
  refine x_iconst 0 dX10_poorest_0 rfl ?_
  refine x_istoren dX10_poorest_1 (Nat.le_of_ble_eq_true rfl) rfl rfl ?_
  refine x_iconst 1 dX10_poorest_2 rfl ?_
  refine x_istoren dX10_poorest_3 (Nat.le_of_ble_eq_true rfl) rfl rfl ?_
  exact tl_X10_poorest_4 d FU H0 h
noncomputable def f_X10_paysTax (I : Mem) (x0 : Nat) (x1 : Int32) : Option (Mem) := b1 (f_X10_poorest I x0) fun v1 => b1 (f_X10_ofPerson I x0 x1 0) fun v3 => b1 (ix 10 355) fun j5 => b1 (f_X10_pays I x0 v1 x1 (-((v3 * (I (x0 + 1) j5)) / 100))) fun I6 => some (I6)
theorem c_X10_paysTax (d : Nat) {K : Kt} {I : Mem} {x0 : Nat} (H0 : MK K x0) {x1 : Int32} {I9 : Mem} (h : f_X10_paysTax I x0 x1 = some I9) : Ct (mX10_paysTax (d + 2)) cX10_paysTax 0 0 [.ref x0, .int x1] I K (Ro (.inl none) I9 K) := by
  refine Ct.of rfl pn_X10 (catR (catI cat0)) (Nat.le_of_ble_eq_true rfl) (show X _ _ _ _ _ _ 0 [.ref x0, .int x1] [] _ from ?_)
  unfold f_X10_paysTax at h
  refine x_aloadn dX10_paysTax_0 rfl ?_
  refine x_aloadn dX10_paysTax_1 rfl ?_
  obtain ⟨v1, h2, h⟩ := b1_s h
  refine z_V1 [] [.ref x0] (cs_X10_416 _) (ci := 8) rfl (MK.o H0) (dep (show d + 0 + 1 + 1 ≤ (d + 2) from by omega) (Nat.le_of_ble_eq_true rfl)) dX10_paysTax_2 rfl rfl (Nat.le_of_ble_eq_true rfl) (c_X10_poorest d (K := K) (I := I) H0 h2) ?_
  refine x_iloadn dX10_paysTax_5 rfl ?_
  refine x_aloadn dX10_paysTax_6 rfl ?_
  refine x_iloadn dX10_paysTax_7 rfl ?_
  refine x_iconst 0 dX10_paysTax_8 rfl ?_
  obtain ⟨v3, h4, h⟩ := b1_s h
  refine z_V1 [.int x1, .int 0] [.int x1, .int v1, .ref x0] (cs_X10_141 _) (ci := 8) rfl (MK.o H0) (dep (show d + 1 + 0 + 1 ≤ (d + 2) from by omega) (Nat.le_of_ble_eq_true rfl)) dX10_paysTax_9 rfl rfl (Nat.le_of_ble_eq_true rfl) (c_X10_ofPerson (d + 1) (K := K) (I := I) H0 h4) ?_
  refine x_aloadn dX10_paysTax_12 rfl ?_
  refine z_getR fs_X10_9 (MK.o H0) (MK.g1 H0) dX10_paysTax_13 ?_
  refine x_bipush 10 dX10_paysTax_16 rfl ?_
  obtain ⟨j5, hj5, h⟩ := b1_s h
  refine z_iald (MK.l1 H0) hj5 dX10_paysTax_18 ?_
  refine x_imul dX10_paysTax_19 ?_
  refine x_bipush 100 dX10_paysTax_20 rfl ?_
  refine x_idiv dX10_paysTax_22 (by decide) ?_
  refine x_ineg dX10_paysTax_23 ?_
  obtain ⟨I6, h7, h⟩ := b1_s h
  refine z_V0 [.int v1, .int x1, .int (-((v3 * (I (x0 + 1) j5)) / 100))] [] (cs_X10_380 _) (ci := 8) rfl (MK.o H0) (dep (show d + 0 + 1 + 1 ≤ (d + 2) from by omega) (Nat.le_of_ble_eq_true rfl)) dX10_paysTax_24 rfl rfl (Nat.le_of_ble_eq_true rfl) (c_X10_pays d (K := K) (I := I) H0 h7) ?_
  cases h
  exact x_vret rfl dX10_paysTax_27 ⟨rfl, rfl, rfl⟩
noncomputable def l_X10_cheapest_5 (n : Nat) (I : Mem) (x0 : Nat) (x1 : Int32) (x2 : Int32) (x3 : Int32) (x4 : Int32) : Option (Int32) := match n with
  | 0 => none
  | n + 1 => b1 (ix 4 355) fun j1 => if (I (x0 + 1) j1) ≤ x4 then (some (x3)) else (b1 (f_X10_whyBuy I x0 x1 x4) fun v2 => if v2 = 0 then (b1 (f_X10_priceOf I x0 x4) fun v4 => if v4 ≤ x2 then (if x3 = (-1) then (l_X10_cheapest_5 n I x0 x1 x2 x4 (x4 + 1)) else (b1 (f_X10_priceOf I x0 x4) fun v6 => b1 (f_X10_priceOf I x0 x3) fun v8 => if v8 ≤ v6 then (l_X10_cheapest_5 n I x0 x1 x2 x3 (x4 + 1)) else (l_X10_cheapest_5 n I x0 x1 x2 x4 (x4 + 1)))) else (l_X10_cheapest_5 n I x0 x1 x2 x3 (x4 + 1))) else (l_X10_cheapest_5 n I x0 x1 x2 x3 (x4 + 1)))
theorem tl_X10_cheapest_5 (d : Nat) {K : Kt} (n : Nat) : ∀ {I : Mem} {x0 : Nat} (H0 : MK K x0) {x1 : Int32} {x2 : Int32} {x3 : Int32} {x4 : Int32} {v : Int32}, l_X10_cheapest_5 n I x0 x1 x2 x3 x4 = some v → X (mX10_cheapest (d + 5)) cX10_cheapest 0 0 I K 5 [.ref x0, .int x1, .int x2, .int x3, .int x4] [] (Ro (.inl (some (.int v))) I K) := by
  induction n with
  | zero =>
    intro I x0 H0 x1 x2 x3 x4 v h
    cases h
  | succ n ih =>
    intro I x0 H0 x1 x2 x3 x4 v h
    unfold l_X10_cheapest_5 at h
    refine x_iload dX10_cheapest_5 rfl ?_
    refine x_aloadn dX10_cheapest_7 rfl ?_
    refine z_getR fs_X10_9 (MK.o H0) (MK.g1 H0) dX10_cheapest_8 ?_
    refine x_iconst 4 dX10_cheapest_11 rfl ?_
    obtain ⟨j1, hj1, h⟩ := b1_s h
    refine z_iald (MK.l1 H0) hj1 dX10_cheapest_12 ?_
    refine x_icmp_ge 67 dX10_cheapest_13 rfl (fun hc => ?_) (fun hc => ?_)
    · have h := ifT hc h
      refine x_iloadn dX10_cheapest_67 rfl ?_
      cases h
      exact x_iret rfl dX10_cheapest_68 ⟨rfl, rfl, rfl⟩
    have h := ifF hc h
    refine x_aloadn dX10_cheapest_16 rfl ?_
    refine x_iloadn dX10_cheapest_17 rfl ?_
    refine x_iload dX10_cheapest_18 rfl ?_
    obtain ⟨v2, h3, h⟩ := b1_s h
    refine z_V1 [.int x1, .int x4] [] (cs_X10_197 _) (ci := 8) rfl (MK.o H0) (dep (show d + 0 + 4 + 1 ≤ (d + 5) from by omega) (Nat.le_of_ble_eq_true rfl)) dX10_cheapest_20 rfl rfl (Nat.le_of_ble_eq_true rfl) (c_X10_whyBuy d (K := K) (I := I) H0 h3) ?_
    refine x_if_ne 61 dX10_cheapest_23 rfl (fun hc => ?_) (fun hc => ?_)
    · have h := ifF hc h
      refine z_iinc 1 (by decide) dX10_cheapest_61 rfl rfl rfl ?_
      refine x_goto 5 dX10_cheapest_64 rfl ?_
      exact ih H0 h
    have h := ifT hc h
    refine x_aloadn dX10_cheapest_26 rfl ?_
    refine x_iload dX10_cheapest_27 rfl ?_
    obtain ⟨v4, h5, h⟩ := b1_s h
    refine z_V1 [.int x4] [] (cs_X10_368 _) (ci := 8) rfl (MK.o H0) (dep (show d + 2 + 2 + 1 ≤ (d + 5) from by omega) (Nat.le_of_ble_eq_true rfl)) dX10_cheapest_29 rfl rfl (Nat.le_of_ble_eq_true rfl) (c_X10_priceOf (d + 2) (K := K) (I := I) H0 h5) ?_
    refine x_iloadn dX10_cheapest_32 rfl ?_
    refine x_icmp_le 39 dX10_cheapest_33 rfl (fun hc => ?_) (fun hc => ?_)
    · have h := ifT hc h
      refine x_iloadn dX10_cheapest_39 rfl ?_
      refine x_iconst (-1) dX10_cheapest_40 rfl ?_
      refine x_icmp_eq 58 dX10_cheapest_41 rfl (fun hc => ?_) (fun hc => ?_)
      · have h := ifT hc h
        refine x_iload dX10_cheapest_58 rfl ?_
        refine x_istoren dX10_cheapest_60 (Nat.le_of_ble_eq_true rfl) rfl rfl ?_
        refine z_iinc 1 (by decide) dX10_cheapest_61 rfl rfl rfl ?_
        refine x_goto 5 dX10_cheapest_64 rfl ?_
        exact ih H0 h
      have h := ifF hc h
      refine x_aloadn dX10_cheapest_44 rfl ?_
      refine x_iload dX10_cheapest_45 rfl ?_
      obtain ⟨v6, h7, h⟩ := b1_s h
      refine z_V1 [.int x4] [] (cs_X10_368 _) (ci := 8) rfl (MK.o H0) (dep (show d + 2 + 2 + 1 ≤ (d + 5) from by omega) (Nat.le_of_ble_eq_true rfl)) dX10_cheapest_47 rfl rfl (Nat.le_of_ble_eq_true rfl) (c_X10_priceOf (d + 2) (K := K) (I := I) H0 h7) ?_
      refine x_aloadn dX10_cheapest_50 rfl ?_
      refine x_iloadn dX10_cheapest_51 rfl ?_
      obtain ⟨v8, h9, h⟩ := b1_s h
      refine z_V1 [.int x3] [.int v6] (cs_X10_368 _) (ci := 8) rfl (MK.o H0) (dep (show d + 2 + 2 + 1 ≤ (d + 5) from by omega) (Nat.le_of_ble_eq_true rfl)) dX10_cheapest_52 rfl rfl (Nat.le_of_ble_eq_true rfl) (c_X10_priceOf (d + 2) (K := K) (I := I) H0 h9) ?_
      refine x_icmp_ge 61 dX10_cheapest_55 rfl (fun hc => ?_) (fun hc => ?_)
      · have h := ifT hc h
        refine z_iinc 1 (by decide) dX10_cheapest_61 rfl rfl rfl ?_
        refine x_goto 5 dX10_cheapest_64 rfl ?_
        exact ih H0 h
      have h := ifF hc h
      refine x_iload dX10_cheapest_58 rfl ?_
      refine x_istoren dX10_cheapest_60 (Nat.le_of_ble_eq_true rfl) rfl rfl ?_
      refine z_iinc 1 (by decide) dX10_cheapest_61 rfl rfl rfl ?_
      refine x_goto 5 dX10_cheapest_64 rfl ?_
      exact ih H0 h
    have h := ifF hc h
    refine x_goto 61 dX10_cheapest_36 rfl ?_
    refine z_iinc 1 (by decide) dX10_cheapest_61 rfl rfl rfl ?_
    refine x_goto 5 dX10_cheapest_64 rfl ?_
    exact ih H0 h
noncomputable def f_X10_cheapest (I : Mem) (x0 : Nat) (x1 : Int32) (x2 : Int32) : Option (Int32) := l_X10_cheapest_5 FU I x0 x1 x2 (-1) 0
theorem c_X10_cheapest (d : Nat) {K : Kt} {I : Mem} {x0 : Nat} (H0 : MK K x0) {x1 : Int32} {x2 : Int32} {v : Int32} (h : f_X10_cheapest I x0 x1 x2 = some v) : Ct (mX10_cheapest (d + 5)) cX10_cheapest 0 0 [.ref x0, .int x1, .int x2] I K (Ro (.inl (some (.int v))) I K) := by
  refine Ct.of rfl pn_X10 (catR (catI (catI cat0))) (Nat.le_of_ble_eq_true rfl) (show X _ _ _ _ _ _ 0 [.ref x0, .int x1, .int x2, .retAddr 0, .retAddr 0] [] _ from ?_)
  unfold f_X10_cheapest at h
  refine x_iconst (-1) dX10_cheapest_0 rfl ?_
  refine x_istoren dX10_cheapest_1 (Nat.le_of_ble_eq_true rfl) rfl rfl ?_
  refine x_iconst 0 dX10_cheapest_2 rfl ?_
  refine x_istore dX10_cheapest_3 (Nat.le_of_ble_eq_true rfl) rfl rfl ?_
  exact tl_X10_cheapest_5 d FU H0 h
noncomputable def l_X10_shops_24 (I : Mem) (x0 : Nat) (x1 : Int32) (y0 : Int32) : Option (Mem) := if y0 = (-1) then (some (I)) else (b2 (f_X10_buys I x0 x1 y0) fun v3 I4 => some (I4))
theorem tl_X10_shops_24 (d : Nat) {K : Kt} : ∀ {I : Mem} {x0 : Nat} (H0 : MK K x0) {x1 : Int32} {y0 : Int32} {I9 : Mem}, l_X10_shops_24 I x0 x1 y0 = some I9 → X (mX10_shops (d + 6)) cX10_shops 0 0 I K 24 [.ref x0, .int x1, .retAddr 0, .retAddr 0] [.int y0] (Ro (.inl none) I9 K) := by
  intro I x0 H0 x1 y0 I9 h
  unfold l_X10_shops_24 at h
  refine x_istoren dX10_shops_24 (Nat.le_of_ble_eq_true rfl) rfl rfl ?_
  refine x_iloadn dX10_shops_25 rfl ?_
  refine x_iconst (-1) dX10_shops_26 rfl ?_
  refine x_icmp_ne 31 dX10_shops_27 rfl (fun hc => ?_) (fun hc => ?_)
  · have h := ifF hc h
    refine x_aloadn dX10_shops_31 rfl ?_
    refine x_iloadn dX10_shops_32 rfl ?_
    refine x_iloadn dX10_shops_33 rfl ?_
    obtain ⟨v3, I4, h5, h⟩ := b2_s h
    refine z_V1 [.int x1, .int y0] [] (cs_X10_200 _) (ci := 8) rfl (MK.o H0) (dep (show d + 1 + 4 + 1 ≤ (d + 6) from by omega) (Nat.le_of_ble_eq_true rfl)) dX10_shops_34 rfl rfl (Nat.le_of_ble_eq_true rfl) (c_X10_buys (d + 1) (K := K) (I := I) H0 h5) ?_
    refine x_istoren dX10_shops_37 (Nat.le_of_ble_eq_true rfl) rfl rfl ?_
    cases h
    exact x_vret rfl dX10_shops_38 ⟨rfl, rfl, rfl⟩
  have h := ifT hc h
  cases h
  exact x_vret rfl dX10_shops_30 ⟨rfl, rfl, rfl⟩
noncomputable def f_X10_shops (I : Mem) (x0 : Nat) (x1 : Int32) : Option (Mem) := b1 (f_X10_ofPerson I x0 x1 4) fun v1 => if v1 ≤ 0 then (l_X10_shops_24 I x0 x1 (-1)) else (b1 (f_X10_ofPerson I x0 x1 4) fun v6 => b1 (f_X10_cheapest I x0 x1 v6) fun v8 => l_X10_shops_24 I x0 x1 v8)
theorem c_X10_shops (d : Nat) {K : Kt} {I : Mem} {x0 : Nat} (H0 : MK K x0) {x1 : Int32} {I9 : Mem} (h : f_X10_shops I x0 x1 = some I9) : Ct (mX10_shops (d + 6)) cX10_shops 0 0 [.ref x0, .int x1] I K (Ro (.inl none) I9 K) := by
  refine Ct.of rfl pn_X10 (catR (catI cat0)) (Nat.le_of_ble_eq_true rfl) (show X _ _ _ _ _ _ 0 [.ref x0, .int x1, .retAddr 0, .retAddr 0] [] _ from ?_)
  unfold f_X10_shops at h
  refine x_aloadn dX10_shops_0 rfl ?_
  refine x_iloadn dX10_shops_1 rfl ?_
  refine x_iconst 4 dX10_shops_2 rfl ?_
  obtain ⟨v1, h2, h⟩ := b1_s h
  refine z_V1 [.int x1, .int 4] [] (cs_X10_141 _) (ci := 8) rfl (MK.o H0) (dep (show d + 5 + 0 + 1 ≤ (d + 6) from by omega) (Nat.le_of_ble_eq_true rfl)) dX10_shops_3 rfl rfl (Nat.le_of_ble_eq_true rfl) (c_X10_ofPerson (d + 5) (K := K) (I := I) H0 h2) ?_
  refine x_if_le 23 dX10_shops_6 rfl (fun hc => ?_) (fun hc => ?_)
  · have h := ifT hc h
    refine x_iconst (-1) dX10_shops_23 rfl ?_
    exact tl_X10_shops_24 d H0 h
  have h := ifF hc h
  refine x_aloadn dX10_shops_9 rfl ?_
  refine x_iloadn dX10_shops_10 rfl ?_
  refine x_aloadn dX10_shops_11 rfl ?_
  refine x_iloadn dX10_shops_12 rfl ?_
  refine x_iconst 4 dX10_shops_13 rfl ?_
  obtain ⟨v6, h7, h⟩ := b1_s h
  refine z_V1 [.int x1, .int 4] [.int x1, .ref x0] (cs_X10_141 _) (ci := 8) rfl (MK.o H0) (dep (show d + 5 + 0 + 1 ≤ (d + 6) from by omega) (Nat.le_of_ble_eq_true rfl)) dX10_shops_14 rfl rfl (Nat.le_of_ble_eq_true rfl) (c_X10_ofPerson (d + 5) (K := K) (I := I) H0 h7) ?_
  obtain ⟨v8, h9, h⟩ := b1_s h
  refine z_V1 [.int x1, .int v6] [] (cs_X10_398 _) (ci := 8) rfl (MK.o H0) (dep (show d + 0 + 5 + 1 ≤ (d + 6) from by omega) (Nat.le_of_ble_eq_true rfl)) dX10_shops_17 rfl rfl (Nat.le_of_ble_eq_true rfl) (c_X10_cheapest d (K := K) (I := I) H0 h9) ?_
  refine x_goto 24 dX10_shops_20 rfl ?_
  exact tl_X10_shops_24 d H0 h
noncomputable def l_X10_wears_17 (I : Mem) (x0 : Nat) (x1 : Int32) : Option (Mem) := b1 (f_X10_ofWish I x0 x1 2) fun v3 => b1 (f_X10_putsWish I x0 x1 2 (v3 + 1)) fun I5 => b1 (f_X10_ofWish I5 x0 x1 2) fun v7 => if v7 = 10 then (b1 (f_X10_goesTo I5 x0 x1 3 (-1)) fun I9 => some (I9)) else (some (I5))
theorem tl_X10_wears_17 (d : Nat) {K : Kt} : ∀ {I : Mem} {x0 : Nat} (H0 : MK K x0) {x1 : Int32} {I9 : Mem}, l_X10_wears_17 I x0 x1 = some I9 → X (mX10_wears (d + 3)) cX10_wears 0 0 I K 17 [.ref x0, .int x1] [] (Ro (.inl none) I9 K) := by
  intro I x0 H0 x1 I9 h
  unfold l_X10_wears_17 at h
  refine x_aloadn dX10_wears_17 rfl ?_
  refine x_iloadn dX10_wears_18 rfl ?_
  refine x_iconst 2 dX10_wears_19 rfl ?_
  refine x_aloadn dX10_wears_20 rfl ?_
  refine x_iloadn dX10_wears_21 rfl ?_
  refine x_iconst 2 dX10_wears_22 rfl ?_
  obtain ⟨v3, h4, h⟩ := b1_s h
  refine z_V1 [.int x1, .int 2] [.int 2, .int x1, .ref x0] (cs_X10_224 _) (ci := 8) rfl (MK.o H0) (dep (show d + 2 + 0 + 1 ≤ (d + 3) from by omega) (Nat.le_of_ble_eq_true rfl)) dX10_wears_23 rfl rfl (Nat.le_of_ble_eq_true rfl) (c_X10_ofWish (d + 2) (K := K) (I := I) H0 h4) ?_
  refine x_iconst 1 dX10_wears_26 rfl ?_
  refine x_iadd dX10_wears_27 ?_
  obtain ⟨I5, h6, h⟩ := b1_s h
  refine z_V0 [.int x1, .int 2, .int (v3 + 1)] [] (cs_X10_180 _) (ci := 8) rfl (MK.o H0) (dep (show d + 2 + 0 + 1 ≤ (d + 3) from by omega) (Nat.le_of_ble_eq_true rfl)) dX10_wears_28 rfl rfl (Nat.le_of_ble_eq_true rfl) (c_X10_putsWish (d + 2) (K := K) (I := I) H0 h6) ?_
  refine x_aloadn dX10_wears_31 rfl ?_
  refine x_iloadn dX10_wears_32 rfl ?_
  refine x_iconst 2 dX10_wears_33 rfl ?_
  obtain ⟨v7, h8, h⟩ := b1_s h
  refine z_V1 [.int x1, .int 2] [] (cs_X10_224 _) (ci := 8) rfl (MK.o H0) (dep (show d + 2 + 0 + 1 ≤ (d + 3) from by omega) (Nat.le_of_ble_eq_true rfl)) dX10_wears_34 rfl rfl (Nat.le_of_ble_eq_true rfl) (c_X10_ofWish (d + 2) (K := K) (I := I5) H0 h8) ?_
  refine x_bipush 10 dX10_wears_37 rfl ?_
  refine x_icmp_ne 49 dX10_wears_39 rfl (fun hc => ?_) (fun hc => ?_)
  · have h := ifF hc h
    cases h
    exact x_vret rfl dX10_wears_49 ⟨rfl, rfl, rfl⟩
  have h := ifT hc h
  refine x_aloadn dX10_wears_42 rfl ?_
  refine x_iloadn dX10_wears_43 rfl ?_
  refine x_iconst 3 dX10_wears_44 rfl ?_
  refine x_iconst (-1) dX10_wears_45 rfl ?_
  obtain ⟨I9, h10, h⟩ := b1_s h
  refine z_V0 [.int x1, .int 3, .int (-1)] [] (cs_X10_383 _) (ci := 8) rfl (MK.o H0) (dep (show d + 0 + 2 + 1 ≤ (d + 3) from by omega) (Nat.le_of_ble_eq_true rfl)) dX10_wears_46 rfl rfl (Nat.le_of_ble_eq_true rfl) (c_X10_goesTo d (K := K) (I := I5) H0 h10) ?_
  cases h
  exact x_vret rfl dX10_wears_49 ⟨rfl, rfl, rfl⟩
noncomputable def f_X10_wears (I : Mem) (x0 : Nat) (x1 : Int32) : Option (Mem) := b1 (f_X10_isOwned I x0 x1) fun v1 => if v1 = 0 then (b1 (f_X10_isInStall I x0 x1) fun v11 => if v11 = 0 then (some (I)) else (l_X10_wears_17 I x0 x1)) else (l_X10_wears_17 I x0 x1)
theorem c_X10_wears (d : Nat) {K : Kt} {I : Mem} {x0 : Nat} (H0 : MK K x0) {x1 : Int32} {I9 : Mem} (h : f_X10_wears I x0 x1 = some I9) : Ct (mX10_wears (d + 3)) cX10_wears 0 0 [.ref x0, .int x1] I K (Ro (.inl none) I9 K) := by
  refine Ct.of rfl pn_X10 (catR (catI cat0)) (Nat.le_of_ble_eq_true rfl) (show X _ _ _ _ _ _ 0 [.ref x0, .int x1] [] _ from ?_)
  unfold f_X10_wears at h
  refine x_aloadn dX10_wears_0 rfl ?_
  refine x_iloadn dX10_wears_1 rfl ?_
  obtain ⟨v1, h2, h⟩ := b1_s h
  refine z_V1 [.int x1] [] (cs_X10_221 _) (ci := 8) rfl (MK.o H0) (dep (show d + 1 + 1 + 1 ≤ (d + 3) from by omega) (Nat.le_of_ble_eq_true rfl)) dX10_wears_2 rfl rfl (Nat.le_of_ble_eq_true rfl) (c_X10_isOwned (d + 1) (K := K) (I := I) H0 h2) ?_
  refine x_if_ne 17 dX10_wears_5 rfl (fun hc => ?_) (fun hc => ?_)
  · have h := ifF hc h
    exact tl_X10_wears_17 d H0 h
  have h := ifT hc h
  refine x_aloadn dX10_wears_8 rfl ?_
  refine x_iloadn dX10_wears_9 rfl ?_
  obtain ⟨v11, h12, h⟩ := b1_s h
  refine z_V1 [.int x1] [] (cs_X10_350 _) (ci := 8) rfl (MK.o H0) (dep (show d + 1 + 1 + 1 ≤ (d + 3) from by omega) (Nat.le_of_ble_eq_true rfl)) dX10_wears_10 rfl rfl (Nat.le_of_ble_eq_true rfl) (c_X10_isInStall (d + 1) (K := K) (I := I) H0 h12) ?_
  refine x_if_ne 17 dX10_wears_13 rfl (fun hc => ?_) (fun hc => ?_)
  · have h := ifF hc h
    exact tl_X10_wears_17 d H0 h
  have h := ifT hc h
  cases h
  exact x_vret rfl dX10_wears_16 ⟨rfl, rfl, rfl⟩
noncomputable def l_X10_passes_164 (n : Nat) (I : Mem) (x0 : Nat) (x1 : Int32) : Option (Mem) := match n with
  | 0 => none
  | n + 1 => b1 (ix 4 355) fun j9 => if (I (x0 + 1) j9) ≤ x1 then (some (I)) else (b1 (f_X10_today I x0) fun v10 => if v10 = 0 then (b1 (f_X10_wears I x0 x1) fun I12 => l_X10_passes_164 n I12 x0 (x1 + 1)) else (some (I)))
theorem tl_X10_passes_164 (d : Nat) {K : Kt} (n : Nat) : ∀ {I : Mem} {x0 : Nat} (H0 : MK K x0) {x1 : Int32} {I9 : Mem}, l_X10_passes_164 n I x0 x1 = some I9 → X (mX10_passes (d + 8)) cX10_passes 0 0 I K 164 [.ref x0, .int x1] [] (Ro (.inl none) I9 K) := by
  induction n with
  | zero =>
    intro I x0 H0 x1 I9 h
    cases h
  | succ n ih =>
    intro I x0 H0 x1 I9 h
    unfold l_X10_passes_164 at h
    refine x_iloadn dX10_passes_164 rfl ?_
    refine x_aloadn dX10_passes_165 rfl ?_
    refine z_getR fs_X10_9 (MK.o H0) (MK.g1 H0) dX10_passes_166 ?_
    refine x_iconst 4 dX10_passes_169 rfl ?_
    obtain ⟨j9, hj9, h⟩ := b1_s h
    refine z_iald (MK.l1 H0) hj9 dX10_passes_170 ?_
    refine x_icmp_ge 192 dX10_passes_171 rfl (fun hc => ?_) (fun hc => ?_)
    · have h := ifT hc h
      cases h
      exact x_vret rfl dX10_passes_192 ⟨rfl, rfl, rfl⟩
    have h := ifF hc h
    refine x_aloadn dX10_passes_174 rfl ?_
    obtain ⟨v10, h11, h⟩ := b1_s h
    refine z_V1 [] [] (cs_X10_377 _) (ci := 8) rfl (MK.o H0) (dep (show d + 7 + 0 + 1 ≤ (d + 8) from by omega) (Nat.le_of_ble_eq_true rfl)) dX10_passes_175 rfl rfl (Nat.le_of_ble_eq_true rfl) (c_X10_today (d + 7) (K := K) (I := I) H0 h11) ?_
    refine x_if_ne 192 dX10_passes_178 rfl (fun hc => ?_) (fun hc => ?_)
    · have h := ifF hc h
      cases h
      exact x_vret rfl dX10_passes_192 ⟨rfl, rfl, rfl⟩
    have h := ifT hc h
    refine x_aloadn dX10_passes_181 rfl ?_
    refine x_iloadn dX10_passes_182 rfl ?_
    obtain ⟨I12, h13, h⟩ := b1_s h
    refine z_V0 [.int x1] [] (cs_X10_434 _) (ci := 8) rfl (MK.o H0) (dep (show d + 4 + 3 + 1 ≤ (d + 8) from by omega) (Nat.le_of_ble_eq_true rfl)) dX10_passes_183 rfl rfl (Nat.le_of_ble_eq_true rfl) (c_X10_wears (d + 4) (K := K) (I := I) H0 h13) ?_
    refine z_iinc 1 (by decide) dX10_passes_186 rfl rfl rfl ?_
    refine x_goto 164 dX10_passes_189 rfl ?_
    exact ih H0 h
noncomputable def l_X10_passes_152 (I : Mem) (x0 : Nat) : Option (Mem) := b1 (ix 1 355) fun j6 => b1 (ix 1 355) fun j7 => b1 (pu I (x0 + 1) j7 ((I (x0 + 1) j6) + 1)) fun I8 => l_X10_passes_164 FU I8 x0 0
theorem tl_X10_passes_152 (d : Nat) {K : Kt} : ∀ {I : Mem} {x0 : Nat} (H0 : MK K x0) {I9 : Mem}, l_X10_passes_152 I x0 = some I9 → X (mX10_passes (d + 8)) cX10_passes 0 0 I K 152 [.ref x0, .retAddr 0] [] (Ro (.inl none) I9 K) := by
  intro I x0 H0 I9 h
  unfold l_X10_passes_152 at h
  refine x_aloadn dX10_passes_152 rfl ?_
  refine z_getR fs_X10_9 (MK.o H0) (MK.g1 H0) dX10_passes_153 ?_
  refine x_iconst 1 dX10_passes_156 rfl ?_
  refine x_dup2 dX10_passes_157 rfl rfl ?_
  obtain ⟨j6, hj6, h⟩ := b1_s h
  refine z_iald (MK.l1 H0) hj6 dX10_passes_158 ?_
  refine x_iconst 1 dX10_passes_159 rfl ?_
  refine x_iadd dX10_passes_160 ?_
  obtain ⟨j7, hj7, h⟩ := b1_s h
  obtain ⟨I8, hI8, h⟩ := b1_s h
  refine z_iast (MK.l1 H0) hj7 hI8 dX10_passes_161 ?_
  refine x_iconst 0 dX10_passes_162 rfl ?_
  refine x_istoren dX10_passes_163 (Nat.le_of_ble_eq_true rfl) rfl rfl ?_
  exact tl_X10_passes_164 d FU H0 h
noncomputable def l_X10_passes_108 (n : Nat) (I : Mem) (x0 : Nat) (x1 : Int32) : Option (Mem) := match n with
  | 0 => none
  | n + 1 => b1 (ix 2 355) fun j5 => if (I (x0 + 1) j5) ≤ x1 then (l_X10_passes_152 I x0) else (b1 (ix 3 355) fun j14 => if (I (x0 + 1) j14) ≤ 0 then (l_X10_passes_152 I x0) else (b1 (f_X10_today I x0) fun v15 => b1 (ix 9 355) fun j17 => if v15 = (I (x0 + 1) j17) then (b1 (f_X10_paysTax I x0 x1) fun I18 => l_X10_passes_108 n I18 x0 (x1 + 1)) else (l_X10_passes_152 I x0)))
theorem tl_X10_passes_108 (d : Nat) {K : Kt} (n : Nat) : ∀ {I : Mem} {x0 : Nat} (H0 : MK K x0) {x1 : Int32} {I9 : Mem}, l_X10_passes_108 n I x0 x1 = some I9 → X (mX10_passes (d + 8)) cX10_passes 0 0 I K 108 [.ref x0, .int x1] [] (Ro (.inl none) I9 K) := by
  induction n with
  | zero =>
    intro I x0 H0 x1 I9 h
    cases h
  | succ n ih =>
    intro I x0 H0 x1 I9 h
    unfold l_X10_passes_108 at h
    refine x_iloadn dX10_passes_108 rfl ?_
    refine x_aloadn dX10_passes_109 rfl ?_
    refine z_getR fs_X10_9 (MK.o H0) (MK.g1 H0) dX10_passes_110 ?_
    refine x_iconst 2 dX10_passes_113 rfl ?_
    obtain ⟨j5, hj5, h⟩ := b1_s h
    refine z_iald (MK.l1 H0) hj5 dX10_passes_114 ?_
    refine x_icmp_ge 152 dX10_passes_115 rfl (fun hc => ?_) (fun hc => ?_)
    · have h := ifT hc h
      exact X.forget (L' := [.ref x0, .retAddr 0]) ⟨Or.inl rfl, ⟨Or.inr rfl, trivial⟩⟩ (tl_X10_passes_152 d H0 h)
    have h := ifF hc h
    refine x_aloadn dX10_passes_118 rfl ?_
    refine z_getR fs_X10_9 (MK.o H0) (MK.g1 H0) dX10_passes_119 ?_
    refine x_iconst 3 dX10_passes_122 rfl ?_
    obtain ⟨j14, hj14, h⟩ := b1_s h
    refine z_iald (MK.l1 H0) hj14 dX10_passes_123 ?_
    refine x_if_le 152 dX10_passes_124 rfl (fun hc => ?_) (fun hc => ?_)
    · have h := ifT hc h
      exact X.forget (L' := [.ref x0, .retAddr 0]) ⟨Or.inl rfl, ⟨Or.inr rfl, trivial⟩⟩ (tl_X10_passes_152 d H0 h)
    have h := ifF hc h
    refine x_aloadn dX10_passes_127 rfl ?_
    obtain ⟨v15, h16, h⟩ := b1_s h
    refine z_V1 [] [] (cs_X10_377 _) (ci := 8) rfl (MK.o H0) (dep (show d + 7 + 0 + 1 ≤ (d + 8) from by omega) (Nat.le_of_ble_eq_true rfl)) dX10_passes_128 rfl rfl (Nat.le_of_ble_eq_true rfl) (c_X10_today (d + 7) (K := K) (I := I) H0 h16) ?_
    refine x_aloadn dX10_passes_131 rfl ?_
    refine z_getR fs_X10_9 (MK.o H0) (MK.g1 H0) dX10_passes_132 ?_
    refine x_bipush 9 dX10_passes_135 rfl ?_
    obtain ⟨j17, hj17, h⟩ := b1_s h
    refine z_iald (MK.l1 H0) hj17 dX10_passes_137 ?_
    refine x_icmp_ne 152 dX10_passes_138 rfl (fun hc => ?_) (fun hc => ?_)
    · have h := ifF hc h
      exact X.forget (L' := [.ref x0, .retAddr 0]) ⟨Or.inl rfl, ⟨Or.inr rfl, trivial⟩⟩ (tl_X10_passes_152 d H0 h)
    have h := ifT hc h
    refine x_aloadn dX10_passes_141 rfl ?_
    refine x_iloadn dX10_passes_142 rfl ?_
    obtain ⟨I18, h19, h⟩ := b1_s h
    refine z_V0 [.int x1] [] (cs_X10_431 _) (ci := 8) rfl (MK.o H0) (dep (show d + 5 + 2 + 1 ≤ (d + 8) from by omega) (Nat.le_of_ble_eq_true rfl)) dX10_passes_143 rfl rfl (Nat.le_of_ble_eq_true rfl) (c_X10_paysTax (d + 5) (K := K) (I := I) H0 h19) ?_
    refine z_iinc 1 (by decide) dX10_passes_146 rfl rfl rfl ?_
    refine x_goto 108 dX10_passes_149 rfl ?_
    exact ih H0 h
noncomputable def l_X10_passes_71 (n : Nat) (I : Mem) (x0 : Nat) (x1 : Int32) : Option (Mem) := match n with
  | 0 => none
  | n + 1 => b1 (ix 3 355) fun j4 => if (I (x0 + 1) j4) ≤ x1 then (l_X10_passes_108 FU I x0 0) else (b1 (f_X10_today I x0) fun v20 => b1 (ix 8 355) fun j22 => if v20 = (I (x0 + 1) j22) then (b1 (f_X10_auctions I x0 x1) fun I23 => l_X10_passes_71 n I23 x0 (x1 + 1)) else (l_X10_passes_108 FU I x0 0))
theorem tl_X10_passes_71 (d : Nat) {K : Kt} (n : Nat) : ∀ {I : Mem} {x0 : Nat} (H0 : MK K x0) {x1 : Int32} {I9 : Mem}, l_X10_passes_71 n I x0 x1 = some I9 → X (mX10_passes (d + 8)) cX10_passes 0 0 I K 71 [.ref x0, .int x1] [] (Ro (.inl none) I9 K) := by
  induction n with
  | zero =>
    intro I x0 H0 x1 I9 h
    cases h
  | succ n ih =>
    intro I x0 H0 x1 I9 h
    unfold l_X10_passes_71 at h
    refine x_iloadn dX10_passes_71 rfl ?_
    refine x_aloadn dX10_passes_72 rfl ?_
    refine z_getR fs_X10_9 (MK.o H0) (MK.g1 H0) dX10_passes_73 ?_
    refine x_iconst 3 dX10_passes_76 rfl ?_
    obtain ⟨j4, hj4, h⟩ := b1_s h
    refine z_iald (MK.l1 H0) hj4 dX10_passes_77 ?_
    refine x_icmp_ge 106 dX10_passes_78 rfl (fun hc => ?_) (fun hc => ?_)
    · have h := ifT hc h
      refine x_iconst 0 dX10_passes_106 rfl ?_
      refine x_istoren dX10_passes_107 (Nat.le_of_ble_eq_true rfl) rfl rfl ?_
      exact tl_X10_passes_108 d FU H0 h
    have h := ifF hc h
    refine x_aloadn dX10_passes_81 rfl ?_
    obtain ⟨v20, h21, h⟩ := b1_s h
    refine z_V1 [] [] (cs_X10_377 _) (ci := 8) rfl (MK.o H0) (dep (show d + 7 + 0 + 1 ≤ (d + 8) from by omega) (Nat.le_of_ble_eq_true rfl)) dX10_passes_82 rfl rfl (Nat.le_of_ble_eq_true rfl) (c_X10_today (d + 7) (K := K) (I := I) H0 h21) ?_
    refine x_aloadn dX10_passes_85 rfl ?_
    refine z_getR fs_X10_9 (MK.o H0) (MK.g1 H0) dX10_passes_86 ?_
    refine x_bipush 8 dX10_passes_89 rfl ?_
    obtain ⟨j22, hj22, h⟩ := b1_s h
    refine z_iald (MK.l1 H0) hj22 dX10_passes_91 ?_
    refine x_icmp_ne 106 dX10_passes_92 rfl (fun hc => ?_) (fun hc => ?_)
    · have h := ifF hc h
      refine x_iconst 0 dX10_passes_106 rfl ?_
      refine x_istoren dX10_passes_107 (Nat.le_of_ble_eq_true rfl) rfl rfl ?_
      exact tl_X10_passes_108 d FU H0 h
    have h := ifT hc h
    refine x_aloadn dX10_passes_95 rfl ?_
    refine x_iloadn dX10_passes_96 rfl ?_
    obtain ⟨I23, h24, h⟩ := b1_s h
    refine z_V0 [.int x1] [] (cs_X10_428 _) (ci := 8) rfl (MK.o H0) (dep (show d + 2 + 5 + 1 ≤ (d + 8) from by omega) (Nat.le_of_ble_eq_true rfl)) dX10_passes_97 rfl rfl (Nat.le_of_ble_eq_true rfl) (c_X10_auctions (d + 2) (K := K) (I := I) H0 h24) ?_
    refine z_iinc 1 (by decide) dX10_passes_100 rfl rfl rfl ?_
    refine x_goto 71 dX10_passes_103 rfl ?_
    exact ih H0 h
noncomputable def l_X10_passes_48 (n : Nat) (I : Mem) (x0 : Nat) (x1 : Int32) : Option (Mem) := match n with
  | 0 => none
  | n + 1 => b1 (ix 2 355) fun j3 => if (I (x0 + 1) j3) ≤ x1 then (l_X10_passes_71 FU I x0 0) else (b1 (f_X10_bargainsOnce I x0 x1) fun I25 => l_X10_passes_48 n I25 x0 (x1 + 1))
theorem tl_X10_passes_48 (d : Nat) {K : Kt} (n : Nat) : ∀ {I : Mem} {x0 : Nat} (H0 : MK K x0) {x1 : Int32} {I9 : Mem}, l_X10_passes_48 n I x0 x1 = some I9 → X (mX10_passes (d + 8)) cX10_passes 0 0 I K 48 [.ref x0, .int x1] [] (Ro (.inl none) I9 K) := by
  induction n with
  | zero =>
    intro I x0 H0 x1 I9 h
    cases h
  | succ n ih =>
    intro I x0 H0 x1 I9 h
    unfold l_X10_passes_48 at h
    refine x_iloadn dX10_passes_48 rfl ?_
    refine x_aloadn dX10_passes_49 rfl ?_
    refine z_getR fs_X10_9 (MK.o H0) (MK.g1 H0) dX10_passes_50 ?_
    refine x_iconst 2 dX10_passes_53 rfl ?_
    obtain ⟨j3, hj3, h⟩ := b1_s h
    refine z_iald (MK.l1 H0) hj3 dX10_passes_54 ?_
    refine x_icmp_ge 69 dX10_passes_55 rfl (fun hc => ?_) (fun hc => ?_)
    · have h := ifT hc h
      refine x_iconst 0 dX10_passes_69 rfl ?_
      refine x_istoren dX10_passes_70 (Nat.le_of_ble_eq_true rfl) rfl rfl ?_
      exact tl_X10_passes_71 d FU H0 h
    have h := ifF hc h
    refine x_aloadn dX10_passes_58 rfl ?_
    refine x_iloadn dX10_passes_59 rfl ?_
    obtain ⟨I25, h26, h⟩ := b1_s h
    refine z_V0 [.int x1] [] (cs_X10_425 _) (ci := 8) rfl (MK.o H0) (dep (show d + 0 + 7 + 1 ≤ (d + 8) from by omega) (Nat.le_of_ble_eq_true rfl)) dX10_passes_60 rfl rfl (Nat.le_of_ble_eq_true rfl) (c_X10_bargainsOnce d (K := K) (I := I) H0 h26) ?_
    refine z_iinc 1 (by decide) dX10_passes_63 rfl rfl rfl ?_
    refine x_goto 48 dX10_passes_66 rfl ?_
    exact ih H0 h
noncomputable def l_X10_passes_25 (n : Nat) (I : Mem) (x0 : Nat) (x1 : Int32) : Option (Mem) := match n with
  | 0 => none
  | n + 1 => b1 (ix 2 355) fun j2 => if (I (x0 + 1) j2) ≤ x1 then (l_X10_passes_48 FU I x0 0) else (b1 (f_X10_shops I x0 x1) fun I27 => l_X10_passes_25 n I27 x0 (x1 + 1))
theorem tl_X10_passes_25 (d : Nat) {K : Kt} (n : Nat) : ∀ {I : Mem} {x0 : Nat} (H0 : MK K x0) {x1 : Int32} {I9 : Mem}, l_X10_passes_25 n I x0 x1 = some I9 → X (mX10_passes (d + 8)) cX10_passes 0 0 I K 25 [.ref x0, .int x1] [] (Ro (.inl none) I9 K) := by
  induction n with
  | zero =>
    intro I x0 H0 x1 I9 h
    cases h
  | succ n ih =>
    intro I x0 H0 x1 I9 h
    unfold l_X10_passes_25 at h
    refine x_iloadn dX10_passes_25 rfl ?_
    refine x_aloadn dX10_passes_26 rfl ?_
    refine z_getR fs_X10_9 (MK.o H0) (MK.g1 H0) dX10_passes_27 ?_
    refine x_iconst 2 dX10_passes_30 rfl ?_
    obtain ⟨j2, hj2, h⟩ := b1_s h
    refine z_iald (MK.l1 H0) hj2 dX10_passes_31 ?_
    refine x_icmp_ge 46 dX10_passes_32 rfl (fun hc => ?_) (fun hc => ?_)
    · have h := ifT hc h
      refine x_iconst 0 dX10_passes_46 rfl ?_
      refine x_istoren dX10_passes_47 (Nat.le_of_ble_eq_true rfl) rfl rfl ?_
      exact tl_X10_passes_48 d FU H0 h
    have h := ifF hc h
    refine x_aloadn dX10_passes_35 rfl ?_
    refine x_iloadn dX10_passes_36 rfl ?_
    obtain ⟨I27, h28, h⟩ := b1_s h
    refine z_V0 [.int x1] [] (cs_X10_422 _) (ci := 8) rfl (MK.o H0) (dep (show d + 1 + 6 + 1 ≤ (d + 8) from by omega) (Nat.le_of_ble_eq_true rfl)) dX10_passes_37 rfl rfl (Nat.le_of_ble_eq_true rfl) (c_X10_shops (d + 1) (K := K) (I := I) H0 h28) ?_
    refine z_iinc 1 (by decide) dX10_passes_40 rfl rfl rfl ?_
    refine x_goto 25 dX10_passes_43 rfl ?_
    exact ih H0 h
noncomputable def l_X10_passes_2 (n : Nat) (I : Mem) (x0 : Nat) (x1 : Int32) : Option (Mem) := match n with
  | 0 => none
  | n + 1 => b1 (ix 2 355) fun j1 => if (I (x0 + 1) j1) ≤ x1 then (l_X10_passes_25 FU I x0 0) else (b1 (f_X10_celebrates I x0 x1) fun I29 => l_X10_passes_2 n I29 x0 (x1 + 1))
theorem tl_X10_passes_2 (d : Nat) {K : Kt} (n : Nat) : ∀ {I : Mem} {x0 : Nat} (H0 : MK K x0) {x1 : Int32} {I9 : Mem}, l_X10_passes_2 n I x0 x1 = some I9 → X (mX10_passes (d + 8)) cX10_passes 0 0 I K 2 [.ref x0, .int x1] [] (Ro (.inl none) I9 K) := by
  induction n with
  | zero =>
    intro I x0 H0 x1 I9 h
    cases h
  | succ n ih =>
    intro I x0 H0 x1 I9 h
    unfold l_X10_passes_2 at h
    refine x_iloadn dX10_passes_2 rfl ?_
    refine x_aloadn dX10_passes_3 rfl ?_
    refine z_getR fs_X10_9 (MK.o H0) (MK.g1 H0) dX10_passes_4 ?_
    refine x_iconst 2 dX10_passes_7 rfl ?_
    obtain ⟨j1, hj1, h⟩ := b1_s h
    refine z_iald (MK.l1 H0) hj1 dX10_passes_8 ?_
    refine x_icmp_ge 23 dX10_passes_9 rfl (fun hc => ?_) (fun hc => ?_)
    · have h := ifT hc h
      refine x_iconst 0 dX10_passes_23 rfl ?_
      refine x_istoren dX10_passes_24 (Nat.le_of_ble_eq_true rfl) rfl rfl ?_
      exact tl_X10_passes_25 d FU H0 h
    have h := ifF hc h
    refine x_aloadn dX10_passes_12 rfl ?_
    refine x_iloadn dX10_passes_13 rfl ?_
    obtain ⟨I29, h30, h⟩ := b1_s h
    refine z_V0 [.int x1] [] (cs_X10_419 _) (ci := 8) rfl (MK.o H0) (dep (show d + 3 + 4 + 1 ≤ (d + 8) from by omega) (Nat.le_of_ble_eq_true rfl)) dX10_passes_14 rfl rfl (Nat.le_of_ble_eq_true rfl) (c_X10_celebrates (d + 3) (K := K) (I := I) H0 h30) ?_
    refine z_iinc 1 (by decide) dX10_passes_17 rfl rfl rfl ?_
    refine x_goto 2 dX10_passes_20 rfl ?_
    exact ih H0 h
noncomputable def f_X10_passes (I : Mem) (x0 : Nat) : Option (Mem) := l_X10_passes_2 FU I x0 0
theorem c_X10_passes (d : Nat) {K : Kt} {I : Mem} {x0 : Nat} (H0 : MK K x0) {I9 : Mem} (h : f_X10_passes I x0 = some I9) : Ct (mX10_passes (d + 8)) cX10_passes 0 0 [.ref x0] I K (Ro (.inl none) I9 K) := by
  refine Ct.of rfl pn_X10 (catR cat0) (Nat.le_of_ble_eq_true rfl) (show X _ _ _ _ _ _ 0 [.ref x0, .retAddr 0] [] _ from ?_)
  unfold f_X10_passes at h
  refine x_iconst 0 dX10_passes_0 rfl ?_
  refine x_istoren dX10_passes_1 (Nat.le_of_ble_eq_true rfl) rfl rfl ?_
  exact tl_X10_passes_2 d FU H0 h
noncomputable def l_X10_passesMany_2 (n : Nat) (I : Mem) (x0 : Nat) (x1 : Int32) (x2 : Int32) : Option (Mem) := match n with
  | 0 => none
  | n + 1 => if x1 ≤ x2 then (some (I)) else (b1 (f_X10_passes I x0) fun I1 => l_X10_passesMany_2 n I1 x0 x1 (x2 + 1))
theorem tl_X10_passesMany_2 (d : Nat) {K : Kt} (n : Nat) : ∀ {I : Mem} {x0 : Nat} (H0 : MK K x0) {x1 : Int32} {x2 : Int32} {I9 : Mem}, l_X10_passesMany_2 n I x0 x1 x2 = some I9 → X (mX10_passesMany (d + 9)) cX10_passesMany 0 0 I K 2 [.ref x0, .int x1, .int x2] [] (Ro (.inl none) I9 K) := by
  induction n with
  | zero =>
    intro I x0 H0 x1 x2 I9 h
    cases h
  | succ n ih =>
    intro I x0 H0 x1 x2 I9 h
    unfold l_X10_passesMany_2 at h
    refine x_iloadn dX10_passesMany_2 rfl ?_
    refine x_iloadn dX10_passesMany_3 rfl ?_
    refine x_icmp_ge 17 dX10_passesMany_4 rfl (fun hc => ?_) (fun hc => ?_)
    · have h := ifT hc h
      cases h
      exact x_vret rfl dX10_passesMany_17 ⟨rfl, rfl, rfl⟩
    have h := ifF hc h
    refine x_aloadn dX10_passesMany_7 rfl ?_
    obtain ⟨I1, h2, h⟩ := b1_s h
    refine z_V0 [] [] (cs_X10_437 _) (ci := 8) rfl (MK.o H0) (dep (show d + 0 + 8 + 1 ≤ (d + 9) from by omega) (Nat.le_of_ble_eq_true rfl)) dX10_passesMany_8 rfl rfl (Nat.le_of_ble_eq_true rfl) (c_X10_passes d (K := K) (I := I) H0 h2) ?_
    refine z_iinc 1 (by decide) dX10_passesMany_11 rfl rfl rfl ?_
    refine x_goto 2 dX10_passesMany_14 rfl ?_
    exact ih H0 h
noncomputable def f_X10_passesMany (I : Mem) (x0 : Nat) (x1 : Int32) : Option (Mem) := l_X10_passesMany_2 FU I x0 x1 0
theorem c_X10_passesMany (d : Nat) {K : Kt} {I : Mem} {x0 : Nat} (H0 : MK K x0) {x1 : Int32} {I9 : Mem} (h : f_X10_passesMany I x0 x1 = some I9) : Ct (mX10_passesMany (d + 9)) cX10_passesMany 0 0 [.ref x0, .int x1] I K (Ro (.inl none) I9 K) := by
  refine Ct.of rfl pn_X10 (catR (catI cat0)) (Nat.le_of_ble_eq_true rfl) (show X _ _ _ _ _ _ 0 [.ref x0, .int x1, .retAddr 0] [] _ from ?_)
  unfold f_X10_passesMany at h
  refine x_iconst 0 dX10_passesMany_0 rfl ?_
  refine x_istoren dX10_passesMany_1 (Nat.le_of_ble_eq_true rfl) rfl rfl ?_
  exact tl_X10_passesMany_2 d FU H0 h
noncomputable def l_X10_readsAdvance_37 (I : Mem) (x0 : Nat) (x1 : Int32) : Option (Mem) := b1 (f_X10_goes I x0) fun I6 => if (I6 x0 10) ≤ 0 then (b1 (pu I6 x0 18 ((I6 x0 18) + x1)) fun I8 => b1 (f_X10_passesMany I8 x0 x1) fun I9 => some (I9)) else (some (I6))
theorem tl_X10_readsAdvance_37 (d : Nat) {K : Kt} : ∀ {I : Mem} {x0 : Nat} (H0 : MK K x0) {x1 : Int32} {I9 : Mem}, l_X10_readsAdvance_37 I x0 x1 = some I9 → X (mX10_readsAdvance (d + 10)) cX10_readsAdvance 0 0 I K 37 [.ref x0, .int x1] [] (Ro (.inl none) I9 K) := by
  intro I x0 H0 x1 I9 h
  unfold l_X10_readsAdvance_37 at h
  refine x_aloadn dX10_readsAdvance_37 rfl ?_
  obtain ⟨I6, h7, h⟩ := b1_s h
  refine z_V0 [] [] (cs_X10_115 _) (ci := 8) rfl (MK.o H0) (dep (show d + 7 + 2 + 1 ≤ (d + 10) from by omega) (Nat.le_of_ble_eq_true rfl)) dX10_readsAdvance_38 rfl rfl (Nat.le_of_ble_eq_true rfl) (c_X10_goes (d + 7) (K := K) (I := I) H0 h7) ?_
  refine x_aloadn dX10_readsAdvance_41 rfl ?_
  refine z_getI fs_X10_59 (MK.o H0) dX10_readsAdvance_42 ?_
  refine x_if_le 49 dX10_readsAdvance_45 rfl (fun hc => ?_) (fun hc => ?_)
  · have h := ifT hc h
    refine x_aloadn dX10_readsAdvance_49 rfl ?_
    refine x_dup dX10_readsAdvance_50 rfl ?_
    refine z_getI fs_X10_227 (MK.o H0) dX10_readsAdvance_51 ?_
    refine x_iloadn dX10_readsAdvance_54 rfl ?_
    refine x_iadd dX10_readsAdvance_55 ?_
    obtain ⟨I8, hI8, h⟩ := b1_s h
    refine z_putI fs_X10_227 (MK.o H0) hI8 dX10_readsAdvance_56 ?_
    refine x_aloadn dX10_readsAdvance_59 rfl ?_
    refine x_iloadn dX10_readsAdvance_60 rfl ?_
    obtain ⟨I9, h10, h⟩ := b1_s h
    refine z_V0 [.int x1] [] (cs_X10_230 _) (ci := 8) rfl (MK.o H0) (dep (show d + 0 + 9 + 1 ≤ (d + 10) from by omega) (Nat.le_of_ble_eq_true rfl)) dX10_readsAdvance_61 rfl rfl (Nat.le_of_ble_eq_true rfl) (c_X10_passesMany d (K := K) (I := I8) H0 h10) ?_
    cases h
    exact x_vret rfl dX10_readsAdvance_64 ⟨rfl, rfl, rfl⟩
  have h := ifF hc h
  cases h
  exact x_vret rfl dX10_readsAdvance_48 ⟨rfl, rfl, rfl⟩
noncomputable def f_X10_readsAdvance (I : Mem) (x0 : Nat) : Option (Mem) := b1 (f_X10_goes I x0) fun I1 => b2 (f_X10_numberHere I1 x0 1 300) fun v3 I4 => if (I4 x0 10) = 0 then (if ((I4 x0 18) + v3) ≤ 2000 then (l_X10_readsAdvance_37 I4 x0 v3) else (b1 (f_X10_faults I4 x0 4) fun I11 => l_X10_readsAdvance_37 I11 x0 v3)) else (l_X10_readsAdvance_37 I4 x0 v3)
theorem c_X10_readsAdvance (d : Nat) {K : Kt} {I : Mem} {x0 : Nat} (H0 : MK K x0) {I9 : Mem} (h : f_X10_readsAdvance I x0 = some I9) : Ct (mX10_readsAdvance (d + 10)) cX10_readsAdvance 0 0 [.ref x0] I K (Ro (.inl none) I9 K) := by
  refine Ct.of rfl pn_X10 (catR cat0) (Nat.le_of_ble_eq_true rfl) (show X _ _ _ _ _ _ 0 [.ref x0, .retAddr 0] [] _ from ?_)
  unfold f_X10_readsAdvance at h
  refine x_aloadn dX10_readsAdvance_0 rfl ?_
  obtain ⟨I1, h2, h⟩ := b1_s h
  refine z_V0 [] [] (cs_X10_115 _) (ci := 8) rfl (MK.o H0) (dep (show d + 7 + 2 + 1 ≤ (d + 10) from by omega) (Nat.le_of_ble_eq_true rfl)) dX10_readsAdvance_1 rfl rfl (Nat.le_of_ble_eq_true rfl) (c_X10_goes (d + 7) (K := K) (I := I) H0 h2) ?_
  refine x_aloadn dX10_readsAdvance_4 rfl ?_
  refine x_iconst 1 dX10_readsAdvance_5 rfl ?_
  refine x_sipush 300 dX10_readsAdvance_6 rfl ?_
  obtain ⟨v3, I4, h5, h⟩ := b2_s h
  refine z_V1 [.int 1, .int 300] [] (cs_X10_111 _) (ci := 8) rfl (MK.o H0) (dep (show d + 8 + 1 + 1 ≤ (d + 10) from by omega) (Nat.le_of_ble_eq_true rfl)) dX10_readsAdvance_9 rfl rfl (Nat.le_of_ble_eq_true rfl) (c_X10_numberHere (d + 8) (K := K) (I := I1) H0 h5) ?_
  refine x_istoren dX10_readsAdvance_12 (Nat.le_of_ble_eq_true rfl) rfl rfl ?_
  refine x_aloadn dX10_readsAdvance_13 rfl ?_
  refine z_getI fs_X10_59 (MK.o H0) dX10_readsAdvance_14 ?_
  refine x_if_ne 37 dX10_readsAdvance_17 rfl (fun hc => ?_) (fun hc => ?_)
  · have h := ifF hc h
    exact tl_X10_readsAdvance_37 d H0 h
  have h := ifT hc h
  refine x_aloadn dX10_readsAdvance_20 rfl ?_
  refine z_getI fs_X10_227 (MK.o H0) dX10_readsAdvance_21 ?_
  refine x_iloadn dX10_readsAdvance_24 rfl ?_
  refine x_iadd dX10_readsAdvance_25 ?_
  refine x_sipush 2000 dX10_readsAdvance_26 rfl ?_
  refine x_icmp_le 37 dX10_readsAdvance_29 rfl (fun hc => ?_) (fun hc => ?_)
  · have h := ifT hc h
    exact tl_X10_readsAdvance_37 d H0 h
  have h := ifF hc h
  refine x_aloadn dX10_readsAdvance_32 rfl ?_
  refine x_iconst 4 dX10_readsAdvance_33 rfl ?_
  obtain ⟨I11, h12, h⟩ := b1_s h
  refine z_V0 [.int 4] [] (cs_X10_95 _) (ci := 8) rfl (MK.o H0) (dep (show d + 9 + 0 + 1 ≤ (d + 10) from by omega) (Nat.le_of_ble_eq_true rfl)) dX10_readsAdvance_34 rfl rfl (Nat.le_of_ble_eq_true rfl) (c_X10_faults (d + 9) (K := K) (I := I4) H0 h12) ?_
  exact tl_X10_readsAdvance_37 d H0 h
noncomputable def f_X10_look (I : Mem) (x0 : Nat) (x1 : Int32) : Option (Int32 × Mem) := b2 (f_X10_mayLook I x0) fun v1 I2 => if v1 = 0 then (some (0, I2)) else (b1 (ix x1 355) fun j4 => some ((I2 (x0 + 1) j4), I2))
theorem c_X10_look (d : Nat) {K : Kt} {I : Mem} {x0 : Nat} (H0 : MK K x0) {x1 : Int32} {v : Int32} {I9 : Mem} (h : f_X10_look I x0 x1 = some (v, I9)) : Ct (mX10_look (d + 2)) cX10_look 0 0 [.ref x0, .int x1] I K (Ro (.inl (some (.int v))) I9 K) := by
  refine Ct.of rfl pn_X10 (catR (catI cat0)) (Nat.le_of_ble_eq_true rfl) (show X _ _ _ _ _ _ 0 [.ref x0, .int x1] [] _ from ?_)
  unfold f_X10_look at h
  refine x_aloadn dX10_look_0 rfl ?_
  obtain ⟨v1, I2, h3, h⟩ := b2_s h
  refine z_V1 [] [] (cs_X10_440 _) (ci := 8) rfl (MK.o H0) (dep (show d + 0 + 1 + 1 ≤ (d + 2) from by omega) (Nat.le_of_ble_eq_true rfl)) dX10_look_1 rfl rfl (Nat.le_of_ble_eq_true rfl) (c_X10_mayLook d (K := K) (I := I) H0 h3) ?_
  refine x_if_eq 16 dX10_look_4 rfl (fun hc => ?_) (fun hc => ?_)
  · have h := ifT hc h
    refine x_iconst 0 dX10_look_16 rfl ?_
    cases h
    exact x_iret rfl dX10_look_17 ⟨rfl, rfl, rfl⟩
  have h := ifF hc h
  refine x_aloadn dX10_look_7 rfl ?_
  refine z_getR fs_X10_9 (MK.o H0) (MK.g1 H0) dX10_look_8 ?_
  refine x_iloadn dX10_look_11 rfl ?_
  obtain ⟨j4, hj4, h⟩ := b1_s h
  refine z_iald (MK.l1 H0) hj4 dX10_look_12 ?_
  refine x_goto 17 dX10_look_13 rfl ?_
  cases h
  exact x_iret rfl dX10_look_17 ⟨rfl, rfl, rfl⟩
noncomputable def f_X10_day (I : Mem) (x0 : Nat) : Option (Int32 × Mem) := b2 (f_X10_look I x0 1) fun v1 I2 => some (v1, I2)
theorem c_X10_day (d : Nat) {K : Kt} {I : Mem} {x0 : Nat} (H0 : MK K x0) {v : Int32} {I9 : Mem} (h : f_X10_day I x0 = some (v, I9)) : Ct (mX10_day (d + 3)) cX10_day 0 0 [.ref x0] I K (Ro (.inl (some (.int v))) I9 K) := by
  refine Ct.of rfl pn_X10 (catR cat0) (Nat.le_of_ble_eq_true rfl) (show X _ _ _ _ _ _ 0 [.ref x0] [] _ from ?_)
  unfold f_X10_day at h
  refine x_aloadn dX10_day_0 rfl ?_
  refine x_iconst 1 dX10_day_1 rfl ?_
  obtain ⟨v1, I2, h3, h⟩ := b2_s h
  refine z_V1 [.int 1] [] (cs_X10_444 _) (ci := 8) rfl (MK.o H0) (dep (show d + 0 + 2 + 1 ≤ (d + 3) from by omega) (Nat.le_of_ble_eq_true rfl)) dX10_day_2 rfl rfl (Nat.le_of_ble_eq_true rfl) (c_X10_look d (K := K) (I := I) H0 h3) ?_
  cases h
  exact x_iret rfl dX10_day_5 ⟨rfl, rfl, rfl⟩
noncomputable def f_X10_yearLength (I : Mem) (x0 : Nat) : Option (Int32 × Mem) := b2 (f_X10_look I x0 0) fun v1 I2 => some (v1, I2)
theorem c_X10_yearLength (d : Nat) {K : Kt} {I : Mem} {x0 : Nat} (H0 : MK K x0) {v : Int32} {I9 : Mem} (h : f_X10_yearLength I x0 = some (v, I9)) : Ct (mX10_yearLength (d + 3)) cX10_yearLength 0 0 [.ref x0] I K (Ro (.inl (some (.int v))) I9 K) := by
  refine Ct.of rfl pn_X10 (catR cat0) (Nat.le_of_ble_eq_true rfl) (show X _ _ _ _ _ _ 0 [.ref x0] [] _ from ?_)
  unfold f_X10_yearLength at h
  refine x_aloadn dX10_yearLength_0 rfl ?_
  refine x_iconst 0 dX10_yearLength_1 rfl ?_
  obtain ⟨v1, I2, h3, h⟩ := b2_s h
  refine z_V1 [.int 0] [] (cs_X10_444 _) (ci := 8) rfl (MK.o H0) (dep (show d + 0 + 2 + 1 ≤ (d + 3) from by omega) (Nat.le_of_ble_eq_true rfl)) dX10_yearLength_2 rfl rfl (Nat.le_of_ble_eq_true rfl) (c_X10_look d (K := K) (I := I) H0 h3) ?_
  cases h
  exact x_iret rfl dX10_yearLength_5 ⟨rfl, rfl, rfl⟩
noncomputable def f_X10_dayOfYear (I : Mem) (x0 : Nat) : Option (Int32 × Mem) := b2 (f_X10_mayLook I x0) fun v1 I2 => if v1 = 0 then (some (0, I2)) else (b1 (f_X10_today I2 x0) fun v4 => some (v4, I2))
theorem c_X10_dayOfYear (d : Nat) {K : Kt} {I : Mem} {x0 : Nat} (H0 : MK K x0) {v : Int32} {I9 : Mem} (h : f_X10_dayOfYear I x0 = some (v, I9)) : Ct (mX10_dayOfYear (d + 2)) cX10_dayOfYear 0 0 [.ref x0] I K (Ro (.inl (some (.int v))) I9 K) := by
  refine Ct.of rfl pn_X10 (catR cat0) (Nat.le_of_ble_eq_true rfl) (show X _ _ _ _ _ _ 0 [.ref x0] [] _ from ?_)
  unfold f_X10_dayOfYear at h
  refine x_aloadn dX10_dayOfYear_0 rfl ?_
  obtain ⟨v1, I2, h3, h⟩ := b2_s h
  refine z_V1 [] [] (cs_X10_440 _) (ci := 8) rfl (MK.o H0) (dep (show d + 0 + 1 + 1 ≤ (d + 2) from by omega) (Nat.le_of_ble_eq_true rfl)) dX10_dayOfYear_1 rfl rfl (Nat.le_of_ble_eq_true rfl) (c_X10_mayLook d (K := K) (I := I) H0 h3) ?_
  refine x_if_eq 14 dX10_dayOfYear_4 rfl (fun hc => ?_) (fun hc => ?_)
  · have h := ifT hc h
    refine x_iconst 0 dX10_dayOfYear_14 rfl ?_
    cases h
    exact x_iret rfl dX10_dayOfYear_15 ⟨rfl, rfl, rfl⟩
  have h := ifF hc h
  refine x_aloadn dX10_dayOfYear_7 rfl ?_
  obtain ⟨v4, h5, h⟩ := b1_s h
  refine z_V1 [] [] (cs_X10_377 _) (ci := 8) rfl (MK.o H0) (dep (show d + 1 + 0 + 1 ≤ (d + 2) from by omega) (Nat.le_of_ble_eq_true rfl)) dX10_dayOfYear_8 rfl rfl (Nat.le_of_ble_eq_true rfl) (c_X10_today (d + 1) (K := K) (I := I2) H0 h5) ?_
  refine x_goto 15 dX10_dayOfYear_11 rfl ?_
  cases h
  exact x_iret rfl dX10_dayOfYear_15 ⟨rfl, rfl, rfl⟩
noncomputable def l_X10_wishesIn_30 (c4 : Mem → Nat → Int32 → Int32 → Int32 → Option (Int32)) (I : Mem) (x0 : Nat) (x1 : Int32) (x3 : Int32) (y0 : Int32) (y1 : Int32) : Option (Int32) := b1 (f_X10_one y0) fun v4 => c4 I x0 x1 (y1 + v4) (x3 + 1)
theorem tl_X10_wishesIn_30 (d : Nat) {K : Kt} {c4 : Mem → Nat → Int32 → Int32 → Int32 → Option (Int32)} (hc4 : ∀ {I : Mem} {x0 : Nat} (H0 : MK K x0) {x1 : Int32} {x2 : Int32} {x3 : Int32} {v : Int32}, c4 I x0 x1 x2 x3 = some v → X (mX10_wishesIn (d + 1)) cX10_wishesIn 0 0 I K 4 [.ref x0, .int x1, .int x2, .int x3] [] (Ro (.inl (some (.int v))) I K)) : ∀ {I : Mem} {x0 : Nat} (H0 : MK K x0) {x1 : Int32} {x3 : Int32} {y0 : Int32} {y1 : Int32} {v : Int32}, l_X10_wishesIn_30 c4 I x0 x1 x3 y0 y1 = some v → X (mX10_wishesIn (d + 1)) cX10_wishesIn 0 0 I K 30 [.ref x0, .int x1, .retAddr 0, .int x3] [.int y0, .int y1] (Ro (.inl (some (.int v))) I K) := by
  intro I x0 H0 x1 x3 y0 y1 v h
  unfold l_X10_wishesIn_30 at h
  obtain ⟨v4, h5, h⟩ := b1_s h
  refine z_S1 [.int y0] [.int y1] (cs_X10_346 _) (dep (show d + 0 + 0 + 1 ≤ (d + 1) from by omega) (Nat.le_of_ble_eq_true rfl)) dX10_wishesIn_30 rfl rfl (Nat.le_of_ble_eq_true rfl) (c_X10_one d (K := K) (I := I) h5) ?_
  refine x_iadd dX10_wishesIn_33 ?_
  refine x_istoren dX10_wishesIn_34 (Nat.le_of_ble_eq_true rfl) rfl rfl ?_
  refine z_iinc 1 (by decide) dX10_wishesIn_35 rfl rfl rfl ?_
  refine x_goto 4 dX10_wishesIn_38 rfl ?_
  exact hc4 H0 h
noncomputable def l_X10_wishesIn_4 (n : Nat) (I : Mem) (x0 : Nat) (x1 : Int32) (x2 : Int32) (x3 : Int32) : Option (Int32) := match n with
  | 0 => none
  | n + 1 => b1 (ix 4 355) fun j1 => if (I (x0 + 1) j1) ≤ x3 then (some (x2)) else (b1 (f_X10_ofWish I x0 x3 3) fun v2 => if v2 = x1 then (l_X10_wishesIn_30 (l_X10_wishesIn_4 n) I x0 x1 x3 1 x2) else (l_X10_wishesIn_30 (l_X10_wishesIn_4 n) I x0 x1 x3 0 x2))
theorem tl_X10_wishesIn_4 (d : Nat) {K : Kt} (n : Nat) : ∀ {I : Mem} {x0 : Nat} (H0 : MK K x0) {x1 : Int32} {x2 : Int32} {x3 : Int32} {v : Int32}, l_X10_wishesIn_4 n I x0 x1 x2 x3 = some v → X (mX10_wishesIn (d + 1)) cX10_wishesIn 0 0 I K 4 [.ref x0, .int x1, .int x2, .int x3] [] (Ro (.inl (some (.int v))) I K) := by
  induction n with
  | zero =>
    intro I x0 H0 x1 x2 x3 v h
    cases h
  | succ n ih =>
    intro I x0 H0 x1 x2 x3 v h
    unfold l_X10_wishesIn_4 at h
    refine x_iloadn dX10_wishesIn_4 rfl ?_
    refine x_aloadn dX10_wishesIn_5 rfl ?_
    refine z_getR fs_X10_9 (MK.o H0) (MK.g1 H0) dX10_wishesIn_6 ?_
    refine x_iconst 4 dX10_wishesIn_9 rfl ?_
    obtain ⟨j1, hj1, h⟩ := b1_s h
    refine z_iald (MK.l1 H0) hj1 dX10_wishesIn_10 ?_
    refine x_icmp_ge 41 dX10_wishesIn_11 rfl (fun hc => ?_) (fun hc => ?_)
    · have h := ifT hc h
      refine x_iloadn dX10_wishesIn_41 rfl ?_
      cases h
      exact x_iret rfl dX10_wishesIn_42 ⟨rfl, rfl, rfl⟩
    have h := ifF hc h
    refine x_iloadn dX10_wishesIn_14 rfl ?_
    refine x_aloadn dX10_wishesIn_15 rfl ?_
    refine x_iloadn dX10_wishesIn_16 rfl ?_
    refine x_iconst 3 dX10_wishesIn_17 rfl ?_
    obtain ⟨v2, h3, h⟩ := b1_s h
    refine z_V1 [.int x3, .int 3] [.int x2] (cs_X10_224 _) (ci := 8) rfl (MK.o H0) (dep (show d + 0 + 0 + 1 ≤ (d + 1) from by omega) (Nat.le_of_ble_eq_true rfl)) dX10_wishesIn_18 rfl rfl (Nat.le_of_ble_eq_true rfl) (c_X10_ofWish d (K := K) (I := I) H0 h3) ?_
    refine x_iloadn dX10_wishesIn_21 rfl ?_
    refine x_icmp_ne 29 dX10_wishesIn_22 rfl (fun hc => ?_) (fun hc => ?_)
    · have h := ifF hc h
      refine x_iconst 0 dX10_wishesIn_29 rfl ?_
      exact X.forget (L' := [.ref x0, .int x1, .retAddr 0, .int x3]) ⟨Or.inl rfl, ⟨Or.inl rfl, ⟨Or.inr rfl, ⟨Or.inl rfl, trivial⟩⟩⟩⟩ (tl_X10_wishesIn_30 d ih H0 h)
    have h := ifT hc h
    refine x_iconst 1 dX10_wishesIn_25 rfl ?_
    refine x_goto 30 dX10_wishesIn_26 rfl ?_
    exact X.forget (L' := [.ref x0, .int x1, .retAddr 0, .int x3]) ⟨Or.inl rfl, ⟨Or.inl rfl, ⟨Or.inr rfl, ⟨Or.inl rfl, trivial⟩⟩⟩⟩ (tl_X10_wishesIn_30 d ih H0 h)
noncomputable def f_X10_wishesIn (I : Mem) (x0 : Nat) (x1 : Int32) : Option (Int32) := l_X10_wishesIn_4 FU I x0 x1 0 0
theorem c_X10_wishesIn (d : Nat) {K : Kt} {I : Mem} {x0 : Nat} (H0 : MK K x0) {x1 : Int32} {v : Int32} (h : f_X10_wishesIn I x0 x1 = some v) : Ct (mX10_wishesIn (d + 1)) cX10_wishesIn 0 0 [.ref x0, .int x1] I K (Ro (.inl (some (.int v))) I K) := by
  refine Ct.of rfl pn_X10 (catR (catI cat0)) (Nat.le_of_ble_eq_true rfl) (show X _ _ _ _ _ _ 0 [.ref x0, .int x1, .retAddr 0, .retAddr 0] [] _ from ?_)
  unfold f_X10_wishesIn at h
  refine x_iconst 0 dX10_wishesIn_0 rfl ?_
  refine x_istoren dX10_wishesIn_1 (Nat.le_of_ble_eq_true rfl) rfl rfl ?_
  refine x_iconst 0 dX10_wishesIn_2 rfl ?_
  refine x_istoren dX10_wishesIn_3 (Nat.le_of_ble_eq_true rfl) rfl rfl ?_
  exact tl_X10_wishesIn_4 d FU H0 h
noncomputable def f_X10_grantedCount (I : Mem) (x0 : Nat) : Option (Int32 × Mem) := b2 (f_X10_mayLook I x0) fun v1 I2 => if v1 = 0 then (some (0, I2)) else (b1 (f_X10_wishesIn I2 x0 2) fun v4 => some (v4, I2))
theorem c_X10_grantedCount (d : Nat) {K : Kt} {I : Mem} {x0 : Nat} (H0 : MK K x0) {v : Int32} {I9 : Mem} (h : f_X10_grantedCount I x0 = some (v, I9)) : Ct (mX10_grantedCount (d + 2)) cX10_grantedCount 0 0 [.ref x0] I K (Ro (.inl (some (.int v))) I9 K) := by
  refine Ct.of rfl pn_X10 (catR cat0) (Nat.le_of_ble_eq_true rfl) (show X _ _ _ _ _ _ 0 [.ref x0] [] _ from ?_)
  unfold f_X10_grantedCount at h
  refine x_aloadn dX10_grantedCount_0 rfl ?_
  obtain ⟨v1, I2, h3, h⟩ := b2_s h
  refine z_V1 [] [] (cs_X10_440 _) (ci := 8) rfl (MK.o H0) (dep (show d + 0 + 1 + 1 ≤ (d + 2) from by omega) (Nat.le_of_ble_eq_true rfl)) dX10_grantedCount_1 rfl rfl (Nat.le_of_ble_eq_true rfl) (c_X10_mayLook d (K := K) (I := I) H0 h3) ?_
  refine x_if_eq 15 dX10_grantedCount_4 rfl (fun hc => ?_) (fun hc => ?_)
  · have h := ifT hc h
    refine x_iconst 0 dX10_grantedCount_15 rfl ?_
    cases h
    exact x_iret rfl dX10_grantedCount_16 ⟨rfl, rfl, rfl⟩
  have h := ifF hc h
  refine x_aloadn dX10_grantedCount_7 rfl ?_
  refine x_iconst 2 dX10_grantedCount_8 rfl ?_
  obtain ⟨v4, h5, h⟩ := b1_s h
  refine z_V1 [.int 2] [] (cs_X10_447 _) (ci := 8) rfl (MK.o H0) (dep (show d + 0 + 1 + 1 ≤ (d + 2) from by omega) (Nat.le_of_ble_eq_true rfl)) dX10_grantedCount_9 rfl rfl (Nat.le_of_ble_eq_true rfl) (c_X10_wishesIn d (K := K) (I := I2) H0 h5) ?_
  refine x_goto 16 dX10_grantedCount_12 rfl ?_
  cases h
  exact x_iret rfl dX10_grantedCount_16 ⟨rfl, rfl, rfl⟩
noncomputable def f_X10_fadedCount (I : Mem) (x0 : Nat) : Option (Int32 × Mem) := b2 (f_X10_mayLook I x0) fun v1 I2 => if v1 = 0 then (some (0, I2)) else (b1 (f_X10_wishesIn I2 x0 3) fun v4 => some (v4, I2))
theorem c_X10_fadedCount (d : Nat) {K : Kt} {I : Mem} {x0 : Nat} (H0 : MK K x0) {v : Int32} {I9 : Mem} (h : f_X10_fadedCount I x0 = some (v, I9)) : Ct (mX10_fadedCount (d + 2)) cX10_fadedCount 0 0 [.ref x0] I K (Ro (.inl (some (.int v))) I9 K) := by
  refine Ct.of rfl pn_X10 (catR cat0) (Nat.le_of_ble_eq_true rfl) (show X _ _ _ _ _ _ 0 [.ref x0] [] _ from ?_)
  unfold f_X10_fadedCount at h
  refine x_aloadn dX10_fadedCount_0 rfl ?_
  obtain ⟨v1, I2, h3, h⟩ := b2_s h
  refine z_V1 [] [] (cs_X10_440 _) (ci := 8) rfl (MK.o H0) (dep (show d + 0 + 1 + 1 ≤ (d + 2) from by omega) (Nat.le_of_ble_eq_true rfl)) dX10_fadedCount_1 rfl rfl (Nat.le_of_ble_eq_true rfl) (c_X10_mayLook d (K := K) (I := I) H0 h3) ?_
  refine x_if_eq 15 dX10_fadedCount_4 rfl (fun hc => ?_) (fun hc => ?_)
  · have h := ifT hc h
    refine x_iconst 0 dX10_fadedCount_15 rfl ?_
    cases h
    exact x_iret rfl dX10_fadedCount_16 ⟨rfl, rfl, rfl⟩
  have h := ifF hc h
  refine x_aloadn dX10_fadedCount_7 rfl ?_
  refine x_iconst 3 dX10_fadedCount_8 rfl ?_
  obtain ⟨v4, h5, h⟩ := b1_s h
  refine z_V1 [.int 3] [] (cs_X10_447 _) (ci := 8) rfl (MK.o H0) (dep (show d + 0 + 1 + 1 ≤ (d + 2) from by omega) (Nat.le_of_ble_eq_true rfl)) dX10_fadedCount_9 rfl rfl (Nat.le_of_ble_eq_true rfl) (c_X10_wishesIn d (K := K) (I := I2) H0 h5) ?_
  refine x_goto 16 dX10_fadedCount_12 rfl ?_
  cases h
  exact x_iret rfl dX10_fadedCount_16 ⟨rfl, rfl, rfl⟩
noncomputable def l_X10_imbalance_40 (n : Nat) (I : Mem) (x0 : Nat) (x1 : Int32) (x2 : Int32) : Option (Int32 × Mem) := match n with
  | 0 => none
  | n + 1 => b1 (ix 3 355) fun j5 => if (I (x0 + 1) j5) ≤ x2 then (b1 (f_X10_wishesIn I x0 0) fun v6 => b1 (f_X10_wishesIn I x0 1) fun v8 => b1 (f_X10_wishesIn I x0 2) fun v10 => b1 (f_X10_wishesIn I x0 3) fun v12 => b1 (ix 7 355) fun j14 => b1 (ix 4 355) fun j15 => some (((if 0 ≤ (x1 - (I (x0 + 1) j14)) then (x1 - (I (x0 + 1) j14)) else 0 - (x1 - (I (x0 + 1) j14))) + (if 0 ≤ ((I (x0 + 1) j15) - (((v6 + v8) + v10) + v12)) then ((I (x0 + 1) j15) - (((v6 + v8) + v10) + v12)) else 0 - ((I (x0 + 1) j15) - (((v6 + v8) + v10) + v12)))), I)) else (b1 (f_X10_ofStall I x0 x2 1) fun v16 => l_X10_imbalance_40 n I x0 (x1 + v16) (x2 + 1))
theorem tl_X10_imbalance_40 (d : Nat) {K : Kt} (n : Nat) : ∀ {I : Mem} {x0 : Nat} (H0 : MK K x0) {x1 : Int32} {x2 : Int32} {v : Int32} {I9 : Mem}, l_X10_imbalance_40 n I x0 x1 x2 = some (v, I9) → X (mX10_imbalance (d + 2)) cX10_imbalance 0 0 I K 40 [.ref x0, .int x1, .int x2] [] (Ro (.inl (some (.int v))) I9 K) := by
  induction n with
  | zero =>
    intro I x0 H0 x1 x2 v I9 h
    cases h
  | succ n ih =>
    intro I x0 H0 x1 x2 v I9 h
    unfold l_X10_imbalance_40 at h
    refine x_iloadn dX10_imbalance_40 rfl ?_
    refine x_aloadn dX10_imbalance_41 rfl ?_
    refine z_getR fs_X10_9 (MK.o H0) (MK.g1 H0) dX10_imbalance_42 ?_
    refine x_iconst 3 dX10_imbalance_45 rfl ?_
    obtain ⟨j5, hj5, h⟩ := b1_s h
    refine z_iald (MK.l1 H0) hj5 dX10_imbalance_46 ?_
    refine x_icmp_ge 65 dX10_imbalance_47 rfl (fun hc => ?_) (fun hc => ?_)
    · have h := ifT hc h
      refine x_aloadn dX10_imbalance_65 rfl ?_
      refine x_iconst 0 dX10_imbalance_66 rfl ?_
      obtain ⟨v6, h7, h⟩ := b1_s h
      refine z_V1 [.int 0] [] (cs_X10_447 _) (ci := 8) rfl (MK.o H0) (dep (show d + 0 + 1 + 1 ≤ (d + 2) from by omega) (Nat.le_of_ble_eq_true rfl)) dX10_imbalance_67 rfl rfl (Nat.le_of_ble_eq_true rfl) (c_X10_wishesIn d (K := K) (I := I) H0 h7) ?_
      refine x_aloadn dX10_imbalance_70 rfl ?_
      refine x_iconst 1 dX10_imbalance_71 rfl ?_
      obtain ⟨v8, h9, h⟩ := b1_s h
      refine z_V1 [.int 1] [.int v6] (cs_X10_447 _) (ci := 8) rfl (MK.o H0) (dep (show d + 0 + 1 + 1 ≤ (d + 2) from by omega) (Nat.le_of_ble_eq_true rfl)) dX10_imbalance_72 rfl rfl (Nat.le_of_ble_eq_true rfl) (c_X10_wishesIn d (K := K) (I := I) H0 h9) ?_
      refine x_iadd dX10_imbalance_75 ?_
      refine x_aloadn dX10_imbalance_76 rfl ?_
      refine x_iconst 2 dX10_imbalance_77 rfl ?_
      obtain ⟨v10, h11, h⟩ := b1_s h
      refine z_V1 [.int 2] [.int (v6 + v8)] (cs_X10_447 _) (ci := 8) rfl (MK.o H0) (dep (show d + 0 + 1 + 1 ≤ (d + 2) from by omega) (Nat.le_of_ble_eq_true rfl)) dX10_imbalance_78 rfl rfl (Nat.le_of_ble_eq_true rfl) (c_X10_wishesIn d (K := K) (I := I) H0 h11) ?_
      refine x_iadd dX10_imbalance_81 ?_
      refine x_aloadn dX10_imbalance_82 rfl ?_
      refine x_iconst 3 dX10_imbalance_83 rfl ?_
      obtain ⟨v12, h13, h⟩ := b1_s h
      refine z_V1 [.int 3] [.int ((v6 + v8) + v10)] (cs_X10_447 _) (ci := 8) rfl (MK.o H0) (dep (show d + 0 + 1 + 1 ≤ (d + 2) from by omega) (Nat.le_of_ble_eq_true rfl)) dX10_imbalance_84 rfl rfl (Nat.le_of_ble_eq_true rfl) (c_X10_wishesIn d (K := K) (I := I) H0 h13) ?_
      refine x_iadd dX10_imbalance_87 ?_
      refine x_istoren dX10_imbalance_88 (Nat.le_of_ble_eq_true rfl) rfl rfl ?_
      refine x_iloadn dX10_imbalance_89 rfl ?_
      refine x_aloadn dX10_imbalance_90 rfl ?_
      refine z_getR fs_X10_9 (MK.o H0) (MK.g1 H0) dX10_imbalance_91 ?_
      refine x_bipush 7 dX10_imbalance_94 rfl ?_
      obtain ⟨j14, hj14, h⟩ := b1_s h
      refine z_iald (MK.l1 H0) hj14 dX10_imbalance_96 ?_
      refine x_isub dX10_imbalance_97 ?_
      refine x_mabs ms_X10_450 (Nat.le_of_ble_eq_true rfl) (by show 1 ≤ (d + 2); omega) dX10_imbalance_98 ?_
      refine x_aloadn dX10_imbalance_101 rfl ?_
      refine z_getR fs_X10_9 (MK.o H0) (MK.g1 H0) dX10_imbalance_102 ?_
      refine x_iconst 4 dX10_imbalance_105 rfl ?_
      obtain ⟨j15, hj15, h⟩ := b1_s h
      refine z_iald (MK.l1 H0) hj15 dX10_imbalance_106 ?_
      refine x_iloadn dX10_imbalance_107 rfl ?_
      refine x_isub dX10_imbalance_108 ?_
      refine x_mabs ms_X10_450 (Nat.le_of_ble_eq_true rfl) (by show 1 ≤ (d + 2); omega) dX10_imbalance_109 ?_
      refine x_iadd dX10_imbalance_112 ?_
      cases h
      exact x_iret rfl dX10_imbalance_113 ⟨rfl, rfl, rfl⟩
    have h := ifF hc h
    refine x_iloadn dX10_imbalance_50 rfl ?_
    refine x_aloadn dX10_imbalance_51 rfl ?_
    refine x_iloadn dX10_imbalance_52 rfl ?_
    refine x_iconst 1 dX10_imbalance_53 rfl ?_
    obtain ⟨v16, h17, h⟩ := b1_s h
    refine z_V1 [.int x2, .int 1] [.int x1] (cs_X10_356 _) (ci := 8) rfl (MK.o H0) (dep (show d + 1 + 0 + 1 ≤ (d + 2) from by omega) (Nat.le_of_ble_eq_true rfl)) dX10_imbalance_54 rfl rfl (Nat.le_of_ble_eq_true rfl) (c_X10_ofStall (d + 1) (K := K) (I := I) H0 h17) ?_
    refine x_iadd dX10_imbalance_57 ?_
    refine x_istoren dX10_imbalance_58 (Nat.le_of_ble_eq_true rfl) rfl rfl ?_
    refine z_iinc 1 (by decide) dX10_imbalance_59 rfl rfl rfl ?_
    refine x_goto 40 dX10_imbalance_62 rfl ?_
    exact ih H0 h
noncomputable def l_X10_imbalance_13 (n : Nat) (I : Mem) (x0 : Nat) (x1 : Int32) (x2 : Int32) : Option (Int32 × Mem) := match n with
  | 0 => none
  | n + 1 => b1 (ix 2 355) fun j4 => if (I (x0 + 1) j4) ≤ x2 then (l_X10_imbalance_40 FU I x0 x1 0) else (b1 (f_X10_ofPerson I x0 x2 0) fun v18 => l_X10_imbalance_13 n I x0 (x1 + v18) (x2 + 1))
theorem tl_X10_imbalance_13 (d : Nat) {K : Kt} (n : Nat) : ∀ {I : Mem} {x0 : Nat} (H0 : MK K x0) {x1 : Int32} {x2 : Int32} {v : Int32} {I9 : Mem}, l_X10_imbalance_13 n I x0 x1 x2 = some (v, I9) → X (mX10_imbalance (d + 2)) cX10_imbalance 0 0 I K 13 [.ref x0, .int x1, .int x2] [] (Ro (.inl (some (.int v))) I9 K) := by
  induction n with
  | zero =>
    intro I x0 H0 x1 x2 v I9 h
    cases h
  | succ n ih =>
    intro I x0 H0 x1 x2 v I9 h
    unfold l_X10_imbalance_13 at h
    refine x_iloadn dX10_imbalance_13 rfl ?_
    refine x_aloadn dX10_imbalance_14 rfl ?_
    refine z_getR fs_X10_9 (MK.o H0) (MK.g1 H0) dX10_imbalance_15 ?_
    refine x_iconst 2 dX10_imbalance_18 rfl ?_
    obtain ⟨j4, hj4, h⟩ := b1_s h
    refine z_iald (MK.l1 H0) hj4 dX10_imbalance_19 ?_
    refine x_icmp_ge 38 dX10_imbalance_20 rfl (fun hc => ?_) (fun hc => ?_)
    · have h := ifT hc h
      refine x_iconst 0 dX10_imbalance_38 rfl ?_
      refine x_istoren dX10_imbalance_39 (Nat.le_of_ble_eq_true rfl) rfl rfl ?_
      exact tl_X10_imbalance_40 d FU H0 h
    have h := ifF hc h
    refine x_iloadn dX10_imbalance_23 rfl ?_
    refine x_aloadn dX10_imbalance_24 rfl ?_
    refine x_iloadn dX10_imbalance_25 rfl ?_
    refine x_iconst 0 dX10_imbalance_26 rfl ?_
    obtain ⟨v18, h19, h⟩ := b1_s h
    refine z_V1 [.int x2, .int 0] [.int x1] (cs_X10_141 _) (ci := 8) rfl (MK.o H0) (dep (show d + 1 + 0 + 1 ≤ (d + 2) from by omega) (Nat.le_of_ble_eq_true rfl)) dX10_imbalance_27 rfl rfl (Nat.le_of_ble_eq_true rfl) (c_X10_ofPerson (d + 1) (K := K) (I := I) H0 h19) ?_
    refine x_iadd dX10_imbalance_30 ?_
    refine x_istoren dX10_imbalance_31 (Nat.le_of_ble_eq_true rfl) rfl rfl ?_
    refine z_iinc 1 (by decide) dX10_imbalance_32 rfl rfl rfl ?_
    refine x_goto 13 dX10_imbalance_35 rfl ?_
    exact ih H0 h
noncomputable def f_X10_imbalance (I : Mem) (x0 : Nat) : Option (Int32 × Mem) := b2 (f_X10_mayLook I x0) fun v1 I2 => if v1 = 0 then (some (0, I2)) else (l_X10_imbalance_13 FU I2 x0 0 0)
theorem c_X10_imbalance (d : Nat) {K : Kt} {I : Mem} {x0 : Nat} (H0 : MK K x0) {v : Int32} {I9 : Mem} (h : f_X10_imbalance I x0 = some (v, I9)) : Ct (mX10_imbalance (d + 2)) cX10_imbalance 0 0 [.ref x0] I K (Ro (.inl (some (.int v))) I9 K) := by
  refine Ct.of rfl pn_X10 (catR cat0) (Nat.le_of_ble_eq_true rfl) (show X _ _ _ _ _ _ 0 [.ref x0, .retAddr 0, .retAddr 0] [] _ from ?_)
  unfold f_X10_imbalance at h
  refine x_aloadn dX10_imbalance_0 rfl ?_
  obtain ⟨v1, I2, h3, h⟩ := b2_s h
  refine z_V1 [] [] (cs_X10_440 _) (ci := 8) rfl (MK.o H0) (dep (show d + 0 + 1 + 1 ≤ (d + 2) from by omega) (Nat.le_of_ble_eq_true rfl)) dX10_imbalance_1 rfl rfl (Nat.le_of_ble_eq_true rfl) (c_X10_mayLook d (K := K) (I := I) H0 h3) ?_
  refine x_if_ne 9 dX10_imbalance_4 rfl (fun hc => ?_) (fun hc => ?_)
  · have h := ifF hc h
    refine x_iconst 0 dX10_imbalance_9 rfl ?_
    refine x_istoren dX10_imbalance_10 (Nat.le_of_ble_eq_true rfl) rfl rfl ?_
    refine x_iconst 0 dX10_imbalance_11 rfl ?_
    refine x_istoren dX10_imbalance_12 (Nat.le_of_ble_eq_true rfl) rfl rfl ?_
    exact tl_X10_imbalance_13 d FU H0 h
  have h := ifT hc h
  refine x_iconst 0 dX10_imbalance_7 rfl ?_
  cases h
  exact x_iret rfl dX10_imbalance_8 ⟨rfl, rfl, rfl⟩
noncomputable def f_X10_isPerson (I : Mem) (x0 : Nat) (x1 : Int32) : Option (Int32) := if (I x0 6) = 0 then (some (0)) else (b1 (ix 2 355) fun j1 => b1 (f_X10_in x1 0 ((I (x0 + 1) j1) - 1)) fun v2 => if v2 = 0 then (some (0)) else (some (1)))
theorem c_X10_isPerson (d : Nat) {K : Kt} {I : Mem} {x0 : Nat} (H0 : MK K x0) {x1 : Int32} {v : Int32} (h : f_X10_isPerson I x0 x1 = some v) : Ct (mX10_isPerson (d + 1)) cX10_isPerson 0 0 [.ref x0, .int x1] I K (Ro (.inl (some (.int v))) I K) := by
  refine Ct.of rfl pn_X10 (catR (catI cat0)) (Nat.le_of_ble_eq_true rfl) (show X _ _ _ _ _ _ 0 [.ref x0, .int x1] [] _ from ?_)
  unfold f_X10_isPerson at h
  refine x_aloadn dX10_isPerson_0 rfl ?_
  refine z_getI fs_X10_44 (MK.o H0) dX10_isPerson_1 ?_
  refine x_if_eq 27 dX10_isPerson_4 rfl (fun hc => ?_) (fun hc => ?_)
  · have h := ifT hc h
    refine x_iconst 0 dX10_isPerson_27 rfl ?_
    cases h
    exact x_zret rfl rfl dX10_isPerson_28 ⟨rfl, rfl, rfl⟩
  have h := ifF hc h
  refine x_iloadn dX10_isPerson_7 rfl ?_
  refine x_iconst 0 dX10_isPerson_8 rfl ?_
  refine x_aloadn dX10_isPerson_9 rfl ?_
  refine z_getR fs_X10_9 (MK.o H0) (MK.g1 H0) dX10_isPerson_10 ?_
  refine x_iconst 2 dX10_isPerson_13 rfl ?_
  obtain ⟨j1, hj1, h⟩ := b1_s h
  refine z_iald (MK.l1 H0) hj1 dX10_isPerson_14 ?_
  refine x_iconst 1 dX10_isPerson_15 rfl ?_
  refine x_isub dX10_isPerson_16 ?_
  obtain ⟨v2, h3, h⟩ := b1_s h
  refine z_S1 [.int x1, .int 0, .int ((I (x0 + 1) j1) - 1)] [] (cs_X10_69 _) (dep (show d + 0 + 0 + 1 ≤ (d + 1) from by omega) (Nat.le_of_ble_eq_true rfl)) dX10_isPerson_17 rfl rfl (Nat.le_of_ble_eq_true rfl) (c_X10_in d (K := K) (I := I) h3) ?_
  refine x_if_eq 27 dX10_isPerson_20 rfl (fun hc => ?_) (fun hc => ?_)
  · have h := ifT hc h
    refine x_iconst 0 dX10_isPerson_27 rfl ?_
    cases h
    exact x_zret rfl rfl dX10_isPerson_28 ⟨rfl, rfl, rfl⟩
  have h := ifF hc h
  refine x_iconst 1 dX10_isPerson_23 rfl ?_
  refine x_goto 28 dX10_isPerson_24 rfl ?_
  cases h
  exact x_zret rfl rfl dX10_isPerson_28 ⟨rfl, rfl, rfl⟩
noncomputable def f_X10_isStall (I : Mem) (x0 : Nat) (x1 : Int32) : Option (Int32) := if (I x0 6) = 0 then (some (0)) else (b1 (ix 3 355) fun j1 => b1 (f_X10_in x1 0 ((I (x0 + 1) j1) - 1)) fun v2 => if v2 = 0 then (some (0)) else (some (1)))
theorem c_X10_isStall (d : Nat) {K : Kt} {I : Mem} {x0 : Nat} (H0 : MK K x0) {x1 : Int32} {v : Int32} (h : f_X10_isStall I x0 x1 = some v) : Ct (mX10_isStall (d + 1)) cX10_isStall 0 0 [.ref x0, .int x1] I K (Ro (.inl (some (.int v))) I K) := by
  refine Ct.of rfl pn_X10 (catR (catI cat0)) (Nat.le_of_ble_eq_true rfl) (show X _ _ _ _ _ _ 0 [.ref x0, .int x1] [] _ from ?_)
  unfold f_X10_isStall at h
  refine x_aloadn dX10_isStall_0 rfl ?_
  refine z_getI fs_X10_44 (MK.o H0) dX10_isStall_1 ?_
  refine x_if_eq 27 dX10_isStall_4 rfl (fun hc => ?_) (fun hc => ?_)
  · have h := ifT hc h
    refine x_iconst 0 dX10_isStall_27 rfl ?_
    cases h
    exact x_zret rfl rfl dX10_isStall_28 ⟨rfl, rfl, rfl⟩
  have h := ifF hc h
  refine x_iloadn dX10_isStall_7 rfl ?_
  refine x_iconst 0 dX10_isStall_8 rfl ?_
  refine x_aloadn dX10_isStall_9 rfl ?_
  refine z_getR fs_X10_9 (MK.o H0) (MK.g1 H0) dX10_isStall_10 ?_
  refine x_iconst 3 dX10_isStall_13 rfl ?_
  obtain ⟨j1, hj1, h⟩ := b1_s h
  refine z_iald (MK.l1 H0) hj1 dX10_isStall_14 ?_
  refine x_iconst 1 dX10_isStall_15 rfl ?_
  refine x_isub dX10_isStall_16 ?_
  obtain ⟨v2, h3, h⟩ := b1_s h
  refine z_S1 [.int x1, .int 0, .int ((I (x0 + 1) j1) - 1)] [] (cs_X10_69 _) (dep (show d + 0 + 0 + 1 ≤ (d + 1) from by omega) (Nat.le_of_ble_eq_true rfl)) dX10_isStall_17 rfl rfl (Nat.le_of_ble_eq_true rfl) (c_X10_in d (K := K) (I := I) h3) ?_
  refine x_if_eq 27 dX10_isStall_20 rfl (fun hc => ?_) (fun hc => ?_)
  · have h := ifT hc h
    refine x_iconst 0 dX10_isStall_27 rfl ?_
    cases h
    exact x_zret rfl rfl dX10_isStall_28 ⟨rfl, rfl, rfl⟩
  have h := ifF hc h
  refine x_iconst 1 dX10_isStall_23 rfl ?_
  refine x_goto 28 dX10_isStall_24 rfl ?_
  cases h
  exact x_zret rfl rfl dX10_isStall_28 ⟨rfl, rfl, rfl⟩
noncomputable def f_X10_isWish (I : Mem) (x0 : Nat) (x1 : Int32) : Option (Int32) := if (I x0 6) = 0 then (some (0)) else (b1 (ix 4 355) fun j1 => b1 (f_X10_in x1 0 ((I (x0 + 1) j1) - 1)) fun v2 => if v2 = 0 then (some (0)) else (some (1)))
theorem c_X10_isWish (d : Nat) {K : Kt} {I : Mem} {x0 : Nat} (H0 : MK K x0) {x1 : Int32} {v : Int32} (h : f_X10_isWish I x0 x1 = some v) : Ct (mX10_isWish (d + 1)) cX10_isWish 0 0 [.ref x0, .int x1] I K (Ro (.inl (some (.int v))) I K) := by
  refine Ct.of rfl pn_X10 (catR (catI cat0)) (Nat.le_of_ble_eq_true rfl) (show X _ _ _ _ _ _ 0 [.ref x0, .int x1] [] _ from ?_)
  unfold f_X10_isWish at h
  refine x_aloadn dX10_isWish_0 rfl ?_
  refine z_getI fs_X10_44 (MK.o H0) dX10_isWish_1 ?_
  refine x_if_eq 27 dX10_isWish_4 rfl (fun hc => ?_) (fun hc => ?_)
  · have h := ifT hc h
    refine x_iconst 0 dX10_isWish_27 rfl ?_
    cases h
    exact x_zret rfl rfl dX10_isWish_28 ⟨rfl, rfl, rfl⟩
  have h := ifF hc h
  refine x_iloadn dX10_isWish_7 rfl ?_
  refine x_iconst 0 dX10_isWish_8 rfl ?_
  refine x_aloadn dX10_isWish_9 rfl ?_
  refine z_getR fs_X10_9 (MK.o H0) (MK.g1 H0) dX10_isWish_10 ?_
  refine x_iconst 4 dX10_isWish_13 rfl ?_
  obtain ⟨j1, hj1, h⟩ := b1_s h
  refine z_iald (MK.l1 H0) hj1 dX10_isWish_14 ?_
  refine x_iconst 1 dX10_isWish_15 rfl ?_
  refine x_isub dX10_isWish_16 ?_
  obtain ⟨v2, h3, h⟩ := b1_s h
  refine z_S1 [.int x1, .int 0, .int ((I (x0 + 1) j1) - 1)] [] (cs_X10_69 _) (dep (show d + 0 + 0 + 1 ≤ (d + 1) from by omega) (Nat.le_of_ble_eq_true rfl)) dX10_isWish_17 rfl rfl (Nat.le_of_ble_eq_true rfl) (c_X10_in d (K := K) (I := I) h3) ?_
  refine x_if_eq 27 dX10_isWish_20 rfl (fun hc => ?_) (fun hc => ?_)
  · have h := ifT hc h
    refine x_iconst 0 dX10_isWish_27 rfl ?_
    cases h
    exact x_zret rfl rfl dX10_isWish_28 ⟨rfl, rfl, rfl⟩
  have h := ifF hc h
  refine x_iconst 1 dX10_isWish_23 rfl ?_
  refine x_goto 28 dX10_isWish_24 rfl ?_
  cases h
  exact x_zret rfl rfl dX10_isWish_28 ⟨rfl, rfl, rfl⟩
noncomputable def f_X10_mayPerson (I : Mem) (x0 : Nat) (x1 : Int32) : Option (Int32 × Mem) := b1 (f_X10_isPerson I x0 x1) fun v1 => b2 (f_X10_mayTwo I x0 (I x0 6) v1) fun v3 I4 => b1 (cB v3) fun _ => some (v3, I4)
theorem c_X10_mayPerson (d : Nat) {K : Kt} {I : Mem} {x0 : Nat} (H0 : MK K x0) {x1 : Int32} {v : Int32} {I9 : Mem} (h : f_X10_mayPerson I x0 x1 = some (v, I9)) : Ct (mX10_mayPerson (d + 2)) cX10_mayPerson 0 0 [.ref x0, .int x1] I K (Ro (.inl (some (.int v))) I9 K) := by
  refine Ct.of rfl pn_X10 (catR (catI cat0)) (Nat.le_of_ble_eq_true rfl) (show X _ _ _ _ _ _ 0 [.ref x0, .int x1] [] _ from ?_)
  unfold f_X10_mayPerson at h
  refine x_aloadn dX10_mayPerson_0 rfl ?_
  refine x_aloadn dX10_mayPerson_1 rfl ?_
  refine z_getI fs_X10_44 (MK.o H0) dX10_mayPerson_2 ?_
  refine x_aloadn dX10_mayPerson_5 rfl ?_
  refine x_iloadn dX10_mayPerson_6 rfl ?_
  obtain ⟨v1, h2, h⟩ := b1_s h
  refine z_V1 [.int x1] [.int (I x0 6), .ref x0] (cs_X10_453 _) (ci := 8) rfl (MK.o H0) (dep (show d + 0 + 1 + 1 ≤ (d + 2) from by omega) (Nat.le_of_ble_eq_true rfl)) dX10_mayPerson_7 rfl rfl (Nat.le_of_ble_eq_true rfl) (c_X10_isPerson d (K := K) (I := I) H0 h2) ?_
  obtain ⟨v3, I4, h5, h⟩ := b2_s h
  refine z_V1 [.int (I x0 6), .int v1] [] (cs_X10_456 _) (ci := 8) rfl (MK.o H0) (dep (show d + 0 + 1 + 1 ≤ (d + 2) from by omega) (Nat.le_of_ble_eq_true rfl)) dX10_mayPerson_10 rfl rfl (Nat.le_of_ble_eq_true rfl) (c_X10_mayTwo d (K := K) (I := I) H0 h5) ?_
  obtain ⟨u6, hu6, h⟩ := b1_s h
  cases h
  exact x_zret rfl (nar_b hu6) dX10_mayPerson_13 ⟨rfl, rfl, rfl⟩
noncomputable def f_X10_mayStall (I : Mem) (x0 : Nat) (x1 : Int32) : Option (Int32 × Mem) := b1 (f_X10_isStall I x0 x1) fun v1 => b2 (f_X10_mayTwo I x0 (I x0 6) v1) fun v3 I4 => b1 (cB v3) fun _ => some (v3, I4)
theorem c_X10_mayStall (d : Nat) {K : Kt} {I : Mem} {x0 : Nat} (H0 : MK K x0) {x1 : Int32} {v : Int32} {I9 : Mem} (h : f_X10_mayStall I x0 x1 = some (v, I9)) : Ct (mX10_mayStall (d + 2)) cX10_mayStall 0 0 [.ref x0, .int x1] I K (Ro (.inl (some (.int v))) I9 K) := by
  refine Ct.of rfl pn_X10 (catR (catI cat0)) (Nat.le_of_ble_eq_true rfl) (show X _ _ _ _ _ _ 0 [.ref x0, .int x1] [] _ from ?_)
  unfold f_X10_mayStall at h
  refine x_aloadn dX10_mayStall_0 rfl ?_
  refine x_aloadn dX10_mayStall_1 rfl ?_
  refine z_getI fs_X10_44 (MK.o H0) dX10_mayStall_2 ?_
  refine x_aloadn dX10_mayStall_5 rfl ?_
  refine x_iloadn dX10_mayStall_6 rfl ?_
  obtain ⟨v1, h2, h⟩ := b1_s h
  refine z_V1 [.int x1] [.int (I x0 6), .ref x0] (cs_X10_460 _) (ci := 8) rfl (MK.o H0) (dep (show d + 0 + 1 + 1 ≤ (d + 2) from by omega) (Nat.le_of_ble_eq_true rfl)) dX10_mayStall_7 rfl rfl (Nat.le_of_ble_eq_true rfl) (c_X10_isStall d (K := K) (I := I) H0 h2) ?_
  obtain ⟨v3, I4, h5, h⟩ := b2_s h
  refine z_V1 [.int (I x0 6), .int v1] [] (cs_X10_456 _) (ci := 8) rfl (MK.o H0) (dep (show d + 0 + 1 + 1 ≤ (d + 2) from by omega) (Nat.le_of_ble_eq_true rfl)) dX10_mayStall_10 rfl rfl (Nat.le_of_ble_eq_true rfl) (c_X10_mayTwo d (K := K) (I := I) H0 h5) ?_
  obtain ⟨u6, hu6, h⟩ := b1_s h
  cases h
  exact x_zret rfl (nar_b hu6) dX10_mayStall_13 ⟨rfl, rfl, rfl⟩
noncomputable def f_X10_mayWish (I : Mem) (x0 : Nat) (x1 : Int32) : Option (Int32 × Mem) := b1 (f_X10_isWish I x0 x1) fun v1 => b2 (f_X10_mayTwo I x0 (I x0 6) v1) fun v3 I4 => b1 (cB v3) fun _ => some (v3, I4)
theorem c_X10_mayWish (d : Nat) {K : Kt} {I : Mem} {x0 : Nat} (H0 : MK K x0) {x1 : Int32} {v : Int32} {I9 : Mem} (h : f_X10_mayWish I x0 x1 = some (v, I9)) : Ct (mX10_mayWish (d + 2)) cX10_mayWish 0 0 [.ref x0, .int x1] I K (Ro (.inl (some (.int v))) I9 K) := by
  refine Ct.of rfl pn_X10 (catR (catI cat0)) (Nat.le_of_ble_eq_true rfl) (show X _ _ _ _ _ _ 0 [.ref x0, .int x1] [] _ from ?_)
  unfold f_X10_mayWish at h
  refine x_aloadn dX10_mayWish_0 rfl ?_
  refine x_aloadn dX10_mayWish_1 rfl ?_
  refine z_getI fs_X10_44 (MK.o H0) dX10_mayWish_2 ?_
  refine x_aloadn dX10_mayWish_5 rfl ?_
  refine x_iloadn dX10_mayWish_6 rfl ?_
  obtain ⟨v1, h2, h⟩ := b1_s h
  refine z_V1 [.int x1] [.int (I x0 6), .ref x0] (cs_X10_463 _) (ci := 8) rfl (MK.o H0) (dep (show d + 0 + 1 + 1 ≤ (d + 2) from by omega) (Nat.le_of_ble_eq_true rfl)) dX10_mayWish_7 rfl rfl (Nat.le_of_ble_eq_true rfl) (c_X10_isWish d (K := K) (I := I) H0 h2) ?_
  obtain ⟨v3, I4, h5, h⟩ := b2_s h
  refine z_V1 [.int (I x0 6), .int v1] [] (cs_X10_456 _) (ci := 8) rfl (MK.o H0) (dep (show d + 0 + 1 + 1 ≤ (d + 2) from by omega) (Nat.le_of_ble_eq_true rfl)) dX10_mayWish_10 rfl rfl (Nat.le_of_ble_eq_true rfl) (c_X10_mayTwo d (K := K) (I := I) H0 h5) ?_
  obtain ⟨u6, hu6, h⟩ := b1_s h
  cases h
  exact x_zret rfl (nar_b hu6) dX10_mayWish_13 ⟨rfl, rfl, rfl⟩
noncomputable def f_X10_personCount (I : Mem) (x0 : Nat) : Option (Int32 × Mem) := b2 (f_X10_look I x0 2) fun v1 I2 => some (v1, I2)
theorem c_X10_personCount (d : Nat) {K : Kt} {I : Mem} {x0 : Nat} (H0 : MK K x0) {v : Int32} {I9 : Mem} (h : f_X10_personCount I x0 = some (v, I9)) : Ct (mX10_personCount (d + 3)) cX10_personCount 0 0 [.ref x0] I K (Ro (.inl (some (.int v))) I9 K) := by
  refine Ct.of rfl pn_X10 (catR cat0) (Nat.le_of_ble_eq_true rfl) (show X _ _ _ _ _ _ 0 [.ref x0] [] _ from ?_)
  unfold f_X10_personCount at h
  refine x_aloadn dX10_personCount_0 rfl ?_
  refine x_iconst 2 dX10_personCount_1 rfl ?_
  obtain ⟨v1, I2, h3, h⟩ := b2_s h
  refine z_V1 [.int 2] [] (cs_X10_444 _) (ci := 8) rfl (MK.o H0) (dep (show d + 0 + 2 + 1 ≤ (d + 3) from by omega) (Nat.le_of_ble_eq_true rfl)) dX10_personCount_2 rfl rfl (Nat.le_of_ble_eq_true rfl) (c_X10_look d (K := K) (I := I) H0 h3) ?_
  cases h
  exact x_iret rfl dX10_personCount_5 ⟨rfl, rfl, rfl⟩
noncomputable def f_X10_letter (I : Mem) (x0 : Nat) (x1 : Int32) (x2 : Int32) : Option (Int32) := b1 (ix x1 355) fun j1 => b1 (f_X10_in x2 0 ((I (x0 + 1) j1) - 1)) fun v2 => if v2 = 0 then (some ((-1))) else (b1 (ix ((x1 + 1) + x2) 355) fun j4 => some ((I (x0 + 1) j4)))
theorem c_X10_letter (d : Nat) {K : Kt} {I : Mem} {x0 : Nat} (H0 : MK K x0) {x1 : Int32} {x2 : Int32} {v : Int32} (h : f_X10_letter I x0 x1 x2 = some v) : Ct (mX10_letter (d + 1)) cX10_letter 0 0 [.ref x0, .int x1, .int x2] I K (Ro (.inl (some (.int v))) I K) := by
  refine Ct.of rfl pn_X10 (catR (catI (catI cat0))) (Nat.le_of_ble_eq_true rfl) (show X _ _ _ _ _ _ 0 [.ref x0, .int x1, .int x2] [] _ from ?_)
  unfold f_X10_letter at h
  refine x_iloadn dX10_letter_0 rfl ?_
  refine x_iconst 0 dX10_letter_1 rfl ?_
  refine x_aloadn dX10_letter_2 rfl ?_
  refine z_getR fs_X10_9 (MK.o H0) (MK.g1 H0) dX10_letter_3 ?_
  refine x_iloadn dX10_letter_6 rfl ?_
  obtain ⟨j1, hj1, h⟩ := b1_s h
  refine z_iald (MK.l1 H0) hj1 dX10_letter_7 ?_
  refine x_iconst 1 dX10_letter_8 rfl ?_
  refine x_isub dX10_letter_9 ?_
  obtain ⟨v2, h3, h⟩ := b1_s h
  refine z_S1 [.int x2, .int 0, .int ((I (x0 + 1) j1) - 1)] [] (cs_X10_69 _) (dep (show d + 0 + 0 + 1 ≤ (d + 1) from by omega) (Nat.le_of_ble_eq_true rfl)) dX10_letter_10 rfl rfl (Nat.le_of_ble_eq_true rfl) (c_X10_in d (K := K) (I := I) h3) ?_
  refine x_if_eq 29 dX10_letter_13 rfl (fun hc => ?_) (fun hc => ?_)
  · have h := ifT hc h
    refine x_iconst (-1) dX10_letter_29 rfl ?_
    cases h
    exact x_iret rfl dX10_letter_30 ⟨rfl, rfl, rfl⟩
  have h := ifF hc h
  refine x_aloadn dX10_letter_16 rfl ?_
  refine z_getR fs_X10_9 (MK.o H0) (MK.g1 H0) dX10_letter_17 ?_
  refine x_iloadn dX10_letter_20 rfl ?_
  refine x_iconst 1 dX10_letter_21 rfl ?_
  refine x_iadd dX10_letter_22 ?_
  refine x_iloadn dX10_letter_23 rfl ?_
  refine x_iadd dX10_letter_24 ?_
  obtain ⟨j4, hj4, h⟩ := b1_s h
  refine z_iald (MK.l1 H0) hj4 dX10_letter_25 ?_
  refine x_goto 30 dX10_letter_26 rfl ?_
  cases h
  exact x_iret rfl dX10_letter_30 ⟨rfl, rfl, rfl⟩
noncomputable def f_X10_personLetter (I : Mem) (x0 : Nat) (x1 : Int32) (x2 : Int32) : Option (Int32 × Mem) := b2 (f_X10_mayPerson I x0 x1) fun v1 I2 => if v1 = 0 then (some (0, I2)) else (b1 (f_X10_letter I2 x0 ((11 + (14 * x1)) + 7) x2) fun v4 => some (v4, I2))
theorem c_X10_personLetter (d : Nat) {K : Kt} {I : Mem} {x0 : Nat} (H0 : MK K x0) {x1 : Int32} {x2 : Int32} {v : Int32} {I9 : Mem} (h : f_X10_personLetter I x0 x1 x2 = some (v, I9)) : Ct (mX10_personLetter (d + 3)) cX10_personLetter 0 0 [.ref x0, .int x1, .int x2] I K (Ro (.inl (some (.int v))) I9 K) := by
  refine Ct.of rfl pn_X10 (catR (catI (catI cat0))) (Nat.le_of_ble_eq_true rfl) (show X _ _ _ _ _ _ 0 [.ref x0, .int x1, .int x2] [] _ from ?_)
  unfold f_X10_personLetter at h
  refine x_aloadn dX10_personLetter_0 rfl ?_
  refine x_iloadn dX10_personLetter_1 rfl ?_
  obtain ⟨v1, I2, h3, h⟩ := b2_s h
  refine z_V1 [.int x1] [] (cs_X10_466 _) (ci := 8) rfl (MK.o H0) (dep (show d + 0 + 2 + 1 ≤ (d + 3) from by omega) (Nat.le_of_ble_eq_true rfl)) dX10_personLetter_2 rfl rfl (Nat.le_of_ble_eq_true rfl) (c_X10_mayPerson d (K := K) (I := I) H0 h3) ?_
  refine x_if_eq 26 dX10_personLetter_5 rfl (fun hc => ?_) (fun hc => ?_)
  · have h := ifT hc h
    refine x_iconst 0 dX10_personLetter_26 rfl ?_
    cases h
    exact x_iret rfl dX10_personLetter_27 ⟨rfl, rfl, rfl⟩
  have h := ifF hc h
  refine x_aloadn dX10_personLetter_8 rfl ?_
  refine x_bipush 11 dX10_personLetter_9 rfl ?_
  refine x_bipush 14 dX10_personLetter_11 rfl ?_
  refine x_iloadn dX10_personLetter_13 rfl ?_
  refine x_imul dX10_personLetter_14 ?_
  refine x_iadd dX10_personLetter_15 ?_
  refine x_bipush 7 dX10_personLetter_16 rfl ?_
  refine x_iadd dX10_personLetter_18 ?_
  refine x_iloadn dX10_personLetter_19 rfl ?_
  obtain ⟨v4, h5, h⟩ := b1_s h
  refine z_V1 [.int ((11 + (14 * x1)) + 7), .int x2] [] (cs_X10_469 _) (ci := 8) rfl (MK.o H0) (dep (show d + 1 + 1 + 1 ≤ (d + 3) from by omega) (Nat.le_of_ble_eq_true rfl)) dX10_personLetter_20 rfl rfl (Nat.le_of_ble_eq_true rfl) (c_X10_letter (d + 1) (K := K) (I := I2) H0 h5) ?_
  refine x_goto 27 dX10_personLetter_23 rfl ?_
  cases h
  exact x_iret rfl dX10_personLetter_27 ⟨rfl, rfl, rfl⟩
noncomputable def f_X10_coins (I : Mem) (x0 : Nat) (x1 : Int32) : Option (Int32 × Mem) := b2 (f_X10_mayPerson I x0 x1) fun v1 I2 => if v1 = 0 then (some (0, I2)) else (b1 (f_X10_ofPerson I2 x0 x1 0) fun v4 => some (v4, I2))
theorem c_X10_coins (d : Nat) {K : Kt} {I : Mem} {x0 : Nat} (H0 : MK K x0) {x1 : Int32} {v : Int32} {I9 : Mem} (h : f_X10_coins I x0 x1 = some (v, I9)) : Ct (mX10_coins (d + 3)) cX10_coins 0 0 [.ref x0, .int x1] I K (Ro (.inl (some (.int v))) I9 K) := by
  refine Ct.of rfl pn_X10 (catR (catI cat0)) (Nat.le_of_ble_eq_true rfl) (show X _ _ _ _ _ _ 0 [.ref x0, .int x1] [] _ from ?_)
  unfold f_X10_coins at h
  refine x_aloadn dX10_coins_0 rfl ?_
  refine x_iloadn dX10_coins_1 rfl ?_
  obtain ⟨v1, I2, h3, h⟩ := b2_s h
  refine z_V1 [.int x1] [] (cs_X10_466 _) (ci := 8) rfl (MK.o H0) (dep (show d + 0 + 2 + 1 ≤ (d + 3) from by omega) (Nat.le_of_ble_eq_true rfl)) dX10_coins_2 rfl rfl (Nat.le_of_ble_eq_true rfl) (c_X10_mayPerson d (K := K) (I := I) H0 h3) ?_
  refine x_if_eq 17 dX10_coins_5 rfl (fun hc => ?_) (fun hc => ?_)
  · have h := ifT hc h
    refine x_iconst 0 dX10_coins_17 rfl ?_
    cases h
    exact x_iret rfl dX10_coins_18 ⟨rfl, rfl, rfl⟩
  have h := ifF hc h
  refine x_aloadn dX10_coins_8 rfl ?_
  refine x_iloadn dX10_coins_9 rfl ?_
  refine x_iconst 0 dX10_coins_10 rfl ?_
  obtain ⟨v4, h5, h⟩ := b1_s h
  refine z_V1 [.int x1, .int 0] [] (cs_X10_141 _) (ci := 8) rfl (MK.o H0) (dep (show d + 2 + 0 + 1 ≤ (d + 3) from by omega) (Nat.le_of_ble_eq_true rfl)) dX10_coins_11 rfl rfl (Nat.le_of_ble_eq_true rfl) (c_X10_ofPerson (d + 2) (K := K) (I := I2) H0 h5) ?_
  refine x_goto 18 dX10_coins_14 rfl ?_
  cases h
  exact x_iret rfl dX10_coins_18 ⟨rfl, rfl, rfl⟩
noncomputable def f_X10_birthday (I : Mem) (x0 : Nat) (x1 : Int32) : Option (Int32 × Mem) := b2 (f_X10_mayPerson I x0 x1) fun v1 I2 => if v1 = 0 then (some (0, I2)) else (b1 (f_X10_ofPerson I2 x0 x1 1) fun v4 => some (v4, I2))
theorem c_X10_birthday (d : Nat) {K : Kt} {I : Mem} {x0 : Nat} (H0 : MK K x0) {x1 : Int32} {v : Int32} {I9 : Mem} (h : f_X10_birthday I x0 x1 = some (v, I9)) : Ct (mX10_birthday (d + 3)) cX10_birthday 0 0 [.ref x0, .int x1] I K (Ro (.inl (some (.int v))) I9 K) := by
  refine Ct.of rfl pn_X10 (catR (catI cat0)) (Nat.le_of_ble_eq_true rfl) (show X _ _ _ _ _ _ 0 [.ref x0, .int x1] [] _ from ?_)
  unfold f_X10_birthday at h
  refine x_aloadn dX10_birthday_0 rfl ?_
  refine x_iloadn dX10_birthday_1 rfl ?_
  obtain ⟨v1, I2, h3, h⟩ := b2_s h
  refine z_V1 [.int x1] [] (cs_X10_466 _) (ci := 8) rfl (MK.o H0) (dep (show d + 0 + 2 + 1 ≤ (d + 3) from by omega) (Nat.le_of_ble_eq_true rfl)) dX10_birthday_2 rfl rfl (Nat.le_of_ble_eq_true rfl) (c_X10_mayPerson d (K := K) (I := I) H0 h3) ?_
  refine x_if_eq 17 dX10_birthday_5 rfl (fun hc => ?_) (fun hc => ?_)
  · have h := ifT hc h
    refine x_iconst 0 dX10_birthday_17 rfl ?_
    cases h
    exact x_iret rfl dX10_birthday_18 ⟨rfl, rfl, rfl⟩
  have h := ifF hc h
  refine x_aloadn dX10_birthday_8 rfl ?_
  refine x_iloadn dX10_birthday_9 rfl ?_
  refine x_iconst 1 dX10_birthday_10 rfl ?_
  obtain ⟨v4, h5, h⟩ := b1_s h
  refine z_V1 [.int x1, .int 1] [] (cs_X10_141 _) (ci := 8) rfl (MK.o H0) (dep (show d + 2 + 0 + 1 ≤ (d + 3) from by omega) (Nat.le_of_ble_eq_true rfl)) dX10_birthday_11 rfl rfl (Nat.le_of_ble_eq_true rfl) (c_X10_ofPerson (d + 2) (K := K) (I := I2) H0 h5) ?_
  refine x_goto 18 dX10_birthday_14 rfl ?_
  cases h
  exact x_iret rfl dX10_birthday_18 ⟨rfl, rfl, rfl⟩
noncomputable def f_X10_candles (I : Mem) (x0 : Nat) (x1 : Int32) : Option (Int32 × Mem) := b2 (f_X10_mayPerson I x0 x1) fun v1 I2 => if v1 = 0 then (some (0, I2)) else (b1 (f_X10_ofPerson I2 x0 x1 2) fun v4 => some (v4, I2))
theorem c_X10_candles (d : Nat) {K : Kt} {I : Mem} {x0 : Nat} (H0 : MK K x0) {x1 : Int32} {v : Int32} {I9 : Mem} (h : f_X10_candles I x0 x1 = some (v, I9)) : Ct (mX10_candles (d + 3)) cX10_candles 0 0 [.ref x0, .int x1] I K (Ro (.inl (some (.int v))) I9 K) := by
  refine Ct.of rfl pn_X10 (catR (catI cat0)) (Nat.le_of_ble_eq_true rfl) (show X _ _ _ _ _ _ 0 [.ref x0, .int x1] [] _ from ?_)
  unfold f_X10_candles at h
  refine x_aloadn dX10_candles_0 rfl ?_
  refine x_iloadn dX10_candles_1 rfl ?_
  obtain ⟨v1, I2, h3, h⟩ := b2_s h
  refine z_V1 [.int x1] [] (cs_X10_466 _) (ci := 8) rfl (MK.o H0) (dep (show d + 0 + 2 + 1 ≤ (d + 3) from by omega) (Nat.le_of_ble_eq_true rfl)) dX10_candles_2 rfl rfl (Nat.le_of_ble_eq_true rfl) (c_X10_mayPerson d (K := K) (I := I) H0 h3) ?_
  refine x_if_eq 17 dX10_candles_5 rfl (fun hc => ?_) (fun hc => ?_)
  · have h := ifT hc h
    refine x_iconst 0 dX10_candles_17 rfl ?_
    cases h
    exact x_iret rfl dX10_candles_18 ⟨rfl, rfl, rfl⟩
  have h := ifF hc h
  refine x_aloadn dX10_candles_8 rfl ?_
  refine x_iloadn dX10_candles_9 rfl ?_
  refine x_iconst 2 dX10_candles_10 rfl ?_
  obtain ⟨v4, h5, h⟩ := b1_s h
  refine z_V1 [.int x1, .int 2] [] (cs_X10_141 _) (ci := 8) rfl (MK.o H0) (dep (show d + 2 + 0 + 1 ≤ (d + 3) from by omega) (Nat.le_of_ble_eq_true rfl)) dX10_candles_11 rfl rfl (Nat.le_of_ble_eq_true rfl) (c_X10_ofPerson (d + 2) (K := K) (I := I2) H0 h5) ?_
  refine x_goto 18 dX10_candles_14 rfl ?_
  cases h
  exact x_iret rfl dX10_candles_18 ⟨rfl, rfl, rfl⟩
noncomputable def f_X10_happiness (I : Mem) (x0 : Nat) (x1 : Int32) : Option (Int32 × Mem) := b2 (f_X10_mayPerson I x0 x1) fun v1 I2 => if v1 = 0 then (some (0, I2)) else (b1 (f_X10_ofPerson I2 x0 x1 3) fun v4 => some (v4, I2))
theorem c_X10_happiness (d : Nat) {K : Kt} {I : Mem} {x0 : Nat} (H0 : MK K x0) {x1 : Int32} {v : Int32} {I9 : Mem} (h : f_X10_happiness I x0 x1 = some (v, I9)) : Ct (mX10_happiness (d + 3)) cX10_happiness 0 0 [.ref x0, .int x1] I K (Ro (.inl (some (.int v))) I9 K) := by
  refine Ct.of rfl pn_X10 (catR (catI cat0)) (Nat.le_of_ble_eq_true rfl) (show X _ _ _ _ _ _ 0 [.ref x0, .int x1] [] _ from ?_)
  unfold f_X10_happiness at h
  refine x_aloadn dX10_happiness_0 rfl ?_
  refine x_iloadn dX10_happiness_1 rfl ?_
  obtain ⟨v1, I2, h3, h⟩ := b2_s h
  refine z_V1 [.int x1] [] (cs_X10_466 _) (ci := 8) rfl (MK.o H0) (dep (show d + 0 + 2 + 1 ≤ (d + 3) from by omega) (Nat.le_of_ble_eq_true rfl)) dX10_happiness_2 rfl rfl (Nat.le_of_ble_eq_true rfl) (c_X10_mayPerson d (K := K) (I := I) H0 h3) ?_
  refine x_if_eq 17 dX10_happiness_5 rfl (fun hc => ?_) (fun hc => ?_)
  · have h := ifT hc h
    refine x_iconst 0 dX10_happiness_17 rfl ?_
    cases h
    exact x_iret rfl dX10_happiness_18 ⟨rfl, rfl, rfl⟩
  have h := ifF hc h
  refine x_aloadn dX10_happiness_8 rfl ?_
  refine x_iloadn dX10_happiness_9 rfl ?_
  refine x_iconst 3 dX10_happiness_10 rfl ?_
  obtain ⟨v4, h5, h⟩ := b1_s h
  refine z_V1 [.int x1, .int 3] [] (cs_X10_141 _) (ci := 8) rfl (MK.o H0) (dep (show d + 2 + 0 + 1 ≤ (d + 3) from by omega) (Nat.le_of_ble_eq_true rfl)) dX10_happiness_11 rfl rfl (Nat.le_of_ble_eq_true rfl) (c_X10_ofPerson (d + 2) (K := K) (I := I2) H0 h5) ?_
  refine x_goto 18 dX10_happiness_14 rfl ?_
  cases h
  exact x_iret rfl dX10_happiness_18 ⟨rfl, rfl, rfl⟩
noncomputable def f_X10_ownedCount (I : Mem) (x0 : Nat) (x1 : Int32) : Option (Int32 × Mem) := b2 (f_X10_mayPerson I x0 x1) fun v1 I2 => if v1 = 0 then (some (0, I2)) else (b1 (f_X10_owns I2 x0 x1) fun v4 => some (v4, I2))
theorem c_X10_ownedCount (d : Nat) {K : Kt} {I : Mem} {x0 : Nat} (H0 : MK K x0) {x1 : Int32} {v : Int32} {I9 : Mem} (h : f_X10_ownedCount I x0 x1 = some (v, I9)) : Ct (mX10_ownedCount (d + 4)) cX10_ownedCount 0 0 [.ref x0, .int x1] I K (Ro (.inl (some (.int v))) I9 K) := by
  refine Ct.of rfl pn_X10 (catR (catI cat0)) (Nat.le_of_ble_eq_true rfl) (show X _ _ _ _ _ _ 0 [.ref x0, .int x1] [] _ from ?_)
  unfold f_X10_ownedCount at h
  refine x_aloadn dX10_ownedCount_0 rfl ?_
  refine x_iloadn dX10_ownedCount_1 rfl ?_
  obtain ⟨v1, I2, h3, h⟩ := b2_s h
  refine z_V1 [.int x1] [] (cs_X10_466 _) (ci := 8) rfl (MK.o H0) (dep (show d + 1 + 2 + 1 ≤ (d + 4) from by omega) (Nat.le_of_ble_eq_true rfl)) dX10_ownedCount_2 rfl rfl (Nat.le_of_ble_eq_true rfl) (c_X10_mayPerson (d + 1) (K := K) (I := I) H0 h3) ?_
  refine x_if_eq 16 dX10_ownedCount_5 rfl (fun hc => ?_) (fun hc => ?_)
  · have h := ifT hc h
    refine x_iconst 0 dX10_ownedCount_16 rfl ?_
    cases h
    exact x_iret rfl dX10_ownedCount_17 ⟨rfl, rfl, rfl⟩
  have h := ifF hc h
  refine x_aloadn dX10_ownedCount_8 rfl ?_
  refine x_iloadn dX10_ownedCount_9 rfl ?_
  obtain ⟨v4, h5, h⟩ := b1_s h
  refine z_V1 [.int x1] [] (cs_X10_177 _) (ci := 8) rfl (MK.o H0) (dep (show d + 0 + 3 + 1 ≤ (d + 4) from by omega) (Nat.le_of_ble_eq_true rfl)) dX10_ownedCount_10 rfl rfl (Nat.le_of_ble_eq_true rfl) (c_X10_owns d (K := K) (I := I2) H0 h5) ?_
  refine x_goto 17 dX10_ownedCount_13 rfl ?_
  cases h
  exact x_iret rfl dX10_ownedCount_17 ⟨rfl, rfl, rfl⟩
noncomputable def f_X10_shoppingLimit (I : Mem) (x0 : Nat) (x1 : Int32) : Option (Int32 × Mem) := b2 (f_X10_mayPerson I x0 x1) fun v1 I2 => if v1 = 0 then (some (0, I2)) else (b1 (f_X10_ofPerson I2 x0 x1 4) fun v4 => some (v4, I2))
theorem c_X10_shoppingLimit (d : Nat) {K : Kt} {I : Mem} {x0 : Nat} (H0 : MK K x0) {x1 : Int32} {v : Int32} {I9 : Mem} (h : f_X10_shoppingLimit I x0 x1 = some (v, I9)) : Ct (mX10_shoppingLimit (d + 3)) cX10_shoppingLimit 0 0 [.ref x0, .int x1] I K (Ro (.inl (some (.int v))) I9 K) := by
  refine Ct.of rfl pn_X10 (catR (catI cat0)) (Nat.le_of_ble_eq_true rfl) (show X _ _ _ _ _ _ 0 [.ref x0, .int x1] [] _ from ?_)
  unfold f_X10_shoppingLimit at h
  refine x_aloadn dX10_shoppingLimit_0 rfl ?_
  refine x_iloadn dX10_shoppingLimit_1 rfl ?_
  obtain ⟨v1, I2, h3, h⟩ := b2_s h
  refine z_V1 [.int x1] [] (cs_X10_466 _) (ci := 8) rfl (MK.o H0) (dep (show d + 0 + 2 + 1 ≤ (d + 3) from by omega) (Nat.le_of_ble_eq_true rfl)) dX10_shoppingLimit_2 rfl rfl (Nat.le_of_ble_eq_true rfl) (c_X10_mayPerson d (K := K) (I := I) H0 h3) ?_
  refine x_if_eq 17 dX10_shoppingLimit_5 rfl (fun hc => ?_) (fun hc => ?_)
  · have h := ifT hc h
    refine x_iconst 0 dX10_shoppingLimit_17 rfl ?_
    cases h
    exact x_iret rfl dX10_shoppingLimit_18 ⟨rfl, rfl, rfl⟩
  have h := ifF hc h
  refine x_aloadn dX10_shoppingLimit_8 rfl ?_
  refine x_iloadn dX10_shoppingLimit_9 rfl ?_
  refine x_iconst 4 dX10_shoppingLimit_10 rfl ?_
  obtain ⟨v4, h5, h⟩ := b1_s h
  refine z_V1 [.int x1, .int 4] [] (cs_X10_141 _) (ci := 8) rfl (MK.o H0) (dep (show d + 2 + 0 + 1 ≤ (d + 3) from by omega) (Nat.le_of_ble_eq_true rfl)) dX10_shoppingLimit_11 rfl rfl (Nat.le_of_ble_eq_true rfl) (c_X10_ofPerson (d + 2) (K := K) (I := I2) H0 h5) ?_
  refine x_goto 18 dX10_shoppingLimit_14 rfl ?_
  cases h
  exact x_iret rfl dX10_shoppingLimit_18 ⟨rfl, rfl, rfl⟩
noncomputable def f_X10_daysUntilBirthday (I : Mem) (x0 : Nat) (x1 : Int32) : Option (Int32 × Mem) := b2 (f_X10_mayPerson I x0 x1) fun v1 I2 => if v1 = 0 then (some (0, I2)) else (b1 (f_X10_ofPerson I2 x0 x1 1) fun v4 => b1 (ix 0 355) fun j6 => b1 (f_X10_today I2 x0) fun v7 => b1 (ix 0 355) fun j9 => b1 (nz (I2 (x0 + 1) j9)) fun _ => some ((((v4 + (I2 (x0 + 1) j6)) - v7) - ((v4 + (I2 (x0 + 1) j6)) - v7) / (I2 (x0 + 1) j9) * (I2 (x0 + 1) j9)), I2))
theorem c_X10_daysUntilBirthday (d : Nat) {K : Kt} {I : Mem} {x0 : Nat} (H0 : MK K x0) {x1 : Int32} {v : Int32} {I9 : Mem} (h : f_X10_daysUntilBirthday I x0 x1 = some (v, I9)) : Ct (mX10_daysUntilBirthday (d + 3)) cX10_daysUntilBirthday 0 0 [.ref x0, .int x1] I K (Ro (.inl (some (.int v))) I9 K) := by
  refine Ct.of rfl pn_X10 (catR (catI cat0)) (Nat.le_of_ble_eq_true rfl) (show X _ _ _ _ _ _ 0 [.ref x0, .int x1] [] _ from ?_)
  unfold f_X10_daysUntilBirthday at h
  refine x_aloadn dX10_daysUntilBirthday_0 rfl ?_
  refine x_iloadn dX10_daysUntilBirthday_1 rfl ?_
  obtain ⟨v1, I2, h3, h⟩ := b2_s h
  refine z_V1 [.int x1] [] (cs_X10_466 _) (ci := 8) rfl (MK.o H0) (dep (show d + 0 + 2 + 1 ≤ (d + 3) from by omega) (Nat.le_of_ble_eq_true rfl)) dX10_daysUntilBirthday_2 rfl rfl (Nat.le_of_ble_eq_true rfl) (c_X10_mayPerson d (K := K) (I := I) H0 h3) ?_
  refine x_if_eq 36 dX10_daysUntilBirthday_5 rfl (fun hc => ?_) (fun hc => ?_)
  · have h := ifT hc h
    refine x_iconst 0 dX10_daysUntilBirthday_36 rfl ?_
    cases h
    exact x_iret rfl dX10_daysUntilBirthday_37 ⟨rfl, rfl, rfl⟩
  have h := ifF hc h
  refine x_aloadn dX10_daysUntilBirthday_8 rfl ?_
  refine x_iloadn dX10_daysUntilBirthday_9 rfl ?_
  refine x_iconst 1 dX10_daysUntilBirthday_10 rfl ?_
  obtain ⟨v4, h5, h⟩ := b1_s h
  refine z_V1 [.int x1, .int 1] [] (cs_X10_141 _) (ci := 8) rfl (MK.o H0) (dep (show d + 2 + 0 + 1 ≤ (d + 3) from by omega) (Nat.le_of_ble_eq_true rfl)) dX10_daysUntilBirthday_11 rfl rfl (Nat.le_of_ble_eq_true rfl) (c_X10_ofPerson (d + 2) (K := K) (I := I2) H0 h5) ?_
  refine x_aloadn dX10_daysUntilBirthday_14 rfl ?_
  refine z_getR fs_X10_9 (MK.o H0) (MK.g1 H0) dX10_daysUntilBirthday_15 ?_
  refine x_iconst 0 dX10_daysUntilBirthday_18 rfl ?_
  obtain ⟨j6, hj6, h⟩ := b1_s h
  refine z_iald (MK.l1 H0) hj6 dX10_daysUntilBirthday_19 ?_
  refine x_iadd dX10_daysUntilBirthday_20 ?_
  refine x_aloadn dX10_daysUntilBirthday_21 rfl ?_
  obtain ⟨v7, h8, h⟩ := b1_s h
  refine z_V1 [] [.int (v4 + (I2 (x0 + 1) j6))] (cs_X10_377 _) (ci := 8) rfl (MK.o H0) (dep (show d + 2 + 0 + 1 ≤ (d + 3) from by omega) (Nat.le_of_ble_eq_true rfl)) dX10_daysUntilBirthday_22 rfl rfl (Nat.le_of_ble_eq_true rfl) (c_X10_today (d + 2) (K := K) (I := I2) H0 h8) ?_
  refine x_isub dX10_daysUntilBirthday_25 ?_
  refine x_aloadn dX10_daysUntilBirthday_26 rfl ?_
  refine z_getR fs_X10_9 (MK.o H0) (MK.g1 H0) dX10_daysUntilBirthday_27 ?_
  refine x_iconst 0 dX10_daysUntilBirthday_30 rfl ?_
  obtain ⟨j9, hj9, h⟩ := b1_s h
  refine z_iald (MK.l1 H0) hj9 dX10_daysUntilBirthday_31 ?_
  obtain ⟨u10, hu10, h⟩ := b1_s h
  refine x_irem dX10_daysUntilBirthday_32 (nz_s hu10) ?_
  refine x_goto 37 dX10_daysUntilBirthday_33 rfl ?_
  cases h
  exact x_iret rfl dX10_daysUntilBirthday_37 ⟨rfl, rfl, rfl⟩
noncomputable def f_X10_stallCount (I : Mem) (x0 : Nat) : Option (Int32 × Mem) := b2 (f_X10_look I x0 3) fun v1 I2 => some (v1, I2)
theorem c_X10_stallCount (d : Nat) {K : Kt} {I : Mem} {x0 : Nat} (H0 : MK K x0) {v : Int32} {I9 : Mem} (h : f_X10_stallCount I x0 = some (v, I9)) : Ct (mX10_stallCount (d + 3)) cX10_stallCount 0 0 [.ref x0] I K (Ro (.inl (some (.int v))) I9 K) := by
  refine Ct.of rfl pn_X10 (catR cat0) (Nat.le_of_ble_eq_true rfl) (show X _ _ _ _ _ _ 0 [.ref x0] [] _ from ?_)
  unfold f_X10_stallCount at h
  refine x_aloadn dX10_stallCount_0 rfl ?_
  refine x_iconst 3 dX10_stallCount_1 rfl ?_
  obtain ⟨v1, I2, h3, h⟩ := b2_s h
  refine z_V1 [.int 3] [] (cs_X10_444 _) (ci := 8) rfl (MK.o H0) (dep (show d + 0 + 2 + 1 ≤ (d + 3) from by omega) (Nat.le_of_ble_eq_true rfl)) dX10_stallCount_2 rfl rfl (Nat.le_of_ble_eq_true rfl) (c_X10_look d (K := K) (I := I) H0 h3) ?_
  cases h
  exact x_iret rfl dX10_stallCount_5 ⟨rfl, rfl, rfl⟩
noncomputable def f_X10_cash (I : Mem) (x0 : Nat) (x1 : Int32) : Option (Int32 × Mem) := b2 (f_X10_mayStall I x0 x1) fun v1 I2 => if v1 = 0 then (some (0, I2)) else (b1 (f_X10_ofStall I2 x0 x1 1) fun v4 => some (v4, I2))
theorem c_X10_cash (d : Nat) {K : Kt} {I : Mem} {x0 : Nat} (H0 : MK K x0) {x1 : Int32} {v : Int32} {I9 : Mem} (h : f_X10_cash I x0 x1 = some (v, I9)) : Ct (mX10_cash (d + 3)) cX10_cash 0 0 [.ref x0, .int x1] I K (Ro (.inl (some (.int v))) I9 K) := by
  refine Ct.of rfl pn_X10 (catR (catI cat0)) (Nat.le_of_ble_eq_true rfl) (show X _ _ _ _ _ _ 0 [.ref x0, .int x1] [] _ from ?_)
  unfold f_X10_cash at h
  refine x_aloadn dX10_cash_0 rfl ?_
  refine x_iloadn dX10_cash_1 rfl ?_
  obtain ⟨v1, I2, h3, h⟩ := b2_s h
  refine z_V1 [.int x1] [] (cs_X10_472 _) (ci := 8) rfl (MK.o H0) (dep (show d + 0 + 2 + 1 ≤ (d + 3) from by omega) (Nat.le_of_ble_eq_true rfl)) dX10_cash_2 rfl rfl (Nat.le_of_ble_eq_true rfl) (c_X10_mayStall d (K := K) (I := I) H0 h3) ?_
  refine x_if_eq 17 dX10_cash_5 rfl (fun hc => ?_) (fun hc => ?_)
  · have h := ifT hc h
    refine x_iconst 0 dX10_cash_17 rfl ?_
    cases h
    exact x_iret rfl dX10_cash_18 ⟨rfl, rfl, rfl⟩
  have h := ifF hc h
  refine x_aloadn dX10_cash_8 rfl ?_
  refine x_iloadn dX10_cash_9 rfl ?_
  refine x_iconst 1 dX10_cash_10 rfl ?_
  obtain ⟨v4, h5, h⟩ := b1_s h
  refine z_V1 [.int x1, .int 1] [] (cs_X10_356 _) (ci := 8) rfl (MK.o H0) (dep (show d + 2 + 0 + 1 ≤ (d + 3) from by omega) (Nat.le_of_ble_eq_true rfl)) dX10_cash_11 rfl rfl (Nat.le_of_ble_eq_true rfl) (c_X10_ofStall (d + 2) (K := K) (I := I2) H0 h5) ?_
  refine x_goto 18 dX10_cash_14 rfl ?_
  cases h
  exact x_iret rfl dX10_cash_18 ⟨rfl, rfl, rfl⟩
noncomputable def f_X10_stars (I : Mem) (x0 : Nat) (x1 : Int32) : Option (Int32 × Mem) := b2 (f_X10_mayStall I x0 x1) fun v1 I2 => if v1 = 0 then (some (0, I2)) else (b1 (f_X10_ofStall I2 x0 x1 2) fun v4 => some (v4, I2))
theorem c_X10_stars (d : Nat) {K : Kt} {I : Mem} {x0 : Nat} (H0 : MK K x0) {x1 : Int32} {v : Int32} {I9 : Mem} (h : f_X10_stars I x0 x1 = some (v, I9)) : Ct (mX10_stars (d + 3)) cX10_stars 0 0 [.ref x0, .int x1] I K (Ro (.inl (some (.int v))) I9 K) := by
  refine Ct.of rfl pn_X10 (catR (catI cat0)) (Nat.le_of_ble_eq_true rfl) (show X _ _ _ _ _ _ 0 [.ref x0, .int x1] [] _ from ?_)
  unfold f_X10_stars at h
  refine x_aloadn dX10_stars_0 rfl ?_
  refine x_iloadn dX10_stars_1 rfl ?_
  obtain ⟨v1, I2, h3, h⟩ := b2_s h
  refine z_V1 [.int x1] [] (cs_X10_472 _) (ci := 8) rfl (MK.o H0) (dep (show d + 0 + 2 + 1 ≤ (d + 3) from by omega) (Nat.le_of_ble_eq_true rfl)) dX10_stars_2 rfl rfl (Nat.le_of_ble_eq_true rfl) (c_X10_mayStall d (K := K) (I := I) H0 h3) ?_
  refine x_if_eq 17 dX10_stars_5 rfl (fun hc => ?_) (fun hc => ?_)
  · have h := ifT hc h
    refine x_iconst 0 dX10_stars_17 rfl ?_
    cases h
    exact x_iret rfl dX10_stars_18 ⟨rfl, rfl, rfl⟩
  have h := ifF hc h
  refine x_aloadn dX10_stars_8 rfl ?_
  refine x_iloadn dX10_stars_9 rfl ?_
  refine x_iconst 2 dX10_stars_10 rfl ?_
  obtain ⟨v4, h5, h⟩ := b1_s h
  refine z_V1 [.int x1, .int 2] [] (cs_X10_356 _) (ci := 8) rfl (MK.o H0) (dep (show d + 2 + 0 + 1 ≤ (d + 3) from by omega) (Nat.le_of_ble_eq_true rfl)) dX10_stars_11 rfl rfl (Nat.le_of_ble_eq_true rfl) (c_X10_ofStall (d + 2) (K := K) (I := I2) H0 h5) ?_
  refine x_goto 18 dX10_stars_14 rfl ?_
  cases h
  exact x_iret rfl dX10_stars_18 ⟨rfl, rfl, rfl⟩
noncomputable def f_X10_margin (I : Mem) (x0 : Nat) (x1 : Int32) : Option (Int32 × Mem) := b2 (f_X10_mayStall I x0 x1) fun v1 I2 => if v1 = 0 then (some (0, I2)) else (b1 (f_X10_ofStall I2 x0 x1 3) fun v4 => some (v4, I2))
theorem c_X10_margin (d : Nat) {K : Kt} {I : Mem} {x0 : Nat} (H0 : MK K x0) {x1 : Int32} {v : Int32} {I9 : Mem} (h : f_X10_margin I x0 x1 = some (v, I9)) : Ct (mX10_margin (d + 3)) cX10_margin 0 0 [.ref x0, .int x1] I K (Ro (.inl (some (.int v))) I9 K) := by
  refine Ct.of rfl pn_X10 (catR (catI cat0)) (Nat.le_of_ble_eq_true rfl) (show X _ _ _ _ _ _ 0 [.ref x0, .int x1] [] _ from ?_)
  unfold f_X10_margin at h
  refine x_aloadn dX10_margin_0 rfl ?_
  refine x_iloadn dX10_margin_1 rfl ?_
  obtain ⟨v1, I2, h3, h⟩ := b2_s h
  refine z_V1 [.int x1] [] (cs_X10_472 _) (ci := 8) rfl (MK.o H0) (dep (show d + 0 + 2 + 1 ≤ (d + 3) from by omega) (Nat.le_of_ble_eq_true rfl)) dX10_margin_2 rfl rfl (Nat.le_of_ble_eq_true rfl) (c_X10_mayStall d (K := K) (I := I) H0 h3) ?_
  refine x_if_eq 17 dX10_margin_5 rfl (fun hc => ?_) (fun hc => ?_)
  · have h := ifT hc h
    refine x_iconst 0 dX10_margin_17 rfl ?_
    cases h
    exact x_iret rfl dX10_margin_18 ⟨rfl, rfl, rfl⟩
  have h := ifF hc h
  refine x_aloadn dX10_margin_8 rfl ?_
  refine x_iloadn dX10_margin_9 rfl ?_
  refine x_iconst 3 dX10_margin_10 rfl ?_
  obtain ⟨v4, h5, h⟩ := b1_s h
  refine z_V1 [.int x1, .int 3] [] (cs_X10_356 _) (ci := 8) rfl (MK.o H0) (dep (show d + 2 + 0 + 1 ≤ (d + 3) from by omega) (Nat.le_of_ble_eq_true rfl)) dX10_margin_11 rfl rfl (Nat.le_of_ble_eq_true rfl) (c_X10_ofStall (d + 2) (K := K) (I := I2) H0 h5) ?_
  refine x_goto 18 dX10_margin_14 rfl ?_
  cases h
  exact x_iret rfl dX10_margin_18 ⟨rfl, rfl, rfl⟩
noncomputable def f_X10_stockCount (I : Mem) (x0 : Nat) (x1 : Int32) : Option (Int32 × Mem) := b2 (f_X10_mayStall I x0 x1) fun v1 I2 => if v1 = 0 then (some (0, I2)) else (b1 (f_X10_stock I2 x0 x1) fun v4 => some (v4, I2))
theorem c_X10_stockCount (d : Nat) {K : Kt} {I : Mem} {x0 : Nat} (H0 : MK K x0) {x1 : Int32} {v : Int32} {I9 : Mem} (h : f_X10_stockCount I x0 x1 = some (v, I9)) : Ct (mX10_stockCount (d + 3)) cX10_stockCount 0 0 [.ref x0, .int x1] I K (Ro (.inl (some (.int v))) I9 K) := by
  refine Ct.of rfl pn_X10 (catR (catI cat0)) (Nat.le_of_ble_eq_true rfl) (show X _ _ _ _ _ _ 0 [.ref x0, .int x1] [] _ from ?_)
  unfold f_X10_stockCount at h
  refine x_aloadn dX10_stockCount_0 rfl ?_
  refine x_iloadn dX10_stockCount_1 rfl ?_
  obtain ⟨v1, I2, h3, h⟩ := b2_s h
  refine z_V1 [.int x1] [] (cs_X10_472 _) (ci := 8) rfl (MK.o H0) (dep (show d + 0 + 2 + 1 ≤ (d + 3) from by omega) (Nat.le_of_ble_eq_true rfl)) dX10_stockCount_2 rfl rfl (Nat.le_of_ble_eq_true rfl) (c_X10_mayStall d (K := K) (I := I) H0 h3) ?_
  refine x_if_eq 16 dX10_stockCount_5 rfl (fun hc => ?_) (fun hc => ?_)
  · have h := ifT hc h
    refine x_iconst 0 dX10_stockCount_16 rfl ?_
    cases h
    exact x_iret rfl dX10_stockCount_17 ⟨rfl, rfl, rfl⟩
  have h := ifF hc h
  refine x_aloadn dX10_stockCount_8 rfl ?_
  refine x_iloadn dX10_stockCount_9 rfl ?_
  obtain ⟨v4, h5, h⟩ := b1_s h
  refine z_V1 [.int x1] [] (cs_X10_353 _) (ci := 8) rfl (MK.o H0) (dep (show d + 0 + 2 + 1 ≤ (d + 3) from by omega) (Nat.le_of_ble_eq_true rfl)) dX10_stockCount_10 rfl rfl (Nat.le_of_ble_eq_true rfl) (c_X10_stock d (K := K) (I := I2) H0 h5) ?_
  refine x_goto 17 dX10_stockCount_13 rfl ?_
  cases h
  exact x_iret rfl dX10_stockCount_17 ⟨rfl, rfl, rfl⟩
noncomputable def f_X10_wishLetter (I : Mem) (x0 : Nat) (x1 : Int32) (x2 : Int32) : Option (Int32 × Mem) := b2 (f_X10_mayWish I x0 x1) fun v1 I2 => if v1 = 0 then (some (0, I2)) else (b1 (f_X10_letter I2 x0 ((115 + (15 * x1)) + 8) x2) fun v4 => some (v4, I2))
theorem c_X10_wishLetter (d : Nat) {K : Kt} {I : Mem} {x0 : Nat} (H0 : MK K x0) {x1 : Int32} {x2 : Int32} {v : Int32} {I9 : Mem} (h : f_X10_wishLetter I x0 x1 x2 = some (v, I9)) : Ct (mX10_wishLetter (d + 3)) cX10_wishLetter 0 0 [.ref x0, .int x1, .int x2] I K (Ro (.inl (some (.int v))) I9 K) := by
  refine Ct.of rfl pn_X10 (catR (catI (catI cat0))) (Nat.le_of_ble_eq_true rfl) (show X _ _ _ _ _ _ 0 [.ref x0, .int x1, .int x2] [] _ from ?_)
  unfold f_X10_wishLetter at h
  refine x_aloadn dX10_wishLetter_0 rfl ?_
  refine x_iloadn dX10_wishLetter_1 rfl ?_
  obtain ⟨v1, I2, h3, h⟩ := b2_s h
  refine z_V1 [.int x1] [] (cs_X10_475 _) (ci := 8) rfl (MK.o H0) (dep (show d + 0 + 2 + 1 ≤ (d + 3) from by omega) (Nat.le_of_ble_eq_true rfl)) dX10_wishLetter_2 rfl rfl (Nat.le_of_ble_eq_true rfl) (c_X10_mayWish d (K := K) (I := I) H0 h3) ?_
  refine x_if_eq 26 dX10_wishLetter_5 rfl (fun hc => ?_) (fun hc => ?_)
  · have h := ifT hc h
    refine x_iconst 0 dX10_wishLetter_26 rfl ?_
    cases h
    exact x_iret rfl dX10_wishLetter_27 ⟨rfl, rfl, rfl⟩
  have h := ifF hc h
  refine x_aloadn dX10_wishLetter_8 rfl ?_
  refine x_bipush 115 dX10_wishLetter_9 rfl ?_
  refine x_bipush 15 dX10_wishLetter_11 rfl ?_
  refine x_iloadn dX10_wishLetter_13 rfl ?_
  refine x_imul dX10_wishLetter_14 ?_
  refine x_iadd dX10_wishLetter_15 ?_
  refine x_bipush 8 dX10_wishLetter_16 rfl ?_
  refine x_iadd dX10_wishLetter_18 ?_
  refine x_iloadn dX10_wishLetter_19 rfl ?_
  obtain ⟨v4, h5, h⟩ := b1_s h
  refine z_V1 [.int ((115 + (15 * x1)) + 8), .int x2] [] (cs_X10_469 _) (ci := 8) rfl (MK.o H0) (dep (show d + 1 + 1 + 1 ≤ (d + 3) from by omega) (Nat.le_of_ble_eq_true rfl)) dX10_wishLetter_20 rfl rfl (Nat.le_of_ble_eq_true rfl) (c_X10_letter (d + 1) (K := K) (I := I2) H0 h5) ?_
  refine x_goto 27 dX10_wishLetter_23 rfl ?_
  cases h
  exact x_iret rfl dX10_wishLetter_27 ⟨rfl, rfl, rfl⟩
noncomputable def f_X10_baseValue (I : Mem) (x0 : Nat) (x1 : Int32) : Option (Int32 × Mem) := b2 (f_X10_mayWish I x0 x1) fun v1 I2 => if v1 = 0 then (some (0, I2)) else (b1 (f_X10_ofWish I2 x0 x1 0) fun v4 => some (v4, I2))
theorem c_X10_baseValue (d : Nat) {K : Kt} {I : Mem} {x0 : Nat} (H0 : MK K x0) {x1 : Int32} {v : Int32} {I9 : Mem} (h : f_X10_baseValue I x0 x1 = some (v, I9)) : Ct (mX10_baseValue (d + 3)) cX10_baseValue 0 0 [.ref x0, .int x1] I K (Ro (.inl (some (.int v))) I9 K) := by
  refine Ct.of rfl pn_X10 (catR (catI cat0)) (Nat.le_of_ble_eq_true rfl) (show X _ _ _ _ _ _ 0 [.ref x0, .int x1] [] _ from ?_)
  unfold f_X10_baseValue at h
  refine x_aloadn dX10_baseValue_0 rfl ?_
  refine x_iloadn dX10_baseValue_1 rfl ?_
  obtain ⟨v1, I2, h3, h⟩ := b2_s h
  refine z_V1 [.int x1] [] (cs_X10_475 _) (ci := 8) rfl (MK.o H0) (dep (show d + 0 + 2 + 1 ≤ (d + 3) from by omega) (Nat.le_of_ble_eq_true rfl)) dX10_baseValue_2 rfl rfl (Nat.le_of_ble_eq_true rfl) (c_X10_mayWish d (K := K) (I := I) H0 h3) ?_
  refine x_if_eq 17 dX10_baseValue_5 rfl (fun hc => ?_) (fun hc => ?_)
  · have h := ifT hc h
    refine x_iconst 0 dX10_baseValue_17 rfl ?_
    cases h
    exact x_iret rfl dX10_baseValue_18 ⟨rfl, rfl, rfl⟩
  have h := ifF hc h
  refine x_aloadn dX10_baseValue_8 rfl ?_
  refine x_iloadn dX10_baseValue_9 rfl ?_
  refine x_iconst 0 dX10_baseValue_10 rfl ?_
  obtain ⟨v4, h5, h⟩ := b1_s h
  refine z_V1 [.int x1, .int 0] [] (cs_X10_224 _) (ci := 8) rfl (MK.o H0) (dep (show d + 2 + 0 + 1 ≤ (d + 3) from by omega) (Nat.le_of_ble_eq_true rfl)) dX10_baseValue_11 rfl rfl (Nat.le_of_ble_eq_true rfl) (c_X10_ofWish (d + 2) (K := K) (I := I2) H0 h5) ?_
  refine x_goto 18 dX10_baseValue_14 rfl ?_
  cases h
  exact x_iret rfl dX10_baseValue_18 ⟨rfl, rfl, rfl⟩
noncomputable def f_X10_strength (I : Mem) (x0 : Nat) (x1 : Int32) : Option (Int32 × Mem) := b2 (f_X10_mayWish I x0 x1) fun v1 I2 => if v1 = 0 then (some (0, I2)) else (b1 (f_X10_ofWish I2 x0 x1 1) fun v4 => some (v4, I2))
theorem c_X10_strength (d : Nat) {K : Kt} {I : Mem} {x0 : Nat} (H0 : MK K x0) {x1 : Int32} {v : Int32} {I9 : Mem} (h : f_X10_strength I x0 x1 = some (v, I9)) : Ct (mX10_strength (d + 3)) cX10_strength 0 0 [.ref x0, .int x1] I K (Ro (.inl (some (.int v))) I9 K) := by
  refine Ct.of rfl pn_X10 (catR (catI cat0)) (Nat.le_of_ble_eq_true rfl) (show X _ _ _ _ _ _ 0 [.ref x0, .int x1] [] _ from ?_)
  unfold f_X10_strength at h
  refine x_aloadn dX10_strength_0 rfl ?_
  refine x_iloadn dX10_strength_1 rfl ?_
  obtain ⟨v1, I2, h3, h⟩ := b2_s h
  refine z_V1 [.int x1] [] (cs_X10_475 _) (ci := 8) rfl (MK.o H0) (dep (show d + 0 + 2 + 1 ≤ (d + 3) from by omega) (Nat.le_of_ble_eq_true rfl)) dX10_strength_2 rfl rfl (Nat.le_of_ble_eq_true rfl) (c_X10_mayWish d (K := K) (I := I) H0 h3) ?_
  refine x_if_eq 17 dX10_strength_5 rfl (fun hc => ?_) (fun hc => ?_)
  · have h := ifT hc h
    refine x_iconst 0 dX10_strength_17 rfl ?_
    cases h
    exact x_iret rfl dX10_strength_18 ⟨rfl, rfl, rfl⟩
  have h := ifF hc h
  refine x_aloadn dX10_strength_8 rfl ?_
  refine x_iloadn dX10_strength_9 rfl ?_
  refine x_iconst 1 dX10_strength_10 rfl ?_
  obtain ⟨v4, h5, h⟩ := b1_s h
  refine z_V1 [.int x1, .int 1] [] (cs_X10_224 _) (ci := 8) rfl (MK.o H0) (dep (show d + 2 + 0 + 1 ≤ (d + 3) from by omega) (Nat.le_of_ble_eq_true rfl)) dX10_strength_11 rfl rfl (Nat.le_of_ble_eq_true rfl) (c_X10_ofWish (d + 2) (K := K) (I := I2) H0 h5) ?_
  refine x_goto 18 dX10_strength_14 rfl ?_
  cases h
  exact x_iret rfl dX10_strength_18 ⟨rfl, rfl, rfl⟩
noncomputable def f_X10_wear (I : Mem) (x0 : Nat) (x1 : Int32) : Option (Int32 × Mem) := b2 (f_X10_mayWish I x0 x1) fun v1 I2 => if v1 = 0 then (some (0, I2)) else (b1 (f_X10_ofWish I2 x0 x1 2) fun v4 => some (v4, I2))
theorem c_X10_wear (d : Nat) {K : Kt} {I : Mem} {x0 : Nat} (H0 : MK K x0) {x1 : Int32} {v : Int32} {I9 : Mem} (h : f_X10_wear I x0 x1 = some (v, I9)) : Ct (mX10_wear (d + 3)) cX10_wear 0 0 [.ref x0, .int x1] I K (Ro (.inl (some (.int v))) I9 K) := by
  refine Ct.of rfl pn_X10 (catR (catI cat0)) (Nat.le_of_ble_eq_true rfl) (show X _ _ _ _ _ _ 0 [.ref x0, .int x1] [] _ from ?_)
  unfold f_X10_wear at h
  refine x_aloadn dX10_wear_0 rfl ?_
  refine x_iloadn dX10_wear_1 rfl ?_
  obtain ⟨v1, I2, h3, h⟩ := b2_s h
  refine z_V1 [.int x1] [] (cs_X10_475 _) (ci := 8) rfl (MK.o H0) (dep (show d + 0 + 2 + 1 ≤ (d + 3) from by omega) (Nat.le_of_ble_eq_true rfl)) dX10_wear_2 rfl rfl (Nat.le_of_ble_eq_true rfl) (c_X10_mayWish d (K := K) (I := I) H0 h3) ?_
  refine x_if_eq 17 dX10_wear_5 rfl (fun hc => ?_) (fun hc => ?_)
  · have h := ifT hc h
    refine x_iconst 0 dX10_wear_17 rfl ?_
    cases h
    exact x_iret rfl dX10_wear_18 ⟨rfl, rfl, rfl⟩
  have h := ifF hc h
  refine x_aloadn dX10_wear_8 rfl ?_
  refine x_iloadn dX10_wear_9 rfl ?_
  refine x_iconst 2 dX10_wear_10 rfl ?_
  obtain ⟨v4, h5, h⟩ := b1_s h
  refine z_V1 [.int x1, .int 2] [] (cs_X10_224 _) (ci := 8) rfl (MK.o H0) (dep (show d + 2 + 0 + 1 ≤ (d + 3) from by omega) (Nat.le_of_ble_eq_true rfl)) dX10_wear_11 rfl rfl (Nat.le_of_ble_eq_true rfl) (c_X10_ofWish (d + 2) (K := K) (I := I2) H0 h5) ?_
  refine x_goto 18 dX10_wear_14 rfl ?_
  cases h
  exact x_iret rfl dX10_wear_18 ⟨rfl, rfl, rfl⟩
noncomputable def f_X10_value (I : Mem) (x0 : Nat) (x1 : Int32) : Option (Int32 × Mem) := b2 (f_X10_mayWish I x0 x1) fun v1 I2 => if v1 = 0 then (some (0, I2)) else (b1 (f_X10_valueOf I2 x0 x1) fun v4 => some (v4, I2))
theorem c_X10_value (d : Nat) {K : Kt} {I : Mem} {x0 : Nat} (H0 : MK K x0) {x1 : Int32} {v : Int32} {I9 : Mem} (h : f_X10_value I x0 x1 = some (v, I9)) : Ct (mX10_value (d + 3)) cX10_value 0 0 [.ref x0, .int x1] I K (Ro (.inl (some (.int v))) I9 K) := by
  refine Ct.of rfl pn_X10 (catR (catI cat0)) (Nat.le_of_ble_eq_true rfl) (show X _ _ _ _ _ _ 0 [.ref x0, .int x1] [] _ from ?_)
  unfold f_X10_value at h
  refine x_aloadn dX10_value_0 rfl ?_
  refine x_iloadn dX10_value_1 rfl ?_
  obtain ⟨v1, I2, h3, h⟩ := b2_s h
  refine z_V1 [.int x1] [] (cs_X10_475 _) (ci := 8) rfl (MK.o H0) (dep (show d + 0 + 2 + 1 ≤ (d + 3) from by omega) (Nat.le_of_ble_eq_true rfl)) dX10_value_2 rfl rfl (Nat.le_of_ble_eq_true rfl) (c_X10_mayWish d (K := K) (I := I) H0 h3) ?_
  refine x_if_eq 16 dX10_value_5 rfl (fun hc => ?_) (fun hc => ?_)
  · have h := ifT hc h
    refine x_iconst 0 dX10_value_16 rfl ?_
    cases h
    exact x_iret rfl dX10_value_17 ⟨rfl, rfl, rfl⟩
  have h := ifF hc h
  refine x_aloadn dX10_value_8 rfl ?_
  refine x_iloadn dX10_value_9 rfl ?_
  obtain ⟨v4, h5, h⟩ := b1_s h
  refine z_V1 [.int x1] [] (cs_X10_392 _) (ci := 8) rfl (MK.o H0) (dep (show d + 0 + 2 + 1 ≤ (d + 3) from by omega) (Nat.le_of_ble_eq_true rfl)) dX10_value_10 rfl rfl (Nat.le_of_ble_eq_true rfl) (c_X10_valueOf d (K := K) (I := I2) H0 h5) ?_
  refine x_goto 17 dX10_value_13 rfl ?_
  cases h
  exact x_iret rfl dX10_value_17 ⟨rfl, rfl, rfl⟩
noncomputable def f_X10_owner (I : Mem) (x0 : Nat) (x1 : Int32) : Option (Int32 × Mem) := b2 (f_X10_mayWish I x0 x1) fun v1 I2 => if v1 = 0 then (some (0, I2)) else (b1 (f_X10_isOwned I2 x0 x1) fun v4 => if v4 = 0 then (some ((-1), I2)) else (b1 (f_X10_ofWish I2 x0 x1 4) fun v6 => some (v6, I2)))
theorem c_X10_owner (d : Nat) {K : Kt} {I : Mem} {x0 : Nat} (H0 : MK K x0) {x1 : Int32} {v : Int32} {I9 : Mem} (h : f_X10_owner I x0 x1 = some (v, I9)) : Ct (mX10_owner (d + 3)) cX10_owner 0 0 [.ref x0, .int x1] I K (Ro (.inl (some (.int v))) I9 K) := by
  refine Ct.of rfl pn_X10 (catR (catI cat0)) (Nat.le_of_ble_eq_true rfl) (show X _ _ _ _ _ _ 0 [.ref x0, .int x1] [] _ from ?_)
  unfold f_X10_owner at h
  refine x_aloadn dX10_owner_0 rfl ?_
  refine x_iloadn dX10_owner_1 rfl ?_
  obtain ⟨v1, I2, h3, h⟩ := b2_s h
  refine z_V1 [.int x1] [] (cs_X10_475 _) (ci := 8) rfl (MK.o H0) (dep (show d + 0 + 2 + 1 ≤ (d + 3) from by omega) (Nat.le_of_ble_eq_true rfl)) dX10_owner_2 rfl rfl (Nat.le_of_ble_eq_true rfl) (c_X10_mayWish d (K := K) (I := I) H0 h3) ?_
  refine x_if_ne 10 dX10_owner_5 rfl (fun hc => ?_) (fun hc => ?_)
  · have h := ifF hc h
    refine x_aloadn dX10_owner_10 rfl ?_
    refine x_iloadn dX10_owner_11 rfl ?_
    obtain ⟨v4, h5, h⟩ := b1_s h
    refine z_V1 [.int x1] [] (cs_X10_221 _) (ci := 8) rfl (MK.o H0) (dep (show d + 1 + 1 + 1 ≤ (d + 3) from by omega) (Nat.le_of_ble_eq_true rfl)) dX10_owner_12 rfl rfl (Nat.le_of_ble_eq_true rfl) (c_X10_isOwned (d + 1) (K := K) (I := I2) H0 h5) ?_
    refine x_if_eq 27 dX10_owner_15 rfl (fun hc => ?_) (fun hc => ?_)
    · have h := ifT hc h
      refine x_iconst (-1) dX10_owner_27 rfl ?_
      cases h
      exact x_iret rfl dX10_owner_28 ⟨rfl, rfl, rfl⟩
    have h := ifF hc h
    refine x_aloadn dX10_owner_18 rfl ?_
    refine x_iloadn dX10_owner_19 rfl ?_
    refine x_iconst 4 dX10_owner_20 rfl ?_
    obtain ⟨v6, h7, h⟩ := b1_s h
    refine z_V1 [.int x1, .int 4] [] (cs_X10_224 _) (ci := 8) rfl (MK.o H0) (dep (show d + 2 + 0 + 1 ≤ (d + 3) from by omega) (Nat.le_of_ble_eq_true rfl)) dX10_owner_21 rfl rfl (Nat.le_of_ble_eq_true rfl) (c_X10_ofWish (d + 2) (K := K) (I := I2) H0 h7) ?_
    refine x_goto 28 dX10_owner_24 rfl ?_
    cases h
    exact x_iret rfl dX10_owner_28 ⟨rfl, rfl, rfl⟩
  have h := ifT hc h
  refine x_iconst 0 dX10_owner_8 rfl ?_
  cases h
  exact x_iret rfl dX10_owner_9 ⟨rfl, rfl, rfl⟩
noncomputable def f_X10_stallOf (I : Mem) (x0 : Nat) (x1 : Int32) : Option (Int32 × Mem) := b2 (f_X10_mayWish I x0 x1) fun v1 I2 => if v1 = 0 then (some (0, I2)) else (b1 (f_X10_isInStall I2 x0 x1) fun v4 => if v4 = 0 then (some ((-1), I2)) else (b1 (f_X10_ofWish I2 x0 x1 4) fun v6 => some (v6, I2)))
theorem c_X10_stallOf (d : Nat) {K : Kt} {I : Mem} {x0 : Nat} (H0 : MK K x0) {x1 : Int32} {v : Int32} {I9 : Mem} (h : f_X10_stallOf I x0 x1 = some (v, I9)) : Ct (mX10_stallOf (d + 3)) cX10_stallOf 0 0 [.ref x0, .int x1] I K (Ro (.inl (some (.int v))) I9 K) := by
  refine Ct.of rfl pn_X10 (catR (catI cat0)) (Nat.le_of_ble_eq_true rfl) (show X _ _ _ _ _ _ 0 [.ref x0, .int x1] [] _ from ?_)
  unfold f_X10_stallOf at h
  refine x_aloadn dX10_stallOf_0 rfl ?_
  refine x_iloadn dX10_stallOf_1 rfl ?_
  obtain ⟨v1, I2, h3, h⟩ := b2_s h
  refine z_V1 [.int x1] [] (cs_X10_475 _) (ci := 8) rfl (MK.o H0) (dep (show d + 0 + 2 + 1 ≤ (d + 3) from by omega) (Nat.le_of_ble_eq_true rfl)) dX10_stallOf_2 rfl rfl (Nat.le_of_ble_eq_true rfl) (c_X10_mayWish d (K := K) (I := I) H0 h3) ?_
  refine x_if_ne 10 dX10_stallOf_5 rfl (fun hc => ?_) (fun hc => ?_)
  · have h := ifF hc h
    refine x_aloadn dX10_stallOf_10 rfl ?_
    refine x_iloadn dX10_stallOf_11 rfl ?_
    obtain ⟨v4, h5, h⟩ := b1_s h
    refine z_V1 [.int x1] [] (cs_X10_350 _) (ci := 8) rfl (MK.o H0) (dep (show d + 1 + 1 + 1 ≤ (d + 3) from by omega) (Nat.le_of_ble_eq_true rfl)) dX10_stallOf_12 rfl rfl (Nat.le_of_ble_eq_true rfl) (c_X10_isInStall (d + 1) (K := K) (I := I2) H0 h5) ?_
    refine x_if_eq 27 dX10_stallOf_15 rfl (fun hc => ?_) (fun hc => ?_)
    · have h := ifT hc h
      refine x_iconst (-1) dX10_stallOf_27 rfl ?_
      cases h
      exact x_iret rfl dX10_stallOf_28 ⟨rfl, rfl, rfl⟩
    have h := ifF hc h
    refine x_aloadn dX10_stallOf_18 rfl ?_
    refine x_iloadn dX10_stallOf_19 rfl ?_
    refine x_iconst 4 dX10_stallOf_20 rfl ?_
    obtain ⟨v6, h7, h⟩ := b1_s h
    refine z_V1 [.int x1, .int 4] [] (cs_X10_224 _) (ci := 8) rfl (MK.o H0) (dep (show d + 2 + 0 + 1 ≤ (d + 3) from by omega) (Nat.le_of_ble_eq_true rfl)) dX10_stallOf_21 rfl rfl (Nat.le_of_ble_eq_true rfl) (c_X10_ofWish (d + 2) (K := K) (I := I2) H0 h7) ?_
    refine x_goto 28 dX10_stallOf_24 rfl ?_
    cases h
    exact x_iret rfl dX10_stallOf_28 ⟨rfl, rfl, rfl⟩
  have h := ifT hc h
  refine x_iconst 0 dX10_stallOf_8 rfl ?_
  cases h
  exact x_iret rfl dX10_stallOf_9 ⟨rfl, rfl, rfl⟩
noncomputable def f_X10_isGranted (I : Mem) (x0 : Nat) (x1 : Int32) : Option (Int32 × Mem) := b2 (f_X10_mayWish I x0 x1) fun v1 I2 => if v1 = 0 then (some (0, I2)) else (b1 (f_X10_ofWish I2 x0 x1 3) fun v4 => if v4 = 2 then (some (1, I2)) else (some (0, I2)))
theorem c_X10_isGranted (d : Nat) {K : Kt} {I : Mem} {x0 : Nat} (H0 : MK K x0) {x1 : Int32} {v : Int32} {I9 : Mem} (h : f_X10_isGranted I x0 x1 = some (v, I9)) : Ct (mX10_isGranted (d + 3)) cX10_isGranted 0 0 [.ref x0, .int x1] I K (Ro (.inl (some (.int v))) I9 K) := by
  refine Ct.of rfl pn_X10 (catR (catI cat0)) (Nat.le_of_ble_eq_true rfl) (show X _ _ _ _ _ _ 0 [.ref x0, .int x1] [] _ from ?_)
  unfold f_X10_isGranted at h
  refine x_aloadn dX10_isGranted_0 rfl ?_
  refine x_iloadn dX10_isGranted_1 rfl ?_
  obtain ⟨v1, I2, h3, h⟩ := b2_s h
  refine z_V1 [.int x1] [] (cs_X10_475 _) (ci := 8) rfl (MK.o H0) (dep (show d + 0 + 2 + 1 ≤ (d + 3) from by omega) (Nat.le_of_ble_eq_true rfl)) dX10_isGranted_2 rfl rfl (Nat.le_of_ble_eq_true rfl) (c_X10_mayWish d (K := K) (I := I) H0 h3) ?_
  refine x_if_eq 22 dX10_isGranted_5 rfl (fun hc => ?_) (fun hc => ?_)
  · have h := ifT hc h
    refine x_iconst 0 dX10_isGranted_22 rfl ?_
    cases h
    exact x_zret rfl rfl dX10_isGranted_23 ⟨rfl, rfl, rfl⟩
  have h := ifF hc h
  refine x_aloadn dX10_isGranted_8 rfl ?_
  refine x_iloadn dX10_isGranted_9 rfl ?_
  refine x_iconst 3 dX10_isGranted_10 rfl ?_
  obtain ⟨v4, h5, h⟩ := b1_s h
  refine z_V1 [.int x1, .int 3] [] (cs_X10_224 _) (ci := 8) rfl (MK.o H0) (dep (show d + 2 + 0 + 1 ≤ (d + 3) from by omega) (Nat.le_of_ble_eq_true rfl)) dX10_isGranted_11 rfl rfl (Nat.le_of_ble_eq_true rfl) (c_X10_ofWish (d + 2) (K := K) (I := I2) H0 h5) ?_
  refine x_iconst 2 dX10_isGranted_14 rfl ?_
  refine x_icmp_ne 22 dX10_isGranted_15 rfl (fun hc => ?_) (fun hc => ?_)
  · have h := ifF hc h
    refine x_iconst 0 dX10_isGranted_22 rfl ?_
    cases h
    exact x_zret rfl rfl dX10_isGranted_23 ⟨rfl, rfl, rfl⟩
  have h := ifT hc h
  refine x_iconst 1 dX10_isGranted_18 rfl ?_
  refine x_goto 23 dX10_isGranted_19 rfl ?_
  cases h
  exact x_zret rfl rfl dX10_isGranted_23 ⟨rfl, rfl, rfl⟩
noncomputable def f_X10_purchaseDay (I : Mem) (x0 : Nat) (x1 : Int32) : Option (Int32 × Mem) := b2 (f_X10_mayWish I x0 x1) fun v1 I2 => if v1 = 0 then (some (0, I2)) else (b1 (f_X10_ofWish I2 x0 x1 5) fun v4 => some (v4, I2))
theorem c_X10_purchaseDay (d : Nat) {K : Kt} {I : Mem} {x0 : Nat} (H0 : MK K x0) {x1 : Int32} {v : Int32} {I9 : Mem} (h : f_X10_purchaseDay I x0 x1 = some (v, I9)) : Ct (mX10_purchaseDay (d + 3)) cX10_purchaseDay 0 0 [.ref x0, .int x1] I K (Ro (.inl (some (.int v))) I9 K) := by
  refine Ct.of rfl pn_X10 (catR (catI cat0)) (Nat.le_of_ble_eq_true rfl) (show X _ _ _ _ _ _ 0 [.ref x0, .int x1] [] _ from ?_)
  unfold f_X10_purchaseDay at h
  refine x_aloadn dX10_purchaseDay_0 rfl ?_
  refine x_iloadn dX10_purchaseDay_1 rfl ?_
  obtain ⟨v1, I2, h3, h⟩ := b2_s h
  refine z_V1 [.int x1] [] (cs_X10_475 _) (ci := 8) rfl (MK.o H0) (dep (show d + 0 + 2 + 1 ≤ (d + 3) from by omega) (Nat.le_of_ble_eq_true rfl)) dX10_purchaseDay_2 rfl rfl (Nat.le_of_ble_eq_true rfl) (c_X10_mayWish d (K := K) (I := I) H0 h3) ?_
  refine x_if_eq 17 dX10_purchaseDay_5 rfl (fun hc => ?_) (fun hc => ?_)
  · have h := ifT hc h
    refine x_iconst 0 dX10_purchaseDay_17 rfl ?_
    cases h
    exact x_iret rfl dX10_purchaseDay_18 ⟨rfl, rfl, rfl⟩
  have h := ifF hc h
  refine x_aloadn dX10_purchaseDay_8 rfl ?_
  refine x_iloadn dX10_purchaseDay_9 rfl ?_
  refine x_iconst 5 dX10_purchaseDay_10 rfl ?_
  obtain ⟨v4, h5, h⟩ := b1_s h
  refine z_V1 [.int x1, .int 5] [] (cs_X10_224 _) (ci := 8) rfl (MK.o H0) (dep (show d + 2 + 0 + 1 ≤ (d + 3) from by omega) (Nat.le_of_ble_eq_true rfl)) dX10_purchaseDay_11 rfl rfl (Nat.le_of_ble_eq_true rfl) (c_X10_ofWish (d + 2) (K := K) (I := I2) H0 h5) ?_
  refine x_goto 18 dX10_purchaseDay_14 rfl ?_
  cases h
  exact x_iret rfl dX10_purchaseDay_18 ⟨rfl, rfl, rfl⟩
noncomputable def f_X10_purchasePrice (I : Mem) (x0 : Nat) (x1 : Int32) : Option (Int32 × Mem) := b2 (f_X10_mayWish I x0 x1) fun v1 I2 => if v1 = 0 then (some (0, I2)) else (b1 (f_X10_ofWish I2 x0 x1 6) fun v4 => some (v4, I2))
theorem c_X10_purchasePrice (d : Nat) {K : Kt} {I : Mem} {x0 : Nat} (H0 : MK K x0) {x1 : Int32} {v : Int32} {I9 : Mem} (h : f_X10_purchasePrice I x0 x1 = some (v, I9)) : Ct (mX10_purchasePrice (d + 3)) cX10_purchasePrice 0 0 [.ref x0, .int x1] I K (Ro (.inl (some (.int v))) I9 K) := by
  refine Ct.of rfl pn_X10 (catR (catI cat0)) (Nat.le_of_ble_eq_true rfl) (show X _ _ _ _ _ _ 0 [.ref x0, .int x1] [] _ from ?_)
  unfold f_X10_purchasePrice at h
  refine x_aloadn dX10_purchasePrice_0 rfl ?_
  refine x_iloadn dX10_purchasePrice_1 rfl ?_
  obtain ⟨v1, I2, h3, h⟩ := b2_s h
  refine z_V1 [.int x1] [] (cs_X10_475 _) (ci := 8) rfl (MK.o H0) (dep (show d + 0 + 2 + 1 ≤ (d + 3) from by omega) (Nat.le_of_ble_eq_true rfl)) dX10_purchasePrice_2 rfl rfl (Nat.le_of_ble_eq_true rfl) (c_X10_mayWish d (K := K) (I := I) H0 h3) ?_
  refine x_if_eq 18 dX10_purchasePrice_5 rfl (fun hc => ?_) (fun hc => ?_)
  · have h := ifT hc h
    refine x_iconst 0 dX10_purchasePrice_18 rfl ?_
    cases h
    exact x_iret rfl dX10_purchasePrice_19 ⟨rfl, rfl, rfl⟩
  have h := ifF hc h
  refine x_aloadn dX10_purchasePrice_8 rfl ?_
  refine x_iloadn dX10_purchasePrice_9 rfl ?_
  refine x_bipush 6 dX10_purchasePrice_10 rfl ?_
  obtain ⟨v4, h5, h⟩ := b1_s h
  refine z_V1 [.int x1, .int 6] [] (cs_X10_224 _) (ci := 8) rfl (MK.o H0) (dep (show d + 2 + 0 + 1 ≤ (d + 3) from by omega) (Nat.le_of_ble_eq_true rfl)) dX10_purchasePrice_12 rfl rfl (Nat.le_of_ble_eq_true rfl) (c_X10_ofWish (d + 2) (K := K) (I := I2) H0 h5) ?_
  refine x_goto 19 dX10_purchasePrice_15 rfl ?_
  cases h
  exact x_iret rfl dX10_purchasePrice_19 ⟨rfl, rfl, rfl⟩
noncomputable def f_X10_price (I : Mem) (x0 : Nat) (x1 : Int32) : Option (Int32 × Mem) := b2 (f_X10_mayWish I x0 x1) fun v1 I2 => if v1 = 0 then (some (0, I2)) else (b1 (f_X10_isInStall I2 x0 x1) fun v4 => if v4 = 0 then (some ((-1), I2)) else (b1 (f_X10_priceOf I2 x0 x1) fun v6 => some (v6, I2)))
theorem c_X10_price (d : Nat) {K : Kt} {I : Mem} {x0 : Nat} (H0 : MK K x0) {x1 : Int32} {v : Int32} {I9 : Mem} (h : f_X10_price I x0 x1 = some (v, I9)) : Ct (mX10_price (d + 3)) cX10_price 0 0 [.ref x0, .int x1] I K (Ro (.inl (some (.int v))) I9 K) := by
  refine Ct.of rfl pn_X10 (catR (catI cat0)) (Nat.le_of_ble_eq_true rfl) (show X _ _ _ _ _ _ 0 [.ref x0, .int x1] [] _ from ?_)
  unfold f_X10_price at h
  refine x_aloadn dX10_price_0 rfl ?_
  refine x_iloadn dX10_price_1 rfl ?_
  obtain ⟨v1, I2, h3, h⟩ := b2_s h
  refine z_V1 [.int x1] [] (cs_X10_475 _) (ci := 8) rfl (MK.o H0) (dep (show d + 0 + 2 + 1 ≤ (d + 3) from by omega) (Nat.le_of_ble_eq_true rfl)) dX10_price_2 rfl rfl (Nat.le_of_ble_eq_true rfl) (c_X10_mayWish d (K := K) (I := I) H0 h3) ?_
  refine x_if_ne 10 dX10_price_5 rfl (fun hc => ?_) (fun hc => ?_)
  · have h := ifF hc h
    refine x_aloadn dX10_price_10 rfl ?_
    refine x_iloadn dX10_price_11 rfl ?_
    obtain ⟨v4, h5, h⟩ := b1_s h
    refine z_V1 [.int x1] [] (cs_X10_350 _) (ci := 8) rfl (MK.o H0) (dep (show d + 1 + 1 + 1 ≤ (d + 3) from by omega) (Nat.le_of_ble_eq_true rfl)) dX10_price_12 rfl rfl (Nat.le_of_ble_eq_true rfl) (c_X10_isInStall (d + 1) (K := K) (I := I2) H0 h5) ?_
    refine x_if_eq 26 dX10_price_15 rfl (fun hc => ?_) (fun hc => ?_)
    · have h := ifT hc h
      refine x_iconst (-1) dX10_price_26 rfl ?_
      cases h
      exact x_iret rfl dX10_price_27 ⟨rfl, rfl, rfl⟩
    have h := ifF hc h
    refine x_aloadn dX10_price_18 rfl ?_
    refine x_iloadn dX10_price_19 rfl ?_
    obtain ⟨v6, h7, h⟩ := b1_s h
    refine z_V1 [.int x1] [] (cs_X10_368 _) (ci := 8) rfl (MK.o H0) (dep (show d + 0 + 2 + 1 ≤ (d + 3) from by omega) (Nat.le_of_ble_eq_true rfl)) dX10_price_20 rfl rfl (Nat.le_of_ble_eq_true rfl) (c_X10_priceOf d (K := K) (I := I2) H0 h7) ?_
    refine x_goto 27 dX10_price_23 rfl ?_
    cases h
    exact x_iret rfl dX10_price_27 ⟨rfl, rfl, rfl⟩
  have h := ifT hc h
  refine x_iconst 0 dX10_price_8 rfl ?_
  cases h
  exact x_iret rfl dX10_price_9 ⟨rfl, rfl, rfl⟩
noncomputable def l_X10_offer_26 (I : Mem) (x0 : Nat) (x1 : Int32) (x2 : Int32) (y0 : Int32) (y1 : Int32) : Option (Int32 × Mem) := b2 (f_X10_mayTwo I x0 y1 y0) fun v3 I4 => if v3 = 0 then (some (0, I4)) else (b1 (f_X10_isOwned I4 x0 x1) fun v6 => if v6 = 0 then (some ((-1), I4)) else (b1 (f_X10_offerOf I4 x0 x1 x2) fun v8 => some (v8, I4)))
theorem tl_X10_offer_26 (d : Nat) {K : Kt} : ∀ {I : Mem} {x0 : Nat} (H0 : MK K x0) {x1 : Int32} {x2 : Int32} {y0 : Int32} {y1 : Int32} {v : Int32} {I9 : Mem}, l_X10_offer_26 I x0 x1 x2 y0 y1 = some (v, I9) → X (mX10_offer (d + 3)) cX10_offer 0 0 I K 26 [.ref x0, .int x1, .int x2] [.int y0, .int y1, .ref x0] (Ro (.inl (some (.int v))) I9 K) := by
  intro I x0 H0 x1 x2 y0 y1 v I9 h
  unfold l_X10_offer_26 at h
  obtain ⟨v3, I4, h5, h⟩ := b2_s h
  refine z_V1 [.int y1, .int y0] [] (cs_X10_456 _) (ci := 8) rfl (MK.o H0) (dep (show d + 1 + 1 + 1 ≤ (d + 3) from by omega) (Nat.le_of_ble_eq_true rfl)) dX10_offer_26 rfl rfl (Nat.le_of_ble_eq_true rfl) (c_X10_mayTwo (d + 1) (K := K) (I := I) H0 h5) ?_
  refine x_if_ne 34 dX10_offer_29 rfl (fun hc => ?_) (fun hc => ?_)
  · have h := ifF hc h
    refine x_aloadn dX10_offer_34 rfl ?_
    refine x_iloadn dX10_offer_35 rfl ?_
    obtain ⟨v6, h7, h⟩ := b1_s h
    refine z_V1 [.int x1] [] (cs_X10_221 _) (ci := 8) rfl (MK.o H0) (dep (show d + 1 + 1 + 1 ≤ (d + 3) from by omega) (Nat.le_of_ble_eq_true rfl)) dX10_offer_36 rfl rfl (Nat.le_of_ble_eq_true rfl) (c_X10_isOwned (d + 1) (K := K) (I := I4) H0 h7) ?_
    refine x_if_eq 51 dX10_offer_39 rfl (fun hc => ?_) (fun hc => ?_)
    · have h := ifT hc h
      refine x_iconst (-1) dX10_offer_51 rfl ?_
      cases h
      exact x_iret rfl dX10_offer_52 ⟨rfl, rfl, rfl⟩
    have h := ifF hc h
    refine x_aloadn dX10_offer_42 rfl ?_
    refine x_iloadn dX10_offer_43 rfl ?_
    refine x_iloadn dX10_offer_44 rfl ?_
    obtain ⟨v8, h9, h⟩ := b1_s h
    refine z_V1 [.int x1, .int x2] [] (cs_X10_371 _) (ci := 8) rfl (MK.o H0) (dep (show d + 0 + 2 + 1 ≤ (d + 3) from by omega) (Nat.le_of_ble_eq_true rfl)) dX10_offer_45 rfl rfl (Nat.le_of_ble_eq_true rfl) (c_X10_offerOf d (K := K) (I := I4) H0 h9) ?_
    refine x_goto 52 dX10_offer_48 rfl ?_
    cases h
    exact x_iret rfl dX10_offer_52 ⟨rfl, rfl, rfl⟩
  have h := ifT hc h
  refine x_iconst 0 dX10_offer_32 rfl ?_
  cases h
  exact x_iret rfl dX10_offer_33 ⟨rfl, rfl, rfl⟩
noncomputable def l_X10_offer_25 (I : Mem) (x0 : Nat) (x1 : Int32) (x2 : Int32) (y0 : Int32) : Option (Int32 × Mem) := l_X10_offer_26 I x0 x1 x2 0 y0
theorem tl_X10_offer_25 (d : Nat) {K : Kt} : ∀ {I : Mem} {x0 : Nat} (H0 : MK K x0) {x1 : Int32} {x2 : Int32} {y0 : Int32} {v : Int32} {I9 : Mem}, l_X10_offer_25 I x0 x1 x2 y0 = some (v, I9) → X (mX10_offer (d + 3)) cX10_offer 0 0 I K 25 [.ref x0, .int x1, .int x2] [.int y0, .ref x0] (Ro (.inl (some (.int v))) I9 K) := by
  intro I x0 H0 x1 x2 y0 v I9 h
  unfold l_X10_offer_25 at h
  refine x_iconst 0 dX10_offer_25 rfl ?_
  exact tl_X10_offer_26 d H0 h
noncomputable def f_X10_offer (I : Mem) (x0 : Nat) (x1 : Int32) (x2 : Int32) : Option (Int32 × Mem) := b1 (f_X10_isWish I x0 x1) fun v1 => if v1 = 0 then (l_X10_offer_25 I x0 x1 x2 (I x0 6)) else (b1 (f_X10_isStall I x0 x2) fun v10 => if v10 = 0 then (l_X10_offer_25 I x0 x1 x2 (I x0 6)) else (l_X10_offer_26 I x0 x1 x2 1 (I x0 6)))
theorem c_X10_offer (d : Nat) {K : Kt} {I : Mem} {x0 : Nat} (H0 : MK K x0) {x1 : Int32} {x2 : Int32} {v : Int32} {I9 : Mem} (h : f_X10_offer I x0 x1 x2 = some (v, I9)) : Ct (mX10_offer (d + 3)) cX10_offer 0 0 [.ref x0, .int x1, .int x2] I K (Ro (.inl (some (.int v))) I9 K) := by
  refine Ct.of rfl pn_X10 (catR (catI (catI cat0))) (Nat.le_of_ble_eq_true rfl) (show X _ _ _ _ _ _ 0 [.ref x0, .int x1, .int x2] [] _ from ?_)
  unfold f_X10_offer at h
  refine x_aloadn dX10_offer_0 rfl ?_
  refine x_aloadn dX10_offer_1 rfl ?_
  refine z_getI fs_X10_44 (MK.o H0) dX10_offer_2 ?_
  refine x_aloadn dX10_offer_5 rfl ?_
  refine x_iloadn dX10_offer_6 rfl ?_
  obtain ⟨v1, h2, h⟩ := b1_s h
  refine z_V1 [.int x1] [.int (I x0 6), .ref x0] (cs_X10_463 _) (ci := 8) rfl (MK.o H0) (dep (show d + 1 + 1 + 1 ≤ (d + 3) from by omega) (Nat.le_of_ble_eq_true rfl)) dX10_offer_7 rfl rfl (Nat.le_of_ble_eq_true rfl) (c_X10_isWish (d + 1) (K := K) (I := I) H0 h2) ?_
  refine x_if_eq 25 dX10_offer_10 rfl (fun hc => ?_) (fun hc => ?_)
  · have h := ifT hc h
    exact tl_X10_offer_25 d H0 h
  have h := ifF hc h
  refine x_aloadn dX10_offer_13 rfl ?_
  refine x_iloadn dX10_offer_14 rfl ?_
  obtain ⟨v10, h11, h⟩ := b1_s h
  refine z_V1 [.int x2] [.int (I x0 6), .ref x0] (cs_X10_460 _) (ci := 8) rfl (MK.o H0) (dep (show d + 1 + 1 + 1 ≤ (d + 3) from by omega) (Nat.le_of_ble_eq_true rfl)) dX10_offer_15 rfl rfl (Nat.le_of_ble_eq_true rfl) (c_X10_isStall (d + 1) (K := K) (I := I) H0 h11) ?_
  refine x_if_eq 25 dX10_offer_18 rfl (fun hc => ?_) (fun hc => ?_)
  · have h := ifT hc h
    exact tl_X10_offer_25 d H0 h
  have h := ifF hc h
  refine x_iconst 1 dX10_offer_21 rfl ?_
  refine x_goto 26 dX10_offer_22 rfl ?_
  exact tl_X10_offer_26 d H0 h
noncomputable def f_X10_refund (I : Mem) (x0 : Nat) (x1 : Int32) : Option (Int32 × Mem) := b2 (f_X10_mayWish I x0 x1) fun v1 I2 => if v1 = 0 then (some (0, I2)) else (b1 (f_X10_ofWish I2 x0 x1 5) fun v4 => if v4 = (-1) then (some ((-1), I2)) else (b1 (f_X10_refundOf I2 x0 x1) fun v6 => some (v6, I2)))
theorem c_X10_refund (d : Nat) {K : Kt} {I : Mem} {x0 : Nat} (H0 : MK K x0) {x1 : Int32} {v : Int32} {I9 : Mem} (h : f_X10_refund I x0 x1 = some (v, I9)) : Ct (mX10_refund (d + 3)) cX10_refund 0 0 [.ref x0, .int x1] I K (Ro (.inl (some (.int v))) I9 K) := by
  refine Ct.of rfl pn_X10 (catR (catI cat0)) (Nat.le_of_ble_eq_true rfl) (show X _ _ _ _ _ _ 0 [.ref x0, .int x1] [] _ from ?_)
  unfold f_X10_refund at h
  refine x_aloadn dX10_refund_0 rfl ?_
  refine x_iloadn dX10_refund_1 rfl ?_
  obtain ⟨v1, I2, h3, h⟩ := b2_s h
  refine z_V1 [.int x1] [] (cs_X10_475 _) (ci := 8) rfl (MK.o H0) (dep (show d + 0 + 2 + 1 ≤ (d + 3) from by omega) (Nat.le_of_ble_eq_true rfl)) dX10_refund_2 rfl rfl (Nat.le_of_ble_eq_true rfl) (c_X10_mayWish d (K := K) (I := I) H0 h3) ?_
  refine x_if_ne 10 dX10_refund_5 rfl (fun hc => ?_) (fun hc => ?_)
  · have h := ifF hc h
    refine x_aloadn dX10_refund_10 rfl ?_
    refine x_iloadn dX10_refund_11 rfl ?_
    refine x_iconst 5 dX10_refund_12 rfl ?_
    obtain ⟨v4, h5, h⟩ := b1_s h
    refine z_V1 [.int x1, .int 5] [] (cs_X10_224 _) (ci := 8) rfl (MK.o H0) (dep (show d + 2 + 0 + 1 ≤ (d + 3) from by omega) (Nat.le_of_ble_eq_true rfl)) dX10_refund_13 rfl rfl (Nat.le_of_ble_eq_true rfl) (c_X10_ofWish (d + 2) (K := K) (I := I2) H0 h5) ?_
    refine x_iconst (-1) dX10_refund_16 rfl ?_
    refine x_icmp_ne 24 dX10_refund_17 rfl (fun hc => ?_) (fun hc => ?_)
    · have h := ifF hc h
      refine x_aloadn dX10_refund_24 rfl ?_
      refine x_iloadn dX10_refund_25 rfl ?_
      obtain ⟨v6, h7, h⟩ := b1_s h
      refine z_V1 [.int x1] [] (cs_X10_374 _) (ci := 8) rfl (MK.o H0) (dep (show d + 1 + 1 + 1 ≤ (d + 3) from by omega) (Nat.le_of_ble_eq_true rfl)) dX10_refund_26 rfl rfl (Nat.le_of_ble_eq_true rfl) (c_X10_refundOf (d + 1) (K := K) (I := I2) H0 h7) ?_
      cases h
      exact x_iret rfl dX10_refund_29 ⟨rfl, rfl, rfl⟩
    have h := ifT hc h
    refine x_iconst (-1) dX10_refund_20 rfl ?_
    refine x_goto 29 dX10_refund_21 rfl ?_
    cases h
    exact x_iret rfl dX10_refund_29 ⟨rfl, rfl, rfl⟩
  have h := ifT hc h
  refine x_iconst 0 dX10_refund_8 rfl ?_
  cases h
  exact x_iret rfl dX10_refund_9 ⟨rfl, rfl, rfl⟩
noncomputable def l_X10_buyObstacle_26 (I : Mem) (x0 : Nat) (x1 : Int32) (x2 : Int32) (y0 : Int32) (y1 : Int32) : Option (Int32 × Mem) := b2 (f_X10_mayTwo I x0 y1 y0) fun v3 I4 => if v3 = 0 then (some (0, I4)) else (b1 (f_X10_whyBuy I4 x0 x1 x2) fun v6 => some (v6, I4))
theorem tl_X10_buyObstacle_26 (d : Nat) {K : Kt} : ∀ {I : Mem} {x0 : Nat} (H0 : MK K x0) {x1 : Int32} {x2 : Int32} {y0 : Int32} {y1 : Int32} {v : Int32} {I9 : Mem}, l_X10_buyObstacle_26 I x0 x1 x2 y0 y1 = some (v, I9) → X (mX10_buyObstacle (d + 5)) cX10_buyObstacle 0 0 I K 26 [.ref x0, .int x1, .int x2] [.int y0, .int y1, .ref x0] (Ro (.inl (some (.int v))) I9 K) := by
  intro I x0 H0 x1 x2 y0 y1 v I9 h
  unfold l_X10_buyObstacle_26 at h
  obtain ⟨v3, I4, h5, h⟩ := b2_s h
  refine z_V1 [.int y1, .int y0] [] (cs_X10_456 _) (ci := 8) rfl (MK.o H0) (dep (show d + 3 + 1 + 1 ≤ (d + 5) from by omega) (Nat.le_of_ble_eq_true rfl)) dX10_buyObstacle_26 rfl rfl (Nat.le_of_ble_eq_true rfl) (c_X10_mayTwo (d + 3) (K := K) (I := I) H0 h5) ?_
  refine x_if_eq 41 dX10_buyObstacle_29 rfl (fun hc => ?_) (fun hc => ?_)
  · have h := ifT hc h
    refine x_iconst 0 dX10_buyObstacle_41 rfl ?_
    cases h
    exact x_iret rfl dX10_buyObstacle_42 ⟨rfl, rfl, rfl⟩
  have h := ifF hc h
  refine x_aloadn dX10_buyObstacle_32 rfl ?_
  refine x_iloadn dX10_buyObstacle_33 rfl ?_
  refine x_iloadn dX10_buyObstacle_34 rfl ?_
  obtain ⟨v6, h7, h⟩ := b1_s h
  refine z_V1 [.int x1, .int x2] [] (cs_X10_197 _) (ci := 8) rfl (MK.o H0) (dep (show d + 0 + 4 + 1 ≤ (d + 5) from by omega) (Nat.le_of_ble_eq_true rfl)) dX10_buyObstacle_35 rfl rfl (Nat.le_of_ble_eq_true rfl) (c_X10_whyBuy d (K := K) (I := I4) H0 h7) ?_
  refine x_goto 42 dX10_buyObstacle_38 rfl ?_
  cases h
  exact x_iret rfl dX10_buyObstacle_42 ⟨rfl, rfl, rfl⟩
noncomputable def l_X10_buyObstacle_25 (I : Mem) (x0 : Nat) (x1 : Int32) (x2 : Int32) (y0 : Int32) : Option (Int32 × Mem) := l_X10_buyObstacle_26 I x0 x1 x2 0 y0
theorem tl_X10_buyObstacle_25 (d : Nat) {K : Kt} : ∀ {I : Mem} {x0 : Nat} (H0 : MK K x0) {x1 : Int32} {x2 : Int32} {y0 : Int32} {v : Int32} {I9 : Mem}, l_X10_buyObstacle_25 I x0 x1 x2 y0 = some (v, I9) → X (mX10_buyObstacle (d + 5)) cX10_buyObstacle 0 0 I K 25 [.ref x0, .int x1, .int x2] [.int y0, .ref x0] (Ro (.inl (some (.int v))) I9 K) := by
  intro I x0 H0 x1 x2 y0 v I9 h
  unfold l_X10_buyObstacle_25 at h
  refine x_iconst 0 dX10_buyObstacle_25 rfl ?_
  exact tl_X10_buyObstacle_26 d H0 h
noncomputable def f_X10_buyObstacle (I : Mem) (x0 : Nat) (x1 : Int32) (x2 : Int32) : Option (Int32 × Mem) := b1 (f_X10_isPerson I x0 x1) fun v1 => if v1 = 0 then (l_X10_buyObstacle_25 I x0 x1 x2 (I x0 6)) else (b1 (f_X10_isWish I x0 x2) fun v8 => if v8 = 0 then (l_X10_buyObstacle_25 I x0 x1 x2 (I x0 6)) else (l_X10_buyObstacle_26 I x0 x1 x2 1 (I x0 6)))
theorem c_X10_buyObstacle (d : Nat) {K : Kt} {I : Mem} {x0 : Nat} (H0 : MK K x0) {x1 : Int32} {x2 : Int32} {v : Int32} {I9 : Mem} (h : f_X10_buyObstacle I x0 x1 x2 = some (v, I9)) : Ct (mX10_buyObstacle (d + 5)) cX10_buyObstacle 0 0 [.ref x0, .int x1, .int x2] I K (Ro (.inl (some (.int v))) I9 K) := by
  refine Ct.of rfl pn_X10 (catR (catI (catI cat0))) (Nat.le_of_ble_eq_true rfl) (show X _ _ _ _ _ _ 0 [.ref x0, .int x1, .int x2] [] _ from ?_)
  unfold f_X10_buyObstacle at h
  refine x_aloadn dX10_buyObstacle_0 rfl ?_
  refine x_aloadn dX10_buyObstacle_1 rfl ?_
  refine z_getI fs_X10_44 (MK.o H0) dX10_buyObstacle_2 ?_
  refine x_aloadn dX10_buyObstacle_5 rfl ?_
  refine x_iloadn dX10_buyObstacle_6 rfl ?_
  obtain ⟨v1, h2, h⟩ := b1_s h
  refine z_V1 [.int x1] [.int (I x0 6), .ref x0] (cs_X10_453 _) (ci := 8) rfl (MK.o H0) (dep (show d + 3 + 1 + 1 ≤ (d + 5) from by omega) (Nat.le_of_ble_eq_true rfl)) dX10_buyObstacle_7 rfl rfl (Nat.le_of_ble_eq_true rfl) (c_X10_isPerson (d + 3) (K := K) (I := I) H0 h2) ?_
  refine x_if_eq 25 dX10_buyObstacle_10 rfl (fun hc => ?_) (fun hc => ?_)
  · have h := ifT hc h
    exact tl_X10_buyObstacle_25 d H0 h
  have h := ifF hc h
  refine x_aloadn dX10_buyObstacle_13 rfl ?_
  refine x_iloadn dX10_buyObstacle_14 rfl ?_
  obtain ⟨v8, h9, h⟩ := b1_s h
  refine z_V1 [.int x2] [.int (I x0 6), .ref x0] (cs_X10_463 _) (ci := 8) rfl (MK.o H0) (dep (show d + 3 + 1 + 1 ≤ (d + 5) from by omega) (Nat.le_of_ble_eq_true rfl)) dX10_buyObstacle_15 rfl rfl (Nat.le_of_ble_eq_true rfl) (c_X10_isWish (d + 3) (K := K) (I := I) H0 h9) ?_
  refine x_if_eq 25 dX10_buyObstacle_18 rfl (fun hc => ?_) (fun hc => ?_)
  · have h := ifT hc h
    exact tl_X10_buyObstacle_25 d H0 h
  have h := ifF hc h
  refine x_iconst 1 dX10_buyObstacle_21 rfl ?_
  refine x_goto 26 dX10_buyObstacle_22 rfl ?_
  exact tl_X10_buyObstacle_26 d H0 h
noncomputable def l_X10_sellObstacle_26 (I : Mem) (x0 : Nat) (x1 : Int32) (x2 : Int32) (y0 : Int32) (y1 : Int32) : Option (Int32 × Mem) := b2 (f_X10_mayTwo I x0 y1 y0) fun v3 I4 => if v3 = 0 then (some (0, I4)) else (b1 (f_X10_whySell I4 x0 x1 x2) fun v6 => some (v6, I4))
theorem tl_X10_sellObstacle_26 (d : Nat) {K : Kt} : ∀ {I : Mem} {x0 : Nat} (H0 : MK K x0) {x1 : Int32} {x2 : Int32} {y0 : Int32} {y1 : Int32} {v : Int32} {I9 : Mem}, l_X10_sellObstacle_26 I x0 x1 x2 y0 y1 = some (v, I9) → X (mX10_sellObstacle (d + 5)) cX10_sellObstacle 0 0 I K 26 [.ref x0, .int x1, .int x2] [.int y0, .int y1, .ref x0] (Ro (.inl (some (.int v))) I9 K) := by
  intro I x0 H0 x1 x2 y0 y1 v I9 h
  unfold l_X10_sellObstacle_26 at h
  obtain ⟨v3, I4, h5, h⟩ := b2_s h
  refine z_V1 [.int y1, .int y0] [] (cs_X10_456 _) (ci := 8) rfl (MK.o H0) (dep (show d + 3 + 1 + 1 ≤ (d + 5) from by omega) (Nat.le_of_ble_eq_true rfl)) dX10_sellObstacle_26 rfl rfl (Nat.le_of_ble_eq_true rfl) (c_X10_mayTwo (d + 3) (K := K) (I := I) H0 h5) ?_
  refine x_if_eq 41 dX10_sellObstacle_29 rfl (fun hc => ?_) (fun hc => ?_)
  · have h := ifT hc h
    refine x_iconst 0 dX10_sellObstacle_41 rfl ?_
    cases h
    exact x_iret rfl dX10_sellObstacle_42 ⟨rfl, rfl, rfl⟩
  have h := ifF hc h
  refine x_aloadn dX10_sellObstacle_32 rfl ?_
  refine x_iloadn dX10_sellObstacle_33 rfl ?_
  refine x_iloadn dX10_sellObstacle_34 rfl ?_
  obtain ⟨v6, h7, h⟩ := b1_s h
  refine z_V1 [.int x1, .int x2] [] (cs_X10_203 _) (ci := 8) rfl (MK.o H0) (dep (show d + 0 + 4 + 1 ≤ (d + 5) from by omega) (Nat.le_of_ble_eq_true rfl)) dX10_sellObstacle_35 rfl rfl (Nat.le_of_ble_eq_true rfl) (c_X10_whySell d (K := K) (I := I4) H0 h7) ?_
  refine x_goto 42 dX10_sellObstacle_38 rfl ?_
  cases h
  exact x_iret rfl dX10_sellObstacle_42 ⟨rfl, rfl, rfl⟩
noncomputable def l_X10_sellObstacle_25 (I : Mem) (x0 : Nat) (x1 : Int32) (x2 : Int32) (y0 : Int32) : Option (Int32 × Mem) := l_X10_sellObstacle_26 I x0 x1 x2 0 y0
theorem tl_X10_sellObstacle_25 (d : Nat) {K : Kt} : ∀ {I : Mem} {x0 : Nat} (H0 : MK K x0) {x1 : Int32} {x2 : Int32} {y0 : Int32} {v : Int32} {I9 : Mem}, l_X10_sellObstacle_25 I x0 x1 x2 y0 = some (v, I9) → X (mX10_sellObstacle (d + 5)) cX10_sellObstacle 0 0 I K 25 [.ref x0, .int x1, .int x2] [.int y0, .ref x0] (Ro (.inl (some (.int v))) I9 K) := by
  intro I x0 H0 x1 x2 y0 v I9 h
  unfold l_X10_sellObstacle_25 at h
  refine x_iconst 0 dX10_sellObstacle_25 rfl ?_
  exact tl_X10_sellObstacle_26 d H0 h
noncomputable def f_X10_sellObstacle (I : Mem) (x0 : Nat) (x1 : Int32) (x2 : Int32) : Option (Int32 × Mem) := b1 (f_X10_isWish I x0 x1) fun v1 => if v1 = 0 then (l_X10_sellObstacle_25 I x0 x1 x2 (I x0 6)) else (b1 (f_X10_isStall I x0 x2) fun v8 => if v8 = 0 then (l_X10_sellObstacle_25 I x0 x1 x2 (I x0 6)) else (l_X10_sellObstacle_26 I x0 x1 x2 1 (I x0 6)))
theorem c_X10_sellObstacle (d : Nat) {K : Kt} {I : Mem} {x0 : Nat} (H0 : MK K x0) {x1 : Int32} {x2 : Int32} {v : Int32} {I9 : Mem} (h : f_X10_sellObstacle I x0 x1 x2 = some (v, I9)) : Ct (mX10_sellObstacle (d + 5)) cX10_sellObstacle 0 0 [.ref x0, .int x1, .int x2] I K (Ro (.inl (some (.int v))) I9 K) := by
  refine Ct.of rfl pn_X10 (catR (catI (catI cat0))) (Nat.le_of_ble_eq_true rfl) (show X _ _ _ _ _ _ 0 [.ref x0, .int x1, .int x2] [] _ from ?_)
  unfold f_X10_sellObstacle at h
  refine x_aloadn dX10_sellObstacle_0 rfl ?_
  refine x_aloadn dX10_sellObstacle_1 rfl ?_
  refine z_getI fs_X10_44 (MK.o H0) dX10_sellObstacle_2 ?_
  refine x_aloadn dX10_sellObstacle_5 rfl ?_
  refine x_iloadn dX10_sellObstacle_6 rfl ?_
  obtain ⟨v1, h2, h⟩ := b1_s h
  refine z_V1 [.int x1] [.int (I x0 6), .ref x0] (cs_X10_463 _) (ci := 8) rfl (MK.o H0) (dep (show d + 3 + 1 + 1 ≤ (d + 5) from by omega) (Nat.le_of_ble_eq_true rfl)) dX10_sellObstacle_7 rfl rfl (Nat.le_of_ble_eq_true rfl) (c_X10_isWish (d + 3) (K := K) (I := I) H0 h2) ?_
  refine x_if_eq 25 dX10_sellObstacle_10 rfl (fun hc => ?_) (fun hc => ?_)
  · have h := ifT hc h
    exact tl_X10_sellObstacle_25 d H0 h
  have h := ifF hc h
  refine x_aloadn dX10_sellObstacle_13 rfl ?_
  refine x_iloadn dX10_sellObstacle_14 rfl ?_
  obtain ⟨v8, h9, h⟩ := b1_s h
  refine z_V1 [.int x2] [.int (I x0 6), .ref x0] (cs_X10_460 _) (ci := 8) rfl (MK.o H0) (dep (show d + 3 + 1 + 1 ≤ (d + 5) from by omega) (Nat.le_of_ble_eq_true rfl)) dX10_sellObstacle_15 rfl rfl (Nat.le_of_ble_eq_true rfl) (c_X10_isStall (d + 3) (K := K) (I := I) H0 h9) ?_
  refine x_if_eq 25 dX10_sellObstacle_18 rfl (fun hc => ?_) (fun hc => ?_)
  · have h := ifT hc h
    exact tl_X10_sellObstacle_25 d H0 h
  have h := ifF hc h
  refine x_iconst 1 dX10_sellObstacle_21 rfl ?_
  refine x_goto 26 dX10_sellObstacle_22 rfl ?_
  exact tl_X10_sellObstacle_26 d H0 h
noncomputable def f_X10_returnObstacle (I : Mem) (x0 : Nat) (x1 : Int32) : Option (Int32 × Mem) := b2 (f_X10_mayWish I x0 x1) fun v1 I2 => if v1 = 0 then (some (0, I2)) else (b1 (f_X10_whyReturn I2 x0 x1) fun v4 => some (v4, I2))
theorem c_X10_returnObstacle (d : Nat) {K : Kt} {I : Mem} {x0 : Nat} (H0 : MK K x0) {x1 : Int32} {v : Int32} {I9 : Mem} (h : f_X10_returnObstacle I x0 x1 = some (v, I9)) : Ct (mX10_returnObstacle (d + 5)) cX10_returnObstacle 0 0 [.ref x0, .int x1] I K (Ro (.inl (some (.int v))) I9 K) := by
  refine Ct.of rfl pn_X10 (catR (catI cat0)) (Nat.le_of_ble_eq_true rfl) (show X _ _ _ _ _ _ 0 [.ref x0, .int x1] [] _ from ?_)
  unfold f_X10_returnObstacle at h
  refine x_aloadn dX10_returnObstacle_0 rfl ?_
  refine x_iloadn dX10_returnObstacle_1 rfl ?_
  obtain ⟨v1, I2, h3, h⟩ := b2_s h
  refine z_V1 [.int x1] [] (cs_X10_475 _) (ci := 8) rfl (MK.o H0) (dep (show d + 2 + 2 + 1 ≤ (d + 5) from by omega) (Nat.le_of_ble_eq_true rfl)) dX10_returnObstacle_2 rfl rfl (Nat.le_of_ble_eq_true rfl) (c_X10_mayWish (d + 2) (K := K) (I := I) H0 h3) ?_
  refine x_if_eq 16 dX10_returnObstacle_5 rfl (fun hc => ?_) (fun hc => ?_)
  · have h := ifT hc h
    refine x_iconst 0 dX10_returnObstacle_16 rfl ?_
    cases h
    exact x_iret rfl dX10_returnObstacle_17 ⟨rfl, rfl, rfl⟩
  have h := ifF hc h
  refine x_aloadn dX10_returnObstacle_8 rfl ?_
  refine x_iloadn dX10_returnObstacle_9 rfl ?_
  obtain ⟨v4, h5, h⟩ := b1_s h
  refine z_V1 [.int x1] [] (cs_X10_209 _) (ci := 8) rfl (MK.o H0) (dep (show d + 0 + 4 + 1 ≤ (d + 5) from by omega) (Nat.le_of_ble_eq_true rfl)) dX10_returnObstacle_10 rfl rfl (Nat.le_of_ble_eq_true rfl) (c_X10_whyReturn d (K := K) (I := I2) H0 h5) ?_
  refine x_goto 17 dX10_returnObstacle_13 rfl ?_
  cases h
  exact x_iret rfl dX10_returnObstacle_17 ⟨rfl, rfl, rfl⟩
noncomputable def f_X10_grantObstacle (I : Mem) (x0 : Nat) (x1 : Int32) : Option (Int32 × Mem) := b2 (f_X10_mayWish I x0 x1) fun v1 I2 => if v1 = 0 then (some (0, I2)) else (b1 (f_X10_whyGrant I2 x0 x1) fun v4 => some (v4, I2))
theorem c_X10_grantObstacle (d : Nat) {K : Kt} {I : Mem} {x0 : Nat} (H0 : MK K x0) {x1 : Int32} {v : Int32} {I9 : Mem} (h : f_X10_grantObstacle I x0 x1 = some (v, I9)) : Ct (mX10_grantObstacle (d + 3)) cX10_grantObstacle 0 0 [.ref x0, .int x1] I K (Ro (.inl (some (.int v))) I9 K) := by
  refine Ct.of rfl pn_X10 (catR (catI cat0)) (Nat.le_of_ble_eq_true rfl) (show X _ _ _ _ _ _ 0 [.ref x0, .int x1] [] _ from ?_)
  unfold f_X10_grantObstacle at h
  refine x_aloadn dX10_grantObstacle_0 rfl ?_
  refine x_iloadn dX10_grantObstacle_1 rfl ?_
  obtain ⟨v1, I2, h3, h⟩ := b2_s h
  refine z_V1 [.int x1] [] (cs_X10_475 _) (ci := 8) rfl (MK.o H0) (dep (show d + 0 + 2 + 1 ≤ (d + 3) from by omega) (Nat.le_of_ble_eq_true rfl)) dX10_grantObstacle_2 rfl rfl (Nat.le_of_ble_eq_true rfl) (c_X10_mayWish d (K := K) (I := I) H0 h3) ?_
  refine x_if_eq 16 dX10_grantObstacle_5 rfl (fun hc => ?_) (fun hc => ?_)
  · have h := ifT hc h
    refine x_iconst 0 dX10_grantObstacle_16 rfl ?_
    cases h
    exact x_iret rfl dX10_grantObstacle_17 ⟨rfl, rfl, rfl⟩
  have h := ifF hc h
  refine x_aloadn dX10_grantObstacle_8 rfl ?_
  refine x_iloadn dX10_grantObstacle_9 rfl ?_
  obtain ⟨v4, h5, h⟩ := b1_s h
  refine z_V1 [.int x1] [] (cs_X10_215 _) (ci := 8) rfl (MK.o H0) (dep (show d + 0 + 2 + 1 ≤ (d + 3) from by omega) (Nat.le_of_ble_eq_true rfl)) dX10_grantObstacle_10 rfl rfl (Nat.le_of_ble_eq_true rfl) (c_X10_whyGrant d (K := K) (I := I2) H0 h5) ?_
  refine x_goto 17 dX10_grantObstacle_13 rfl ?_
  cases h
  exact x_iret rfl dX10_grantObstacle_17 ⟨rfl, rfl, rfl⟩
noncomputable def f_X10_cheapestWish (I : Mem) (x0 : Nat) (x1 : Int32) : Option (Int32 × Mem) := b2 (f_X10_mayPerson I x0 x1) fun v1 I2 => if v1 = 0 then (some (0, I2)) else (b1 (f_X10_ofPerson I2 x0 x1 0) fun v4 => b1 (f_X10_cheapest I2 x0 x1 v4) fun v6 => some (v6, I2))
theorem c_X10_cheapestWish (d : Nat) {K : Kt} {I : Mem} {x0 : Nat} (H0 : MK K x0) {x1 : Int32} {v : Int32} {I9 : Mem} (h : f_X10_cheapestWish I x0 x1 = some (v, I9)) : Ct (mX10_cheapestWish (d + 6)) cX10_cheapestWish 0 0 [.ref x0, .int x1] I K (Ro (.inl (some (.int v))) I9 K) := by
  refine Ct.of rfl pn_X10 (catR (catI cat0)) (Nat.le_of_ble_eq_true rfl) (show X _ _ _ _ _ _ 0 [.ref x0, .int x1] [] _ from ?_)
  unfold f_X10_cheapestWish at h
  refine x_aloadn dX10_cheapestWish_0 rfl ?_
  refine x_iloadn dX10_cheapestWish_1 rfl ?_
  obtain ⟨v1, I2, h3, h⟩ := b2_s h
  refine z_V1 [.int x1] [] (cs_X10_466 _) (ci := 8) rfl (MK.o H0) (dep (show d + 3 + 2 + 1 ≤ (d + 6) from by omega) (Nat.le_of_ble_eq_true rfl)) dX10_cheapestWish_2 rfl rfl (Nat.le_of_ble_eq_true rfl) (c_X10_mayPerson (d + 3) (K := K) (I := I) H0 h3) ?_
  refine x_if_eq 22 dX10_cheapestWish_5 rfl (fun hc => ?_) (fun hc => ?_)
  · have h := ifT hc h
    refine x_iconst 0 dX10_cheapestWish_22 rfl ?_
    cases h
    exact x_iret rfl dX10_cheapestWish_23 ⟨rfl, rfl, rfl⟩
  have h := ifF hc h
  refine x_aloadn dX10_cheapestWish_8 rfl ?_
  refine x_iloadn dX10_cheapestWish_9 rfl ?_
  refine x_aloadn dX10_cheapestWish_10 rfl ?_
  refine x_iloadn dX10_cheapestWish_11 rfl ?_
  refine x_iconst 0 dX10_cheapestWish_12 rfl ?_
  obtain ⟨v4, h5, h⟩ := b1_s h
  refine z_V1 [.int x1, .int 0] [.int x1, .ref x0] (cs_X10_141 _) (ci := 8) rfl (MK.o H0) (dep (show d + 5 + 0 + 1 ≤ (d + 6) from by omega) (Nat.le_of_ble_eq_true rfl)) dX10_cheapestWish_13 rfl rfl (Nat.le_of_ble_eq_true rfl) (c_X10_ofPerson (d + 5) (K := K) (I := I2) H0 h5) ?_
  obtain ⟨v6, h7, h⟩ := b1_s h
  refine z_V1 [.int x1, .int v4] [] (cs_X10_398 _) (ci := 8) rfl (MK.o H0) (dep (show d + 0 + 5 + 1 ≤ (d + 6) from by omega) (Nat.le_of_ble_eq_true rfl)) dX10_cheapestWish_16 rfl rfl (Nat.le_of_ble_eq_true rfl) (c_X10_cheapest d (K := K) (I := I2) H0 h7) ?_
  refine x_goto 23 dX10_cheapestWish_19 rfl ?_
  cases h
  exact x_iret rfl dX10_cheapestWish_23 ⟨rfl, rfl, rfl⟩
noncomputable def f_X10_bestGrant (I : Mem) (x0 : Nat) (x1 : Int32) : Option (Int32 × Mem) := b2 (f_X10_mayPerson I x0 x1) fun v1 I2 => if v1 = 0 then (some (0, I2)) else (b1 (f_X10_greatestGrant I2 x0 x1) fun v4 => some (v4, I2))
theorem c_X10_bestGrant (d : Nat) {K : Kt} {I : Mem} {x0 : Nat} (H0 : MK K x0) {x1 : Int32} {v : Int32} {I9 : Mem} (h : f_X10_bestGrant I x0 x1 = some (v, I9)) : Ct (mX10_bestGrant (d + 4)) cX10_bestGrant 0 0 [.ref x0, .int x1] I K (Ro (.inl (some (.int v))) I9 K) := by
  refine Ct.of rfl pn_X10 (catR (catI cat0)) (Nat.le_of_ble_eq_true rfl) (show X _ _ _ _ _ _ 0 [.ref x0, .int x1] [] _ from ?_)
  unfold f_X10_bestGrant at h
  refine x_aloadn dX10_bestGrant_0 rfl ?_
  refine x_iloadn dX10_bestGrant_1 rfl ?_
  obtain ⟨v1, I2, h3, h⟩ := b2_s h
  refine z_V1 [.int x1] [] (cs_X10_466 _) (ci := 8) rfl (MK.o H0) (dep (show d + 1 + 2 + 1 ≤ (d + 4) from by omega) (Nat.le_of_ble_eq_true rfl)) dX10_bestGrant_2 rfl rfl (Nat.le_of_ble_eq_true rfl) (c_X10_mayPerson (d + 1) (K := K) (I := I) H0 h3) ?_
  refine x_if_eq 16 dX10_bestGrant_5 rfl (fun hc => ?_) (fun hc => ?_)
  · have h := ifT hc h
    refine x_iconst 0 dX10_bestGrant_16 rfl ?_
    cases h
    exact x_iret rfl dX10_bestGrant_17 ⟨rfl, rfl, rfl⟩
  have h := ifF hc h
  refine x_aloadn dX10_bestGrant_8 rfl ?_
  refine x_iloadn dX10_bestGrant_9 rfl ?_
  obtain ⟨v4, h5, h⟩ := b1_s h
  refine z_V1 [.int x1] [] (cs_X10_395 _) (ci := 8) rfl (MK.o H0) (dep (show d + 0 + 3 + 1 ≤ (d + 4) from by omega) (Nat.le_of_ble_eq_true rfl)) dX10_bestGrant_10 rfl rfl (Nat.le_of_ble_eq_true rfl) (c_X10_greatestGrant d (K := K) (I := I2) H0 h5) ?_
  refine x_goto 17 dX10_bestGrant_13 rfl ?_
  cases h
  exact x_iret rfl dX10_bestGrant_17 ⟨rfl, rfl, rfl⟩
noncomputable def f_X10_bestOffer (I : Mem) (x0 : Nat) (x1 : Int32) : Option (Int32 × Mem) := b2 (f_X10_mayWish I x0 x1) fun v1 I2 => if v1 = 0 then (some (0, I2)) else (b1 (f_X10_greatestOffer I2 x0 x1) fun v4 => some (v4, I2))
theorem c_X10_bestOffer (d : Nat) {K : Kt} {I : Mem} {x0 : Nat} (H0 : MK K x0) {x1 : Int32} {v : Int32} {I9 : Mem} (h : f_X10_bestOffer I x0 x1 = some (v, I9)) : Ct (mX10_bestOffer (d + 6)) cX10_bestOffer 0 0 [.ref x0, .int x1] I K (Ro (.inl (some (.int v))) I9 K) := by
  refine Ct.of rfl pn_X10 (catR (catI cat0)) (Nat.le_of_ble_eq_true rfl) (show X _ _ _ _ _ _ 0 [.ref x0, .int x1] [] _ from ?_)
  unfold f_X10_bestOffer at h
  refine x_aloadn dX10_bestOffer_0 rfl ?_
  refine x_iloadn dX10_bestOffer_1 rfl ?_
  obtain ⟨v1, I2, h3, h⟩ := b2_s h
  refine z_V1 [.int x1] [] (cs_X10_475 _) (ci := 8) rfl (MK.o H0) (dep (show d + 3 + 2 + 1 ≤ (d + 6) from by omega) (Nat.le_of_ble_eq_true rfl)) dX10_bestOffer_2 rfl rfl (Nat.le_of_ble_eq_true rfl) (c_X10_mayWish (d + 3) (K := K) (I := I) H0 h3) ?_
  refine x_if_eq 16 dX10_bestOffer_5 rfl (fun hc => ?_) (fun hc => ?_)
  · have h := ifT hc h
    refine x_iconst 0 dX10_bestOffer_16 rfl ?_
    cases h
    exact x_iret rfl dX10_bestOffer_17 ⟨rfl, rfl, rfl⟩
  have h := ifF hc h
  refine x_aloadn dX10_bestOffer_8 rfl ?_
  refine x_iloadn dX10_bestOffer_9 rfl ?_
  obtain ⟨v4, h5, h⟩ := b1_s h
  refine z_V1 [.int x1] [] (cs_X10_401 _) (ci := 8) rfl (MK.o H0) (dep (show d + 0 + 5 + 1 ≤ (d + 6) from by omega) (Nat.le_of_ble_eq_true rfl)) dX10_bestOffer_10 rfl rfl (Nat.le_of_ble_eq_true rfl) (c_X10_greatestOffer d (K := K) (I := I2) H0 h5) ?_
  refine x_goto 17 dX10_bestOffer_13 rfl ?_
  cases h
  exact x_iret rfl dX10_bestOffer_17 ⟨rfl, rfl, rfl⟩
noncomputable def f_X10_areDays (x0 : Int32) : Option (Int32) := b1 (f_X10_in x0 0 300) fun v1 => b1 (cB v1) fun _ => some (v1)
theorem c_X10_areDays (d : Nat) {K : Kt} {I : Mem} {x0 : Int32} {v : Int32} (h : f_X10_areDays x0 = some v) : Ct (mX10_areDays (d + 1)) cX10_areDays 0 0 [.int x0] I K (Ro (.inl (some (.int v))) I K) := by
  refine Ct.of rfl pn_X10 (catI cat0) (Nat.le_of_ble_eq_true rfl) (show X _ _ _ _ _ _ 0 [.int x0] [] _ from ?_)
  unfold f_X10_areDays at h
  refine x_iloadn dX10_areDays_0 rfl ?_
  refine x_iconst 0 dX10_areDays_1 rfl ?_
  refine x_sipush 300 dX10_areDays_2 rfl ?_
  obtain ⟨v1, h2, h⟩ := b1_s h
  refine z_S1 [.int x0, .int 0, .int 300] [] (cs_X10_69 _) (dep (show d + 0 + 0 + 1 ≤ (d + 1) from by omega) (Nat.le_of_ble_eq_true rfl)) dX10_areDays_5 rfl rfl (Nat.le_of_ble_eq_true rfl) (c_X10_in d (K := K) (I := I) h2) ?_
  obtain ⟨u3, hu3, h⟩ := b1_s h
  cases h
  exact x_zret rfl (nar_b hu3) dX10_areDays_8 ⟨rfl, rfl, rfl⟩
noncomputable def f_X10_coinsAfter (I : Mem) (x0 : Nat) (x1 : Int32) (x2 : Int32) : Option (Int32 × Mem) := b1 (f_X10_isPerson I x0 x1) fun v1 => b1 (f_X10_areDays x2) fun v3 => b2 (f_X10_may I x0 (I x0 6) v1 v3) fun v5 I6 => if v5 = 0 then (some (0, I6)) else (b1 (f_X10_thinks I6 x0) fun I8 => b1 (f_X10_passesMany I8 x0 x2) fun I10 => b1 (f_X10_ofPerson I10 x0 x1 0) fun v12 => b2 (f_X10_back I10 x0 v12) fun v14 I15 => some (v14, I15))
theorem c_X10_coinsAfter (d : Nat) {K : Kt} {I : Mem} {x0 : Nat} (H0 : MK K x0) {x1 : Int32} {x2 : Int32} {v : Int32} {I9 : Mem} (h : f_X10_coinsAfter I x0 x1 x2 = some (v, I9)) : Ct (mX10_coinsAfter (d + 10)) cX10_coinsAfter 0 0 [.ref x0, .int x1, .int x2] I K (Ro (.inl (some (.int v))) I9 K) := by
  refine Ct.of rfl pn_X10 (catR (catI (catI cat0))) (Nat.le_of_ble_eq_true rfl) (show X _ _ _ _ _ _ 0 [.ref x0, .int x1, .int x2] [] _ from ?_)
  unfold f_X10_coinsAfter at h
  refine x_aloadn dX10_coinsAfter_0 rfl ?_
  refine x_aloadn dX10_coinsAfter_1 rfl ?_
  refine z_getI fs_X10_44 (MK.o H0) dX10_coinsAfter_2 ?_
  refine x_aloadn dX10_coinsAfter_5 rfl ?_
  refine x_iloadn dX10_coinsAfter_6 rfl ?_
  obtain ⟨v1, h2, h⟩ := b1_s h
  refine z_V1 [.int x1] [.int (I x0 6), .ref x0] (cs_X10_453 _) (ci := 8) rfl (MK.o H0) (dep (show d + 8 + 1 + 1 ≤ (d + 10) from by omega) (Nat.le_of_ble_eq_true rfl)) dX10_coinsAfter_7 rfl rfl (Nat.le_of_ble_eq_true rfl) (c_X10_isPerson (d + 8) (K := K) (I := I) H0 h2) ?_
  refine x_iloadn dX10_coinsAfter_10 rfl ?_
  obtain ⟨v3, h4, h⟩ := b1_s h
  refine z_S1 [.int x2] [.int v1, .int (I x0 6), .ref x0] (cs_X10_478 _) (dep (show d + 8 + 1 + 1 ≤ (d + 10) from by omega) (Nat.le_of_ble_eq_true rfl)) dX10_coinsAfter_11 rfl rfl (Nat.le_of_ble_eq_true rfl) (c_X10_areDays (d + 8) (K := K) (I := I) h4) ?_
  obtain ⟨v5, I6, h7, h⟩ := b2_s h
  refine z_V1 [.int (I x0 6), .int v1, .int v3] [] (cs_X10_40 _) (ci := 8) rfl (MK.o H0) (dep (show d + 9 + 0 + 1 ≤ (d + 10) from by omega) (Nat.le_of_ble_eq_true rfl)) dX10_coinsAfter_14 rfl rfl (Nat.le_of_ble_eq_true rfl) (c_X10_may (d + 9) (K := K) (I := I) H0 h7) ?_
  refine x_if_ne 22 dX10_coinsAfter_17 rfl (fun hc => ?_) (fun hc => ?_)
  · have h := ifF hc h
    refine x_aloadn dX10_coinsAfter_22 rfl ?_
    obtain ⟨I8, h9, h⟩ := b1_s h
    refine z_V0 [] [] (cs_X10_331 _) (ci := 8) rfl (MK.o H0) (dep (show d + 8 + 1 + 1 ≤ (d + 10) from by omega) (Nat.le_of_ble_eq_true rfl)) dX10_coinsAfter_23 rfl rfl (Nat.le_of_ble_eq_true rfl) (c_X10_thinks (d + 8) (K := K) (I := I6) H0 h9) ?_
    refine x_aloadn dX10_coinsAfter_26 rfl ?_
    refine x_iloadn dX10_coinsAfter_27 rfl ?_
    obtain ⟨I10, h11, h⟩ := b1_s h
    refine z_V0 [.int x2] [] (cs_X10_230 _) (ci := 8) rfl (MK.o H0) (dep (show d + 0 + 9 + 1 ≤ (d + 10) from by omega) (Nat.le_of_ble_eq_true rfl)) dX10_coinsAfter_28 rfl rfl (Nat.le_of_ble_eq_true rfl) (c_X10_passesMany d (K := K) (I := I8) H0 h11) ?_
    refine x_aloadn dX10_coinsAfter_31 rfl ?_
    refine x_aloadn dX10_coinsAfter_32 rfl ?_
    refine x_iloadn dX10_coinsAfter_33 rfl ?_
    refine x_iconst 0 dX10_coinsAfter_34 rfl ?_
    obtain ⟨v12, h13, h⟩ := b1_s h
    refine z_V1 [.int x1, .int 0] [.ref x0] (cs_X10_141 _) (ci := 8) rfl (MK.o H0) (dep (show d + 9 + 0 + 1 ≤ (d + 10) from by omega) (Nat.le_of_ble_eq_true rfl)) dX10_coinsAfter_35 rfl rfl (Nat.le_of_ble_eq_true rfl) (c_X10_ofPerson (d + 9) (K := K) (I := I10) H0 h13) ?_
    obtain ⟨v14, I15, h16, h⟩ := b2_s h
    refine z_V1 [.int v12] [] (cs_X10_337 _) (ci := 8) rfl (MK.o H0) (dep (show d + 8 + 1 + 1 ≤ (d + 10) from by omega) (Nat.le_of_ble_eq_true rfl)) dX10_coinsAfter_38 rfl rfl (Nat.le_of_ble_eq_true rfl) (c_X10_back (d + 8) (K := K) (I := I10) H0 h16) ?_
    cases h
    exact x_iret rfl dX10_coinsAfter_41 ⟨rfl, rfl, rfl⟩
  have h := ifT hc h
  refine x_iconst 0 dX10_coinsAfter_20 rfl ?_
  cases h
  exact x_iret rfl dX10_coinsAfter_21 ⟨rfl, rfl, rfl⟩
noncomputable def f_X10_valueAfter (I : Mem) (x0 : Nat) (x1 : Int32) (x2 : Int32) : Option (Int32 × Mem) := b1 (f_X10_isWish I x0 x1) fun v1 => b1 (f_X10_areDays x2) fun v3 => b2 (f_X10_may I x0 (I x0 6) v1 v3) fun v5 I6 => if v5 = 0 then (some (0, I6)) else (b1 (f_X10_thinks I6 x0) fun I8 => b1 (f_X10_passesMany I8 x0 x2) fun I10 => b1 (f_X10_valueOf I10 x0 x1) fun v12 => b2 (f_X10_back I10 x0 v12) fun v14 I15 => some (v14, I15))
theorem c_X10_valueAfter (d : Nat) {K : Kt} {I : Mem} {x0 : Nat} (H0 : MK K x0) {x1 : Int32} {x2 : Int32} {v : Int32} {I9 : Mem} (h : f_X10_valueAfter I x0 x1 x2 = some (v, I9)) : Ct (mX10_valueAfter (d + 10)) cX10_valueAfter 0 0 [.ref x0, .int x1, .int x2] I K (Ro (.inl (some (.int v))) I9 K) := by
  refine Ct.of rfl pn_X10 (catR (catI (catI cat0))) (Nat.le_of_ble_eq_true rfl) (show X _ _ _ _ _ _ 0 [.ref x0, .int x1, .int x2] [] _ from ?_)
  unfold f_X10_valueAfter at h
  refine x_aloadn dX10_valueAfter_0 rfl ?_
  refine x_aloadn dX10_valueAfter_1 rfl ?_
  refine z_getI fs_X10_44 (MK.o H0) dX10_valueAfter_2 ?_
  refine x_aloadn dX10_valueAfter_5 rfl ?_
  refine x_iloadn dX10_valueAfter_6 rfl ?_
  obtain ⟨v1, h2, h⟩ := b1_s h
  refine z_V1 [.int x1] [.int (I x0 6), .ref x0] (cs_X10_463 _) (ci := 8) rfl (MK.o H0) (dep (show d + 8 + 1 + 1 ≤ (d + 10) from by omega) (Nat.le_of_ble_eq_true rfl)) dX10_valueAfter_7 rfl rfl (Nat.le_of_ble_eq_true rfl) (c_X10_isWish (d + 8) (K := K) (I := I) H0 h2) ?_
  refine x_iloadn dX10_valueAfter_10 rfl ?_
  obtain ⟨v3, h4, h⟩ := b1_s h
  refine z_S1 [.int x2] [.int v1, .int (I x0 6), .ref x0] (cs_X10_478 _) (dep (show d + 8 + 1 + 1 ≤ (d + 10) from by omega) (Nat.le_of_ble_eq_true rfl)) dX10_valueAfter_11 rfl rfl (Nat.le_of_ble_eq_true rfl) (c_X10_areDays (d + 8) (K := K) (I := I) h4) ?_
  obtain ⟨v5, I6, h7, h⟩ := b2_s h
  refine z_V1 [.int (I x0 6), .int v1, .int v3] [] (cs_X10_40 _) (ci := 8) rfl (MK.o H0) (dep (show d + 9 + 0 + 1 ≤ (d + 10) from by omega) (Nat.le_of_ble_eq_true rfl)) dX10_valueAfter_14 rfl rfl (Nat.le_of_ble_eq_true rfl) (c_X10_may (d + 9) (K := K) (I := I) H0 h7) ?_
  refine x_if_ne 22 dX10_valueAfter_17 rfl (fun hc => ?_) (fun hc => ?_)
  · have h := ifF hc h
    refine x_aloadn dX10_valueAfter_22 rfl ?_
    obtain ⟨I8, h9, h⟩ := b1_s h
    refine z_V0 [] [] (cs_X10_331 _) (ci := 8) rfl (MK.o H0) (dep (show d + 8 + 1 + 1 ≤ (d + 10) from by omega) (Nat.le_of_ble_eq_true rfl)) dX10_valueAfter_23 rfl rfl (Nat.le_of_ble_eq_true rfl) (c_X10_thinks (d + 8) (K := K) (I := I6) H0 h9) ?_
    refine x_aloadn dX10_valueAfter_26 rfl ?_
    refine x_iloadn dX10_valueAfter_27 rfl ?_
    obtain ⟨I10, h11, h⟩ := b1_s h
    refine z_V0 [.int x2] [] (cs_X10_230 _) (ci := 8) rfl (MK.o H0) (dep (show d + 0 + 9 + 1 ≤ (d + 10) from by omega) (Nat.le_of_ble_eq_true rfl)) dX10_valueAfter_28 rfl rfl (Nat.le_of_ble_eq_true rfl) (c_X10_passesMany d (K := K) (I := I8) H0 h11) ?_
    refine x_aloadn dX10_valueAfter_31 rfl ?_
    refine x_aloadn dX10_valueAfter_32 rfl ?_
    refine x_iloadn dX10_valueAfter_33 rfl ?_
    obtain ⟨v12, h13, h⟩ := b1_s h
    refine z_V1 [.int x1] [.ref x0] (cs_X10_392 _) (ci := 8) rfl (MK.o H0) (dep (show d + 7 + 2 + 1 ≤ (d + 10) from by omega) (Nat.le_of_ble_eq_true rfl)) dX10_valueAfter_34 rfl rfl (Nat.le_of_ble_eq_true rfl) (c_X10_valueOf (d + 7) (K := K) (I := I10) H0 h13) ?_
    obtain ⟨v14, I15, h16, h⟩ := b2_s h
    refine z_V1 [.int v12] [] (cs_X10_337 _) (ci := 8) rfl (MK.o H0) (dep (show d + 8 + 1 + 1 ≤ (d + 10) from by omega) (Nat.le_of_ble_eq_true rfl)) dX10_valueAfter_37 rfl rfl (Nat.le_of_ble_eq_true rfl) (c_X10_back (d + 8) (K := K) (I := I10) H0 h16) ?_
    cases h
    exact x_iret rfl dX10_valueAfter_40 ⟨rfl, rfl, rfl⟩
  have h := ifT hc h
  refine x_iconst 0 dX10_valueAfter_20 rfl ?_
  cases h
  exact x_iret rfl dX10_valueAfter_21 ⟨rfl, rfl, rfl⟩
noncomputable def f_X10_daysUntilFaded (I : Mem) (x0 : Nat) (x1 : Int32) : Option (Int32 × Mem) := b2 (f_X10_mayWish I x0 x1) fun v1 I2 => if v1 = 0 then (some (0, I2)) else (b1 (f_X10_ofWish I2 x0 x1 3) fun v4 => if v4 = 3 then (some (0, I2)) else (b1 (f_X10_ofWish I2 x0 x1 3) fun v6 => if v6 = 2 then (some ((-1), I2)) else (b1 (ix 0 355) fun j8 => b1 (f_X10_today I2 x0) fun v9 => b1 (f_X10_ofWish I2 x0 x1 2) fun v11 => b1 (ix 0 355) fun j13 => some ((((I2 (x0 + 1) j8) - v9) + ((9 - v11) * (I2 (x0 + 1) j13))), I2))))
theorem c_X10_daysUntilFaded (d : Nat) {K : Kt} {I : Mem} {x0 : Nat} (H0 : MK K x0) {x1 : Int32} {v : Int32} {I9 : Mem} (h : f_X10_daysUntilFaded I x0 x1 = some (v, I9)) : Ct (mX10_daysUntilFaded (d + 3)) cX10_daysUntilFaded 0 0 [.ref x0, .int x1] I K (Ro (.inl (some (.int v))) I9 K) := by
  refine Ct.of rfl pn_X10 (catR (catI cat0)) (Nat.le_of_ble_eq_true rfl) (show X _ _ _ _ _ _ 0 [.ref x0, .int x1] [] _ from ?_)
  unfold f_X10_daysUntilFaded at h
  refine x_aloadn dX10_daysUntilFaded_0 rfl ?_
  refine x_iloadn dX10_daysUntilFaded_1 rfl ?_
  obtain ⟨v1, I2, h3, h⟩ := b2_s h
  refine z_V1 [.int x1] [] (cs_X10_475 _) (ci := 8) rfl (MK.o H0) (dep (show d + 0 + 2 + 1 ≤ (d + 3) from by omega) (Nat.le_of_ble_eq_true rfl)) dX10_daysUntilFaded_2 rfl rfl (Nat.le_of_ble_eq_true rfl) (c_X10_mayWish d (K := K) (I := I) H0 h3) ?_
  refine x_if_ne 10 dX10_daysUntilFaded_5 rfl (fun hc => ?_) (fun hc => ?_)
  · have h := ifF hc h
    refine x_aloadn dX10_daysUntilFaded_10 rfl ?_
    refine x_iloadn dX10_daysUntilFaded_11 rfl ?_
    refine x_iconst 3 dX10_daysUntilFaded_12 rfl ?_
    obtain ⟨v4, h5, h⟩ := b1_s h
    refine z_V1 [.int x1, .int 3] [] (cs_X10_224 _) (ci := 8) rfl (MK.o H0) (dep (show d + 2 + 0 + 1 ≤ (d + 3) from by omega) (Nat.le_of_ble_eq_true rfl)) dX10_daysUntilFaded_13 rfl rfl (Nat.le_of_ble_eq_true rfl) (c_X10_ofWish (d + 2) (K := K) (I := I2) H0 h5) ?_
    refine x_iconst 3 dX10_daysUntilFaded_16 rfl ?_
    refine x_icmp_ne 22 dX10_daysUntilFaded_17 rfl (fun hc => ?_) (fun hc => ?_)
    · have h := ifF hc h
      refine x_aloadn dX10_daysUntilFaded_22 rfl ?_
      refine x_iloadn dX10_daysUntilFaded_23 rfl ?_
      refine x_iconst 3 dX10_daysUntilFaded_24 rfl ?_
      obtain ⟨v6, h7, h⟩ := b1_s h
      refine z_V1 [.int x1, .int 3] [] (cs_X10_224 _) (ci := 8) rfl (MK.o H0) (dep (show d + 2 + 0 + 1 ≤ (d + 3) from by omega) (Nat.le_of_ble_eq_true rfl)) dX10_daysUntilFaded_25 rfl rfl (Nat.le_of_ble_eq_true rfl) (c_X10_ofWish (d + 2) (K := K) (I := I2) H0 h7) ?_
      refine x_iconst 2 dX10_daysUntilFaded_28 rfl ?_
      refine x_icmp_ne 34 dX10_daysUntilFaded_29 rfl (fun hc => ?_) (fun hc => ?_)
      · have h := ifF hc h
        refine x_aloadn dX10_daysUntilFaded_34 rfl ?_
        refine z_getR fs_X10_9 (MK.o H0) (MK.g1 H0) dX10_daysUntilFaded_35 ?_
        refine x_iconst 0 dX10_daysUntilFaded_38 rfl ?_
        obtain ⟨j8, hj8, h⟩ := b1_s h
        refine z_iald (MK.l1 H0) hj8 dX10_daysUntilFaded_39 ?_
        refine x_aloadn dX10_daysUntilFaded_40 rfl ?_
        obtain ⟨v9, h10, h⟩ := b1_s h
        refine z_V1 [] [.int (I2 (x0 + 1) j8)] (cs_X10_377 _) (ci := 8) rfl (MK.o H0) (dep (show d + 2 + 0 + 1 ≤ (d + 3) from by omega) (Nat.le_of_ble_eq_true rfl)) dX10_daysUntilFaded_41 rfl rfl (Nat.le_of_ble_eq_true rfl) (c_X10_today (d + 2) (K := K) (I := I2) H0 h10) ?_
        refine x_isub dX10_daysUntilFaded_44 ?_
        refine x_bipush 9 dX10_daysUntilFaded_45 rfl ?_
        refine x_aloadn dX10_daysUntilFaded_47 rfl ?_
        refine x_iloadn dX10_daysUntilFaded_48 rfl ?_
        refine x_iconst 2 dX10_daysUntilFaded_49 rfl ?_
        obtain ⟨v11, h12, h⟩ := b1_s h
        refine z_V1 [.int x1, .int 2] [.int 9, .int ((I2 (x0 + 1) j8) - v9)] (cs_X10_224 _) (ci := 8) rfl (MK.o H0) (dep (show d + 2 + 0 + 1 ≤ (d + 3) from by omega) (Nat.le_of_ble_eq_true rfl)) dX10_daysUntilFaded_50 rfl rfl (Nat.le_of_ble_eq_true rfl) (c_X10_ofWish (d + 2) (K := K) (I := I2) H0 h12) ?_
        refine x_isub dX10_daysUntilFaded_53 ?_
        refine x_aloadn dX10_daysUntilFaded_54 rfl ?_
        refine z_getR fs_X10_9 (MK.o H0) (MK.g1 H0) dX10_daysUntilFaded_55 ?_
        refine x_iconst 0 dX10_daysUntilFaded_58 rfl ?_
        obtain ⟨j13, hj13, h⟩ := b1_s h
        refine z_iald (MK.l1 H0) hj13 dX10_daysUntilFaded_59 ?_
        refine x_imul dX10_daysUntilFaded_60 ?_
        refine x_iadd dX10_daysUntilFaded_61 ?_
        cases h
        exact x_iret rfl dX10_daysUntilFaded_62 ⟨rfl, rfl, rfl⟩
      have h := ifT hc h
      refine x_iconst (-1) dX10_daysUntilFaded_32 rfl ?_
      cases h
      exact x_iret rfl dX10_daysUntilFaded_33 ⟨rfl, rfl, rfl⟩
    have h := ifT hc h
    refine x_iconst 0 dX10_daysUntilFaded_20 rfl ?_
    cases h
    exact x_iret rfl dX10_daysUntilFaded_21 ⟨rfl, rfl, rfl⟩
  have h := ifT hc h
  refine x_iconst 0 dX10_daysUntilFaded_8 rfl ?_
  cases h
  exact x_iret rfl dX10_daysUntilFaded_9 ⟨rfl, rfl, rfl⟩
noncomputable def f_X10_writesByte (I : Mem) (x0 : Nat) (x1 : Int32) : Option (Mem) := b1 (ix (I x0 20) 200) fun j1 => b1 (pu I (x0 + 7) j1 (vp_nar .byte (x1).toInt8.toInt32)) fun I2 => b1 (pu I2 x0 20 ((I2 x0 20) + 1)) fun I3 => some (I3)
theorem c_X10_writesByte (d : Nat) {K : Kt} {I : Mem} {x0 : Nat} (H0 : MK K x0) {x1 : Int32} {I9 : Mem} (h : f_X10_writesByte I x0 x1 = some I9) : Ct (mX10_writesByte d) cX10_writesByte 0 0 [.ref x0, .int x1] I K (Ro (.inl none) I9 K) := by
  refine Ct.of rfl pn_X10 (catR (catI cat0)) (Nat.le_of_ble_eq_true rfl) (show X _ _ _ _ _ _ 0 [.ref x0, .int x1] [] _ from ?_)
  unfold f_X10_writesByte at h
  refine x_aloadn dX10_writesByte_0 rfl ?_
  refine z_getR fs_X10_34 (MK.o H0) (MK.g7 H0) dX10_writesByte_1 ?_
  refine x_aloadn dX10_writesByte_4 rfl ?_
  refine z_getI fs_X10_481 (MK.o H0) dX10_writesByte_5 ?_
  refine x_iloadn dX10_writesByte_8 rfl ?_
  refine x_i2b dX10_writesByte_9 ?_
  obtain ⟨j1, hj1, h⟩ := b1_s h
  obtain ⟨I2, hI2, h⟩ := b1_s h
  refine z_bast (MK.l7 H0) hj1 hI2 dX10_writesByte_10 ?_
  refine x_aloadn dX10_writesByte_11 rfl ?_
  refine x_dup dX10_writesByte_12 rfl ?_
  refine z_getI fs_X10_481 (MK.o H0) dX10_writesByte_13 ?_
  refine x_iconst 1 dX10_writesByte_16 rfl ?_
  refine x_iadd dX10_writesByte_17 ?_
  obtain ⟨I3, hI3, h⟩ := b1_s h
  refine z_putI fs_X10_481 (MK.o H0) hI3 dX10_writesByte_18 ?_
  cases h
  exact x_vret rfl dX10_writesByte_21 ⟨rfl, rfl, rfl⟩
noncomputable def l_X10_writesNumber_18 (n : Nat) (I : Mem) (x0 : Nat) (x1 : Int32) (x2 : Int32) : Option (Mem) := match n with
  | 0 => none
  | n + 1 => if x2 ≤ 0 then (some (I)) else (b1 (nz x2) fun _ => b1 (f_X10_writesByte I x0 (48 + ((x1 / x2) - (x1 / x2) / 10 * 10))) fun I1 => l_X10_writesNumber_18 n I1 x0 x1 (x2 / 10))
theorem tl_X10_writesNumber_18 (d : Nat) {K : Kt} (n : Nat) : ∀ {I : Mem} {x0 : Nat} (H0 : MK K x0) {x1 : Int32} {x2 : Int32} {I9 : Mem}, l_X10_writesNumber_18 n I x0 x1 x2 = some I9 → X (mX10_writesNumber (d + 1)) cX10_writesNumber 0 0 I K 18 [.ref x0, .int x1, .int x2] [] (Ro (.inl none) I9 K) := by
  induction n with
  | zero =>
    intro I x0 H0 x1 x2 I9 h
    cases h
  | succ n ih =>
    intro I x0 H0 x1 x2 I9 h
    unfold l_X10_writesNumber_18 at h
    refine x_iloadn dX10_writesNumber_18 rfl ?_
    refine x_if_le 43 dX10_writesNumber_19 rfl (fun hc => ?_) (fun hc => ?_)
    · have h := ifT hc h
      cases h
      exact x_vret rfl dX10_writesNumber_43 ⟨rfl, rfl, rfl⟩
    have h := ifF hc h
    refine x_aloadn dX10_writesNumber_22 rfl ?_
    refine x_bipush 48 dX10_writesNumber_23 rfl ?_
    refine x_iloadn dX10_writesNumber_25 rfl ?_
    refine x_iloadn dX10_writesNumber_26 rfl ?_
    obtain ⟨u3, hu3, h⟩ := b1_s h
    refine x_idiv dX10_writesNumber_27 (nz_s hu3) ?_
    refine x_bipush 10 dX10_writesNumber_28 rfl ?_
    refine x_irem dX10_writesNumber_30 (by decide) ?_
    refine x_iadd dX10_writesNumber_31 ?_
    obtain ⟨I1, h2, h⟩ := b1_s h
    refine z_V0 [.int (48 + ((x1 / x2) - (x1 / x2) / 10 * 10))] [] (cs_X10_484 _) (ci := 8) rfl (MK.o H0) (dep (show d + 0 + 0 + 1 ≤ (d + 1) from by omega) (Nat.le_of_ble_eq_true rfl)) dX10_writesNumber_32 rfl rfl (Nat.le_of_ble_eq_true rfl) (c_X10_writesByte d (K := K) (I := I) H0 h2) ?_
    refine x_iloadn dX10_writesNumber_35 rfl ?_
    refine x_bipush 10 dX10_writesNumber_36 rfl ?_
    refine x_idiv dX10_writesNumber_38 (by decide) ?_
    refine x_istoren dX10_writesNumber_39 (Nat.le_of_ble_eq_true rfl) rfl rfl ?_
    refine x_goto 18 dX10_writesNumber_40 rfl ?_
    exact ih H0 h
noncomputable def l_X10_writesNumber_2 (n : Nat) (I : Mem) (x0 : Nat) (x1 : Int32) (x2 : Int32) : Option (Mem) := match n with
  | 0 => none
  | n + 1 => b1 (nz x2) fun _ => if (x1 / x2) ≤ 9 then (l_X10_writesNumber_18 FU I x0 x1 x2) else (l_X10_writesNumber_2 n I x0 x1 (x2 * 10))
theorem tl_X10_writesNumber_2 (d : Nat) {K : Kt} (n : Nat) : ∀ {I : Mem} {x0 : Nat} (H0 : MK K x0) {x1 : Int32} {x2 : Int32} {I9 : Mem}, l_X10_writesNumber_2 n I x0 x1 x2 = some I9 → X (mX10_writesNumber (d + 1)) cX10_writesNumber 0 0 I K 2 [.ref x0, .int x1, .int x2] [] (Ro (.inl none) I9 K) := by
  induction n with
  | zero =>
    intro I x0 H0 x1 x2 I9 h
    cases h
  | succ n ih =>
    intro I x0 H0 x1 x2 I9 h
    unfold l_X10_writesNumber_2 at h
    refine x_iloadn dX10_writesNumber_2 rfl ?_
    refine x_iloadn dX10_writesNumber_3 rfl ?_
    obtain ⟨u4, hu4, h⟩ := b1_s h
    refine x_idiv dX10_writesNumber_4 (nz_s hu4) ?_
    refine x_bipush 9 dX10_writesNumber_5 rfl ?_
    refine x_icmp_le 18 dX10_writesNumber_7 rfl (fun hc => ?_) (fun hc => ?_)
    · have h := ifT hc h
      exact tl_X10_writesNumber_18 d FU H0 h
    have h := ifF hc h
    refine x_iloadn dX10_writesNumber_10 rfl ?_
    refine x_bipush 10 dX10_writesNumber_11 rfl ?_
    refine x_imul dX10_writesNumber_13 ?_
    refine x_istoren dX10_writesNumber_14 (Nat.le_of_ble_eq_true rfl) rfl rfl ?_
    refine x_goto 2 dX10_writesNumber_15 rfl ?_
    exact ih H0 h
noncomputable def f_X10_writesNumber (I : Mem) (x0 : Nat) (x1 : Int32) : Option (Mem) := l_X10_writesNumber_2 FU I x0 x1 1
theorem c_X10_writesNumber (d : Nat) {K : Kt} {I : Mem} {x0 : Nat} (H0 : MK K x0) {x1 : Int32} {I9 : Mem} (h : f_X10_writesNumber I x0 x1 = some I9) : Ct (mX10_writesNumber (d + 1)) cX10_writesNumber 0 0 [.ref x0, .int x1] I K (Ro (.inl none) I9 K) := by
  refine Ct.of rfl pn_X10 (catR (catI cat0)) (Nat.le_of_ble_eq_true rfl) (show X _ _ _ _ _ _ 0 [.ref x0, .int x1, .retAddr 0] [] _ from ?_)
  unfold f_X10_writesNumber at h
  refine x_iconst 1 dX10_writesNumber_0 rfl ?_
  refine x_istoren dX10_writesNumber_1 (Nat.le_of_ble_eq_true rfl) rfl rfl ?_
  exact tl_X10_writesNumber_2 d FU H0 h
noncomputable def l_X10_writesName_2 (n : Nat) (I : Mem) (x0 : Nat) (x1 : Int32) (x2 : Int32) : Option (Mem) := match n with
  | 0 => none
  | n + 1 => b1 (ix x1 355) fun j1 => if (I (x0 + 1) j1) ≤ x2 then (some (I)) else (b1 (ix ((x1 + 1) + x2) 355) fun j2 => b1 (f_X10_writesByte I x0 (I (x0 + 1) j2)) fun I3 => l_X10_writesName_2 n I3 x0 x1 (x2 + 1))
theorem tl_X10_writesName_2 (d : Nat) {K : Kt} (n : Nat) : ∀ {I : Mem} {x0 : Nat} (H0 : MK K x0) {x1 : Int32} {x2 : Int32} {I9 : Mem}, l_X10_writesName_2 n I x0 x1 x2 = some I9 → X (mX10_writesName (d + 1)) cX10_writesName 0 0 I K 2 [.ref x0, .int x1, .int x2] [] (Ro (.inl none) I9 K) := by
  induction n with
  | zero =>
    intro I x0 H0 x1 x2 I9 h
    cases h
  | succ n ih =>
    intro I x0 H0 x1 x2 I9 h
    unfold l_X10_writesName_2 at h
    refine x_iloadn dX10_writesName_2 rfl ?_
    refine x_aloadn dX10_writesName_3 rfl ?_
    refine z_getR fs_X10_9 (MK.o H0) (MK.g1 H0) dX10_writesName_4 ?_
    refine x_iloadn dX10_writesName_7 rfl ?_
    obtain ⟨j1, hj1, h⟩ := b1_s h
    refine z_iald (MK.l1 H0) hj1 dX10_writesName_8 ?_
    refine x_icmp_ge 32 dX10_writesName_9 rfl (fun hc => ?_) (fun hc => ?_)
    · have h := ifT hc h
      cases h
      exact x_vret rfl dX10_writesName_32 ⟨rfl, rfl, rfl⟩
    have h := ifF hc h
    refine x_aloadn dX10_writesName_12 rfl ?_
    refine x_aloadn dX10_writesName_13 rfl ?_
    refine z_getR fs_X10_9 (MK.o H0) (MK.g1 H0) dX10_writesName_14 ?_
    refine x_iloadn dX10_writesName_17 rfl ?_
    refine x_iconst 1 dX10_writesName_18 rfl ?_
    refine x_iadd dX10_writesName_19 ?_
    refine x_iloadn dX10_writesName_20 rfl ?_
    refine x_iadd dX10_writesName_21 ?_
    obtain ⟨j2, hj2, h⟩ := b1_s h
    refine z_iald (MK.l1 H0) hj2 dX10_writesName_22 ?_
    obtain ⟨I3, h4, h⟩ := b1_s h
    refine z_V0 [.int (I (x0 + 1) j2)] [] (cs_X10_484 _) (ci := 8) rfl (MK.o H0) (dep (show d + 0 + 0 + 1 ≤ (d + 1) from by omega) (Nat.le_of_ble_eq_true rfl)) dX10_writesName_23 rfl rfl (Nat.le_of_ble_eq_true rfl) (c_X10_writesByte d (K := K) (I := I) H0 h4) ?_
    refine z_iinc 1 (by decide) dX10_writesName_26 rfl rfl rfl ?_
    refine x_goto 2 dX10_writesName_29 rfl ?_
    exact ih H0 h
noncomputable def f_X10_writesName (I : Mem) (x0 : Nat) (x1 : Int32) : Option (Mem) := l_X10_writesName_2 FU I x0 x1 0
theorem c_X10_writesName (d : Nat) {K : Kt} {I : Mem} {x0 : Nat} (H0 : MK K x0) {x1 : Int32} {I9 : Mem} (h : f_X10_writesName I x0 x1 = some I9) : Ct (mX10_writesName (d + 1)) cX10_writesName 0 0 [.ref x0, .int x1] I K (Ro (.inl none) I9 K) := by
  refine Ct.of rfl pn_X10 (catR (catI cat0)) (Nat.le_of_ble_eq_true rfl) (show X _ _ _ _ _ _ 0 [.ref x0, .int x1, .retAddr 0] [] _ from ?_)
  unfold f_X10_writesName at h
  refine x_iconst 0 dX10_writesName_0 rfl ?_
  refine x_istoren dX10_writesName_1 (Nat.le_of_ble_eq_true rfl) rfl rfl ?_
  exact tl_X10_writesName_2 d FU H0 h
noncomputable def f_X10_writesWish (I : Mem) (x0 : Nat) (x1 : Int32) : Option (Mem) := b1 (f_X10_writesName I x0 ((115 + (15 * x1)) + 8)) fun I1 => some (I1)
theorem c_X10_writesWish (d : Nat) {K : Kt} {I : Mem} {x0 : Nat} (H0 : MK K x0) {x1 : Int32} {I9 : Mem} (h : f_X10_writesWish I x0 x1 = some I9) : Ct (mX10_writesWish (d + 2)) cX10_writesWish 0 0 [.ref x0, .int x1] I K (Ro (.inl none) I9 K) := by
  refine Ct.of rfl pn_X10 (catR (catI cat0)) (Nat.le_of_ble_eq_true rfl) (show X _ _ _ _ _ _ 0 [.ref x0, .int x1] [] _ from ?_)
  unfold f_X10_writesWish at h
  refine x_aloadn dX10_writesWish_0 rfl ?_
  refine x_bipush 115 dX10_writesWish_1 rfl ?_
  refine x_bipush 15 dX10_writesWish_3 rfl ?_
  refine x_iloadn dX10_writesWish_5 rfl ?_
  refine x_imul dX10_writesWish_6 ?_
  refine x_iadd dX10_writesWish_7 ?_
  refine x_bipush 8 dX10_writesWish_8 rfl ?_
  refine x_iadd dX10_writesWish_10 ?_
  obtain ⟨I1, h2, h⟩ := b1_s h
  refine z_V0 [.int ((115 + (15 * x1)) + 8)] [] (cs_X10_487 _) (ci := 8) rfl (MK.o H0) (dep (show d + 0 + 1 + 1 ≤ (d + 2) from by omega) (Nat.le_of_ble_eq_true rfl)) dX10_writesWish_11 rfl rfl (Nat.le_of_ble_eq_true rfl) (c_X10_writesName d (K := K) (I := I) H0 h2) ?_
  cases h
  exact x_vret rfl dX10_writesWish_14 ⟨rfl, rfl, rfl⟩
noncomputable def l_X10_writeStall_61 (c17 : Mem → Nat → Int32 → Int32 → Option (Int32 × Mem)) (I : Mem) (x0 : Nat) (x1 : Int32) (x2 : Int32) : Option (Int32 × Mem) := b1 (f_X10_writesWish I x0 x2) fun I12 => b1 (f_X10_writesByte I12 x0 61) fun I14 => b1 (f_X10_priceOf I14 x0 x2) fun v16 => b1 (f_X10_writesNumber I14 x0 v16) fun I18 => c17 I18 x0 x1 (x2 + 1)
theorem tl_X10_writeStall_61 (d : Nat) {K : Kt} {c17 : Mem → Nat → Int32 → Int32 → Option (Int32 × Mem)} (hc17 : ∀ {I : Mem} {x0 : Nat} (H0 : MK K x0) {x1 : Int32} {x2 : Int32} {v : Int32} {I9 : Mem}, c17 I x0 x1 x2 = some (v, I9) → X (mX10_writeStall (d + 3)) cX10_writeStall 0 0 I K 17 [.ref x0, .int x1, .int x2] [] (Ro (.inl (some (.int v))) I9 K)) : ∀ {I : Mem} {x0 : Nat} (H0 : MK K x0) {x1 : Int32} {x2 : Int32} {v : Int32} {I9 : Mem}, l_X10_writeStall_61 c17 I x0 x1 x2 = some (v, I9) → X (mX10_writeStall (d + 3)) cX10_writeStall 0 0 I K 61 [.ref x0, .int x1, .int x2] [] (Ro (.inl (some (.int v))) I9 K) := by
  intro I x0 H0 x1 x2 v I9 h
  unfold l_X10_writeStall_61 at h
  refine x_aloadn dX10_writeStall_61 rfl ?_
  refine x_iloadn dX10_writeStall_62 rfl ?_
  obtain ⟨I12, h13, h⟩ := b1_s h
  refine z_V0 [.int x2] [] (cs_X10_490 _) (ci := 8) rfl (MK.o H0) (dep (show d + 0 + 2 + 1 ≤ (d + 3) from by omega) (Nat.le_of_ble_eq_true rfl)) dX10_writeStall_63 rfl rfl (Nat.le_of_ble_eq_true rfl) (c_X10_writesWish d (K := K) (I := I) H0 h13) ?_
  refine x_aloadn dX10_writeStall_66 rfl ?_
  refine x_bipush 61 dX10_writeStall_67 rfl ?_
  obtain ⟨I14, h15, h⟩ := b1_s h
  refine z_V0 [.int 61] [] (cs_X10_484 _) (ci := 8) rfl (MK.o H0) (dep (show d + 2 + 0 + 1 ≤ (d + 3) from by omega) (Nat.le_of_ble_eq_true rfl)) dX10_writeStall_69 rfl rfl (Nat.le_of_ble_eq_true rfl) (c_X10_writesByte (d + 2) (K := K) (I := I12) H0 h15) ?_
  refine x_aloadn dX10_writeStall_72 rfl ?_
  refine x_aloadn dX10_writeStall_73 rfl ?_
  refine x_iloadn dX10_writeStall_74 rfl ?_
  obtain ⟨v16, h17, h⟩ := b1_s h
  refine z_V1 [.int x2] [.ref x0] (cs_X10_368 _) (ci := 8) rfl (MK.o H0) (dep (show d + 0 + 2 + 1 ≤ (d + 3) from by omega) (Nat.le_of_ble_eq_true rfl)) dX10_writeStall_75 rfl rfl (Nat.le_of_ble_eq_true rfl) (c_X10_priceOf d (K := K) (I := I14) H0 h17) ?_
  obtain ⟨I18, h19, h⟩ := b1_s h
  refine z_V0 [.int v16] [] (cs_X10_493 _) (ci := 8) rfl (MK.o H0) (dep (show d + 1 + 1 + 1 ≤ (d + 3) from by omega) (Nat.le_of_ble_eq_true rfl)) dX10_writeStall_78 rfl rfl (Nat.le_of_ble_eq_true rfl) (c_X10_writesNumber (d + 1) (K := K) (I := I14) H0 h19) ?_
  refine z_iinc 1 (by decide) dX10_writeStall_81 rfl rfl rfl ?_
  refine x_goto 17 dX10_writeStall_84 rfl ?_
  exact hc17 H0 h
noncomputable def l_X10_writeStall_17 (n : Nat) (I : Mem) (x0 : Nat) (x1 : Int32) (x2 : Int32) : Option (Int32 × Mem) := match n with
  | 0 => none
  | n + 1 => b1 (ix 4 355) fun j5 => if (I (x0 + 1) j5) ≤ x2 then (if (I x0 20) = 0 then (b1 (f_X10_writesByte I x0 45) fun I6 => some ((I6 x0 20), I6)) else (some ((I x0 20), I))) else (b1 (f_X10_isInStall I x0 x2) fun v8 => if v8 = 0 then (l_X10_writeStall_17 n I x0 x1 (x2 + 1)) else (b1 (f_X10_ofWish I x0 x2 4) fun v10 => if v10 = x1 then (if (I x0 20) ≤ 0 then (l_X10_writeStall_61 (l_X10_writeStall_17 n) I x0 x1 x2) else (b1 (f_X10_writesByte I x0 32) fun I20 => l_X10_writeStall_61 (l_X10_writeStall_17 n) I20 x0 x1 x2)) else (l_X10_writeStall_17 n I x0 x1 (x2 + 1))))
theorem tl_X10_writeStall_17 (d : Nat) {K : Kt} (n : Nat) : ∀ {I : Mem} {x0 : Nat} (H0 : MK K x0) {x1 : Int32} {x2 : Int32} {v : Int32} {I9 : Mem}, l_X10_writeStall_17 n I x0 x1 x2 = some (v, I9) → X (mX10_writeStall (d + 3)) cX10_writeStall 0 0 I K 17 [.ref x0, .int x1, .int x2] [] (Ro (.inl (some (.int v))) I9 K) := by
  induction n with
  | zero =>
    intro I x0 H0 x1 x2 v I9 h
    cases h
  | succ n ih =>
    intro I x0 H0 x1 x2 v I9 h
    unfold l_X10_writeStall_17 at h
    refine x_iloadn dX10_writeStall_17 rfl ?_
    refine x_aloadn dX10_writeStall_18 rfl ?_
    refine z_getR fs_X10_9 (MK.o H0) (MK.g1 H0) dX10_writeStall_19 ?_
    refine x_iconst 4 dX10_writeStall_22 rfl ?_
    obtain ⟨j5, hj5, h⟩ := b1_s h
    refine z_iald (MK.l1 H0) hj5 dX10_writeStall_23 ?_
    refine x_icmp_ge 87 dX10_writeStall_24 rfl (fun hc => ?_) (fun hc => ?_)
    · have h := ifT hc h
      refine x_aloadn dX10_writeStall_87 rfl ?_
      refine z_getI fs_X10_481 (MK.o H0) dX10_writeStall_88 ?_
      refine x_if_ne 100 dX10_writeStall_91 rfl (fun hc => ?_) (fun hc => ?_)
      · have h := ifF hc h
        refine x_aloadn dX10_writeStall_100 rfl ?_
        refine z_getI fs_X10_481 (MK.o H0) dX10_writeStall_101 ?_
        cases h
        exact x_iret rfl dX10_writeStall_104 ⟨rfl, rfl, rfl⟩
      have h := ifT hc h
      refine x_aloadn dX10_writeStall_94 rfl ?_
      refine x_bipush 45 dX10_writeStall_95 rfl ?_
      obtain ⟨I6, h7, h⟩ := b1_s h
      refine z_V0 [.int 45] [] (cs_X10_484 _) (ci := 8) rfl (MK.o H0) (dep (show d + 2 + 0 + 1 ≤ (d + 3) from by omega) (Nat.le_of_ble_eq_true rfl)) dX10_writeStall_97 rfl rfl (Nat.le_of_ble_eq_true rfl) (c_X10_writesByte (d + 2) (K := K) (I := I) H0 h7) ?_
      refine x_aloadn dX10_writeStall_100 rfl ?_
      refine z_getI fs_X10_481 (MK.o H0) dX10_writeStall_101 ?_
      cases h
      exact x_iret rfl dX10_writeStall_104 ⟨rfl, rfl, rfl⟩
    have h := ifF hc h
    refine x_aloadn dX10_writeStall_27 rfl ?_
    refine x_iloadn dX10_writeStall_28 rfl ?_
    obtain ⟨v8, h9, h⟩ := b1_s h
    refine z_V1 [.int x2] [] (cs_X10_350 _) (ci := 8) rfl (MK.o H0) (dep (show d + 1 + 1 + 1 ≤ (d + 3) from by omega) (Nat.le_of_ble_eq_true rfl)) dX10_writeStall_29 rfl rfl (Nat.le_of_ble_eq_true rfl) (c_X10_isInStall (d + 1) (K := K) (I := I) H0 h9) ?_
    refine x_if_eq 81 dX10_writeStall_32 rfl (fun hc => ?_) (fun hc => ?_)
    · have h := ifT hc h
      refine z_iinc 1 (by decide) dX10_writeStall_81 rfl rfl rfl ?_
      refine x_goto 17 dX10_writeStall_84 rfl ?_
      exact ih H0 h
    have h := ifF hc h
    refine x_aloadn dX10_writeStall_35 rfl ?_
    refine x_iloadn dX10_writeStall_36 rfl ?_
    refine x_iconst 4 dX10_writeStall_37 rfl ?_
    obtain ⟨v10, h11, h⟩ := b1_s h
    refine z_V1 [.int x2, .int 4] [] (cs_X10_224 _) (ci := 8) rfl (MK.o H0) (dep (show d + 2 + 0 + 1 ≤ (d + 3) from by omega) (Nat.le_of_ble_eq_true rfl)) dX10_writeStall_38 rfl rfl (Nat.le_of_ble_eq_true rfl) (c_X10_ofWish (d + 2) (K := K) (I := I) H0 h11) ?_
    refine x_iloadn dX10_writeStall_41 rfl ?_
    refine x_icmp_eq 48 dX10_writeStall_42 rfl (fun hc => ?_) (fun hc => ?_)
    · have h := ifT hc h
      refine x_aloadn dX10_writeStall_48 rfl ?_
      refine z_getI fs_X10_481 (MK.o H0) dX10_writeStall_49 ?_
      refine x_if_le 61 dX10_writeStall_52 rfl (fun hc => ?_) (fun hc => ?_)
      · have h := ifT hc h
        exact tl_X10_writeStall_61 d ih H0 h
      have h := ifF hc h
      refine x_aloadn dX10_writeStall_55 rfl ?_
      refine x_bipush 32 dX10_writeStall_56 rfl ?_
      obtain ⟨I20, h21, h⟩ := b1_s h
      refine z_V0 [.int 32] [] (cs_X10_484 _) (ci := 8) rfl (MK.o H0) (dep (show d + 2 + 0 + 1 ≤ (d + 3) from by omega) (Nat.le_of_ble_eq_true rfl)) dX10_writeStall_58 rfl rfl (Nat.le_of_ble_eq_true rfl) (c_X10_writesByte (d + 2) (K := K) (I := I) H0 h21) ?_
      exact tl_X10_writeStall_61 d ih H0 h
    have h := ifF hc h
    refine x_goto 81 dX10_writeStall_45 rfl ?_
    refine z_iinc 1 (by decide) dX10_writeStall_81 rfl rfl rfl ?_
    refine x_goto 17 dX10_writeStall_84 rfl ?_
    exact ih H0 h
noncomputable def f_X10_writeStall (I : Mem) (x0 : Nat) (x1 : Int32) : Option (Int32 × Mem) := b2 (f_X10_mayStall I x0 x1) fun v1 I2 => if v1 = 0 then (some (0, I2)) else (b1 (pu I2 x0 20 0) fun I4 => l_X10_writeStall_17 FU I4 x0 x1 0)
theorem c_X10_writeStall (d : Nat) {K : Kt} {I : Mem} {x0 : Nat} (H0 : MK K x0) {x1 : Int32} {v : Int32} {I9 : Mem} (h : f_X10_writeStall I x0 x1 = some (v, I9)) : Ct (mX10_writeStall (d + 3)) cX10_writeStall 0 0 [.ref x0, .int x1] I K (Ro (.inl (some (.int v))) I9 K) := by
  refine Ct.of rfl pn_X10 (catR (catI cat0)) (Nat.le_of_ble_eq_true rfl) (show X _ _ _ _ _ _ 0 [.ref x0, .int x1, .retAddr 0] [] _ from ?_)
  unfold f_X10_writeStall at h
  refine x_aloadn dX10_writeStall_0 rfl ?_
  refine x_iloadn dX10_writeStall_1 rfl ?_
  obtain ⟨v1, I2, h3, h⟩ := b2_s h
  refine z_V1 [.int x1] [] (cs_X10_472 _) (ci := 8) rfl (MK.o H0) (dep (show d + 0 + 2 + 1 ≤ (d + 3) from by omega) (Nat.le_of_ble_eq_true rfl)) dX10_writeStall_2 rfl rfl (Nat.le_of_ble_eq_true rfl) (c_X10_mayStall d (K := K) (I := I) H0 h3) ?_
  refine x_if_ne 10 dX10_writeStall_5 rfl (fun hc => ?_) (fun hc => ?_)
  · have h := ifF hc h
    refine x_aloadn dX10_writeStall_10 rfl ?_
    refine x_iconst 0 dX10_writeStall_11 rfl ?_
    obtain ⟨I4, hI4, h⟩ := b1_s h
    refine z_putI fs_X10_481 (MK.o H0) hI4 dX10_writeStall_12 ?_
    refine x_iconst 0 dX10_writeStall_15 rfl ?_
    refine x_istoren dX10_writeStall_16 (Nat.le_of_ble_eq_true rfl) rfl rfl ?_
    exact tl_X10_writeStall_17 d FU H0 h
  have h := ifT hc h
  refine x_iconst 0 dX10_writeStall_8 rfl ?_
  cases h
  exact x_iret rfl dX10_writeStall_9 ⟨rfl, rfl, rfl⟩
noncomputable def l_X10_writePerson_47 (n : Nat) (I : Mem) (x0 : Nat) (x1 : Int32) (x2 : Int32) : Option (Int32 × Mem) := match n with
  | 0 => none
  | n + 1 => b1 (ix 4 355) fun j13 => if (I (x0 + 1) j13) ≤ x2 then (some ((I x0 20), I)) else (b1 (f_X10_isOwnedBy I x0 x2 x1) fun v14 => if v14 = 0 then (l_X10_writePerson_47 n I x0 x1 (x2 + 1)) else (b1 (f_X10_writesByte I x0 32) fun I16 => b1 (f_X10_writesWish I16 x0 x2) fun I18 => l_X10_writePerson_47 n I18 x0 x1 (x2 + 1)))
theorem tl_X10_writePerson_47 (d : Nat) {K : Kt} (n : Nat) : ∀ {I : Mem} {x0 : Nat} (H0 : MK K x0) {x1 : Int32} {x2 : Int32} {v : Int32} {I9 : Mem}, l_X10_writePerson_47 n I x0 x1 x2 = some (v, I9) → X (mX10_writePerson (d + 3)) cX10_writePerson 0 0 I K 47 [.ref x0, .int x1, .int x2] [] (Ro (.inl (some (.int v))) I9 K) := by
  induction n with
  | zero =>
    intro I x0 H0 x1 x2 v I9 h
    cases h
  | succ n ih =>
    intro I x0 H0 x1 x2 v I9 h
    unfold l_X10_writePerson_47 at h
    refine x_iloadn dX10_writePerson_47 rfl ?_
    refine x_aloadn dX10_writePerson_48 rfl ?_
    refine z_getR fs_X10_9 (MK.o H0) (MK.g1 H0) dX10_writePerson_49 ?_
    refine x_iconst 4 dX10_writePerson_52 rfl ?_
    obtain ⟨j13, hj13, h⟩ := b1_s h
    refine z_iald (MK.l1 H0) hj13 dX10_writePerson_53 ?_
    refine x_icmp_ge 86 dX10_writePerson_54 rfl (fun hc => ?_) (fun hc => ?_)
    · have h := ifT hc h
      refine x_aloadn dX10_writePerson_86 rfl ?_
      refine z_getI fs_X10_481 (MK.o H0) dX10_writePerson_87 ?_
      cases h
      exact x_iret rfl dX10_writePerson_90 ⟨rfl, rfl, rfl⟩
    have h := ifF hc h
    refine x_aloadn dX10_writePerson_57 rfl ?_
    refine x_iloadn dX10_writePerson_58 rfl ?_
    refine x_iloadn dX10_writePerson_59 rfl ?_
    obtain ⟨v14, h15, h⟩ := b1_s h
    refine z_V1 [.int x2, .int x1] [] (cs_X10_343 _) (ci := 8) rfl (MK.o H0) (dep (show d + 0 + 2 + 1 ≤ (d + 3) from by omega) (Nat.le_of_ble_eq_true rfl)) dX10_writePerson_60 rfl rfl (Nat.le_of_ble_eq_true rfl) (c_X10_isOwnedBy d (K := K) (I := I) H0 h15) ?_
    refine x_if_ne 69 dX10_writePerson_63 rfl (fun hc => ?_) (fun hc => ?_)
    · have h := ifF hc h
      refine x_aloadn dX10_writePerson_69 rfl ?_
      refine x_bipush 32 dX10_writePerson_70 rfl ?_
      obtain ⟨I16, h17, h⟩ := b1_s h
      refine z_V0 [.int 32] [] (cs_X10_484 _) (ci := 8) rfl (MK.o H0) (dep (show d + 2 + 0 + 1 ≤ (d + 3) from by omega) (Nat.le_of_ble_eq_true rfl)) dX10_writePerson_72 rfl rfl (Nat.le_of_ble_eq_true rfl) (c_X10_writesByte (d + 2) (K := K) (I := I) H0 h17) ?_
      refine x_aloadn dX10_writePerson_75 rfl ?_
      refine x_iloadn dX10_writePerson_76 rfl ?_
      obtain ⟨I18, h19, h⟩ := b1_s h
      refine z_V0 [.int x2] [] (cs_X10_490 _) (ci := 8) rfl (MK.o H0) (dep (show d + 0 + 2 + 1 ≤ (d + 3) from by omega) (Nat.le_of_ble_eq_true rfl)) dX10_writePerson_77 rfl rfl (Nat.le_of_ble_eq_true rfl) (c_X10_writesWish d (K := K) (I := I16) H0 h19) ?_
      refine z_iinc 1 (by decide) dX10_writePerson_80 rfl rfl rfl ?_
      refine x_goto 47 dX10_writePerson_83 rfl ?_
      exact ih H0 h
    have h := ifT hc h
    refine x_goto 80 dX10_writePerson_66 rfl ?_
    refine z_iinc 1 (by decide) dX10_writePerson_80 rfl rfl rfl ?_
    refine x_goto 47 dX10_writePerson_83 rfl ?_
    exact ih H0 h
noncomputable def f_X10_writePerson (I : Mem) (x0 : Nat) (x1 : Int32) : Option (Int32 × Mem) := b2 (f_X10_mayPerson I x0 x1) fun v1 I2 => if v1 = 0 then (some (0, I2)) else (b1 (pu I2 x0 20 0) fun I4 => b1 (f_X10_writesName I4 x0 ((11 + (14 * x1)) + 7)) fun I5 => b1 (f_X10_writesByte I5 x0 58) fun I7 => b1 (f_X10_ofPerson I7 x0 x1 0) fun v9 => b1 (f_X10_writesNumber I7 x0 v9) fun I11 => l_X10_writePerson_47 FU I11 x0 x1 0)
theorem c_X10_writePerson (d : Nat) {K : Kt} {I : Mem} {x0 : Nat} (H0 : MK K x0) {x1 : Int32} {v : Int32} {I9 : Mem} (h : f_X10_writePerson I x0 x1 = some (v, I9)) : Ct (mX10_writePerson (d + 3)) cX10_writePerson 0 0 [.ref x0, .int x1] I K (Ro (.inl (some (.int v))) I9 K) := by
  refine Ct.of rfl pn_X10 (catR (catI cat0)) (Nat.le_of_ble_eq_true rfl) (show X _ _ _ _ _ _ 0 [.ref x0, .int x1, .retAddr 0] [] _ from ?_)
  unfold f_X10_writePerson at h
  refine x_aloadn dX10_writePerson_0 rfl ?_
  refine x_iloadn dX10_writePerson_1 rfl ?_
  obtain ⟨v1, I2, h3, h⟩ := b2_s h
  refine z_V1 [.int x1] [] (cs_X10_466 _) (ci := 8) rfl (MK.o H0) (dep (show d + 0 + 2 + 1 ≤ (d + 3) from by omega) (Nat.le_of_ble_eq_true rfl)) dX10_writePerson_2 rfl rfl (Nat.le_of_ble_eq_true rfl) (c_X10_mayPerson d (K := K) (I := I) H0 h3) ?_
  refine x_if_ne 10 dX10_writePerson_5 rfl (fun hc => ?_) (fun hc => ?_)
  · have h := ifF hc h
    refine x_aloadn dX10_writePerson_10 rfl ?_
    refine x_iconst 0 dX10_writePerson_11 rfl ?_
    obtain ⟨I4, hI4, h⟩ := b1_s h
    refine z_putI fs_X10_481 (MK.o H0) hI4 dX10_writePerson_12 ?_
    refine x_aloadn dX10_writePerson_15 rfl ?_
    refine x_bipush 11 dX10_writePerson_16 rfl ?_
    refine x_bipush 14 dX10_writePerson_18 rfl ?_
    refine x_iloadn dX10_writePerson_20 rfl ?_
    refine x_imul dX10_writePerson_21 ?_
    refine x_iadd dX10_writePerson_22 ?_
    refine x_bipush 7 dX10_writePerson_23 rfl ?_
    refine x_iadd dX10_writePerson_25 ?_
    obtain ⟨I5, h6, h⟩ := b1_s h
    refine z_V0 [.int ((11 + (14 * x1)) + 7)] [] (cs_X10_487 _) (ci := 8) rfl (MK.o H0) (dep (show d + 1 + 1 + 1 ≤ (d + 3) from by omega) (Nat.le_of_ble_eq_true rfl)) dX10_writePerson_26 rfl rfl (Nat.le_of_ble_eq_true rfl) (c_X10_writesName (d + 1) (K := K) (I := I4) H0 h6) ?_
    refine x_aloadn dX10_writePerson_29 rfl ?_
    refine x_bipush 58 dX10_writePerson_30 rfl ?_
    obtain ⟨I7, h8, h⟩ := b1_s h
    refine z_V0 [.int 58] [] (cs_X10_484 _) (ci := 8) rfl (MK.o H0) (dep (show d + 2 + 0 + 1 ≤ (d + 3) from by omega) (Nat.le_of_ble_eq_true rfl)) dX10_writePerson_32 rfl rfl (Nat.le_of_ble_eq_true rfl) (c_X10_writesByte (d + 2) (K := K) (I := I5) H0 h8) ?_
    refine x_aloadn dX10_writePerson_35 rfl ?_
    refine x_aloadn dX10_writePerson_36 rfl ?_
    refine x_iloadn dX10_writePerson_37 rfl ?_
    refine x_iconst 0 dX10_writePerson_38 rfl ?_
    obtain ⟨v9, h10, h⟩ := b1_s h
    refine z_V1 [.int x1, .int 0] [.ref x0] (cs_X10_141 _) (ci := 8) rfl (MK.o H0) (dep (show d + 2 + 0 + 1 ≤ (d + 3) from by omega) (Nat.le_of_ble_eq_true rfl)) dX10_writePerson_39 rfl rfl (Nat.le_of_ble_eq_true rfl) (c_X10_ofPerson (d + 2) (K := K) (I := I7) H0 h10) ?_
    obtain ⟨I11, h12, h⟩ := b1_s h
    refine z_V0 [.int v9] [] (cs_X10_493 _) (ci := 8) rfl (MK.o H0) (dep (show d + 1 + 1 + 1 ≤ (d + 3) from by omega) (Nat.le_of_ble_eq_true rfl)) dX10_writePerson_42 rfl rfl (Nat.le_of_ble_eq_true rfl) (c_X10_writesNumber (d + 1) (K := K) (I := I7) H0 h12) ?_
    refine x_iconst 0 dX10_writePerson_45 rfl ?_
    refine x_istoren dX10_writePerson_46 (Nat.le_of_ble_eq_true rfl) rfl rfl ?_
    exact tl_X10_writePerson_47 d FU H0 h
  have h := ifT hc h
  refine x_iconst 0 dX10_writePerson_8 rfl ?_
  cases h
  exact x_iret rfl dX10_writePerson_9 ⟨rfl, rfl, rfl⟩
noncomputable def f_X10_outputByte (I : Mem) (x0 : Nat) (x1 : Int32) : Option (Int32 × Mem) := b1 (f_X10_in x1 0 ((I x0 20) - 1)) fun v1 => b2 (f_X10_may I x0 v1 1 1) fun v3 I4 => if v3 = 0 then (some (0, I4)) else (b1 (ix x1 200) fun j6 => some ((I4 (x0 + 7) j6), I4))
theorem c_X10_outputByte (d : Nat) {K : Kt} {I : Mem} {x0 : Nat} (H0 : MK K x0) {x1 : Int32} {v : Int32} {I9 : Mem} (h : f_X10_outputByte I x0 x1 = some (v, I9)) : Ct (mX10_outputByte (d + 1)) cX10_outputByte 0 0 [.ref x0, .int x1] I K (Ro (.inl (some (.int v))) I9 K) := by
  refine Ct.of rfl pn_X10 (catR (catI cat0)) (Nat.le_of_ble_eq_true rfl) (show X _ _ _ _ _ _ 0 [.ref x0, .int x1] [] _ from ?_)
  unfold f_X10_outputByte at h
  refine x_aloadn dX10_outputByte_0 rfl ?_
  refine x_iloadn dX10_outputByte_1 rfl ?_
  refine x_iconst 0 dX10_outputByte_2 rfl ?_
  refine x_aloadn dX10_outputByte_3 rfl ?_
  refine z_getI fs_X10_481 (MK.o H0) dX10_outputByte_4 ?_
  refine x_iconst 1 dX10_outputByte_7 rfl ?_
  refine x_isub dX10_outputByte_8 ?_
  obtain ⟨v1, h2, h⟩ := b1_s h
  refine z_S1 [.int x1, .int 0, .int ((I x0 20) - 1)] [.ref x0] (cs_X10_69 _) (dep (show d + 0 + 0 + 1 ≤ (d + 1) from by omega) (Nat.le_of_ble_eq_true rfl)) dX10_outputByte_9 rfl rfl (Nat.le_of_ble_eq_true rfl) (c_X10_in d (K := K) (I := I) h2) ?_
  refine x_iconst 1 dX10_outputByte_12 rfl ?_
  refine x_iconst 1 dX10_outputByte_13 rfl ?_
  obtain ⟨v3, I4, h5, h⟩ := b2_s h
  refine z_V1 [.int v1, .int 1, .int 1] [] (cs_X10_40 _) (ci := 8) rfl (MK.o H0) (dep (show d + 0 + 0 + 1 ≤ (d + 1) from by omega) (Nat.le_of_ble_eq_true rfl)) dX10_outputByte_14 rfl rfl (Nat.le_of_ble_eq_true rfl) (c_X10_may d (K := K) (I := I) H0 h5) ?_
  refine x_if_eq 29 dX10_outputByte_17 rfl (fun hc => ?_) (fun hc => ?_)
  · have h := ifT hc h
    refine x_iconst 0 dX10_outputByte_29 rfl ?_
    cases h
    exact x_iret rfl dX10_outputByte_30 ⟨rfl, rfl, rfl⟩
  have h := ifF hc h
  refine x_aloadn dX10_outputByte_20 rfl ?_
  refine z_getR fs_X10_34 (MK.o H0) (MK.g7 H0) dX10_outputByte_21 ?_
  refine x_iloadn dX10_outputByte_24 rfl ?_
  obtain ⟨j6, hj6, h⟩ := b1_s h
  refine z_bald (MK.l7 H0) hj6 dX10_outputByte_25 ?_
  refine x_goto 30 dX10_outputByte_26 rfl ?_
  cases h
  exact x_iret rfl dX10_outputByte_30 ⟨rfl, rfl, rfl⟩
noncomputable def l_X10_remembers_50 (I : Mem) (x0 : Nat) : Option (Mem) := b1 (f_X10_lays I (x0 + 1) 355 0 (x0 + 3) 2840 ((I x0 7) * 355)) fun I1 => b1 (pu I1 x0 7 ((I1 x0 7) + 1)) fun I3 => some (I3)
theorem tl_X10_remembers_50 (d : Nat) {K : Kt} : ∀ {I : Mem} {x0 : Nat} (H0 : MK K x0) {I9 : Mem}, l_X10_remembers_50 I x0 = some I9 → X (mX10_remembers (d + 1)) cX10_remembers 0 0 I K 50 [.ref x0, .retAddr 0] [] (Ro (.inl none) I9 K) := by
  intro I x0 H0 I9 h
  unfold l_X10_remembers_50 at h
  refine x_aloadn dX10_remembers_50 rfl ?_
  refine z_getR fs_X10_9 (MK.o H0) (MK.g1 H0) dX10_remembers_51 ?_
  refine x_iconst 0 dX10_remembers_54 rfl ?_
  refine x_aloadn dX10_remembers_55 rfl ?_
  refine z_getR fs_X10_16 (MK.o H0) (MK.g3 H0) dX10_remembers_56 ?_
  refine x_aloadn dX10_remembers_59 rfl ?_
  refine z_getI fs_X10_340 (MK.o H0) dX10_remembers_60 ?_
  refine x_sipush 355 dX10_remembers_63 rfl ?_
  refine x_imul dX10_remembers_66 ?_
  obtain ⟨I1, h2, h⟩ := b1_s h
  refine z_S0 [.ref (x0 + 1), .int 0, .ref (x0 + 3), .int ((I x0 7) * 355)] [] (cs_X10_48 _) (dep (show d + 0 + 0 + 1 ≤ (d + 1) from by omega) (Nat.le_of_ble_eq_true rfl)) dX10_remembers_67 rfl rfl (Nat.le_of_ble_eq_true rfl) (c_X10_lays d (K := K) (I := I) (MK.l1 H0) (MK.l3 H0) h2) ?_
  refine x_aloadn dX10_remembers_70 rfl ?_
  refine x_dup dX10_remembers_71 rfl ?_
  refine z_getI fs_X10_340 (MK.o H0) dX10_remembers_72 ?_
  refine x_iconst 1 dX10_remembers_75 rfl ?_
  refine x_iadd dX10_remembers_76 ?_
  obtain ⟨I3, hI3, h⟩ := b1_s h
  refine z_putI fs_X10_340 (MK.o H0) hI3 dX10_remembers_77 ?_
  cases h
  exact x_vret rfl dX10_remembers_80 ⟨rfl, rfl, rfl⟩
noncomputable def l_X10_remembers_11 (n : Nat) (I : Mem) (x0 : Nat) (x1 : Int32) : Option (Mem) := match n with
  | 0 => none
  | n + 1 => if 2485 ≤ x1 then (b1 (pu I x0 7 ((I x0 7) - 1)) fun I4 => l_X10_remembers_50 I4 x0) else (b1 (ix (x1 + 355) 2840) fun j5 => b1 (ix x1 2840) fun j6 => b1 (pu I (x0 + 3) j6 (I (x0 + 3) j5)) fun I7 => l_X10_remembers_11 n I7 x0 (x1 + 1))
theorem tl_X10_remembers_11 (d : Nat) {K : Kt} (n : Nat) : ∀ {I : Mem} {x0 : Nat} (H0 : MK K x0) {x1 : Int32} {I9 : Mem}, l_X10_remembers_11 n I x0 x1 = some I9 → X (mX10_remembers (d + 1)) cX10_remembers 0 0 I K 11 [.ref x0, .int x1] [] (Ro (.inl none) I9 K) := by
  induction n with
  | zero =>
    intro I x0 H0 x1 I9 h
    cases h
  | succ n ih =>
    intro I x0 H0 x1 I9 h
    unfold l_X10_remembers_11 at h
    refine x_iloadn dX10_remembers_11 rfl ?_
    refine x_sipush 2485 dX10_remembers_12 rfl ?_
    refine x_icmp_ge 40 dX10_remembers_15 rfl (fun hc => ?_) (fun hc => ?_)
    · have h := ifT hc h
      refine x_aloadn dX10_remembers_40 rfl ?_
      refine x_dup dX10_remembers_41 rfl ?_
      refine z_getI fs_X10_340 (MK.o H0) dX10_remembers_42 ?_
      refine x_iconst 1 dX10_remembers_45 rfl ?_
      refine x_isub dX10_remembers_46 ?_
      obtain ⟨I4, hI4, h⟩ := b1_s h
      refine z_putI fs_X10_340 (MK.o H0) hI4 dX10_remembers_47 ?_
      exact X.forget (L' := [.ref x0, .retAddr 0]) ⟨Or.inl rfl, ⟨Or.inr rfl, trivial⟩⟩ (tl_X10_remembers_50 d H0 h)
    have h := ifF hc h
    refine x_aloadn dX10_remembers_18 rfl ?_
    refine z_getR fs_X10_16 (MK.o H0) (MK.g3 H0) dX10_remembers_19 ?_
    refine x_iloadn dX10_remembers_22 rfl ?_
    refine x_aloadn dX10_remembers_23 rfl ?_
    refine z_getR fs_X10_16 (MK.o H0) (MK.g3 H0) dX10_remembers_24 ?_
    refine x_iloadn dX10_remembers_27 rfl ?_
    refine x_sipush 355 dX10_remembers_28 rfl ?_
    refine x_iadd dX10_remembers_31 ?_
    obtain ⟨j5, hj5, h⟩ := b1_s h
    refine z_iald (MK.l3 H0) hj5 dX10_remembers_32 ?_
    obtain ⟨j6, hj6, h⟩ := b1_s h
    obtain ⟨I7, hI7, h⟩ := b1_s h
    refine z_iast (MK.l3 H0) hj6 hI7 dX10_remembers_33 ?_
    refine z_iinc 1 (by decide) dX10_remembers_34 rfl rfl rfl ?_
    refine x_goto 11 dX10_remembers_37 rfl ?_
    exact ih H0 h
noncomputable def f_X10_remembers (I : Mem) (x0 : Nat) : Option (Mem) := if (I x0 7) = 8 then (l_X10_remembers_11 FU I x0 0) else (l_X10_remembers_50 I x0)
theorem c_X10_remembers (d : Nat) {K : Kt} {I : Mem} {x0 : Nat} (H0 : MK K x0) {I9 : Mem} (h : f_X10_remembers I x0 = some I9) : Ct (mX10_remembers (d + 1)) cX10_remembers 0 0 [.ref x0] I K (Ro (.inl none) I9 K) := by
  refine Ct.of rfl pn_X10 (catR cat0) (Nat.le_of_ble_eq_true rfl) (show X _ _ _ _ _ _ 0 [.ref x0, .retAddr 0] [] _ from ?_)
  unfold f_X10_remembers at h
  refine x_aloadn dX10_remembers_0 rfl ?_
  refine z_getI fs_X10_340 (MK.o H0) dX10_remembers_1 ?_
  refine x_bipush 8 dX10_remembers_4 rfl ?_
  refine x_icmp_ne 50 dX10_remembers_6 rfl (fun hc => ?_) (fun hc => ?_)
  · have h := ifF hc h
    exact tl_X10_remembers_50 d H0 h
  have h := ifT hc h
  refine x_iconst 0 dX10_remembers_9 rfl ?_
  refine x_istoren dX10_remembers_10 (Nat.le_of_ble_eq_true rfl) rfl rfl ?_
  exact tl_X10_remembers_11 d FU H0 h
noncomputable def f_X10_advance (I : Mem) (x0 : Nat) (x1 : Int32) : Option (Int32 × Mem) := b1 (f_X10_in x1 1 300) fun v1 => b2 (f_X10_mayTwo I x0 (I x0 6) v1) fun v3 I4 => if v3 = 0 then (some (0, I4)) else (b1 (f_X10_remembers I4 x0) fun I6 => b1 (f_X10_wishesIn I6 x0 2) fun v8 => b1 (f_X10_passesMany I6 x0 x1) fun I10 => b1 (f_X10_wishesIn I10 x0 2) fun v12 => some ((v12 - v8), I10))
theorem c_X10_advance (d : Nat) {K : Kt} {I : Mem} {x0 : Nat} (H0 : MK K x0) {x1 : Int32} {v : Int32} {I9 : Mem} (h : f_X10_advance I x0 x1 = some (v, I9)) : Ct (mX10_advance (d + 10)) cX10_advance 0 0 [.ref x0, .int x1] I K (Ro (.inl (some (.int v))) I9 K) := by
  refine Ct.of rfl pn_X10 (catR (catI cat0)) (Nat.le_of_ble_eq_true rfl) (show X _ _ _ _ _ _ 0 [.ref x0, .int x1, .retAddr 0] [] _ from ?_)
  unfold f_X10_advance at h
  refine x_aloadn dX10_advance_0 rfl ?_
  refine x_aloadn dX10_advance_1 rfl ?_
  refine z_getI fs_X10_44 (MK.o H0) dX10_advance_2 ?_
  refine x_iloadn dX10_advance_5 rfl ?_
  refine x_iconst 1 dX10_advance_6 rfl ?_
  refine x_sipush 300 dX10_advance_7 rfl ?_
  obtain ⟨v1, h2, h⟩ := b1_s h
  refine z_S1 [.int x1, .int 1, .int 300] [.int (I x0 6), .ref x0] (cs_X10_69 _) (dep (show d + 9 + 0 + 1 ≤ (d + 10) from by omega) (Nat.le_of_ble_eq_true rfl)) dX10_advance_10 rfl rfl (Nat.le_of_ble_eq_true rfl) (c_X10_in (d + 9) (K := K) (I := I) h2) ?_
  obtain ⟨v3, I4, h5, h⟩ := b2_s h
  refine z_V1 [.int (I x0 6), .int v1] [] (cs_X10_456 _) (ci := 8) rfl (MK.o H0) (dep (show d + 8 + 1 + 1 ≤ (d + 10) from by omega) (Nat.le_of_ble_eq_true rfl)) dX10_advance_13 rfl rfl (Nat.le_of_ble_eq_true rfl) (c_X10_mayTwo (d + 8) (K := K) (I := I) H0 h5) ?_
  refine x_if_ne 21 dX10_advance_16 rfl (fun hc => ?_) (fun hc => ?_)
  · have h := ifF hc h
    refine x_aloadn dX10_advance_21 rfl ?_
    obtain ⟨I6, h7, h⟩ := b1_s h
    refine z_V0 [] [] (cs_X10_496 _) (ci := 8) rfl (MK.o H0) (dep (show d + 8 + 1 + 1 ≤ (d + 10) from by omega) (Nat.le_of_ble_eq_true rfl)) dX10_advance_22 rfl rfl (Nat.le_of_ble_eq_true rfl) (c_X10_remembers (d + 8) (K := K) (I := I4) H0 h7) ?_
    refine x_aloadn dX10_advance_25 rfl ?_
    refine x_iconst 2 dX10_advance_26 rfl ?_
    obtain ⟨v8, h9, h⟩ := b1_s h
    refine z_V1 [.int 2] [] (cs_X10_447 _) (ci := 8) rfl (MK.o H0) (dep (show d + 8 + 1 + 1 ≤ (d + 10) from by omega) (Nat.le_of_ble_eq_true rfl)) dX10_advance_27 rfl rfl (Nat.le_of_ble_eq_true rfl) (c_X10_wishesIn (d + 8) (K := K) (I := I6) H0 h9) ?_
    refine x_istoren dX10_advance_30 (Nat.le_of_ble_eq_true rfl) rfl rfl ?_
    refine x_aloadn dX10_advance_31 rfl ?_
    refine x_iloadn dX10_advance_32 rfl ?_
    obtain ⟨I10, h11, h⟩ := b1_s h
    refine z_V0 [.int x1] [] (cs_X10_230 _) (ci := 8) rfl (MK.o H0) (dep (show d + 0 + 9 + 1 ≤ (d + 10) from by omega) (Nat.le_of_ble_eq_true rfl)) dX10_advance_33 rfl rfl (Nat.le_of_ble_eq_true rfl) (c_X10_passesMany d (K := K) (I := I6) H0 h11) ?_
    refine x_aloadn dX10_advance_36 rfl ?_
    refine x_iconst 2 dX10_advance_37 rfl ?_
    obtain ⟨v12, h13, h⟩ := b1_s h
    refine z_V1 [.int 2] [] (cs_X10_447 _) (ci := 8) rfl (MK.o H0) (dep (show d + 8 + 1 + 1 ≤ (d + 10) from by omega) (Nat.le_of_ble_eq_true rfl)) dX10_advance_38 rfl rfl (Nat.le_of_ble_eq_true rfl) (c_X10_wishesIn (d + 8) (K := K) (I := I10) H0 h13) ?_
    refine x_iloadn dX10_advance_41 rfl ?_
    refine x_isub dX10_advance_42 ?_
    cases h
    exact x_iret rfl dX10_advance_43 ⟨rfl, rfl, rfl⟩
  have h := ifT hc h
  refine x_iconst 0 dX10_advance_19 rfl ?_
  cases h
  exact x_iret rfl dX10_advance_20 ⟨rfl, rfl, rfl⟩
noncomputable def l_X10_buy_46 (I : Mem) (x0 : Nat) (x1 : Int32) (x2 : Int32) (y0 : Int32) (y1 : Int32) (y2 : Int32) : Option (Int32 × Mem) := b2 (f_X10_may I x0 y2 y1 y0) fun v3 I4 => if v3 = 0 then (some (0, I4)) else (b1 (f_X10_remembers I4 x0) fun I6 => b2 (f_X10_buys I6 x0 x1 x2) fun v8 I9 => some (v8, I9))
theorem tl_X10_buy_46 (d : Nat) {K : Kt} : ∀ {I : Mem} {x0 : Nat} (H0 : MK K x0) {x1 : Int32} {x2 : Int32} {y0 : Int32} {y1 : Int32} {y2 : Int32} {v : Int32} {I9 : Mem}, l_X10_buy_46 I x0 x1 x2 y0 y1 y2 = some (v, I9) → X (mX10_buy (d + 5)) cX10_buy 0 0 I K 46 [.ref x0, .int x1, .int x2, .retAddr 0] [.int y0, .int y1, .int y2, .ref x0] (Ro (.inl (some (.int v))) I9 K) := by
  intro I x0 H0 x1 x2 y0 y1 y2 v I9 h
  unfold l_X10_buy_46 at h
  obtain ⟨v3, I4, h5, h⟩ := b2_s h
  refine z_V1 [.int y2, .int y1, .int y0] [] (cs_X10_40 _) (ci := 8) rfl (MK.o H0) (dep (show d + 4 + 0 + 1 ≤ (d + 5) from by omega) (Nat.le_of_ble_eq_true rfl)) dX10_buy_46 rfl rfl (Nat.le_of_ble_eq_true rfl) (c_X10_may (d + 4) (K := K) (I := I) H0 h5) ?_
  refine x_if_ne 54 dX10_buy_49 rfl (fun hc => ?_) (fun hc => ?_)
  · have h := ifF hc h
    refine x_aloadn dX10_buy_54 rfl ?_
    obtain ⟨I6, h7, h⟩ := b1_s h
    refine z_V0 [] [] (cs_X10_496 _) (ci := 8) rfl (MK.o H0) (dep (show d + 3 + 1 + 1 ≤ (d + 5) from by omega) (Nat.le_of_ble_eq_true rfl)) dX10_buy_55 rfl rfl (Nat.le_of_ble_eq_true rfl) (c_X10_remembers (d + 3) (K := K) (I := I4) H0 h7) ?_
    refine x_aloadn dX10_buy_58 rfl ?_
    refine x_iloadn dX10_buy_59 rfl ?_
    refine x_iloadn dX10_buy_60 rfl ?_
    obtain ⟨v8, I9, h10, h⟩ := b2_s h
    refine z_V1 [.int x1, .int x2] [] (cs_X10_200 _) (ci := 8) rfl (MK.o H0) (dep (show d + 0 + 4 + 1 ≤ (d + 5) from by omega) (Nat.le_of_ble_eq_true rfl)) dX10_buy_61 rfl rfl (Nat.le_of_ble_eq_true rfl) (c_X10_buys d (K := K) (I := I6) H0 h10) ?_
    cases h
    exact x_iret rfl dX10_buy_64 ⟨rfl, rfl, rfl⟩
  have h := ifT hc h
  refine x_iconst 0 dX10_buy_52 rfl ?_
  cases h
  exact x_iret rfl dX10_buy_53 ⟨rfl, rfl, rfl⟩
noncomputable def l_X10_buy_45 (I : Mem) (x0 : Nat) (x1 : Int32) (x2 : Int32) (y0 : Int32) (y1 : Int32) : Option (Int32 × Mem) := l_X10_buy_46 I x0 x1 x2 0 y0 y1
theorem tl_X10_buy_45 (d : Nat) {K : Kt} : ∀ {I : Mem} {x0 : Nat} (H0 : MK K x0) {x1 : Int32} {x2 : Int32} {y0 : Int32} {y1 : Int32} {v : Int32} {I9 : Mem}, l_X10_buy_45 I x0 x1 x2 y0 y1 = some (v, I9) → X (mX10_buy (d + 5)) cX10_buy 0 0 I K 45 [.ref x0, .int x1, .int x2, .retAddr 0] [.int y0, .int y1, .ref x0] (Ro (.inl (some (.int v))) I9 K) := by
  intro I x0 H0 x1 x2 y0 y1 v I9 h
  unfold l_X10_buy_45 at h
  refine x_iconst 0 dX10_buy_45 rfl ?_
  exact tl_X10_buy_46 d H0 h
noncomputable def l_X10_buy_21 (I : Mem) (x0 : Nat) (x1 : Int32) (x2 : Int32) (y0 : Int32) : Option (Int32 × Mem) := if y0 = 0 then (l_X10_buy_45 I x0 x1 x2 y0 (I x0 6)) else (b1 (f_X10_whyBuy I x0 x1 x2) fun v11 => if v11 = 0 then (l_X10_buy_46 I x0 x1 x2 1 y0 (I x0 6)) else (l_X10_buy_45 I x0 x1 x2 y0 (I x0 6)))
theorem tl_X10_buy_21 (d : Nat) {K : Kt} : ∀ {I : Mem} {x0 : Nat} (H0 : MK K x0) {x1 : Int32} {x2 : Int32} {y0 : Int32} {v : Int32} {I9 : Mem}, l_X10_buy_21 I x0 x1 x2 y0 = some (v, I9) → X (mX10_buy (d + 5)) cX10_buy 0 0 I K 21 [.ref x0, .int x1, .int x2, .retAddr 0] [.int y0] (Ro (.inl (some (.int v))) I9 K) := by
  intro I x0 H0 x1 x2 y0 v I9 h
  unfold l_X10_buy_21 at h
  refine x_istoren dX10_buy_21 (Nat.le_of_ble_eq_true rfl) rfl rfl ?_
  refine x_aloadn dX10_buy_22 rfl ?_
  refine x_aloadn dX10_buy_23 rfl ?_
  refine z_getI fs_X10_44 (MK.o H0) dX10_buy_24 ?_
  refine x_iloadn dX10_buy_27 rfl ?_
  refine x_iloadn dX10_buy_28 rfl ?_
  refine x_if_eq 45 dX10_buy_29 rfl (fun hc => ?_) (fun hc => ?_)
  · have h := ifT hc h
    exact X.forget (L' := [.ref x0, .int x1, .int x2, .retAddr 0]) ⟨Or.inl rfl, ⟨Or.inl rfl, ⟨Or.inl rfl, ⟨Or.inr rfl, trivial⟩⟩⟩⟩ (tl_X10_buy_45 d H0 h)
  have h := ifF hc h
  refine x_aloadn dX10_buy_32 rfl ?_
  refine x_iloadn dX10_buy_33 rfl ?_
  refine x_iloadn dX10_buy_34 rfl ?_
  obtain ⟨v11, h12, h⟩ := b1_s h
  refine z_V1 [.int x1, .int x2] [.int y0, .int (I x0 6), .ref x0] (cs_X10_197 _) (ci := 8) rfl (MK.o H0) (dep (show d + 0 + 4 + 1 ≤ (d + 5) from by omega) (Nat.le_of_ble_eq_true rfl)) dX10_buy_35 rfl rfl (Nat.le_of_ble_eq_true rfl) (c_X10_whyBuy d (K := K) (I := I) H0 h12) ?_
  refine x_if_ne 45 dX10_buy_38 rfl (fun hc => ?_) (fun hc => ?_)
  · have h := ifF hc h
    exact X.forget (L' := [.ref x0, .int x1, .int x2, .retAddr 0]) ⟨Or.inl rfl, ⟨Or.inl rfl, ⟨Or.inl rfl, ⟨Or.inr rfl, trivial⟩⟩⟩⟩ (tl_X10_buy_45 d H0 h)
  have h := ifT hc h
  refine x_iconst 1 dX10_buy_41 rfl ?_
  refine x_goto 46 dX10_buy_42 rfl ?_
  exact X.forget (L' := [.ref x0, .int x1, .int x2, .retAddr 0]) ⟨Or.inl rfl, ⟨Or.inl rfl, ⟨Or.inl rfl, ⟨Or.inr rfl, trivial⟩⟩⟩⟩ (tl_X10_buy_46 d H0 h)
noncomputable def l_X10_buy_20 (I : Mem) (x0 : Nat) (x1 : Int32) (x2 : Int32) : Option (Int32 × Mem) := l_X10_buy_21 I x0 x1 x2 0
theorem tl_X10_buy_20 (d : Nat) {K : Kt} : ∀ {I : Mem} {x0 : Nat} (H0 : MK K x0) {x1 : Int32} {x2 : Int32} {v : Int32} {I9 : Mem}, l_X10_buy_20 I x0 x1 x2 = some (v, I9) → X (mX10_buy (d + 5)) cX10_buy 0 0 I K 20 [.ref x0, .int x1, .int x2, .retAddr 0] [] (Ro (.inl (some (.int v))) I9 K) := by
  intro I x0 H0 x1 x2 v I9 h
  unfold l_X10_buy_20 at h
  refine x_iconst 0 dX10_buy_20 rfl ?_
  exact tl_X10_buy_21 d H0 h
noncomputable def f_X10_buy (I : Mem) (x0 : Nat) (x1 : Int32) (x2 : Int32) : Option (Int32 × Mem) := b1 (f_X10_isPerson I x0 x1) fun v1 => if v1 = 0 then (l_X10_buy_20 I x0 x1 x2) else (b1 (f_X10_isWish I x0 x2) fun v13 => if v13 = 0 then (l_X10_buy_20 I x0 x1 x2) else (l_X10_buy_21 I x0 x1 x2 1))
theorem c_X10_buy (d : Nat) {K : Kt} {I : Mem} {x0 : Nat} (H0 : MK K x0) {x1 : Int32} {x2 : Int32} {v : Int32} {I9 : Mem} (h : f_X10_buy I x0 x1 x2 = some (v, I9)) : Ct (mX10_buy (d + 5)) cX10_buy 0 0 [.ref x0, .int x1, .int x2] I K (Ro (.inl (some (.int v))) I9 K) := by
  refine Ct.of rfl pn_X10 (catR (catI (catI cat0))) (Nat.le_of_ble_eq_true rfl) (show X _ _ _ _ _ _ 0 [.ref x0, .int x1, .int x2, .retAddr 0] [] _ from ?_)
  unfold f_X10_buy at h
  refine x_aloadn dX10_buy_0 rfl ?_
  refine x_iloadn dX10_buy_1 rfl ?_
  obtain ⟨v1, h2, h⟩ := b1_s h
  refine z_V1 [.int x1] [] (cs_X10_453 _) (ci := 8) rfl (MK.o H0) (dep (show d + 3 + 1 + 1 ≤ (d + 5) from by omega) (Nat.le_of_ble_eq_true rfl)) dX10_buy_2 rfl rfl (Nat.le_of_ble_eq_true rfl) (c_X10_isPerson (d + 3) (K := K) (I := I) H0 h2) ?_
  refine x_if_eq 20 dX10_buy_5 rfl (fun hc => ?_) (fun hc => ?_)
  · have h := ifT hc h
    exact tl_X10_buy_20 d H0 h
  have h := ifF hc h
  refine x_aloadn dX10_buy_8 rfl ?_
  refine x_iloadn dX10_buy_9 rfl ?_
  obtain ⟨v13, h14, h⟩ := b1_s h
  refine z_V1 [.int x2] [] (cs_X10_463 _) (ci := 8) rfl (MK.o H0) (dep (show d + 3 + 1 + 1 ≤ (d + 5) from by omega) (Nat.le_of_ble_eq_true rfl)) dX10_buy_10 rfl rfl (Nat.le_of_ble_eq_true rfl) (c_X10_isWish (d + 3) (K := K) (I := I) H0 h14) ?_
  refine x_if_eq 20 dX10_buy_13 rfl (fun hc => ?_) (fun hc => ?_)
  · have h := ifT hc h
    exact tl_X10_buy_20 d H0 h
  have h := ifF hc h
  refine x_iconst 1 dX10_buy_16 rfl ?_
  refine x_goto 21 dX10_buy_17 rfl ?_
  exact tl_X10_buy_21 d H0 h
noncomputable def l_X10_sell_46 (I : Mem) (x0 : Nat) (x1 : Int32) (x2 : Int32) (y0 : Int32) (y1 : Int32) (y2 : Int32) : Option (Int32 × Mem) := b2 (f_X10_may I x0 y2 y1 y0) fun v3 I4 => if v3 = 0 then (some (0, I4)) else (b1 (f_X10_remembers I4 x0) fun I6 => b2 (f_X10_sells I6 x0 x1 x2) fun v8 I9 => some (v8, I9))
theorem tl_X10_sell_46 (d : Nat) {K : Kt} : ∀ {I : Mem} {x0 : Nat} (H0 : MK K x0) {x1 : Int32} {x2 : Int32} {y0 : Int32} {y1 : Int32} {y2 : Int32} {v : Int32} {I9 : Mem}, l_X10_sell_46 I x0 x1 x2 y0 y1 y2 = some (v, I9) → X (mX10_sell (d + 5)) cX10_sell 0 0 I K 46 [.ref x0, .int x1, .int x2, .retAddr 0] [.int y0, .int y1, .int y2, .ref x0] (Ro (.inl (some (.int v))) I9 K) := by
  intro I x0 H0 x1 x2 y0 y1 y2 v I9 h
  unfold l_X10_sell_46 at h
  obtain ⟨v3, I4, h5, h⟩ := b2_s h
  refine z_V1 [.int y2, .int y1, .int y0] [] (cs_X10_40 _) (ci := 8) rfl (MK.o H0) (dep (show d + 4 + 0 + 1 ≤ (d + 5) from by omega) (Nat.le_of_ble_eq_true rfl)) dX10_sell_46 rfl rfl (Nat.le_of_ble_eq_true rfl) (c_X10_may (d + 4) (K := K) (I := I) H0 h5) ?_
  refine x_if_ne 54 dX10_sell_49 rfl (fun hc => ?_) (fun hc => ?_)
  · have h := ifF hc h
    refine x_aloadn dX10_sell_54 rfl ?_
    obtain ⟨I6, h7, h⟩ := b1_s h
    refine z_V0 [] [] (cs_X10_496 _) (ci := 8) rfl (MK.o H0) (dep (show d + 3 + 1 + 1 ≤ (d + 5) from by omega) (Nat.le_of_ble_eq_true rfl)) dX10_sell_55 rfl rfl (Nat.le_of_ble_eq_true rfl) (c_X10_remembers (d + 3) (K := K) (I := I4) H0 h7) ?_
    refine x_aloadn dX10_sell_58 rfl ?_
    refine x_iloadn dX10_sell_59 rfl ?_
    refine x_iloadn dX10_sell_60 rfl ?_
    obtain ⟨v8, I9, h10, h⟩ := b2_s h
    refine z_V1 [.int x1, .int x2] [] (cs_X10_206 _) (ci := 8) rfl (MK.o H0) (dep (show d + 1 + 3 + 1 ≤ (d + 5) from by omega) (Nat.le_of_ble_eq_true rfl)) dX10_sell_61 rfl rfl (Nat.le_of_ble_eq_true rfl) (c_X10_sells (d + 1) (K := K) (I := I6) H0 h10) ?_
    cases h
    exact x_iret rfl dX10_sell_64 ⟨rfl, rfl, rfl⟩
  have h := ifT hc h
  refine x_iconst 0 dX10_sell_52 rfl ?_
  cases h
  exact x_iret rfl dX10_sell_53 ⟨rfl, rfl, rfl⟩
noncomputable def l_X10_sell_45 (I : Mem) (x0 : Nat) (x1 : Int32) (x2 : Int32) (y0 : Int32) (y1 : Int32) : Option (Int32 × Mem) := l_X10_sell_46 I x0 x1 x2 0 y0 y1
theorem tl_X10_sell_45 (d : Nat) {K : Kt} : ∀ {I : Mem} {x0 : Nat} (H0 : MK K x0) {x1 : Int32} {x2 : Int32} {y0 : Int32} {y1 : Int32} {v : Int32} {I9 : Mem}, l_X10_sell_45 I x0 x1 x2 y0 y1 = some (v, I9) → X (mX10_sell (d + 5)) cX10_sell 0 0 I K 45 [.ref x0, .int x1, .int x2, .retAddr 0] [.int y0, .int y1, .ref x0] (Ro (.inl (some (.int v))) I9 K) := by
  intro I x0 H0 x1 x2 y0 y1 v I9 h
  unfold l_X10_sell_45 at h
  refine x_iconst 0 dX10_sell_45 rfl ?_
  exact tl_X10_sell_46 d H0 h
noncomputable def l_X10_sell_21 (I : Mem) (x0 : Nat) (x1 : Int32) (x2 : Int32) (y0 : Int32) : Option (Int32 × Mem) := if y0 = 0 then (l_X10_sell_45 I x0 x1 x2 y0 (I x0 6)) else (b1 (f_X10_whySell I x0 x1 x2) fun v11 => if v11 = 0 then (l_X10_sell_46 I x0 x1 x2 1 y0 (I x0 6)) else (l_X10_sell_45 I x0 x1 x2 y0 (I x0 6)))
theorem tl_X10_sell_21 (d : Nat) {K : Kt} : ∀ {I : Mem} {x0 : Nat} (H0 : MK K x0) {x1 : Int32} {x2 : Int32} {y0 : Int32} {v : Int32} {I9 : Mem}, l_X10_sell_21 I x0 x1 x2 y0 = some (v, I9) → X (mX10_sell (d + 5)) cX10_sell 0 0 I K 21 [.ref x0, .int x1, .int x2, .retAddr 0] [.int y0] (Ro (.inl (some (.int v))) I9 K) := by
  intro I x0 H0 x1 x2 y0 v I9 h
  unfold l_X10_sell_21 at h
  refine x_istoren dX10_sell_21 (Nat.le_of_ble_eq_true rfl) rfl rfl ?_
  refine x_aloadn dX10_sell_22 rfl ?_
  refine x_aloadn dX10_sell_23 rfl ?_
  refine z_getI fs_X10_44 (MK.o H0) dX10_sell_24 ?_
  refine x_iloadn dX10_sell_27 rfl ?_
  refine x_iloadn dX10_sell_28 rfl ?_
  refine x_if_eq 45 dX10_sell_29 rfl (fun hc => ?_) (fun hc => ?_)
  · have h := ifT hc h
    exact X.forget (L' := [.ref x0, .int x1, .int x2, .retAddr 0]) ⟨Or.inl rfl, ⟨Or.inl rfl, ⟨Or.inl rfl, ⟨Or.inr rfl, trivial⟩⟩⟩⟩ (tl_X10_sell_45 d H0 h)
  have h := ifF hc h
  refine x_aloadn dX10_sell_32 rfl ?_
  refine x_iloadn dX10_sell_33 rfl ?_
  refine x_iloadn dX10_sell_34 rfl ?_
  obtain ⟨v11, h12, h⟩ := b1_s h
  refine z_V1 [.int x1, .int x2] [.int y0, .int (I x0 6), .ref x0] (cs_X10_203 _) (ci := 8) rfl (MK.o H0) (dep (show d + 0 + 4 + 1 ≤ (d + 5) from by omega) (Nat.le_of_ble_eq_true rfl)) dX10_sell_35 rfl rfl (Nat.le_of_ble_eq_true rfl) (c_X10_whySell d (K := K) (I := I) H0 h12) ?_
  refine x_if_ne 45 dX10_sell_38 rfl (fun hc => ?_) (fun hc => ?_)
  · have h := ifF hc h
    exact X.forget (L' := [.ref x0, .int x1, .int x2, .retAddr 0]) ⟨Or.inl rfl, ⟨Or.inl rfl, ⟨Or.inl rfl, ⟨Or.inr rfl, trivial⟩⟩⟩⟩ (tl_X10_sell_45 d H0 h)
  have h := ifT hc h
  refine x_iconst 1 dX10_sell_41 rfl ?_
  refine x_goto 46 dX10_sell_42 rfl ?_
  exact X.forget (L' := [.ref x0, .int x1, .int x2, .retAddr 0]) ⟨Or.inl rfl, ⟨Or.inl rfl, ⟨Or.inl rfl, ⟨Or.inr rfl, trivial⟩⟩⟩⟩ (tl_X10_sell_46 d H0 h)
noncomputable def l_X10_sell_20 (I : Mem) (x0 : Nat) (x1 : Int32) (x2 : Int32) : Option (Int32 × Mem) := l_X10_sell_21 I x0 x1 x2 0
theorem tl_X10_sell_20 (d : Nat) {K : Kt} : ∀ {I : Mem} {x0 : Nat} (H0 : MK K x0) {x1 : Int32} {x2 : Int32} {v : Int32} {I9 : Mem}, l_X10_sell_20 I x0 x1 x2 = some (v, I9) → X (mX10_sell (d + 5)) cX10_sell 0 0 I K 20 [.ref x0, .int x1, .int x2, .retAddr 0] [] (Ro (.inl (some (.int v))) I9 K) := by
  intro I x0 H0 x1 x2 v I9 h
  unfold l_X10_sell_20 at h
  refine x_iconst 0 dX10_sell_20 rfl ?_
  exact tl_X10_sell_21 d H0 h
noncomputable def f_X10_sell (I : Mem) (x0 : Nat) (x1 : Int32) (x2 : Int32) : Option (Int32 × Mem) := b1 (f_X10_isWish I x0 x1) fun v1 => if v1 = 0 then (l_X10_sell_20 I x0 x1 x2) else (b1 (f_X10_isStall I x0 x2) fun v13 => if v13 = 0 then (l_X10_sell_20 I x0 x1 x2) else (l_X10_sell_21 I x0 x1 x2 1))
theorem c_X10_sell (d : Nat) {K : Kt} {I : Mem} {x0 : Nat} (H0 : MK K x0) {x1 : Int32} {x2 : Int32} {v : Int32} {I9 : Mem} (h : f_X10_sell I x0 x1 x2 = some (v, I9)) : Ct (mX10_sell (d + 5)) cX10_sell 0 0 [.ref x0, .int x1, .int x2] I K (Ro (.inl (some (.int v))) I9 K) := by
  refine Ct.of rfl pn_X10 (catR (catI (catI cat0))) (Nat.le_of_ble_eq_true rfl) (show X _ _ _ _ _ _ 0 [.ref x0, .int x1, .int x2, .retAddr 0] [] _ from ?_)
  unfold f_X10_sell at h
  refine x_aloadn dX10_sell_0 rfl ?_
  refine x_iloadn dX10_sell_1 rfl ?_
  obtain ⟨v1, h2, h⟩ := b1_s h
  refine z_V1 [.int x1] [] (cs_X10_463 _) (ci := 8) rfl (MK.o H0) (dep (show d + 3 + 1 + 1 ≤ (d + 5) from by omega) (Nat.le_of_ble_eq_true rfl)) dX10_sell_2 rfl rfl (Nat.le_of_ble_eq_true rfl) (c_X10_isWish (d + 3) (K := K) (I := I) H0 h2) ?_
  refine x_if_eq 20 dX10_sell_5 rfl (fun hc => ?_) (fun hc => ?_)
  · have h := ifT hc h
    exact tl_X10_sell_20 d H0 h
  have h := ifF hc h
  refine x_aloadn dX10_sell_8 rfl ?_
  refine x_iloadn dX10_sell_9 rfl ?_
  obtain ⟨v13, h14, h⟩ := b1_s h
  refine z_V1 [.int x2] [] (cs_X10_460 _) (ci := 8) rfl (MK.o H0) (dep (show d + 3 + 1 + 1 ≤ (d + 5) from by omega) (Nat.le_of_ble_eq_true rfl)) dX10_sell_10 rfl rfl (Nat.le_of_ble_eq_true rfl) (c_X10_isStall (d + 3) (K := K) (I := I) H0 h14) ?_
  refine x_if_eq 20 dX10_sell_13 rfl (fun hc => ?_) (fun hc => ?_)
  · have h := ifT hc h
    exact tl_X10_sell_20 d H0 h
  have h := ifF hc h
  refine x_iconst 1 dX10_sell_16 rfl ?_
  refine x_goto 21 dX10_sell_17 rfl ?_
  exact tl_X10_sell_21 d H0 h
noncomputable def l_X10_returnWish_29 (I : Mem) (x0 : Nat) (x1 : Int32) (y0 : Int32) (y1 : Int32) (y2 : Int32) : Option (Int32 × Mem) := b2 (f_X10_may I x0 y2 y1 y0) fun v3 I4 => if v3 = 0 then (some (0, I4)) else (b1 (f_X10_remembers I4 x0) fun I6 => b2 (f_X10_returns I6 x0 x1) fun v8 I9 => some (v8, I9))
theorem tl_X10_returnWish_29 (d : Nat) {K : Kt} : ∀ {I : Mem} {x0 : Nat} (H0 : MK K x0) {x1 : Int32} {y0 : Int32} {y1 : Int32} {y2 : Int32} {v : Int32} {I9 : Mem}, l_X10_returnWish_29 I x0 x1 y0 y1 y2 = some (v, I9) → X (mX10_returnWish (d + 5)) cX10_returnWish 0 0 I K 29 [.ref x0, .int x1, .retAddr 0] [.int y0, .int y1, .int y2, .ref x0] (Ro (.inl (some (.int v))) I9 K) := by
  intro I x0 H0 x1 y0 y1 y2 v I9 h
  unfold l_X10_returnWish_29 at h
  obtain ⟨v3, I4, h5, h⟩ := b2_s h
  refine z_V1 [.int y2, .int y1, .int y0] [] (cs_X10_40 _) (ci := 8) rfl (MK.o H0) (dep (show d + 4 + 0 + 1 ≤ (d + 5) from by omega) (Nat.le_of_ble_eq_true rfl)) dX10_returnWish_29 rfl rfl (Nat.le_of_ble_eq_true rfl) (c_X10_may (d + 4) (K := K) (I := I) H0 h5) ?_
  refine x_if_ne 37 dX10_returnWish_32 rfl (fun hc => ?_) (fun hc => ?_)
  · have h := ifF hc h
    refine x_aloadn dX10_returnWish_37 rfl ?_
    obtain ⟨I6, h7, h⟩ := b1_s h
    refine z_V0 [] [] (cs_X10_496 _) (ci := 8) rfl (MK.o H0) (dep (show d + 3 + 1 + 1 ≤ (d + 5) from by omega) (Nat.le_of_ble_eq_true rfl)) dX10_returnWish_38 rfl rfl (Nat.le_of_ble_eq_true rfl) (c_X10_remembers (d + 3) (K := K) (I := I4) H0 h7) ?_
    refine x_aloadn dX10_returnWish_41 rfl ?_
    refine x_iloadn dX10_returnWish_42 rfl ?_
    obtain ⟨v8, I9, h10, h⟩ := b2_s h
    refine z_V1 [.int x1] [] (cs_X10_212 _) (ci := 8) rfl (MK.o H0) (dep (show d + 1 + 3 + 1 ≤ (d + 5) from by omega) (Nat.le_of_ble_eq_true rfl)) dX10_returnWish_43 rfl rfl (Nat.le_of_ble_eq_true rfl) (c_X10_returns (d + 1) (K := K) (I := I6) H0 h10) ?_
    cases h
    exact x_iret rfl dX10_returnWish_46 ⟨rfl, rfl, rfl⟩
  have h := ifT hc h
  refine x_iconst 0 dX10_returnWish_35 rfl ?_
  cases h
  exact x_iret rfl dX10_returnWish_36 ⟨rfl, rfl, rfl⟩
noncomputable def l_X10_returnWish_28 (I : Mem) (x0 : Nat) (x1 : Int32) (y0 : Int32) (y1 : Int32) : Option (Int32 × Mem) := l_X10_returnWish_29 I x0 x1 0 y0 y1
theorem tl_X10_returnWish_28 (d : Nat) {K : Kt} : ∀ {I : Mem} {x0 : Nat} (H0 : MK K x0) {x1 : Int32} {y0 : Int32} {y1 : Int32} {v : Int32} {I9 : Mem}, l_X10_returnWish_28 I x0 x1 y0 y1 = some (v, I9) → X (mX10_returnWish (d + 5)) cX10_returnWish 0 0 I K 28 [.ref x0, .int x1, .retAddr 0] [.int y0, .int y1, .ref x0] (Ro (.inl (some (.int v))) I9 K) := by
  intro I x0 H0 x1 y0 y1 v I9 h
  unfold l_X10_returnWish_28 at h
  refine x_iconst 0 dX10_returnWish_28 rfl ?_
  exact tl_X10_returnWish_29 d H0 h
noncomputable def f_X10_returnWish (I : Mem) (x0 : Nat) (x1 : Int32) : Option (Int32 × Mem) := b1 (f_X10_isWish I x0 x1) fun v1 => if v1 = 0 then (l_X10_returnWish_28 I x0 x1 v1 (I x0 6)) else (b1 (f_X10_whyReturn I x0 x1) fun v11 => if v11 = 0 then (l_X10_returnWish_29 I x0 x1 1 v1 (I x0 6)) else (l_X10_returnWish_28 I x0 x1 v1 (I x0 6)))
theorem c_X10_returnWish (d : Nat) {K : Kt} {I : Mem} {x0 : Nat} (H0 : MK K x0) {x1 : Int32} {v : Int32} {I9 : Mem} (h : f_X10_returnWish I x0 x1 = some (v, I9)) : Ct (mX10_returnWish (d + 5)) cX10_returnWish 0 0 [.ref x0, .int x1] I K (Ro (.inl (some (.int v))) I9 K) := by
  refine Ct.of rfl pn_X10 (catR (catI cat0)) (Nat.le_of_ble_eq_true rfl) (show X _ _ _ _ _ _ 0 [.ref x0, .int x1, .retAddr 0] [] _ from ?_)
  unfold f_X10_returnWish at h
  refine x_aloadn dX10_returnWish_0 rfl ?_
  refine x_iloadn dX10_returnWish_1 rfl ?_
  obtain ⟨v1, h2, h⟩ := b1_s h
  refine z_V1 [.int x1] [] (cs_X10_463 _) (ci := 8) rfl (MK.o H0) (dep (show d + 3 + 1 + 1 ≤ (d + 5) from by omega) (Nat.le_of_ble_eq_true rfl)) dX10_returnWish_2 rfl rfl (Nat.le_of_ble_eq_true rfl) (c_X10_isWish (d + 3) (K := K) (I := I) H0 h2) ?_
  refine x_istoren dX10_returnWish_5 (Nat.le_of_ble_eq_true rfl) rfl rfl ?_
  refine x_aloadn dX10_returnWish_6 rfl ?_
  refine x_aloadn dX10_returnWish_7 rfl ?_
  refine z_getI fs_X10_44 (MK.o H0) dX10_returnWish_8 ?_
  refine x_iloadn dX10_returnWish_11 rfl ?_
  refine x_iloadn dX10_returnWish_12 rfl ?_
  refine x_if_eq 28 dX10_returnWish_13 rfl (fun hc => ?_) (fun hc => ?_)
  · have h := ifT hc h
    exact X.forget (L' := [.ref x0, .int x1, .retAddr 0]) ⟨Or.inl rfl, ⟨Or.inl rfl, ⟨Or.inr rfl, trivial⟩⟩⟩ (tl_X10_returnWish_28 d H0 h)
  have h := ifF hc h
  refine x_aloadn dX10_returnWish_16 rfl ?_
  refine x_iloadn dX10_returnWish_17 rfl ?_
  obtain ⟨v11, h12, h⟩ := b1_s h
  refine z_V1 [.int x1] [.int v1, .int (I x0 6), .ref x0] (cs_X10_209 _) (ci := 8) rfl (MK.o H0) (dep (show d + 0 + 4 + 1 ≤ (d + 5) from by omega) (Nat.le_of_ble_eq_true rfl)) dX10_returnWish_18 rfl rfl (Nat.le_of_ble_eq_true rfl) (c_X10_whyReturn d (K := K) (I := I) H0 h12) ?_
  refine x_if_ne 28 dX10_returnWish_21 rfl (fun hc => ?_) (fun hc => ?_)
  · have h := ifF hc h
    exact X.forget (L' := [.ref x0, .int x1, .retAddr 0]) ⟨Or.inl rfl, ⟨Or.inl rfl, ⟨Or.inr rfl, trivial⟩⟩⟩ (tl_X10_returnWish_28 d H0 h)
  have h := ifT hc h
  refine x_iconst 1 dX10_returnWish_24 rfl ?_
  refine x_goto 29 dX10_returnWish_25 rfl ?_
  exact X.forget (L' := [.ref x0, .int x1, .retAddr 0]) ⟨Or.inl rfl, ⟨Or.inl rfl, ⟨Or.inr rfl, trivial⟩⟩⟩ (tl_X10_returnWish_29 d H0 h)
noncomputable def l_X10_grant_29 (I : Mem) (x0 : Nat) (x1 : Int32) (y0 : Int32) (y1 : Int32) (y2 : Int32) : Option (Int32 × Mem) := b2 (f_X10_may I x0 y2 y1 y0) fun v3 I4 => if v3 = 0 then (some (0, I4)) else (b1 (f_X10_remembers I4 x0) fun I6 => b2 (f_X10_grants I6 x0 x1) fun v8 I9 => some (v8, I9))
theorem tl_X10_grant_29 (d : Nat) {K : Kt} : ∀ {I : Mem} {x0 : Nat} (H0 : MK K x0) {x1 : Int32} {y0 : Int32} {y1 : Int32} {y2 : Int32} {v : Int32} {I9 : Mem}, l_X10_grant_29 I x0 x1 y0 y1 y2 = some (v, I9) → X (mX10_grant (d + 4)) cX10_grant 0 0 I K 29 [.ref x0, .int x1, .retAddr 0] [.int y0, .int y1, .int y2, .ref x0] (Ro (.inl (some (.int v))) I9 K) := by
  intro I x0 H0 x1 y0 y1 y2 v I9 h
  unfold l_X10_grant_29 at h
  obtain ⟨v3, I4, h5, h⟩ := b2_s h
  refine z_V1 [.int y2, .int y1, .int y0] [] (cs_X10_40 _) (ci := 8) rfl (MK.o H0) (dep (show d + 3 + 0 + 1 ≤ (d + 4) from by omega) (Nat.le_of_ble_eq_true rfl)) dX10_grant_29 rfl rfl (Nat.le_of_ble_eq_true rfl) (c_X10_may (d + 3) (K := K) (I := I) H0 h5) ?_
  refine x_if_ne 37 dX10_grant_32 rfl (fun hc => ?_) (fun hc => ?_)
  · have h := ifF hc h
    refine x_aloadn dX10_grant_37 rfl ?_
    obtain ⟨I6, h7, h⟩ := b1_s h
    refine z_V0 [] [] (cs_X10_496 _) (ci := 8) rfl (MK.o H0) (dep (show d + 2 + 1 + 1 ≤ (d + 4) from by omega) (Nat.le_of_ble_eq_true rfl)) dX10_grant_38 rfl rfl (Nat.le_of_ble_eq_true rfl) (c_X10_remembers (d + 2) (K := K) (I := I4) H0 h7) ?_
    refine x_aloadn dX10_grant_41 rfl ?_
    refine x_iloadn dX10_grant_42 rfl ?_
    obtain ⟨v8, I9, h10, h⟩ := b2_s h
    refine z_V1 [.int x1] [] (cs_X10_218 _) (ci := 8) rfl (MK.o H0) (dep (show d + 0 + 3 + 1 ≤ (d + 4) from by omega) (Nat.le_of_ble_eq_true rfl)) dX10_grant_43 rfl rfl (Nat.le_of_ble_eq_true rfl) (c_X10_grants d (K := K) (I := I6) H0 h10) ?_
    cases h
    exact x_iret rfl dX10_grant_46 ⟨rfl, rfl, rfl⟩
  have h := ifT hc h
  refine x_iconst 0 dX10_grant_35 rfl ?_
  cases h
  exact x_iret rfl dX10_grant_36 ⟨rfl, rfl, rfl⟩
noncomputable def l_X10_grant_28 (I : Mem) (x0 : Nat) (x1 : Int32) (y0 : Int32) (y1 : Int32) : Option (Int32 × Mem) := l_X10_grant_29 I x0 x1 0 y0 y1
theorem tl_X10_grant_28 (d : Nat) {K : Kt} : ∀ {I : Mem} {x0 : Nat} (H0 : MK K x0) {x1 : Int32} {y0 : Int32} {y1 : Int32} {v : Int32} {I9 : Mem}, l_X10_grant_28 I x0 x1 y0 y1 = some (v, I9) → X (mX10_grant (d + 4)) cX10_grant 0 0 I K 28 [.ref x0, .int x1, .retAddr 0] [.int y0, .int y1, .ref x0] (Ro (.inl (some (.int v))) I9 K) := by
  intro I x0 H0 x1 y0 y1 v I9 h
  unfold l_X10_grant_28 at h
  refine x_iconst 0 dX10_grant_28 rfl ?_
  exact tl_X10_grant_29 d H0 h
noncomputable def f_X10_grant (I : Mem) (x0 : Nat) (x1 : Int32) : Option (Int32 × Mem) := b1 (f_X10_isWish I x0 x1) fun v1 => if v1 = 0 then (l_X10_grant_28 I x0 x1 v1 (I x0 6)) else (b1 (f_X10_whyGrant I x0 x1) fun v11 => if v11 = 0 then (l_X10_grant_29 I x0 x1 1 v1 (I x0 6)) else (l_X10_grant_28 I x0 x1 v1 (I x0 6)))
theorem c_X10_grant (d : Nat) {K : Kt} {I : Mem} {x0 : Nat} (H0 : MK K x0) {x1 : Int32} {v : Int32} {I9 : Mem} (h : f_X10_grant I x0 x1 = some (v, I9)) : Ct (mX10_grant (d + 4)) cX10_grant 0 0 [.ref x0, .int x1] I K (Ro (.inl (some (.int v))) I9 K) := by
  refine Ct.of rfl pn_X10 (catR (catI cat0)) (Nat.le_of_ble_eq_true rfl) (show X _ _ _ _ _ _ 0 [.ref x0, .int x1, .retAddr 0] [] _ from ?_)
  unfold f_X10_grant at h
  refine x_aloadn dX10_grant_0 rfl ?_
  refine x_iloadn dX10_grant_1 rfl ?_
  obtain ⟨v1, h2, h⟩ := b1_s h
  refine z_V1 [.int x1] [] (cs_X10_463 _) (ci := 8) rfl (MK.o H0) (dep (show d + 2 + 1 + 1 ≤ (d + 4) from by omega) (Nat.le_of_ble_eq_true rfl)) dX10_grant_2 rfl rfl (Nat.le_of_ble_eq_true rfl) (c_X10_isWish (d + 2) (K := K) (I := I) H0 h2) ?_
  refine x_istoren dX10_grant_5 (Nat.le_of_ble_eq_true rfl) rfl rfl ?_
  refine x_aloadn dX10_grant_6 rfl ?_
  refine x_aloadn dX10_grant_7 rfl ?_
  refine z_getI fs_X10_44 (MK.o H0) dX10_grant_8 ?_
  refine x_iloadn dX10_grant_11 rfl ?_
  refine x_iloadn dX10_grant_12 rfl ?_
  refine x_if_eq 28 dX10_grant_13 rfl (fun hc => ?_) (fun hc => ?_)
  · have h := ifT hc h
    exact X.forget (L' := [.ref x0, .int x1, .retAddr 0]) ⟨Or.inl rfl, ⟨Or.inl rfl, ⟨Or.inr rfl, trivial⟩⟩⟩ (tl_X10_grant_28 d H0 h)
  have h := ifF hc h
  refine x_aloadn dX10_grant_16 rfl ?_
  refine x_iloadn dX10_grant_17 rfl ?_
  obtain ⟨v11, h12, h⟩ := b1_s h
  refine z_V1 [.int x1] [.int v1, .int (I x0 6), .ref x0] (cs_X10_215 _) (ci := 8) rfl (MK.o H0) (dep (show d + 1 + 2 + 1 ≤ (d + 4) from by omega) (Nat.le_of_ble_eq_true rfl)) dX10_grant_18 rfl rfl (Nat.le_of_ble_eq_true rfl) (c_X10_whyGrant (d + 1) (K := K) (I := I) H0 h12) ?_
  refine x_if_ne 28 dX10_grant_21 rfl (fun hc => ?_) (fun hc => ?_)
  · have h := ifF hc h
    exact X.forget (L' := [.ref x0, .int x1, .retAddr 0]) ⟨Or.inl rfl, ⟨Or.inl rfl, ⟨Or.inr rfl, trivial⟩⟩⟩ (tl_X10_grant_28 d H0 h)
  have h := ifT hc h
  refine x_iconst 1 dX10_grant_24 rfl ?_
  refine x_goto 29 dX10_grant_25 rfl ?_
  exact X.forget (L' := [.ref x0, .int x1, .retAddr 0]) ⟨Or.inl rfl, ⟨Or.inl rfl, ⟨Or.inr rfl, trivial⟩⟩⟩ (tl_X10_grant_29 d H0 h)
noncomputable def f_X10_setLimit (I : Mem) (x0 : Nat) (x1 : Int32) (x2 : Int32) : Option (Int32 × Mem) := b1 (f_X10_isPerson I x0 x1) fun v1 => b1 (f_X10_in x2 0 200) fun v3 => b2 (f_X10_may I x0 (I x0 6) v1 v3) fun v5 I6 => if v5 = 0 then (some (0, I6)) else (b1 (f_X10_remembers I6 x0) fun I8 => b1 (f_X10_ofPerson I8 x0 x1 4) fun v10 => b1 (f_X10_putsPerson I8 x0 x1 4 x2) fun I12 => some (v10, I12))
theorem c_X10_setLimit (d : Nat) {K : Kt} {I : Mem} {x0 : Nat} (H0 : MK K x0) {x1 : Int32} {x2 : Int32} {v : Int32} {I9 : Mem} (h : f_X10_setLimit I x0 x1 x2 = some (v, I9)) : Ct (mX10_setLimit (d + 2)) cX10_setLimit 0 0 [.ref x0, .int x1, .int x2] I K (Ro (.inl (some (.int v))) I9 K) := by
  refine Ct.of rfl pn_X10 (catR (catI (catI cat0))) (Nat.le_of_ble_eq_true rfl) (show X _ _ _ _ _ _ 0 [.ref x0, .int x1, .int x2, .retAddr 0] [] _ from ?_)
  unfold f_X10_setLimit at h
  refine x_aloadn dX10_setLimit_0 rfl ?_
  refine x_aloadn dX10_setLimit_1 rfl ?_
  refine z_getI fs_X10_44 (MK.o H0) dX10_setLimit_2 ?_
  refine x_aloadn dX10_setLimit_5 rfl ?_
  refine x_iloadn dX10_setLimit_6 rfl ?_
  obtain ⟨v1, h2, h⟩ := b1_s h
  refine z_V1 [.int x1] [.int (I x0 6), .ref x0] (cs_X10_453 _) (ci := 8) rfl (MK.o H0) (dep (show d + 0 + 1 + 1 ≤ (d + 2) from by omega) (Nat.le_of_ble_eq_true rfl)) dX10_setLimit_7 rfl rfl (Nat.le_of_ble_eq_true rfl) (c_X10_isPerson d (K := K) (I := I) H0 h2) ?_
  refine x_iloadn dX10_setLimit_10 rfl ?_
  refine x_iconst 0 dX10_setLimit_11 rfl ?_
  refine x_sipush 200 dX10_setLimit_12 rfl ?_
  obtain ⟨v3, h4, h⟩ := b1_s h
  refine z_S1 [.int x2, .int 0, .int 200] [.int v1, .int (I x0 6), .ref x0] (cs_X10_69 _) (dep (show d + 1 + 0 + 1 ≤ (d + 2) from by omega) (Nat.le_of_ble_eq_true rfl)) dX10_setLimit_15 rfl rfl (Nat.le_of_ble_eq_true rfl) (c_X10_in (d + 1) (K := K) (I := I) h4) ?_
  obtain ⟨v5, I6, h7, h⟩ := b2_s h
  refine z_V1 [.int (I x0 6), .int v1, .int v3] [] (cs_X10_40 _) (ci := 8) rfl (MK.o H0) (dep (show d + 1 + 0 + 1 ≤ (d + 2) from by omega) (Nat.le_of_ble_eq_true rfl)) dX10_setLimit_18 rfl rfl (Nat.le_of_ble_eq_true rfl) (c_X10_may (d + 1) (K := K) (I := I) H0 h7) ?_
  refine x_if_ne 26 dX10_setLimit_21 rfl (fun hc => ?_) (fun hc => ?_)
  · have h := ifF hc h
    refine x_aloadn dX10_setLimit_26 rfl ?_
    obtain ⟨I8, h9, h⟩ := b1_s h
    refine z_V0 [] [] (cs_X10_496 _) (ci := 8) rfl (MK.o H0) (dep (show d + 0 + 1 + 1 ≤ (d + 2) from by omega) (Nat.le_of_ble_eq_true rfl)) dX10_setLimit_27 rfl rfl (Nat.le_of_ble_eq_true rfl) (c_X10_remembers d (K := K) (I := I6) H0 h9) ?_
    refine x_aloadn dX10_setLimit_30 rfl ?_
    refine x_iloadn dX10_setLimit_31 rfl ?_
    refine x_iconst 4 dX10_setLimit_32 rfl ?_
    obtain ⟨v10, h11, h⟩ := b1_s h
    refine z_V1 [.int x1, .int 4] [] (cs_X10_141 _) (ci := 8) rfl (MK.o H0) (dep (show d + 1 + 0 + 1 ≤ (d + 2) from by omega) (Nat.le_of_ble_eq_true rfl)) dX10_setLimit_33 rfl rfl (Nat.le_of_ble_eq_true rfl) (c_X10_ofPerson (d + 1) (K := K) (I := I8) H0 h11) ?_
    refine x_istoren dX10_setLimit_36 (Nat.le_of_ble_eq_true rfl) rfl rfl ?_
    refine x_aloadn dX10_setLimit_37 rfl ?_
    refine x_iloadn dX10_setLimit_38 rfl ?_
    refine x_iconst 4 dX10_setLimit_39 rfl ?_
    refine x_iloadn dX10_setLimit_40 rfl ?_
    obtain ⟨I12, h13, h⟩ := b1_s h
    refine z_V0 [.int x1, .int 4, .int x2] [] (cs_X10_144 _) (ci := 8) rfl (MK.o H0) (dep (show d + 1 + 0 + 1 ≤ (d + 2) from by omega) (Nat.le_of_ble_eq_true rfl)) dX10_setLimit_41 rfl rfl (Nat.le_of_ble_eq_true rfl) (c_X10_putsPerson (d + 1) (K := K) (I := I8) H0 h13) ?_
    refine x_iloadn dX10_setLimit_44 rfl ?_
    cases h
    exact x_iret rfl dX10_setLimit_45 ⟨rfl, rfl, rfl⟩
  have h := ifT hc h
  refine x_iconst 0 dX10_setLimit_24 rfl ?_
  cases h
  exact x_iret rfl dX10_setLimit_25 ⟨rfl, rfl, rfl⟩
noncomputable def f_X10_setMargin (I : Mem) (x0 : Nat) (x1 : Int32) (x2 : Int32) : Option (Int32 × Mem) := b1 (f_X10_isStall I x0 x1) fun v1 => b1 (f_X10_in x2 0 100) fun v3 => b2 (f_X10_may I x0 (I x0 6) v1 v3) fun v5 I6 => if v5 = 0 then (some (0, I6)) else (b1 (f_X10_remembers I6 x0) fun I8 => b1 (f_X10_ofStall I8 x0 x1 3) fun v10 => b1 (f_X10_putsStall I8 x0 x1 3 x2) fun I12 => some (v10, I12))
theorem c_X10_setMargin (d : Nat) {K : Kt} {I : Mem} {x0 : Nat} (H0 : MK K x0) {x1 : Int32} {x2 : Int32} {v : Int32} {I9 : Mem} (h : f_X10_setMargin I x0 x1 x2 = some (v, I9)) : Ct (mX10_setMargin (d + 2)) cX10_setMargin 0 0 [.ref x0, .int x1, .int x2] I K (Ro (.inl (some (.int v))) I9 K) := by
  refine Ct.of rfl pn_X10 (catR (catI (catI cat0))) (Nat.le_of_ble_eq_true rfl) (show X _ _ _ _ _ _ 0 [.ref x0, .int x1, .int x2, .retAddr 0] [] _ from ?_)
  unfold f_X10_setMargin at h
  refine x_aloadn dX10_setMargin_0 rfl ?_
  refine x_aloadn dX10_setMargin_1 rfl ?_
  refine z_getI fs_X10_44 (MK.o H0) dX10_setMargin_2 ?_
  refine x_aloadn dX10_setMargin_5 rfl ?_
  refine x_iloadn dX10_setMargin_6 rfl ?_
  obtain ⟨v1, h2, h⟩ := b1_s h
  refine z_V1 [.int x1] [.int (I x0 6), .ref x0] (cs_X10_460 _) (ci := 8) rfl (MK.o H0) (dep (show d + 0 + 1 + 1 ≤ (d + 2) from by omega) (Nat.le_of_ble_eq_true rfl)) dX10_setMargin_7 rfl rfl (Nat.le_of_ble_eq_true rfl) (c_X10_isStall d (K := K) (I := I) H0 h2) ?_
  refine x_iloadn dX10_setMargin_10 rfl ?_
  refine x_iconst 0 dX10_setMargin_11 rfl ?_
  refine x_bipush 100 dX10_setMargin_12 rfl ?_
  obtain ⟨v3, h4, h⟩ := b1_s h
  refine z_S1 [.int x2, .int 0, .int 100] [.int v1, .int (I x0 6), .ref x0] (cs_X10_69 _) (dep (show d + 1 + 0 + 1 ≤ (d + 2) from by omega) (Nat.le_of_ble_eq_true rfl)) dX10_setMargin_14 rfl rfl (Nat.le_of_ble_eq_true rfl) (c_X10_in (d + 1) (K := K) (I := I) h4) ?_
  obtain ⟨v5, I6, h7, h⟩ := b2_s h
  refine z_V1 [.int (I x0 6), .int v1, .int v3] [] (cs_X10_40 _) (ci := 8) rfl (MK.o H0) (dep (show d + 1 + 0 + 1 ≤ (d + 2) from by omega) (Nat.le_of_ble_eq_true rfl)) dX10_setMargin_17 rfl rfl (Nat.le_of_ble_eq_true rfl) (c_X10_may (d + 1) (K := K) (I := I) H0 h7) ?_
  refine x_if_ne 25 dX10_setMargin_20 rfl (fun hc => ?_) (fun hc => ?_)
  · have h := ifF hc h
    refine x_aloadn dX10_setMargin_25 rfl ?_
    obtain ⟨I8, h9, h⟩ := b1_s h
    refine z_V0 [] [] (cs_X10_496 _) (ci := 8) rfl (MK.o H0) (dep (show d + 0 + 1 + 1 ≤ (d + 2) from by omega) (Nat.le_of_ble_eq_true rfl)) dX10_setMargin_26 rfl rfl (Nat.le_of_ble_eq_true rfl) (c_X10_remembers d (K := K) (I := I6) H0 h9) ?_
    refine x_aloadn dX10_setMargin_29 rfl ?_
    refine x_iloadn dX10_setMargin_30 rfl ?_
    refine x_iconst 3 dX10_setMargin_31 rfl ?_
    obtain ⟨v10, h11, h⟩ := b1_s h
    refine z_V1 [.int x1, .int 3] [] (cs_X10_356 _) (ci := 8) rfl (MK.o H0) (dep (show d + 1 + 0 + 1 ≤ (d + 2) from by omega) (Nat.le_of_ble_eq_true rfl)) dX10_setMargin_32 rfl rfl (Nat.le_of_ble_eq_true rfl) (c_X10_ofStall (d + 1) (K := K) (I := I8) H0 h11) ?_
    refine x_istoren dX10_setMargin_35 (Nat.le_of_ble_eq_true rfl) rfl rfl ?_
    refine x_aloadn dX10_setMargin_36 rfl ?_
    refine x_iloadn dX10_setMargin_37 rfl ?_
    refine x_iconst 3 dX10_setMargin_38 rfl ?_
    refine x_iloadn dX10_setMargin_39 rfl ?_
    obtain ⟨I12, h13, h⟩ := b1_s h
    refine z_V0 [.int x1, .int 3, .int x2] [] (cs_X10_129 _) (ci := 8) rfl (MK.o H0) (dep (show d + 1 + 0 + 1 ≤ (d + 2) from by omega) (Nat.le_of_ble_eq_true rfl)) dX10_setMargin_40 rfl rfl (Nat.le_of_ble_eq_true rfl) (c_X10_putsStall (d + 1) (K := K) (I := I8) H0 h13) ?_
    refine x_iloadn dX10_setMargin_43 rfl ?_
    cases h
    exact x_iret rfl dX10_setMargin_44 ⟨rfl, rfl, rfl⟩
  have h := ifT hc h
  refine x_iconst 0 dX10_setMargin_23 rfl ?_
  cases h
  exact x_iret rfl dX10_setMargin_24 ⟨rfl, rfl, rfl⟩
noncomputable def l_X10_undo_13 (I : Mem) (x0 : Nat) (y0 : Int32) : Option (Int32 × Mem) := b2 (f_X10_may I x0 y0 1 1) fun v1 I2 => if v1 = 0 then (some (0, I2)) else (b1 (pu I2 x0 7 ((I2 x0 7) - 1)) fun I4 => b1 (f_X10_lays I4 (x0 + 3) 2840 ((I4 x0 7) * 355) (x0 + 1) 355 0) fun I5 => some ((I5 x0 7), I5))
theorem tl_X10_undo_13 (d : Nat) {K : Kt} : ∀ {I : Mem} {x0 : Nat} (H0 : MK K x0) {y0 : Int32} {v : Int32} {I9 : Mem}, l_X10_undo_13 I x0 y0 = some (v, I9) → X (mX10_undo (d + 1)) cX10_undo 0 0 I K 13 [.ref x0] [.int y0, .ref x0] (Ro (.inl (some (.int v))) I9 K) := by
  intro I x0 H0 y0 v I9 h
  unfold l_X10_undo_13 at h
  refine x_iconst 1 dX10_undo_13 rfl ?_
  refine x_iconst 1 dX10_undo_14 rfl ?_
  obtain ⟨v1, I2, h3, h⟩ := b2_s h
  refine z_V1 [.int y0, .int 1, .int 1] [] (cs_X10_40 _) (ci := 8) rfl (MK.o H0) (dep (show d + 0 + 0 + 1 ≤ (d + 1) from by omega) (Nat.le_of_ble_eq_true rfl)) dX10_undo_15 rfl rfl (Nat.le_of_ble_eq_true rfl) (c_X10_may d (K := K) (I := I) H0 h3) ?_
  refine x_if_ne 23 dX10_undo_18 rfl (fun hc => ?_) (fun hc => ?_)
  · have h := ifF hc h
    refine x_aloadn dX10_undo_23 rfl ?_
    refine x_dup dX10_undo_24 rfl ?_
    refine z_getI fs_X10_340 (MK.o H0) dX10_undo_25 ?_
    refine x_iconst 1 dX10_undo_28 rfl ?_
    refine x_isub dX10_undo_29 ?_
    obtain ⟨I4, hI4, h⟩ := b1_s h
    refine z_putI fs_X10_340 (MK.o H0) hI4 dX10_undo_30 ?_
    refine x_aloadn dX10_undo_33 rfl ?_
    refine z_getR fs_X10_16 (MK.o H0) (MK.g3 H0) dX10_undo_34 ?_
    refine x_aloadn dX10_undo_37 rfl ?_
    refine z_getI fs_X10_340 (MK.o H0) dX10_undo_38 ?_
    refine x_sipush 355 dX10_undo_41 rfl ?_
    refine x_imul dX10_undo_44 ?_
    refine x_aloadn dX10_undo_45 rfl ?_
    refine z_getR fs_X10_9 (MK.o H0) (MK.g1 H0) dX10_undo_46 ?_
    refine x_iconst 0 dX10_undo_49 rfl ?_
    obtain ⟨I5, h6, h⟩ := b1_s h
    refine z_S0 [.ref (x0 + 3), .int ((I4 x0 7) * 355), .ref (x0 + 1), .int 0] [] (cs_X10_48 _) (dep (show d + 0 + 0 + 1 ≤ (d + 1) from by omega) (Nat.le_of_ble_eq_true rfl)) dX10_undo_50 rfl rfl (Nat.le_of_ble_eq_true rfl) (c_X10_lays d (K := K) (I := I4) (MK.l3 H0) (MK.l1 H0) h6) ?_
    refine x_aloadn dX10_undo_53 rfl ?_
    refine z_getI fs_X10_340 (MK.o H0) dX10_undo_54 ?_
    cases h
    exact x_iret rfl dX10_undo_57 ⟨rfl, rfl, rfl⟩
  have h := ifT hc h
  refine x_iconst 0 dX10_undo_21 rfl ?_
  cases h
  exact x_iret rfl dX10_undo_22 ⟨rfl, rfl, rfl⟩
noncomputable def f_X10_undo (I : Mem) (x0 : Nat) : Option (Int32 × Mem) := if (I x0 7) ≤ 0 then (l_X10_undo_13 I x0 0) else (l_X10_undo_13 I x0 1)
theorem c_X10_undo (d : Nat) {K : Kt} {I : Mem} {x0 : Nat} (H0 : MK K x0) {v : Int32} {I9 : Mem} (h : f_X10_undo I x0 = some (v, I9)) : Ct (mX10_undo (d + 1)) cX10_undo 0 0 [.ref x0] I K (Ro (.inl (some (.int v))) I9 K) := by
  refine Ct.of rfl pn_X10 (catR cat0) (Nat.le_of_ble_eq_true rfl) (show X _ _ _ _ _ _ 0 [.ref x0] [] _ from ?_)
  unfold f_X10_undo at h
  refine x_aloadn dX10_undo_0 rfl ?_
  refine x_aloadn dX10_undo_1 rfl ?_
  refine z_getI fs_X10_340 (MK.o H0) dX10_undo_2 ?_
  refine x_if_le 12 dX10_undo_5 rfl (fun hc => ?_) (fun hc => ?_)
  · have h := ifT hc h
    refine x_iconst 0 dX10_undo_12 rfl ?_
    exact tl_X10_undo_13 d H0 h
  have h := ifF hc h
  refine x_iconst 1 dX10_undo_8 rfl ?_
  refine x_goto 13 dX10_undo_9 rfl ?_
  exact tl_X10_undo_13 d H0 h
noncomputable def f_X10_undoCount (I : Mem) (x0 : Nat) : Option (Int32 × Mem) := b2 (f_X10_told I x0 (I x0 7)) fun v1 I2 => some (v1, I2)
theorem c_X10_undoCount (d : Nat) {K : Kt} {I : Mem} {x0 : Nat} (H0 : MK K x0) {v : Int32} {I9 : Mem} (h : f_X10_undoCount I x0 = some (v, I9)) : Ct (mX10_undoCount (d + 1)) cX10_undoCount 0 0 [.ref x0] I K (Ro (.inl (some (.int v))) I9 K) := by
  refine Ct.of rfl pn_X10 (catR cat0) (Nat.le_of_ble_eq_true rfl) (show X _ _ _ _ _ _ 0 [.ref x0] [] _ from ?_)
  unfold f_X10_undoCount at h
  refine x_aloadn dX10_undoCount_0 rfl ?_
  refine x_aloadn dX10_undoCount_1 rfl ?_
  refine z_getI fs_X10_340 (MK.o H0) dX10_undoCount_2 ?_
  obtain ⟨v1, I2, h3, h⟩ := b2_s h
  refine z_V1 [.int (I x0 7)] [] (cs_X10_62 _) (ci := 8) rfl (MK.o H0) (dep (show d + 0 + 0 + 1 ≤ (d + 1) from by omega) (Nat.le_of_ble_eq_true rfl)) dX10_undoCount_5 rfl rfl (Nat.le_of_ble_eq_true rfl) (c_X10_told d (K := K) (I := I) H0 h3) ?_
  cases h
  exact x_iret rfl dX10_undoCount_8 ⟨rfl, rfl, rfl⟩
noncomputable def f_X10_isSlot (x0 : Int32) : Option (Int32) := b1 (f_X10_in x0 0 1) fun v1 => b1 (cB v1) fun _ => some (v1)
theorem c_X10_isSlot (d : Nat) {K : Kt} {I : Mem} {x0 : Int32} {v : Int32} (h : f_X10_isSlot x0 = some v) : Ct (mX10_isSlot (d + 1)) cX10_isSlot 0 0 [.int x0] I K (Ro (.inl (some (.int v))) I K) := by
  refine Ct.of rfl pn_X10 (catI cat0) (Nat.le_of_ble_eq_true rfl) (show X _ _ _ _ _ _ 0 [.int x0] [] _ from ?_)
  unfold f_X10_isSlot at h
  refine x_iloadn dX10_isSlot_0 rfl ?_
  refine x_iconst 0 dX10_isSlot_1 rfl ?_
  refine x_iconst 1 dX10_isSlot_2 rfl ?_
  obtain ⟨v1, h2, h⟩ := b1_s h
  refine z_S1 [.int x0, .int 0, .int 1] [] (cs_X10_69 _) (dep (show d + 0 + 0 + 1 ≤ (d + 1) from by omega) (Nat.le_of_ble_eq_true rfl)) dX10_isSlot_3 rfl rfl (Nat.le_of_ble_eq_true rfl) (c_X10_in d (K := K) (I := I) h2) ?_
  obtain ⟨u3, hu3, h⟩ := b1_s h
  cases h
  exact x_zret rfl (nar_b hu3) dX10_isSlot_6 ⟨rfl, rfl, rfl⟩
noncomputable def f_X10_saveState (I : Mem) (x0 : Nat) (x1 : Int32) : Option (Int32 × Mem) := b1 (f_X10_isSlot x1) fun v1 => b2 (f_X10_mayTwo I x0 (I x0 6) v1) fun v3 I4 => if v3 = 0 then (some (0, I4)) else (b1 (f_X10_lays I4 (x0 + 1) 355 0 (x0 + 4) 710 (x1 * 355)) fun I6 => b1 (ix x1 2) fun j8 => b1 (pu I6 (x0 + 5) j8 (vp_nar .boolean 1)) fun I9 => b1 (ix 1 355) fun j10 => some ((I9 (x0 + 1) j10), I9))
theorem c_X10_saveState (d : Nat) {K : Kt} {I : Mem} {x0 : Nat} (H0 : MK K x0) {x1 : Int32} {v : Int32} {I9 : Mem} (h : f_X10_saveState I x0 x1 = some (v, I9)) : Ct (mX10_saveState (d + 2)) cX10_saveState 0 0 [.ref x0, .int x1] I K (Ro (.inl (some (.int v))) I9 K) := by
  refine Ct.of rfl pn_X10 (catR (catI cat0)) (Nat.le_of_ble_eq_true rfl) (show X _ _ _ _ _ _ 0 [.ref x0, .int x1] [] _ from ?_)
  unfold f_X10_saveState at h
  refine x_aloadn dX10_saveState_0 rfl ?_
  refine x_aloadn dX10_saveState_1 rfl ?_
  refine z_getI fs_X10_44 (MK.o H0) dX10_saveState_2 ?_
  refine x_iloadn dX10_saveState_5 rfl ?_
  obtain ⟨v1, h2, h⟩ := b1_s h
  refine z_S1 [.int x1] [.int (I x0 6), .ref x0] (cs_X10_499 _) (dep (show d + 0 + 1 + 1 ≤ (d + 2) from by omega) (Nat.le_of_ble_eq_true rfl)) dX10_saveState_6 rfl rfl (Nat.le_of_ble_eq_true rfl) (c_X10_isSlot d (K := K) (I := I) h2) ?_
  obtain ⟨v3, I4, h5, h⟩ := b2_s h
  refine z_V1 [.int (I x0 6), .int v1] [] (cs_X10_456 _) (ci := 8) rfl (MK.o H0) (dep (show d + 0 + 1 + 1 ≤ (d + 2) from by omega) (Nat.le_of_ble_eq_true rfl)) dX10_saveState_9 rfl rfl (Nat.le_of_ble_eq_true rfl) (c_X10_mayTwo d (K := K) (I := I) H0 h5) ?_
  refine x_if_ne 17 dX10_saveState_12 rfl (fun hc => ?_) (fun hc => ?_)
  · have h := ifF hc h
    refine x_aloadn dX10_saveState_17 rfl ?_
    refine z_getR fs_X10_9 (MK.o H0) (MK.g1 H0) dX10_saveState_18 ?_
    refine x_iconst 0 dX10_saveState_21 rfl ?_
    refine x_aloadn dX10_saveState_22 rfl ?_
    refine z_getR fs_X10_19 (MK.o H0) (MK.g4 H0) dX10_saveState_23 ?_
    refine x_iloadn dX10_saveState_26 rfl ?_
    refine x_sipush 355 dX10_saveState_27 rfl ?_
    refine x_imul dX10_saveState_30 ?_
    obtain ⟨I6, h7, h⟩ := b1_s h
    refine z_S0 [.ref (x0 + 1), .int 0, .ref (x0 + 4), .int (x1 * 355)] [] (cs_X10_48 _) (dep (show d + 1 + 0 + 1 ≤ (d + 2) from by omega) (Nat.le_of_ble_eq_true rfl)) dX10_saveState_31 rfl rfl (Nat.le_of_ble_eq_true rfl) (c_X10_lays (d + 1) (K := K) (I := I4) (MK.l1 H0) (MK.l4 H0) h7) ?_
    refine x_aloadn dX10_saveState_34 rfl ?_
    refine z_getR fs_X10_22 (MK.o H0) (MK.g5 H0) dX10_saveState_35 ?_
    refine x_iloadn dX10_saveState_38 rfl ?_
    refine x_iconst 1 dX10_saveState_39 rfl ?_
    obtain ⟨j8, hj8, h⟩ := b1_s h
    obtain ⟨I9, hI9, h⟩ := b1_s h
    refine z_zast (MK.l5 H0) hj8 hI9 dX10_saveState_40 ?_
    refine x_aloadn dX10_saveState_41 rfl ?_
    refine z_getR fs_X10_9 (MK.o H0) (MK.g1 H0) dX10_saveState_42 ?_
    refine x_iconst 1 dX10_saveState_45 rfl ?_
    obtain ⟨j10, hj10, h⟩ := b1_s h
    refine z_iald (MK.l1 H0) hj10 dX10_saveState_46 ?_
    cases h
    exact x_iret rfl dX10_saveState_47 ⟨rfl, rfl, rfl⟩
  have h := ifT hc h
  refine x_iconst 0 dX10_saveState_15 rfl ?_
  cases h
  exact x_iret rfl dX10_saveState_16 ⟨rfl, rfl, rfl⟩
noncomputable def l_X10_restoreState_25 (I : Mem) (x0 : Nat) (x1 : Int32) (y0 : Int32) (y1 : Int32) : Option (Int32 × Mem) := b2 (f_X10_mayTwo I x0 y1 y0) fun v3 I4 => if v3 = 0 then (some (0, I4)) else (b1 (f_X10_lays I4 (x0 + 4) 710 (x1 * 355) (x0 + 1) 355 0) fun I6 => b1 (pu I6 x0 7 0) fun I8 => b1 (ix 1 355) fun j9 => some ((I8 (x0 + 1) j9), I8))
theorem tl_X10_restoreState_25 (d : Nat) {K : Kt} : ∀ {I : Mem} {x0 : Nat} (H0 : MK K x0) {x1 : Int32} {y0 : Int32} {y1 : Int32} {v : Int32} {I9 : Mem}, l_X10_restoreState_25 I x0 x1 y0 y1 = some (v, I9) → X (mX10_restoreState (d + 2)) cX10_restoreState 0 0 I K 25 [.ref x0, .int x1, .retAddr 0] [.int y0, .int y1, .ref x0] (Ro (.inl (some (.int v))) I9 K) := by
  intro I x0 H0 x1 y0 y1 v I9 h
  unfold l_X10_restoreState_25 at h
  obtain ⟨v3, I4, h5, h⟩ := b2_s h
  refine z_V1 [.int y1, .int y0] [] (cs_X10_456 _) (ci := 8) rfl (MK.o H0) (dep (show d + 0 + 1 + 1 ≤ (d + 2) from by omega) (Nat.le_of_ble_eq_true rfl)) dX10_restoreState_25 rfl rfl (Nat.le_of_ble_eq_true rfl) (c_X10_mayTwo d (K := K) (I := I) H0 h5) ?_
  refine x_if_ne 33 dX10_restoreState_28 rfl (fun hc => ?_) (fun hc => ?_)
  · have h := ifF hc h
    refine x_aloadn dX10_restoreState_33 rfl ?_
    refine z_getR fs_X10_19 (MK.o H0) (MK.g4 H0) dX10_restoreState_34 ?_
    refine x_iloadn dX10_restoreState_37 rfl ?_
    refine x_sipush 355 dX10_restoreState_38 rfl ?_
    refine x_imul dX10_restoreState_41 ?_
    refine x_aloadn dX10_restoreState_42 rfl ?_
    refine z_getR fs_X10_9 (MK.o H0) (MK.g1 H0) dX10_restoreState_43 ?_
    refine x_iconst 0 dX10_restoreState_46 rfl ?_
    obtain ⟨I6, h7, h⟩ := b1_s h
    refine z_S0 [.ref (x0 + 4), .int (x1 * 355), .ref (x0 + 1), .int 0] [] (cs_X10_48 _) (dep (show d + 1 + 0 + 1 ≤ (d + 2) from by omega) (Nat.le_of_ble_eq_true rfl)) dX10_restoreState_47 rfl rfl (Nat.le_of_ble_eq_true rfl) (c_X10_lays (d + 1) (K := K) (I := I4) (MK.l4 H0) (MK.l1 H0) h7) ?_
    refine x_aloadn dX10_restoreState_50 rfl ?_
    refine x_iconst 0 dX10_restoreState_51 rfl ?_
    obtain ⟨I8, hI8, h⟩ := b1_s h
    refine z_putI fs_X10_340 (MK.o H0) hI8 dX10_restoreState_52 ?_
    refine x_aloadn dX10_restoreState_55 rfl ?_
    refine z_getR fs_X10_9 (MK.o H0) (MK.g1 H0) dX10_restoreState_56 ?_
    refine x_iconst 1 dX10_restoreState_59 rfl ?_
    obtain ⟨j9, hj9, h⟩ := b1_s h
    refine z_iald (MK.l1 H0) hj9 dX10_restoreState_60 ?_
    cases h
    exact x_iret rfl dX10_restoreState_61 ⟨rfl, rfl, rfl⟩
  have h := ifT hc h
  refine x_iconst 0 dX10_restoreState_31 rfl ?_
  cases h
  exact x_iret rfl dX10_restoreState_32 ⟨rfl, rfl, rfl⟩
noncomputable def l_X10_restoreState_24 (I : Mem) (x0 : Nat) (x1 : Int32) (y0 : Int32) : Option (Int32 × Mem) := l_X10_restoreState_25 I x0 x1 0 y0
theorem tl_X10_restoreState_24 (d : Nat) {K : Kt} : ∀ {I : Mem} {x0 : Nat} (H0 : MK K x0) {x1 : Int32} {y0 : Int32} {v : Int32} {I9 : Mem}, l_X10_restoreState_24 I x0 x1 y0 = some (v, I9) → X (mX10_restoreState (d + 2)) cX10_restoreState 0 0 I K 24 [.ref x0, .int x1, .retAddr 0] [.int y0, .ref x0] (Ro (.inl (some (.int v))) I9 K) := by
  intro I x0 H0 x1 y0 v I9 h
  unfold l_X10_restoreState_24 at h
  refine x_iconst 0 dX10_restoreState_24 rfl ?_
  exact tl_X10_restoreState_25 d H0 h
noncomputable def f_X10_restoreState (I : Mem) (x0 : Nat) (x1 : Int32) : Option (Int32 × Mem) := b1 (f_X10_isSlot x1) fun v1 => if v1 = 0 then (l_X10_restoreState_24 I x0 x1 v1) else (b1 (ix x1 2) fun j10 => if (I (x0 + 5) j10) = 0 then (l_X10_restoreState_24 I x0 x1 v1) else (l_X10_restoreState_25 I x0 x1 1 v1))
theorem c_X10_restoreState (d : Nat) {K : Kt} {I : Mem} {x0 : Nat} (H0 : MK K x0) {x1 : Int32} {v : Int32} {I9 : Mem} (h : f_X10_restoreState I x0 x1 = some (v, I9)) : Ct (mX10_restoreState (d + 2)) cX10_restoreState 0 0 [.ref x0, .int x1] I K (Ro (.inl (some (.int v))) I9 K) := by
  refine Ct.of rfl pn_X10 (catR (catI cat0)) (Nat.le_of_ble_eq_true rfl) (show X _ _ _ _ _ _ 0 [.ref x0, .int x1, .retAddr 0] [] _ from ?_)
  unfold f_X10_restoreState at h
  refine x_iloadn dX10_restoreState_0 rfl ?_
  obtain ⟨v1, h2, h⟩ := b1_s h
  refine z_S1 [.int x1] [] (cs_X10_499 _) (dep (show d + 0 + 1 + 1 ≤ (d + 2) from by omega) (Nat.le_of_ble_eq_true rfl)) dX10_restoreState_1 rfl rfl (Nat.le_of_ble_eq_true rfl) (c_X10_isSlot d (K := K) (I := I) h2) ?_
  refine x_istoren dX10_restoreState_4 (Nat.le_of_ble_eq_true rfl) rfl rfl ?_
  refine x_aloadn dX10_restoreState_5 rfl ?_
  refine x_iloadn dX10_restoreState_6 rfl ?_
  refine x_iloadn dX10_restoreState_7 rfl ?_
  refine x_if_eq 24 dX10_restoreState_8 rfl (fun hc => ?_) (fun hc => ?_)
  · have h := ifT hc h
    exact X.forget (L' := [.ref x0, .int x1, .retAddr 0]) ⟨Or.inl rfl, ⟨Or.inl rfl, ⟨Or.inr rfl, trivial⟩⟩⟩ (tl_X10_restoreState_24 d H0 h)
  have h := ifF hc h
  refine x_aloadn dX10_restoreState_11 rfl ?_
  refine z_getR fs_X10_22 (MK.o H0) (MK.g5 H0) dX10_restoreState_12 ?_
  refine x_iloadn dX10_restoreState_15 rfl ?_
  obtain ⟨j10, hj10, h⟩ := b1_s h
  refine z_zald (MK.l5 H0) hj10 dX10_restoreState_16 ?_
  refine x_if_eq 24 dX10_restoreState_17 rfl (fun hc => ?_) (fun hc => ?_)
  · have h := ifT hc h
    exact X.forget (L' := [.ref x0, .int x1, .retAddr 0]) ⟨Or.inl rfl, ⟨Or.inl rfl, ⟨Or.inr rfl, trivial⟩⟩⟩ (tl_X10_restoreState_24 d H0 h)
  have h := ifF hc h
  refine x_iconst 1 dX10_restoreState_20 rfl ?_
  refine x_goto 25 dX10_restoreState_21 rfl ?_
  exact X.forget (L' := [.ref x0, .int x1, .retAddr 0]) ⟨Or.inl rfl, ⟨Or.inl rfl, ⟨Or.inr rfl, trivial⟩⟩⟩ (tl_X10_restoreState_25 d H0 h)
