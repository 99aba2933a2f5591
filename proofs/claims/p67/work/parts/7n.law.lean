noncomputable def l_L_law_730 (n : Nat) (xs : Nat → Int32) (c68 : Mem → Kt → Nat → Int32 → Nat → Nat → Int32 → Option (Int32 × Mem × Kt)) (I : Mem) (K : Kt) (x1 : Nat) (x5 : Int32) (x6 : Nat) (x7 : Nat) (x8 : Int32) (x9 : Int32) (x10 : Int32) : Option (Int32 × Mem × Kt) := b1 (f_L_all I K x1) fun v81 => if v81 = x5 then (b1 (cW K x1) fun _ => o1 (f_X9_imbalance I x1) fun v85 => if v85 = 0 then (if ((ush x9 25) &&& 3) = 0 then (b1 (cW K x1) fun _ => o2 (f_X9_restoreState I x1 x10) fun v89 I90 => b1 (cA K 103 x6) fun m93 => b1 (ix 0 m93) fun j92 => if (lg_cmp (v89 : Int32).toInt64 (kJ K x6 j92)) = 0 then (b1 (cW K x1) fun _ => b1 (f_X9_undoCount I90 x1) fun v98 => if v98 = 0 then (b2 (f_L_sees I90 K x1 x7) fun I100 K101 => b1 (f_J7_equals_331f6 I100 K101 x6 x7) fun v103 => if v103 = 0 then (some (0, I100, K101)) else (c68 I100 K101 x1 x5 x6 x7 (x8 + 1))) else (some (0, I90, K))) else (some (0, I90, K))) else (c68 I K x1 x5 x6 x7 (x8 + 1))) else (some (0, I, K))) else (some (0, I, K))
theorem tl_L_law_730 (d : Nat) {n : Nat} {xs : Nat → Int32} {c68 : Mem → Kt → Nat → Int32 → Nat → Nat → Int32 → Option (Int32 × Mem × Kt)} (hc68 : ∀ {I : Mem} {K : Kt} {x1 : Nat} {x5 : Int32} {x6 : Nat} {x7 : Nat} {x8 : Int32} {v : Int32} {I9 : Mem} {K9 : Kt}, c68 I K x1 x5 x6 x7 x8 = some (v, I9, K9) → XG (mL_law (d + 13)) cL_law 0 0 K9 I K 68 [.ref (xE 50), .ref x1, .retAddr 0, .retAddr 0, .retAddr 0, .int x5, .ref x6, .ref x7, .int x8, .retAddr 0, .retAddr 0, .retAddr 0, .retAddr 0, .retAddr 0, .retAddr 0, .retAddr 0, .retAddr 0, .retAddr 0, .retAddr 0] [] (Ro (.inl (some (.int v))) I9 K9) (GsL n xs)) : ∀ {I : Mem} {K : Kt} {x1 : Nat} {x5 : Int32} {x6 : Nat} {x7 : Nat} {x8 : Int32} {x9 : Int32} {x10 : Int32} {v : Int32} {I9 : Mem} {K9 : Kt}, l_L_law_730 n xs c68 I K x1 x5 x6 x7 x8 x9 x10 = some (v, I9, K9) → XG (mL_law (d + 13)) cL_law 0 0 K9 I K 730 [.ref (xE 50), .ref x1, .retAddr 0, .retAddr 0, .retAddr 0, .int x5, .ref x6, .ref x7, .int x8, .int x9, .int x10, .retAddr 0, .retAddr 0, .retAddr 0, .retAddr 0, .retAddr 0, .retAddr 0, .retAddr 0, .retAddr 0] [] (Ro (.inl (some (.int v))) I9 K9) (GsL n xs) := by
  intro I K x1 x5 x6 x7 x8 x9 x10 v I9 K9 h
  unfold l_L_law_730 at h
  refine XG.l (fun z9 => x_aloadn dL_law_730 rfl z9) ?_
  obtain ⟨v81, hq82, h⟩ := b1_s h
  have hq := c_L_all (d + 2) hq82
  refine XG.l (fun z9 => X.c0 (z_Scall [.ref x1] [] (cs_L_287 _) (dep (show d + 2 + 10 + 1 ≤ (d + 13) from by omega) (Nat.le_of_ble_eq_true rfl)) dL_law_731 rfl rfl (Nat.le_of_ble_eq_true rfl) hq z9)) ?_
  refine XG.l (fun z9 => x_iload dL_law_734 rfl z9) ?_
  rcases Classical.em (v81 = x5) with hc | hc
  · have h := ifT hc h
    refine XG.l (fun z9 => x_icmp_ne 746 dL_law_736 rfl (fun hn => absurd hc hn) (fun _ => z9)) ?_
    refine XG.l (fun z9 => x_aloadn dL_law_739 rfl z9) ?_
    obtain ⟨u83, hq84, h⟩ := b1_s h
    obtain ⟨v85, hq86, h⟩ := o1_s h
    have hq := z0 (c_X9_imbalance (d + 5) (K := K) (I := I) (cW_s hq84) hq86)
    refine XG.l (fun z9 => X.c0 (z_Vcall [] [] (cs_L_268 _) (ci := 7) rfl (LW.o (cW_s hq84)) (dep (show d + 5 + 7 + 1 ≤ (d + 13) from by omega) (Nat.le_of_ble_eq_true rfl)) dL_law_740 rfl rfl (Nat.le_of_ble_eq_true rfl) hq z9)) ?_
    rcases Classical.em (v85 = 0) with hc | hc
    · have h := ifT hc h
      refine XG.l (fun z9 => x_if_eq 748 dL_law_743 rfl (fun _ => z9) (fun hn => absurd hc hn)) ?_
      refine XG.l (fun z9 => x_iload dL_law_748 rfl z9) ?_
      refine XG.l (fun z9 => x_bipush 25 dL_law_750 (by decide) z9) ?_
      refine XG.l (fun z9 => x_iushr dL_law_752 z9) ?_
      refine XG.l (fun z9 => x_iconst 3 dL_law_753 rfl z9) ?_
      refine XG.l (fun z9 => x_iand dL_law_754 z9) ?_
      rcases Classical.em (((ush x9 25) &&& 3) = 0) with hc | hc
      · have h := ifT hc h
        refine XG.l (fun z9 => x_if_ne 800 dL_law_755 rfl (fun hn => absurd hc hn) (fun _ => z9)) ?_
        refine XG.l (fun z9 => x_aloadn dL_law_758 rfl z9) ?_
        refine XG.l (fun z9 => x_iload dL_law_759 rfl z9) ?_
        obtain ⟨u87, hq88, h⟩ := b1_s h
        obtain ⟨v89, I90, hq91, h⟩ := o2_s h
        have hq := z0 (c_X9_restoreState (d + 5) (K := K) (I := I) (cW_s hq88) hq91)
        refine XG.l (fun z9 => X.c0 (z_Vcall [.int x10] [] (cs_L_356 _) (ci := 7) rfl (LW.o (cW_s hq88)) (dep (show d + 5 + 7 + 1 ≤ (d + 13) from by omega) (Nat.le_of_ble_eq_true rfl)) dL_law_761 rfl rfl (Nat.le_of_ble_eq_true rfl) hq z9)) ?_
        refine XG.l (fun z9 => x_i2l dL_law_764 z9) ?_
        refine XG.l (fun z9 => x_aload dL_law_765 rfl z9) ?_
        refine XG.l (fun z9 => x_iconst 0 dL_law_767 rfl z9) ?_
        obtain ⟨m93, hq94, h⟩ := b1_s h
        obtain ⟨j92, hq95, h⟩ := b1_s h
        refine XG.l (fun z9 => x_lald (cA_s hq94).1 (cA_s hq94).2 (ix_s hq95).1 (ix_s hq95).2 dL_law_768 z9) ?_
        refine XG.l (fun z9 => x_lcmp dL_law_769 z9) ?_
        rcases Classical.em ((lg_cmp (v89 : Int32).toInt64 (kJ K x6 j92)) = 0) with hc | hc
        · have h := ifT hc h
          refine XG.l (fun z9 => x_if_ne 780 dL_law_770 rfl (fun hn => absurd hc hn) (fun _ => z9)) ?_
          refine XG.l (fun z9 => x_aloadn dL_law_773 rfl z9) ?_
          obtain ⟨u96, hq97, h⟩ := b1_s h
          obtain ⟨v98, hq99, h⟩ := b1_s h
          have hq := c_X9_undoCount (d + 12) (K := K) (I := I90) (cW_s hq97) hq99
          refine XG.l (fun z9 => X.c0 (z_Vcall [] [] (cs_L_359 _) (ci := 7) rfl (LW.o (cW_s hq97)) (dep (show d + 12 + 0 + 1 ≤ (d + 13) from by omega) (Nat.le_of_ble_eq_true rfl)) dL_law_774 rfl rfl (Nat.le_of_ble_eq_true rfl) hq z9)) ?_
          rcases Classical.em (v98 = 0) with hc | hc
          · have h := ifT hc h
            refine XG.l (fun z9 => x_if_eq 782 dL_law_777 rfl (fun _ => z9) (fun hn => absurd hc hn)) ?_
            refine XG.l (fun z9 => x_aloadn dL_law_782 rfl z9) ?_
            refine XG.l (fun z9 => x_aload dL_law_783 rfl z9) ?_
            obtain ⟨I100, K101, hq102, h⟩ := b2_s h
            have hq := c_L_sees (d + 2) hq102
            refine XG.call hq.1 ?_ (fun z9 => z_Scall [.ref x1, .ref x7] [] (cs_L_294 _) (dep (show d + 2 + 10 + 1 ≤ (d + 13) from by omega) (Nat.le_of_ble_eq_true rfl)) dL_law_785 rfl rfl (Nat.le_of_ble_eq_true rfl) hq.2 z9)
            refine XG.l (fun z9 => x_aload dL_law_788 rfl z9) ?_
            refine XG.l (fun z9 => x_aload dL_law_790 rfl z9) ?_
            obtain ⟨v103, hq104, h⟩ := b1_s h
            have hq := c_J7_equals_331f6 (d + 7) hq104
            refine XG.l (fun z9 => X.c0 (z_Scall [.ref x6, .ref x7] [] (cs_L_362 _) (dep (show d + 7 + 5 + 1 ≤ (d + 13) from by omega) (Nat.le_of_ble_eq_true rfl)) dL_law_792 rfl rfl (Nat.le_of_ble_eq_true rfl) hq z9)) ?_
            rcases Classical.em (v103 = 0) with hc | hc
            · have h := ifT hc h
              refine XG.l (fun z9 => x_if_ne 800 dL_law_795 rfl (fun hn => absurd hc hn) (fun _ => z9)) ?_
              refine XG.l (fun z9 => x_iconst 0 dL_law_798 rfl z9) ?_
              cases h
              exact XG.z (x_zret rfl rfl dL_law_799 ⟨rfl, rfl, rfl⟩)
            have h := ifF hc h
            refine XG.l (fun z9 => x_if_ne 800 dL_law_795 rfl (fun _ => z9) (fun hn => absurd hn hc)) ?_
            refine XG.l (fun z9 => z_iinc 1 (by decide) dL_law_800 rfl rfl rfl z9) ?_
            refine XG.l (fun z9 => x_goto 68 dL_law_803 rfl z9) ?_
            exact XG.forget (L' := [.ref (xE 50), .ref x1, .retAddr 0, .retAddr 0, .retAddr 0, .int x5, .ref x6, .ref x7, .int (x8 + 1), .retAddr 0, .retAddr 0, .retAddr 0, .retAddr 0, .retAddr 0, .retAddr 0, .retAddr 0, .retAddr 0, .retAddr 0, .retAddr 0]) ⟨Or.inl rfl, ⟨Or.inl rfl, ⟨Or.inl rfl, ⟨Or.inl rfl, ⟨Or.inl rfl, ⟨Or.inl rfl, ⟨Or.inl rfl, ⟨Or.inl rfl, ⟨Or.inl rfl, ⟨Or.inr rfl, ⟨Or.inr rfl, ⟨Or.inl rfl, ⟨Or.inl rfl, ⟨Or.inl rfl, ⟨Or.inl rfl, ⟨Or.inl rfl, ⟨Or.inl rfl, ⟨Or.inl rfl, ⟨Or.inl rfl, trivial⟩⟩⟩⟩⟩⟩⟩⟩⟩⟩⟩⟩⟩⟩⟩⟩⟩⟩⟩ (hc68 h)
          have h := ifF hc h
          refine XG.l (fun z9 => x_if_eq 782 dL_law_777 rfl (fun hn => absurd hn hc) (fun _ => z9)) ?_
          refine XG.l (fun z9 => x_iconst 0 dL_law_780 rfl z9) ?_
          cases h
          exact XG.z (x_zret rfl rfl dL_law_781 ⟨rfl, rfl, rfl⟩)
        have h := ifF hc h
        refine XG.l (fun z9 => x_if_ne 780 dL_law_770 rfl (fun _ => z9) (fun hn => absurd hn hc)) ?_
        refine XG.l (fun z9 => x_iconst 0 dL_law_780 rfl z9) ?_
        cases h
        exact XG.z (x_zret rfl rfl dL_law_781 ⟨rfl, rfl, rfl⟩)
      have h := ifF hc h
      refine XG.l (fun z9 => x_if_ne 800 dL_law_755 rfl (fun _ => z9) (fun hn => absurd hn hc)) ?_
      refine XG.l (fun z9 => z_iinc 1 (by decide) dL_law_800 rfl rfl rfl z9) ?_
      refine XG.l (fun z9 => x_goto 68 dL_law_803 rfl z9) ?_
      exact XG.forget (L' := [.ref (xE 50), .ref x1, .retAddr 0, .retAddr 0, .retAddr 0, .int x5, .ref x6, .ref x7, .int (x8 + 1), .retAddr 0, .retAddr 0, .retAddr 0, .retAddr 0, .retAddr 0, .retAddr 0, .retAddr 0, .retAddr 0, .retAddr 0, .retAddr 0]) ⟨Or.inl rfl, ⟨Or.inl rfl, ⟨Or.inl rfl, ⟨Or.inl rfl, ⟨Or.inl rfl, ⟨Or.inl rfl, ⟨Or.inl rfl, ⟨Or.inl rfl, ⟨Or.inl rfl, ⟨Or.inr rfl, ⟨Or.inr rfl, ⟨Or.inl rfl, ⟨Or.inl rfl, ⟨Or.inl rfl, ⟨Or.inl rfl, ⟨Or.inl rfl, ⟨Or.inl rfl, ⟨Or.inl rfl, ⟨Or.inl rfl, trivial⟩⟩⟩⟩⟩⟩⟩⟩⟩⟩⟩⟩⟩⟩⟩⟩⟩⟩⟩ (hc68 h)
    have h := ifF hc h
    refine XG.l (fun z9 => x_if_eq 748 dL_law_743 rfl (fun hn => absurd hn hc) (fun _ => z9)) ?_
    refine XG.l (fun z9 => x_iconst 0 dL_law_746 rfl z9) ?_
    cases h
    exact XG.z (x_zret rfl rfl dL_law_747 ⟨rfl, rfl, rfl⟩)
  have h := ifF hc h
  refine XG.l (fun z9 => x_icmp_ne 746 dL_law_736 rfl (fun _ => z9) (fun hn => absurd hn hc)) ?_
  refine XG.l (fun z9 => x_iconst 0 dL_law_746 rfl z9) ?_
  cases h
  exact XG.z (x_zret rfl rfl dL_law_747 ⟨rfl, rfl, rfl⟩)
noncomputable def l_L_law_596 (n : Nat) (xs : Nat → Int32) (c68 : Mem → Kt → Nat → Int32 → Nat → Nat → Int32 → Option (Int32 × Mem × Kt)) (I : Mem) (K : Kt) (x1 : Nat) (x5 : Int32) (x6 : Nat) (x7 : Nat) (x8 : Int32) (x9 : Int32) (x10 : Int32) : Option (Int32 × Mem × Kt) := l_L_law_730 n xs c68 I K x1 x5 x6 x7 x8 x9 x10
theorem tl_L_law_596 (d : Nat) {n : Nat} {xs : Nat → Int32} {c68 : Mem → Kt → Nat → Int32 → Nat → Nat → Int32 → Option (Int32 × Mem × Kt)} (hc68 : ∀ {I : Mem} {K : Kt} {x1 : Nat} {x5 : Int32} {x6 : Nat} {x7 : Nat} {x8 : Int32} {v : Int32} {I9 : Mem} {K9 : Kt}, c68 I K x1 x5 x6 x7 x8 = some (v, I9, K9) → XG (mL_law (d + 13)) cL_law 0 0 K9 I K 68 [.ref (xE 50), .ref x1, .retAddr 0, .retAddr 0, .retAddr 0, .int x5, .ref x6, .ref x7, .int x8, .retAddr 0, .retAddr 0, .retAddr 0, .retAddr 0, .retAddr 0, .retAddr 0, .retAddr 0, .retAddr 0, .retAddr 0, .retAddr 0] [] (Ro (.inl (some (.int v))) I9 K9) (GsL n xs)) : ∀ {I : Mem} {K : Kt} {x1 : Nat} {x5 : Int32} {x6 : Nat} {x7 : Nat} {x8 : Int32} {x9 : Int32} {x10 : Int32} {v : Int32} {I9 : Mem} {K9 : Kt}, l_L_law_596 n xs c68 I K x1 x5 x6 x7 x8 x9 x10 = some (v, I9, K9) → XG (mL_law (d + 13)) cL_law 0 0 K9 I K 596 [.ref (xE 50), .ref x1, .retAddr 0, .retAddr 0, .retAddr 0, .int x5, .ref x6, .ref x7, .int x8, .int x9, .int x10, .retAddr 0, .retAddr 0, .retAddr 0, .retAddr 0, .retAddr 0, .retAddr 0, .retAddr 0, .retAddr 0] [] (Ro (.inl (some (.int v))) I9 K9) (GsL n xs) := by
  intro I K x1 x5 x6 x7 x8 x9 x10 v I9 K9 h
  unfold l_L_law_596 at h
  refine XG.l (fun z9 => x_goto 730 dL_law_596 rfl z9) ?_
  exact (tl_L_law_730 d hc68 h)
noncomputable def l_L_law_541 (n : Nat) (xs : Nat → Int32) (c68 : Mem → Kt → Nat → Int32 → Nat → Nat → Int32 → Option (Int32 × Mem × Kt)) (I : Mem) (K : Kt) (x1 : Nat) (x5 : Int32) (x6 : Nat) (x7 : Nat) (x8 : Int32) (x9 : Int32) (x10 : Int32) (x11 : Int32) (x16 : Int32) (y0 : Int32) : Option (Int32 × Mem × Kt) := b1 (cW K x1) fun _ => o1 (f_X9_happiness I x1 x11) fun v158 => if x16 < 0 then (l_L_law_596 n xs c68 I K x1 x5 x6 x7 x8 x9 x10) else (b1 (cW K x1) fun _ => o2 (f_X9_grant I x1 x16) fun v162 I163 => if v162 = (v158 + y0) then (b1 (cW K x1) fun _ => o1 (f_X9_isGranted I163 x1 x16) fun v167 => if v167 = 0 then (some (0, I163, K)) else (b1 (cW K x1) fun _ => o1 (f_X9_grantedCount I163 x1) fun v171 => b1 (cA K 103 x6) fun m174 => b1 (ix 2 m174) fun j173 => if (lg_cmp (v171 : Int32).toInt64 ((kJ K x6 j173) + (1 : Int64))) = 0 then (l_L_law_596 n xs c68 I163 K x1 x5 x6 x7 x8 x9 x10) else (some (0, I163, K)))) else (some (0, I163, K)))
theorem tl_L_law_541 (d : Nat) {n : Nat} {xs : Nat → Int32} {c68 : Mem → Kt → Nat → Int32 → Nat → Nat → Int32 → Option (Int32 × Mem × Kt)} (hc68 : ∀ {I : Mem} {K : Kt} {x1 : Nat} {x5 : Int32} {x6 : Nat} {x7 : Nat} {x8 : Int32} {v : Int32} {I9 : Mem} {K9 : Kt}, c68 I K x1 x5 x6 x7 x8 = some (v, I9, K9) → XG (mL_law (d + 13)) cL_law 0 0 K9 I K 68 [.ref (xE 50), .ref x1, .retAddr 0, .retAddr 0, .retAddr 0, .int x5, .ref x6, .ref x7, .int x8, .retAddr 0, .retAddr 0, .retAddr 0, .retAddr 0, .retAddr 0, .retAddr 0, .retAddr 0, .retAddr 0, .retAddr 0, .retAddr 0] [] (Ro (.inl (some (.int v))) I9 K9) (GsL n xs)) : ∀ {I : Mem} {K : Kt} {x1 : Nat} {x5 : Int32} {x6 : Nat} {x7 : Nat} {x8 : Int32} {x9 : Int32} {x10 : Int32} {x11 : Int32} {x16 : Int32} {y0 : Int32} {v : Int32} {I9 : Mem} {K9 : Kt}, l_L_law_541 n xs c68 I K x1 x5 x6 x7 x8 x9 x10 x11 x16 y0 = some (v, I9, K9) → XG (mL_law (d + 13)) cL_law 0 0 K9 I K 541 [.ref (xE 50), .ref x1, .retAddr 0, .retAddr 0, .retAddr 0, .int x5, .ref x6, .ref x7, .int x8, .int x9, .int x10, .int x11, .retAddr 0, .retAddr 0, .retAddr 0, .retAddr 0, .int x16, .retAddr 0, .retAddr 0] [.int y0] (Ro (.inl (some (.int v))) I9 K9) (GsL n xs) := by
  intro I K x1 x5 x6 x7 x8 x9 x10 x11 x16 y0 v I9 K9 h
  unfold l_L_law_541 at h
  refine XG.l (fun z9 => x_istore dL_law_541 (Nat.le_of_ble_eq_true rfl) rfl rfl z9) ?_
  refine XG.l (fun z9 => x_aloadn dL_law_543 rfl z9) ?_
  refine XG.l (fun z9 => x_iload dL_law_544 rfl z9) ?_
  obtain ⟨u156, hq157, h⟩ := b1_s h
  obtain ⟨v158, hq159, h⟩ := o1_s h
  have hq := z0 (c_X9_happiness (d + 3) (K := K) (I := I) (cW_s hq157) hq159)
  refine XG.l (fun z9 => X.c0 (z_Vcall [.int x11] [] (cs_L_229 _) (ci := 7) rfl (LW.o (cW_s hq157)) (dep (show d + 3 + 9 + 1 ≤ (d + 13) from by omega) (Nat.le_of_ble_eq_true rfl)) dL_law_546 rfl rfl (Nat.le_of_ble_eq_true rfl) hq z9)) ?_
  refine XG.l (fun z9 => x_istore dL_law_549 (Nat.le_of_ble_eq_true rfl) rfl rfl z9) ?_
  refine XG.l (fun z9 => x_iload dL_law_551 rfl z9) ?_
  rcases Classical.em (x16 < 0) with hc | hc
  · have h := ifT hc h
    refine XG.l (fun z9 => x_if_lt 596 dL_law_553 rfl (fun _ => z9) (fun hn => absurd hc hn)) ?_
    exact XG.forget (L' := [.ref (xE 50), .ref x1, .retAddr 0, .retAddr 0, .retAddr 0, .int x5, .ref x6, .ref x7, .int x8, .int x9, .int x10, .retAddr 0, .retAddr 0, .retAddr 0, .retAddr 0, .retAddr 0, .retAddr 0, .retAddr 0, .retAddr 0]) ⟨Or.inl rfl, ⟨Or.inl rfl, ⟨Or.inl rfl, ⟨Or.inl rfl, ⟨Or.inl rfl, ⟨Or.inl rfl, ⟨Or.inl rfl, ⟨Or.inl rfl, ⟨Or.inl rfl, ⟨Or.inl rfl, ⟨Or.inl rfl, ⟨Or.inr rfl, ⟨Or.inl rfl, ⟨Or.inl rfl, ⟨Or.inl rfl, ⟨Or.inl rfl, ⟨Or.inr rfl, ⟨Or.inr rfl, ⟨Or.inr rfl, trivial⟩⟩⟩⟩⟩⟩⟩⟩⟩⟩⟩⟩⟩⟩⟩⟩⟩⟩⟩ (tl_L_law_596 d hc68 h)
  have h := ifF hc h
  refine XG.l (fun z9 => x_if_lt 596 dL_law_553 rfl (fun hn => absurd hn hc) (fun _ => z9)) ?_
  refine XG.l (fun z9 => x_aloadn dL_law_556 rfl z9) ?_
  refine XG.l (fun z9 => x_iload dL_law_557 rfl z9) ?_
  obtain ⟨u160, hq161, h⟩ := b1_s h
  obtain ⟨v162, I163, hq164, h⟩ := o2_s h
  have hq := z0 (c_X9_grant (d + 4) (K := K) (I := I) (cW_s hq161) hq164)
  refine XG.l (fun z9 => X.c0 (z_Vcall [.int x16] [] (cs_L_342 _) (ci := 7) rfl (LW.o (cW_s hq161)) (dep (show d + 4 + 8 + 1 ≤ (d + 13) from by omega) (Nat.le_of_ble_eq_true rfl)) dL_law_559 rfl rfl (Nat.le_of_ble_eq_true rfl) hq z9)) ?_
  refine XG.l (fun z9 => x_iload dL_law_562 rfl z9) ?_
  refine XG.l (fun z9 => x_iload dL_law_564 rfl z9) ?_
  refine XG.l (fun z9 => x_iadd dL_law_566 z9) ?_
  rcases Classical.em (v162 = (v158 + y0)) with hc | hc
  · have h := ifT hc h
    refine XG.l (fun z9 => x_icmp_ne 594 dL_law_567 rfl (fun hn => absurd hc hn) (fun _ => z9)) ?_
    refine XG.l (fun z9 => x_aloadn dL_law_570 rfl z9) ?_
    refine XG.l (fun z9 => x_iload dL_law_571 rfl z9) ?_
    obtain ⟨u165, hq166, h⟩ := b1_s h
    obtain ⟨v167, hq168, h⟩ := o1_s h
    have hq := z0 (c_X9_isGranted (d + 3) (K := K) (I := I163) (cW_s hq166) hq168)
    refine XG.l (fun z9 => X.c0 (z_Vcall [.int x16] [] (cs_L_202 _) (ci := 7) rfl (LW.o (cW_s hq166)) (dep (show d + 3 + 9 + 1 ≤ (d + 13) from by omega) (Nat.le_of_ble_eq_true rfl)) dL_law_573 rfl rfl (Nat.le_of_ble_eq_true rfl) hq z9)) ?_
    rcases Classical.em (v167 = 0) with hc | hc
    · have h := ifT hc h
      refine XG.l (fun z9 => x_if_eq 594 dL_law_576 rfl (fun _ => z9) (fun hn => absurd hc hn)) ?_
      refine XG.l (fun z9 => x_iconst 0 dL_law_594 rfl z9) ?_
      cases h
      exact XG.z (x_zret rfl rfl dL_law_595 ⟨rfl, rfl, rfl⟩)
    have h := ifF hc h
    refine XG.l (fun z9 => x_if_eq 594 dL_law_576 rfl (fun hn => absurd hn hc) (fun _ => z9)) ?_
    refine XG.l (fun z9 => x_aloadn dL_law_579 rfl z9) ?_
    obtain ⟨u169, hq170, h⟩ := b1_s h
    obtain ⟨v171, hq172, h⟩ := o1_s h
    have hq := z0 (c_X9_grantedCount (d + 5) (K := K) (I := I163) (cW_s hq170) hq172)
    refine XG.l (fun z9 => X.c0 (z_Vcall [] [] (cs_L_262 _) (ci := 7) rfl (LW.o (cW_s hq170)) (dep (show d + 5 + 7 + 1 ≤ (d + 13) from by omega) (Nat.le_of_ble_eq_true rfl)) dL_law_580 rfl rfl (Nat.le_of_ble_eq_true rfl) hq z9)) ?_
    refine XG.l (fun z9 => x_i2l dL_law_583 z9) ?_
    refine XG.l (fun z9 => x_aload dL_law_584 rfl z9) ?_
    refine XG.l (fun z9 => x_iconst 2 dL_law_586 rfl z9) ?_
    obtain ⟨m174, hq175, h⟩ := b1_s h
    obtain ⟨j173, hq176, h⟩ := b1_s h
    refine XG.l (fun z9 => x_lald (cA_s hq175).1 (cA_s hq175).2 (ix_s hq176).1 (ix_s hq176).2 dL_law_587 z9) ?_
    refine XG.l (fun z9 => x_lconst 1 dL_law_588 rfl z9) ?_
    refine XG.l (fun z9 => x_ladd dL_law_589 z9) ?_
    refine XG.l (fun z9 => x_lcmp dL_law_590 z9) ?_
    rcases Classical.em ((lg_cmp (v171 : Int32).toInt64 ((kJ K x6 j173) + (1 : Int64))) = 0) with hc | hc
    · have h := ifT hc h
      refine XG.l (fun z9 => x_if_eq 596 dL_law_591 rfl (fun _ => z9) (fun hn => absurd hc hn)) ?_
      exact XG.forget (L' := [.ref (xE 50), .ref x1, .retAddr 0, .retAddr 0, .retAddr 0, .int x5, .ref x6, .ref x7, .int x8, .int x9, .int x10, .retAddr 0, .retAddr 0, .retAddr 0, .retAddr 0, .retAddr 0, .retAddr 0, .retAddr 0, .retAddr 0]) ⟨Or.inl rfl, ⟨Or.inl rfl, ⟨Or.inl rfl, ⟨Or.inl rfl, ⟨Or.inl rfl, ⟨Or.inl rfl, ⟨Or.inl rfl, ⟨Or.inl rfl, ⟨Or.inl rfl, ⟨Or.inl rfl, ⟨Or.inl rfl, ⟨Or.inr rfl, ⟨Or.inl rfl, ⟨Or.inl rfl, ⟨Or.inl rfl, ⟨Or.inl rfl, ⟨Or.inr rfl, ⟨Or.inr rfl, ⟨Or.inr rfl, trivial⟩⟩⟩⟩⟩⟩⟩⟩⟩⟩⟩⟩⟩⟩⟩⟩⟩⟩⟩ (tl_L_law_596 d hc68 h)
    have h := ifF hc h
    refine XG.l (fun z9 => x_if_eq 596 dL_law_591 rfl (fun hn => absurd hn hc) (fun _ => z9)) ?_
    refine XG.l (fun z9 => x_iconst 0 dL_law_594 rfl z9) ?_
    cases h
    exact XG.z (x_zret rfl rfl dL_law_595 ⟨rfl, rfl, rfl⟩)
  have h := ifF hc h
  refine XG.l (fun z9 => x_icmp_ne 594 dL_law_567 rfl (fun _ => z9) (fun hn => absurd hn hc)) ?_
  refine XG.l (fun z9 => x_iconst 0 dL_law_594 rfl z9) ?_
  cases h
  exact XG.z (x_zret rfl rfl dL_law_595 ⟨rfl, rfl, rfl⟩)
noncomputable def l_L_law_508 (n : Nat) (xs : Nat → Int32) (c68 : Mem → Kt → Nat → Int32 → Nat → Nat → Int32 → Option (Int32 × Mem × Kt)) (I : Mem) (K : Kt) (x1 : Nat) (x5 : Int32) (x6 : Nat) (x7 : Nat) (x8 : Int32) (x9 : Int32) (x10 : Int32) : Option (Int32 × Mem × Kt) := l_L_law_730 n xs c68 I K x1 x5 x6 x7 x8 x9 x10
theorem tl_L_law_508 (d : Nat) {n : Nat} {xs : Nat → Int32} {c68 : Mem → Kt → Nat → Int32 → Nat → Nat → Int32 → Option (Int32 × Mem × Kt)} (hc68 : ∀ {I : Mem} {K : Kt} {x1 : Nat} {x5 : Int32} {x6 : Nat} {x7 : Nat} {x8 : Int32} {v : Int32} {I9 : Mem} {K9 : Kt}, c68 I K x1 x5 x6 x7 x8 = some (v, I9, K9) → XG (mL_law (d + 13)) cL_law 0 0 K9 I K 68 [.ref (xE 50), .ref x1, .retAddr 0, .retAddr 0, .retAddr 0, .int x5, .ref x6, .ref x7, .int x8, .retAddr 0, .retAddr 0, .retAddr 0, .retAddr 0, .retAddr 0, .retAddr 0, .retAddr 0, .retAddr 0, .retAddr 0, .retAddr 0] [] (Ro (.inl (some (.int v))) I9 K9) (GsL n xs)) : ∀ {I : Mem} {K : Kt} {x1 : Nat} {x5 : Int32} {x6 : Nat} {x7 : Nat} {x8 : Int32} {x9 : Int32} {x10 : Int32} {v : Int32} {I9 : Mem} {K9 : Kt}, l_L_law_508 n xs c68 I K x1 x5 x6 x7 x8 x9 x10 = some (v, I9, K9) → XG (mL_law (d + 13)) cL_law 0 0 K9 I K 508 [.ref (xE 50), .ref x1, .retAddr 0, .retAddr 0, .retAddr 0, .int x5, .ref x6, .ref x7, .int x8, .int x9, .int x10, .retAddr 0, .retAddr 0, .retAddr 0, .retAddr 0, .retAddr 0, .retAddr 0, .retAddr 0, .retAddr 0] [] (Ro (.inl (some (.int v))) I9 K9) (GsL n xs) := by
  intro I K x1 x5 x6 x7 x8 x9 x10 v I9 K9 h
  unfold l_L_law_508 at h
  refine XG.l (fun z9 => x_goto 730 dL_law_508 rfl z9) ?_
  exact (tl_L_law_730 d hc68 h)
noncomputable def l_L_law_449 (n : Nat) (xs : Nat → Int32) (c68 : Mem → Kt → Nat → Int32 → Nat → Nat → Int32 → Option (Int32 × Mem × Kt)) (I : Mem) (K : Kt) (x1 : Nat) (x5 : Int32) (x6 : Nat) (x7 : Nat) (x8 : Int32) (x9 : Int32) (x10 : Int32) : Option (Int32 × Mem × Kt) := l_L_law_730 n xs c68 I K x1 x5 x6 x7 x8 x9 x10
theorem tl_L_law_449 (d : Nat) {n : Nat} {xs : Nat → Int32} {c68 : Mem → Kt → Nat → Int32 → Nat → Nat → Int32 → Option (Int32 × Mem × Kt)} (hc68 : ∀ {I : Mem} {K : Kt} {x1 : Nat} {x5 : Int32} {x6 : Nat} {x7 : Nat} {x8 : Int32} {v : Int32} {I9 : Mem} {K9 : Kt}, c68 I K x1 x5 x6 x7 x8 = some (v, I9, K9) → XG (mL_law (d + 13)) cL_law 0 0 K9 I K 68 [.ref (xE 50), .ref x1, .retAddr 0, .retAddr 0, .retAddr 0, .int x5, .ref x6, .ref x7, .int x8, .retAddr 0, .retAddr 0, .retAddr 0, .retAddr 0, .retAddr 0, .retAddr 0, .retAddr 0, .retAddr 0, .retAddr 0, .retAddr 0] [] (Ro (.inl (some (.int v))) I9 K9) (GsL n xs)) : ∀ {I : Mem} {K : Kt} {x1 : Nat} {x5 : Int32} {x6 : Nat} {x7 : Nat} {x8 : Int32} {x9 : Int32} {x10 : Int32} {v : Int32} {I9 : Mem} {K9 : Kt}, l_L_law_449 n xs c68 I K x1 x5 x6 x7 x8 x9 x10 = some (v, I9, K9) → XG (mL_law (d + 13)) cL_law 0 0 K9 I K 449 [.ref (xE 50), .ref x1, .retAddr 0, .retAddr 0, .retAddr 0, .int x5, .ref x6, .ref x7, .int x8, .int x9, .int x10, .retAddr 0, .retAddr 0, .retAddr 0, .retAddr 0, .retAddr 0, .retAddr 0, .retAddr 0, .retAddr 0] [] (Ro (.inl (some (.int v))) I9 K9) (GsL n xs) := by
  intro I K x1 x5 x6 x7 x8 x9 x10 v I9 K9 h
  unfold l_L_law_449 at h
  refine XG.l (fun z9 => x_goto 730 dL_law_449 rfl z9) ?_
  exact (tl_L_law_730 d hc68 h)
noncomputable def l_L_law_406 (n : Nat) (xs : Nat → Int32) (c68 : Mem → Kt → Nat → Int32 → Nat → Nat → Int32 → Option (Int32 × Mem × Kt)) (I : Mem) (K : Kt) (x1 : Nat) (x5 : Int32) (x6 : Nat) (x7 : Nat) (x8 : Int32) (x9 : Int32) (x10 : Int32) (x12 : Int32) (x16 : Int32) (y0 : Int32) : Option (Int32 × Mem × Kt) := if x16 < 0 then (l_L_law_449 n xs c68 I K x1 x5 x6 x7 x8 x9 x10) else (b1 (cW K x1) fun _ => o2 (f_X9_sell I x1 x12 x16) fun v208 I209 => if v208 = y0 then (b1 (cW K x1) fun _ => o1 (f_X9_stallOf I209 x1 x12) fun v213 => if v213 = x16 then (b1 (cW K x1) fun _ => o1 (f_X9_purchaseDay I209 x1 x12) fun v217 => if v217 = (-1) then (l_L_law_449 n xs c68 I209 K x1 x5 x6 x7 x8 x9 x10) else (some (0, I209, K))) else (some (0, I209, K))) else (some (0, I209, K)))
theorem tl_L_law_406 (d : Nat) {n : Nat} {xs : Nat → Int32} {c68 : Mem → Kt → Nat → Int32 → Nat → Nat → Int32 → Option (Int32 × Mem × Kt)} (hc68 : ∀ {I : Mem} {K : Kt} {x1 : Nat} {x5 : Int32} {x6 : Nat} {x7 : Nat} {x8 : Int32} {v : Int32} {I9 : Mem} {K9 : Kt}, c68 I K x1 x5 x6 x7 x8 = some (v, I9, K9) → XG (mL_law (d + 13)) cL_law 0 0 K9 I K 68 [.ref (xE 50), .ref x1, .retAddr 0, .retAddr 0, .retAddr 0, .int x5, .ref x6, .ref x7, .int x8, .retAddr 0, .retAddr 0, .retAddr 0, .retAddr 0, .retAddr 0, .retAddr 0, .retAddr 0, .retAddr 0, .retAddr 0, .retAddr 0] [] (Ro (.inl (some (.int v))) I9 K9) (GsL n xs)) : ∀ {I : Mem} {K : Kt} {x1 : Nat} {x5 : Int32} {x6 : Nat} {x7 : Nat} {x8 : Int32} {x9 : Int32} {x10 : Int32} {x12 : Int32} {x16 : Int32} {y0 : Int32} {v : Int32} {I9 : Mem} {K9 : Kt}, l_L_law_406 n xs c68 I K x1 x5 x6 x7 x8 x9 x10 x12 x16 y0 = some (v, I9, K9) → XG (mL_law (d + 13)) cL_law 0 0 K9 I K 406 [.ref (xE 50), .ref x1, .retAddr 0, .retAddr 0, .retAddr 0, .int x5, .ref x6, .ref x7, .int x8, .int x9, .int x10, .retAddr 0, .int x12, .retAddr 0, .retAddr 0, .retAddr 0, .int x16, .retAddr 0, .retAddr 0] [.int y0] (Ro (.inl (some (.int v))) I9 K9) (GsL n xs) := by
  intro I K x1 x5 x6 x7 x8 x9 x10 x12 x16 y0 v I9 K9 h
  unfold l_L_law_406 at h
  refine XG.l (fun z9 => x_istore dL_law_406 (Nat.le_of_ble_eq_true rfl) rfl rfl z9) ?_
  refine XG.l (fun z9 => x_iload dL_law_408 rfl z9) ?_
  rcases Classical.em (x16 < 0) with hc | hc
  · have h := ifT hc h
    refine XG.l (fun z9 => x_if_lt 449 dL_law_410 rfl (fun _ => z9) (fun hn => absurd hc hn)) ?_
    exact XG.forget (L' := [.ref (xE 50), .ref x1, .retAddr 0, .retAddr 0, .retAddr 0, .int x5, .ref x6, .ref x7, .int x8, .int x9, .int x10, .retAddr 0, .retAddr 0, .retAddr 0, .retAddr 0, .retAddr 0, .retAddr 0, .retAddr 0, .retAddr 0]) ⟨Or.inl rfl, ⟨Or.inl rfl, ⟨Or.inl rfl, ⟨Or.inl rfl, ⟨Or.inl rfl, ⟨Or.inl rfl, ⟨Or.inl rfl, ⟨Or.inl rfl, ⟨Or.inl rfl, ⟨Or.inl rfl, ⟨Or.inl rfl, ⟨Or.inl rfl, ⟨Or.inr rfl, ⟨Or.inl rfl, ⟨Or.inl rfl, ⟨Or.inl rfl, ⟨Or.inr rfl, ⟨Or.inr rfl, ⟨Or.inl rfl, trivial⟩⟩⟩⟩⟩⟩⟩⟩⟩⟩⟩⟩⟩⟩⟩⟩⟩⟩⟩ (tl_L_law_449 d hc68 h)
  have h := ifF hc h
  refine XG.l (fun z9 => x_if_lt 449 dL_law_410 rfl (fun hn => absurd hn hc) (fun _ => z9)) ?_
  refine XG.l (fun z9 => x_aloadn dL_law_413 rfl z9) ?_
  refine XG.l (fun z9 => x_iload dL_law_414 rfl z9) ?_
  refine XG.l (fun z9 => x_iload dL_law_416 rfl z9) ?_
  obtain ⟨u206, hq207, h⟩ := b1_s h
  obtain ⟨v208, I209, hq210, h⟩ := o2_s h
  have hq := z0 (c_X9_sell (d + 4) (K := K) (I := I) (cW_s hq207) hq210)
  refine XG.l (fun z9 => X.c0 (z_Vcall [.int x12, .int x16] [] (cs_L_327 _) (ci := 7) rfl (LW.o (cW_s hq207)) (dep (show d + 4 + 8 + 1 ≤ (d + 13) from by omega) (Nat.le_of_ble_eq_true rfl)) dL_law_418 rfl rfl (Nat.le_of_ble_eq_true rfl) hq z9)) ?_
  refine XG.l (fun z9 => x_iload dL_law_421 rfl z9) ?_
  rcases Classical.em (v208 = y0) with hc | hc
  · have h := ifT hc h
    refine XG.l (fun z9 => x_icmp_ne 447 dL_law_423 rfl (fun hn => absurd hc hn) (fun _ => z9)) ?_
    refine XG.l (fun z9 => x_aloadn dL_law_426 rfl z9) ?_
    refine XG.l (fun z9 => x_iload dL_law_427 rfl z9) ?_
    obtain ⟨u211, hq212, h⟩ := b1_s h
    obtain ⟨v213, hq214, h⟩ := o1_s h
    have hq := z0 (c_X9_stallOf (d + 3) (K := K) (I := I209) (cW_s hq212) hq214)
    refine XG.l (fun z9 => X.c0 (z_Vcall [.int x12] [] (cs_L_199 _) (ci := 7) rfl (LW.o (cW_s hq212)) (dep (show d + 3 + 9 + 1 ≤ (d + 13) from by omega) (Nat.le_of_ble_eq_true rfl)) dL_law_429 rfl rfl (Nat.le_of_ble_eq_true rfl) hq z9)) ?_
    refine XG.l (fun z9 => x_iload dL_law_432 rfl z9) ?_
    rcases Classical.em (v213 = x16) with hc | hc
    · have h := ifT hc h
      refine XG.l (fun z9 => x_icmp_ne 447 dL_law_434 rfl (fun hn => absurd hc hn) (fun _ => z9)) ?_
      refine XG.l (fun z9 => x_aloadn dL_law_437 rfl z9) ?_
      refine XG.l (fun z9 => x_iload dL_law_438 rfl z9) ?_
      obtain ⟨u215, hq216, h⟩ := b1_s h
      obtain ⟨v217, hq218, h⟩ := o1_s h
      have hq := z0 (c_X9_purchaseDay (d + 3) (K := K) (I := I209) (cW_s hq216) hq218)
      refine XG.l (fun z9 => X.c0 (z_Vcall [.int x12] [] (cs_L_208 _) (ci := 7) rfl (LW.o (cW_s hq216)) (dep (show d + 3 + 9 + 1 ≤ (d + 13) from by omega) (Nat.le_of_ble_eq_true rfl)) dL_law_440 rfl rfl (Nat.le_of_ble_eq_true rfl) hq z9)) ?_
      refine XG.l (fun z9 => x_iconst (-1) dL_law_443 rfl z9) ?_
      rcases Classical.em (v217 = (-1)) with hc | hc
      · have h := ifT hc h
        refine XG.l (fun z9 => x_icmp_eq 449 dL_law_444 rfl (fun _ => z9) (fun hn => absurd hc hn)) ?_
        exact XG.forget (L' := [.ref (xE 50), .ref x1, .retAddr 0, .retAddr 0, .retAddr 0, .int x5, .ref x6, .ref x7, .int x8, .int x9, .int x10, .retAddr 0, .retAddr 0, .retAddr 0, .retAddr 0, .retAddr 0, .retAddr 0, .retAddr 0, .retAddr 0]) ⟨Or.inl rfl, ⟨Or.inl rfl, ⟨Or.inl rfl, ⟨Or.inl rfl, ⟨Or.inl rfl, ⟨Or.inl rfl, ⟨Or.inl rfl, ⟨Or.inl rfl, ⟨Or.inl rfl, ⟨Or.inl rfl, ⟨Or.inl rfl, ⟨Or.inl rfl, ⟨Or.inr rfl, ⟨Or.inl rfl, ⟨Or.inl rfl, ⟨Or.inl rfl, ⟨Or.inr rfl, ⟨Or.inr rfl, ⟨Or.inl rfl, trivial⟩⟩⟩⟩⟩⟩⟩⟩⟩⟩⟩⟩⟩⟩⟩⟩⟩⟩⟩ (tl_L_law_449 d hc68 h)
      have h := ifF hc h
      refine XG.l (fun z9 => x_icmp_eq 449 dL_law_444 rfl (fun hn => absurd hn hc) (fun _ => z9)) ?_
      refine XG.l (fun z9 => x_iconst 0 dL_law_447 rfl z9) ?_
      cases h
      exact XG.z (x_zret rfl rfl dL_law_448 ⟨rfl, rfl, rfl⟩)
    have h := ifF hc h
    refine XG.l (fun z9 => x_icmp_ne 447 dL_law_434 rfl (fun _ => z9) (fun hn => absurd hn hc)) ?_
    refine XG.l (fun z9 => x_iconst 0 dL_law_447 rfl z9) ?_
    cases h
    exact XG.z (x_zret rfl rfl dL_law_448 ⟨rfl, rfl, rfl⟩)
  have h := ifF hc h
  refine XG.l (fun z9 => x_icmp_ne 447 dL_law_423 rfl (fun _ => z9) (fun hn => absurd hn hc)) ?_
  refine XG.l (fun z9 => x_iconst 0 dL_law_447 rfl z9) ?_
  cases h
  exact XG.z (x_zret rfl rfl dL_law_448 ⟨rfl, rfl, rfl⟩)
noncomputable def l_L_law_371 (n : Nat) (xs : Nat → Int32) (c68 : Mem → Kt → Nat → Int32 → Nat → Nat → Int32 → Option (Int32 × Mem × Kt)) (I : Mem) (K : Kt) (x1 : Nat) (x5 : Int32) (x6 : Nat) (x7 : Nat) (x8 : Int32) (x9 : Int32) (x10 : Int32) : Option (Int32 × Mem × Kt) := l_L_law_730 n xs c68 I K x1 x5 x6 x7 x8 x9 x10
theorem tl_L_law_371 (d : Nat) {n : Nat} {xs : Nat → Int32} {c68 : Mem → Kt → Nat → Int32 → Nat → Nat → Int32 → Option (Int32 × Mem × Kt)} (hc68 : ∀ {I : Mem} {K : Kt} {x1 : Nat} {x5 : Int32} {x6 : Nat} {x7 : Nat} {x8 : Int32} {v : Int32} {I9 : Mem} {K9 : Kt}, c68 I K x1 x5 x6 x7 x8 = some (v, I9, K9) → XG (mL_law (d + 13)) cL_law 0 0 K9 I K 68 [.ref (xE 50), .ref x1, .retAddr 0, .retAddr 0, .retAddr 0, .int x5, .ref x6, .ref x7, .int x8, .retAddr 0, .retAddr 0, .retAddr 0, .retAddr 0, .retAddr 0, .retAddr 0, .retAddr 0, .retAddr 0, .retAddr 0, .retAddr 0] [] (Ro (.inl (some (.int v))) I9 K9) (GsL n xs)) : ∀ {I : Mem} {K : Kt} {x1 : Nat} {x5 : Int32} {x6 : Nat} {x7 : Nat} {x8 : Int32} {x9 : Int32} {x10 : Int32} {v : Int32} {I9 : Mem} {K9 : Kt}, l_L_law_371 n xs c68 I K x1 x5 x6 x7 x8 x9 x10 = some (v, I9, K9) → XG (mL_law (d + 13)) cL_law 0 0 K9 I K 371 [.ref (xE 50), .ref x1, .retAddr 0, .retAddr 0, .retAddr 0, .int x5, .ref x6, .ref x7, .int x8, .int x9, .int x10, .retAddr 0, .retAddr 0, .retAddr 0, .retAddr 0, .retAddr 0, .retAddr 0, .retAddr 0, .retAddr 0] [] (Ro (.inl (some (.int v))) I9 K9) (GsL n xs) := by
  intro I K x1 x5 x6 x7 x8 x9 x10 v I9 K9 h
  unfold l_L_law_371 at h
  refine XG.l (fun z9 => x_goto 730 dL_law_371 rfl z9) ?_
  exact (tl_L_law_730 d hc68 h)
noncomputable def l_L_law_316 (n : Nat) (xs : Nat → Int32) (c68 : Mem → Kt → Nat → Int32 → Nat → Nat → Int32 → Option (Int32 × Mem × Kt)) (I : Mem) (K : Kt) (x1 : Nat) (x5 : Int32) (x6 : Nat) (x7 : Nat) (x8 : Int32) (x9 : Int32) (x10 : Int32) (x11 : Int32) (x16 : Int32) (y0 : Int32) : Option (Int32 × Mem × Kt) := if x16 < 0 then (l_L_law_371 n xs c68 I K x1 x5 x6 x7 x8 x9 x10) else (b1 (cW K x1) fun _ => o1 (f_X9_buyObstacle I x1 x11 x16) fun v229 => if v229 = 0 then (b1 (cW K x1) fun _ => o2 (f_X9_buy I x1 x11 x16) fun v233 I234 => if v233 = y0 then (b1 (cW K x1) fun _ => o1 (f_X9_owner I234 x1 x16) fun v238 => if v238 = x11 then (b1 (cW K x1) fun _ => o1 (f_X9_purchasePrice I234 x1 x16) fun v242 => if v242 = y0 then (l_L_law_371 n xs c68 I234 K x1 x5 x6 x7 x8 x9 x10) else (some (0, I234, K))) else (some (0, I234, K))) else (some (0, I234, K))) else (some (0, I, K)))
theorem tl_L_law_316 (d : Nat) {n : Nat} {xs : Nat → Int32} {c68 : Mem → Kt → Nat → Int32 → Nat → Nat → Int32 → Option (Int32 × Mem × Kt)} (hc68 : ∀ {I : Mem} {K : Kt} {x1 : Nat} {x5 : Int32} {x6 : Nat} {x7 : Nat} {x8 : Int32} {v : Int32} {I9 : Mem} {K9 : Kt}, c68 I K x1 x5 x6 x7 x8 = some (v, I9, K9) → XG (mL_law (d + 13)) cL_law 0 0 K9 I K 68 [.ref (xE 50), .ref x1, .retAddr 0, .retAddr 0, .retAddr 0, .int x5, .ref x6, .ref x7, .int x8, .retAddr 0, .retAddr 0, .retAddr 0, .retAddr 0, .retAddr 0, .retAddr 0, .retAddr 0, .retAddr 0, .retAddr 0, .retAddr 0] [] (Ro (.inl (some (.int v))) I9 K9) (GsL n xs)) : ∀ {I : Mem} {K : Kt} {x1 : Nat} {x5 : Int32} {x6 : Nat} {x7 : Nat} {x8 : Int32} {x9 : Int32} {x10 : Int32} {x11 : Int32} {x16 : Int32} {y0 : Int32} {v : Int32} {I9 : Mem} {K9 : Kt}, l_L_law_316 n xs c68 I K x1 x5 x6 x7 x8 x9 x10 x11 x16 y0 = some (v, I9, K9) → XG (mL_law (d + 13)) cL_law 0 0 K9 I K 316 [.ref (xE 50), .ref x1, .retAddr 0, .retAddr 0, .retAddr 0, .int x5, .ref x6, .ref x7, .int x8, .int x9, .int x10, .int x11, .retAddr 0, .retAddr 0, .retAddr 0, .retAddr 0, .int x16, .retAddr 0, .retAddr 0] [.int y0] (Ro (.inl (some (.int v))) I9 K9) (GsL n xs) := by
  intro I K x1 x5 x6 x7 x8 x9 x10 x11 x16 y0 v I9 K9 h
  unfold l_L_law_316 at h
  refine XG.l (fun z9 => x_istore dL_law_316 (Nat.le_of_ble_eq_true rfl) rfl rfl z9) ?_
  refine XG.l (fun z9 => x_iload dL_law_318 rfl z9) ?_
  rcases Classical.em (x16 < 0) with hc | hc
  · have h := ifT hc h
    refine XG.l (fun z9 => x_if_lt 371 dL_law_320 rfl (fun _ => z9) (fun hn => absurd hc hn)) ?_
    exact XG.forget (L' := [.ref (xE 50), .ref x1, .retAddr 0, .retAddr 0, .retAddr 0, .int x5, .ref x6, .ref x7, .int x8, .int x9, .int x10, .retAddr 0, .retAddr 0, .retAddr 0, .retAddr 0, .retAddr 0, .retAddr 0, .retAddr 0, .retAddr 0]) ⟨Or.inl rfl, ⟨Or.inl rfl, ⟨Or.inl rfl, ⟨Or.inl rfl, ⟨Or.inl rfl, ⟨Or.inl rfl, ⟨Or.inl rfl, ⟨Or.inl rfl, ⟨Or.inl rfl, ⟨Or.inl rfl, ⟨Or.inl rfl, ⟨Or.inr rfl, ⟨Or.inl rfl, ⟨Or.inl rfl, ⟨Or.inl rfl, ⟨Or.inl rfl, ⟨Or.inr rfl, ⟨Or.inr rfl, ⟨Or.inl rfl, trivial⟩⟩⟩⟩⟩⟩⟩⟩⟩⟩⟩⟩⟩⟩⟩⟩⟩⟩⟩ (tl_L_law_371 d hc68 h)
  have h := ifF hc h
  refine XG.l (fun z9 => x_if_lt 371 dL_law_320 rfl (fun hn => absurd hn hc) (fun _ => z9)) ?_
  refine XG.l (fun z9 => x_aloadn dL_law_323 rfl z9) ?_
  refine XG.l (fun z9 => x_iload dL_law_324 rfl z9) ?_
  refine XG.l (fun z9 => x_iload dL_law_326 rfl z9) ?_
  obtain ⟨u227, hq228, h⟩ := b1_s h
  obtain ⟨v229, hq230, h⟩ := o1_s h
  have hq := z0 (c_X9_buyObstacle (d + 4) (K := K) (I := I) (cW_s hq228) hq230)
  refine XG.l (fun z9 => X.c0 (z_Vcall [.int x11, .int x16] [] (cs_L_315 _) (ci := 7) rfl (LW.o (cW_s hq228)) (dep (show d + 4 + 8 + 1 ≤ (d + 13) from by omega) (Nat.le_of_ble_eq_true rfl)) dL_law_328 rfl rfl (Nat.le_of_ble_eq_true rfl) hq z9)) ?_
  rcases Classical.em (v229 = 0) with hc | hc
  · have h := ifT hc h
    refine XG.l (fun z9 => x_if_ne 369 dL_law_331 rfl (fun hn => absurd hc hn) (fun _ => z9)) ?_
    refine XG.l (fun z9 => x_aloadn dL_law_334 rfl z9) ?_
    refine XG.l (fun z9 => x_iload dL_law_335 rfl z9) ?_
    refine XG.l (fun z9 => x_iload dL_law_337 rfl z9) ?_
    obtain ⟨u231, hq232, h⟩ := b1_s h
    obtain ⟨v233, I234, hq235, h⟩ := o2_s h
    have hq := z0 (c_X9_buy (d + 4) (K := K) (I := I) (cW_s hq232) hq235)
    refine XG.l (fun z9 => X.c0 (z_Vcall [.int x11, .int x16] [] (cs_L_318 _) (ci := 7) rfl (LW.o (cW_s hq232)) (dep (show d + 4 + 8 + 1 ≤ (d + 13) from by omega) (Nat.le_of_ble_eq_true rfl)) dL_law_339 rfl rfl (Nat.le_of_ble_eq_true rfl) hq z9)) ?_
    refine XG.l (fun z9 => x_iload dL_law_342 rfl z9) ?_
    rcases Classical.em (v233 = y0) with hc | hc
    · have h := ifT hc h
      refine XG.l (fun z9 => x_icmp_ne 369 dL_law_344 rfl (fun hn => absurd hc hn) (fun _ => z9)) ?_
      refine XG.l (fun z9 => x_aloadn dL_law_347 rfl z9) ?_
      refine XG.l (fun z9 => x_iload dL_law_348 rfl z9) ?_
      obtain ⟨u236, hq237, h⟩ := b1_s h
      obtain ⟨v238, hq239, h⟩ := o1_s h
      have hq := z0 (c_X9_owner (d + 3) (K := K) (I := I234) (cW_s hq237) hq239)
      refine XG.l (fun z9 => X.c0 (z_Vcall [.int x16] [] (cs_L_197 _) (ci := 7) rfl (LW.o (cW_s hq237)) (dep (show d + 3 + 9 + 1 ≤ (d + 13) from by omega) (Nat.le_of_ble_eq_true rfl)) dL_law_350 rfl rfl (Nat.le_of_ble_eq_true rfl) hq z9)) ?_
      refine XG.l (fun z9 => x_iload dL_law_353 rfl z9) ?_
      rcases Classical.em (v238 = x11) with hc | hc
      · have h := ifT hc h
        refine XG.l (fun z9 => x_icmp_ne 369 dL_law_355 rfl (fun hn => absurd hc hn) (fun _ => z9)) ?_
        refine XG.l (fun z9 => x_aloadn dL_law_358 rfl z9) ?_
        refine XG.l (fun z9 => x_iload dL_law_359 rfl z9) ?_
        obtain ⟨u240, hq241, h⟩ := b1_s h
        obtain ⟨v242, hq243, h⟩ := o1_s h
        have hq := z0 (c_X9_purchasePrice (d + 3) (K := K) (I := I234) (cW_s hq241) hq243)
        refine XG.l (fun z9 => X.c0 (z_Vcall [.int x16] [] (cs_L_214 _) (ci := 7) rfl (LW.o (cW_s hq241)) (dep (show d + 3 + 9 + 1 ≤ (d + 13) from by omega) (Nat.le_of_ble_eq_true rfl)) dL_law_361 rfl rfl (Nat.le_of_ble_eq_true rfl) hq z9)) ?_
        refine XG.l (fun z9 => x_iload dL_law_364 rfl z9) ?_
        rcases Classical.em (v242 = y0) with hc | hc
        · have h := ifT hc h
          refine XG.l (fun z9 => x_icmp_eq 371 dL_law_366 rfl (fun _ => z9) (fun hn => absurd hc hn)) ?_
          exact XG.forget (L' := [.ref (xE 50), .ref x1, .retAddr 0, .retAddr 0, .retAddr 0, .int x5, .ref x6, .ref x7, .int x8, .int x9, .int x10, .retAddr 0, .retAddr 0, .retAddr 0, .retAddr 0, .retAddr 0, .retAddr 0, .retAddr 0, .retAddr 0]) ⟨Or.inl rfl, ⟨Or.inl rfl, ⟨Or.inl rfl, ⟨Or.inl rfl, ⟨Or.inl rfl, ⟨Or.inl rfl, ⟨Or.inl rfl, ⟨Or.inl rfl, ⟨Or.inl rfl, ⟨Or.inl rfl, ⟨Or.inl rfl, ⟨Or.inr rfl, ⟨Or.inl rfl, ⟨Or.inl rfl, ⟨Or.inl rfl, ⟨Or.inl rfl, ⟨Or.inr rfl, ⟨Or.inr rfl, ⟨Or.inl rfl, trivial⟩⟩⟩⟩⟩⟩⟩⟩⟩⟩⟩⟩⟩⟩⟩⟩⟩⟩⟩ (tl_L_law_371 d hc68 h)
        have h := ifF hc h
        refine XG.l (fun z9 => x_icmp_eq 371 dL_law_366 rfl (fun hn => absurd hn hc) (fun _ => z9)) ?_
        refine XG.l (fun z9 => x_iconst 0 dL_law_369 rfl z9) ?_
        cases h
        exact XG.z (x_zret rfl rfl dL_law_370 ⟨rfl, rfl, rfl⟩)
      have h := ifF hc h
      refine XG.l (fun z9 => x_icmp_ne 369 dL_law_355 rfl (fun _ => z9) (fun hn => absurd hn hc)) ?_
      refine XG.l (fun z9 => x_iconst 0 dL_law_369 rfl z9) ?_
      cases h
      exact XG.z (x_zret rfl rfl dL_law_370 ⟨rfl, rfl, rfl⟩)
    have h := ifF hc h
    refine XG.l (fun z9 => x_icmp_ne 369 dL_law_344 rfl (fun _ => z9) (fun hn => absurd hn hc)) ?_
    refine XG.l (fun z9 => x_iconst 0 dL_law_369 rfl z9) ?_
    cases h
    exact XG.z (x_zret rfl rfl dL_law_370 ⟨rfl, rfl, rfl⟩)
  have h := ifF hc h
  refine XG.l (fun z9 => x_if_ne 369 dL_law_331 rfl (fun _ => z9) (fun hn => absurd hn hc)) ?_
  refine XG.l (fun z9 => x_iconst 0 dL_law_369 rfl z9) ?_
  cases h
  exact XG.z (x_zret rfl rfl dL_law_370 ⟨rfl, rfl, rfl⟩)
noncomputable def l_L_law_283 (n : Nat) (xs : Nat → Int32) (c68 : Mem → Kt → Nat → Int32 → Nat → Nat → Int32 → Option (Int32 × Mem × Kt)) (I : Mem) (K : Kt) (x1 : Nat) (x5 : Int32) (x6 : Nat) (x7 : Nat) (x8 : Int32) (x9 : Int32) (x10 : Int32) : Option (Int32 × Mem × Kt) := l_L_law_730 n xs c68 I K x1 x5 x6 x7 x8 x9 x10
theorem tl_L_law_283 (d : Nat) {n : Nat} {xs : Nat → Int32} {c68 : Mem → Kt → Nat → Int32 → Nat → Nat → Int32 → Option (Int32 × Mem × Kt)} (hc68 : ∀ {I : Mem} {K : Kt} {x1 : Nat} {x5 : Int32} {x6 : Nat} {x7 : Nat} {x8 : Int32} {v : Int32} {I9 : Mem} {K9 : Kt}, c68 I K x1 x5 x6 x7 x8 = some (v, I9, K9) → XG (mL_law (d + 13)) cL_law 0 0 K9 I K 68 [.ref (xE 50), .ref x1, .retAddr 0, .retAddr 0, .retAddr 0, .int x5, .ref x6, .ref x7, .int x8, .retAddr 0, .retAddr 0, .retAddr 0, .retAddr 0, .retAddr 0, .retAddr 0, .retAddr 0, .retAddr 0, .retAddr 0, .retAddr 0] [] (Ro (.inl (some (.int v))) I9 K9) (GsL n xs)) : ∀ {I : Mem} {K : Kt} {x1 : Nat} {x5 : Int32} {x6 : Nat} {x7 : Nat} {x8 : Int32} {x9 : Int32} {x10 : Int32} {v : Int32} {I9 : Mem} {K9 : Kt}, l_L_law_283 n xs c68 I K x1 x5 x6 x7 x8 x9 x10 = some (v, I9, K9) → XG (mL_law (d + 13)) cL_law 0 0 K9 I K 283 [.ref (xE 50), .ref x1, .retAddr 0, .retAddr 0, .retAddr 0, .int x5, .ref x6, .ref x7, .int x8, .int x9, .int x10, .retAddr 0, .retAddr 0, .retAddr 0, .retAddr 0, .retAddr 0, .retAddr 0, .retAddr 0, .retAddr 0] [] (Ro (.inl (some (.int v))) I9 K9) (GsL n xs) := by
  intro I K x1 x5 x6 x7 x8 x9 x10 v I9 K9 h
  unfold l_L_law_283 at h
  refine XG.l (fun z9 => x_goto 730 dL_law_283 rfl z9) ?_
  exact (tl_L_law_730 d hc68 h)
noncomputable def l_L_law_68 (n : Nat) (xs : Nat → Int32) (m9 : Nat) (I : Mem) (K : Kt) (x1 : Nat) (x5 : Int32) (x6 : Nat) (x7 : Nat) (x8 : Int32) : Option (Int32 × Mem × Kt) := match m9 with
  | 0 => none
  | m9 + 1 => if 20 ≤ x8 then (b1 (cW K x1) fun _ => o1 (f_X9_imbalance I x1) fun v49 => if v49 = 0 then (some (1, I, K)) else (some (0, I, K))) else (b1 (f_L_cell n xs I K (10 + x8)) fun v51 => b1 (cW K x1) fun _ => o1 (f_X9_stallCount I x1) fun v55 => b1 (nz v55) fun _ => b2 (f_L_sees I K x1 x6) fun I59 K60 => b1 (cW K60 x1) fun _ => o2 (f_X9_saveState I59 x1 (v51 &&& 1)) fun v64 I65 => b1 (cA K60 103 x6) fun m68 => b1 (ix 0 m68) fun j67 => if (lg_cmp (v64 : Int32).toInt64 (kJ K60 x6 j67)) = 0 then (b1 (f_L_all I65 K60 x1) fun v71 => if v71 = x5 then (b1 (cW K60 x1) fun _ => o1 (f_X9_imbalance I65 x1) fun v75 => if v75 = 0 then (if 5 ≤ ((ush v51 1) &&& 15) then (if 7 ≤ ((ush v51 1) &&& 15) then (if 9 ≤ ((ush v51 1) &&& 15) then (if 11 ≤ ((ush v51 1) &&& 15) then (if 13 ≤ ((ush v51 1) &&& 15) then (if ((ush v51 1) &&& 15) = 13 then (b1 (cW K60 x1) fun _ => o2 (f_X9_setLimit I65 x1 ((ush v51 5) &&& 1) (1 + ((ush v51 9) &&& 7))) fun v137 I138 => b1 (cA K60 103 x6) fun m141 => b1 (ix (20 + ((ush v51 5) &&& 1)) m141) fun j140 => if (lg_cmp (v137 : Int32).toInt64 (kJ K60 x6 j140)) = 0 then (b1 (cW K60 x1) fun _ => o1 (f_X9_shoppingLimit I138 x1 ((ush v51 5) &&& 1)) fun v146 => if v146 = (1 + ((ush v51 9) &&& 7)) then (l_L_law_730 n xs (l_L_law_68 n xs m9) I138 K60 x1 x5 x6 x7 x8 v51 (v51 &&& 1)) else (some (0, I138, K60))) else (some (0, I138, K60))) else (if ((ush v51 1) &&& 15) = 14 then (b1 (cW K60 x1) fun _ => o1 (f_X9_margin I65 x1 (((ush v51 8) &&& 1) - ((ush v51 8) &&& 1) / v55 * v55)) fun v124 => b1 (cW K60 x1) fun _ => o2 (f_X9_setMargin I65 x1 (((ush v51 8) &&& 1) - ((ush v51 8) &&& 1) / v55 * v55) (1 + ((ush v51 9) &&& 7))) fun v128 I129 => if v128 = v124 then (b1 (cW K60 x1) fun _ => o1 (f_X9_margin I129 x1 (((ush v51 8) &&& 1) - ((ush v51 8) &&& 1) / v55 * v55)) fun v133 => if v133 = (1 + ((ush v51 9) &&& 7)) then (l_L_law_730 n xs (l_L_law_68 n xs m9) I129 K60 x1 x5 x6 x7 x8 v51 (v51 &&& 1)) else (some (0, I129, K60))) else (some (0, I129, K60))) else (b1 (cW K60 x1) fun _ => o1 (f_X9_daysUntilBirthday I65 x1 ((ush v51 5) &&& 1)) fun v79 => if v79 ≤ 0 then (l_L_law_730 n xs (l_L_law_68 n xs m9) I65 K60 x1 x5 x6 x7 x8 v51 (v51 &&& 1)) else (b1 (cW K60 x1) fun _ => o2 (f_X9_advance I65 x1 v79) fun v107 I108 => if v107 < 0 then (some (0, I108, K60)) else (b1 (cW K60 x1) fun _ => o1 (f_X9_daysUntilBirthday I108 x1 ((ush v51 5) &&& 1)) fun v112 => if v112 = 0 then (b1 (cW K60 x1) fun _ => o1 (f_X9_dayOfYear I108 x1) fun v116 => b1 (cW K60 x1) fun _ => o1 (f_X9_birthday I108 x1 ((ush v51 5) &&& 1)) fun v120 => if v116 = v120 then (l_L_law_730 n xs (l_L_law_68 n xs m9) I108 K60 x1 x5 x6 x7 x8 v51 (v51 &&& 1)) else (some (0, I108, K60))) else (some (0, I108, K60))))))) else (b1 (cW K60 x1) fun _ => o1 (f_X9_bestGrant I65 x1 ((ush v51 5) &&& 1)) fun v150 => if 0 ≤ v150 then (b1 (cW K60 x1) fun _ => o1 (f_X9_value I65 x1 v150) fun v154 => l_L_law_541 n xs (l_L_law_68 n xs m9) I65 K60 x1 x5 x6 x7 x8 v51 (v51 &&& 1) ((ush v51 5) &&& 1) v150 v154) else (l_L_law_541 n xs (l_L_law_68 n xs m9) I65 K60 x1 x5 x6 x7 x8 v51 (v51 &&& 1) ((ush v51 5) &&& 1) v150 0))) else (b1 (cW K60 x1) fun _ => o1 (f_X9_refund I65 x1 ((ush v51 6) &&& 3)) fun v179 => b1 (cW K60 x1) fun _ => o1 (f_X9_returnObstacle I65 x1 ((ush v51 6) &&& 3)) fun v183 => if v183 = 0 then (b1 (cW K60 x1) fun _ => o2 (f_X9_returnWish I65 x1 ((ush v51 6) &&& 3)) fun v187 I188 => if v187 = v179 then (b1 (cW K60 x1) fun _ => o1 (f_X9_owner I188 x1 ((ush v51 6) &&& 3)) fun v192 => if v192 = (-1) then (b1 (cW K60 x1) fun _ => o1 (f_X9_stallOf I188 x1 ((ush v51 6) &&& 3)) fun v196 => if 0 ≤ v196 then (l_L_law_508 n xs (l_L_law_68 n xs m9) I188 K60 x1 x5 x6 x7 x8 v51 (v51 &&& 1)) else (some (0, I188, K60))) else (some (0, I188, K60))) else (some (0, I188, K60))) else (l_L_law_508 n xs (l_L_law_68 n xs m9) I65 K60 x1 x5 x6 x7 x8 v51 (v51 &&& 1)))) else (b1 (cW K60 x1) fun _ => o1 (f_X9_bestOffer I65 x1 ((ush v51 6) &&& 3)) fun v200 => if 0 ≤ v200 then (b1 (cW K60 x1) fun _ => o1 (f_X9_offer I65 x1 ((ush v51 6) &&& 3) v200) fun v204 => l_L_law_406 n xs (l_L_law_68 n xs m9) I65 K60 x1 x5 x6 x7 x8 v51 (v51 &&& 1) ((ush v51 6) &&& 3) v200 v204) else (l_L_law_406 n xs (l_L_law_68 n xs m9) I65 K60 x1 x5 x6 x7 x8 v51 (v51 &&& 1) ((ush v51 6) &&& 3) v200 0))) else (b1 (cW K60 x1) fun _ => o1 (f_X9_cheapestWish I65 x1 ((ush v51 5) &&& 1)) fun v221 => if 0 ≤ v221 then (b1 (cW K60 x1) fun _ => o1 (f_X9_price I65 x1 v221) fun v225 => l_L_law_316 n xs (l_L_law_68 n xs m9) I65 K60 x1 x5 x6 x7 x8 v51 (v51 &&& 1) ((ush v51 5) &&& 1) v221 v225) else (l_L_law_316 n xs (l_L_law_68 n xs m9) I65 K60 x1 x5 x6 x7 x8 v51 (v51 &&& 1) ((ush v51 5) &&& 1) v221 0))) else (b1 (cW K60 x1) fun _ => o2 (f_X9_coinsAfter I65 x1 ((ush v51 5) &&& 1) (1 + ((ush v51 9) &&& 7))) fun v246 I247 => b1 (cW K60 x1) fun _ => o2 (f_X9_valueAfter I247 x1 ((ush v51 6) &&& 3) (1 + ((ush v51 9) &&& 7))) fun v251 I252 => b1 (cW K60 x1) fun _ => o1 (f_X9_isGranted I252 x1 ((ush v51 6) &&& 3)) fun v256 => b1 (cW K60 x1) fun _ => o2 (f_X9_advance I252 x1 (1 + ((ush v51 9) &&& 7))) fun v260 I261 => if v260 < 0 then (some (0, I261, K60)) else (b1 (cW K60 x1) fun _ => o1 (f_X9_coins I261 x1 ((ush v51 5) &&& 1)) fun v265 => if v265 = v246 then (b1 (cW K60 x1) fun _ => o1 (f_X9_value I261 x1 ((ush v51 6) &&& 3)) fun v269 => if v269 = v251 then (b1 (cW K60 x1) fun _ => o1 (f_X9_wear I261 x1 ((ush v51 6) &&& 3)) fun v273 => b1 (cA K60 103 x6) fun m276 => b1 (ix (10 + ((ush v51 6) &&& 3)) m276) fun j275 => if (lg_cmp (v273 : Int32).toInt64 (kJ K60 x6 j275)) < 0 then (some (0, I261, K60)) else (if v256 = 0 then (l_L_law_283 n xs (l_L_law_68 n xs m9) I261 K60 x1 x5 x6 x7 x8 v51 (v51 &&& 1)) else (b1 (cW K60 x1) fun _ => o1 (f_X9_isGranted I261 x1 ((ush v51 6) &&& 3)) fun v281 => if v281 = 0 then (some (0, I261, K60)) else (l_L_law_283 n xs (l_L_law_68 n xs m9) I261 K60 x1 x5 x6 x7 x8 v51 (v51 &&& 1))))) else (some (0, I261, K60))) else (some (0, I261, K60))))) else (some (0, I65, K60))) else (some (0, I65, K60))) else (some (0, I65, K60)))
theorem tl_L_law_68 (d : Nat) {n : Nat} {xs : Nat → Int32} (m9 : Nat) : ∀ {I : Mem} {K : Kt} {x1 : Nat} {x5 : Int32} {x6 : Nat} {x7 : Nat} {x8 : Int32} {v : Int32} {I9 : Mem} {K9 : Kt}, l_L_law_68 n xs m9 I K x1 x5 x6 x7 x8 = some (v, I9, K9) → XG (mL_law (d + 13)) cL_law 0 0 K9 I K 68 [.ref (xE 50), .ref x1, .retAddr 0, .retAddr 0, .retAddr 0, .int x5, .ref x6, .ref x7, .int x8, .retAddr 0, .retAddr 0, .retAddr 0, .retAddr 0, .retAddr 0, .retAddr 0, .retAddr 0, .retAddr 0, .retAddr 0, .retAddr 0] [] (Ro (.inl (some (.int v))) I9 K9) (GsL n xs) := by
  induction m9 with
  | zero =>
    intro I K x1 x5 x6 x7 x8 v I9 K9 h
    cases h
  | succ m9 ih =>
    intro I K x1 x5 x6 x7 x8 v I9 K9 h
    unfold l_L_law_68 at h
    refine XG.l (fun z9 => x_iload dL_law_68 rfl z9) ?_
    refine XG.l (fun z9 => x_bipush 20 dL_law_70 (by decide) z9) ?_
    rcases Classical.em (20 ≤ x8) with hc | hc
    · have h := ifT hc h
      refine XG.l (fun z9 => x_icmp_ge 806 dL_law_72 rfl (fun _ => z9) (fun hn => absurd hc hn)) ?_
      refine XG.l (fun z9 => x_aloadn dL_law_806 rfl z9) ?_
      obtain ⟨u47, hq48, h⟩ := b1_s h
      obtain ⟨v49, hq50, h⟩ := o1_s h
      have hq := z0 (c_X9_imbalance (d + 5) (K := K) (I := I) (cW_s hq48) hq50)
      refine XG.l (fun z9 => X.c0 (z_Vcall [] [] (cs_L_268 _) (ci := 7) rfl (LW.o (cW_s hq48)) (dep (show d + 5 + 7 + 1 ≤ (d + 13) from by omega) (Nat.le_of_ble_eq_true rfl)) dL_law_807 rfl rfl (Nat.le_of_ble_eq_true rfl) hq z9)) ?_
      rcases Classical.em (v49 = 0) with hc | hc
      · have h := ifT hc h
        refine XG.l (fun z9 => x_if_ne 817 dL_law_810 rfl (fun hn => absurd hc hn) (fun _ => z9)) ?_
        refine XG.l (fun z9 => x_iconst 1 dL_law_813 rfl z9) ?_
        refine XG.l (fun z9 => x_goto 818 dL_law_814 rfl z9) ?_
        cases h
        exact XG.z (x_zret rfl rfl dL_law_818 ⟨rfl, rfl, rfl⟩)
      have h := ifF hc h
      refine XG.l (fun z9 => x_if_ne 817 dL_law_810 rfl (fun _ => z9) (fun hn => absurd hn hc)) ?_
      refine XG.l (fun z9 => x_iconst 0 dL_law_817 rfl z9) ?_
      cases h
      exact XG.z (x_zret rfl rfl dL_law_818 ⟨rfl, rfl, rfl⟩)
    have h := ifF hc h
    refine XG.l (fun z9 => x_icmp_ge 806 dL_law_72 rfl (fun hn => absurd hn hc) (fun _ => z9)) ?_
    refine XG.l (fun z9 => x_aloadn dL_law_75 rfl z9) ?_
    refine XG.l (fun z9 => x_bipush 10 dL_law_76 (by decide) z9) ?_
    refine XG.l (fun z9 => x_iload dL_law_78 rfl z9) ?_
    refine XG.l (fun z9 => x_iadd dL_law_80 z9) ?_
    obtain ⟨v51, hq52, h⟩ := b1_s h
    have hq := c_L_cell (d + 12) hq52
    refine XG.l (fun z9 => X.c0 (z_SScall [.ref (xE 50), .int (10 + x8)] [] (cs_L_28 _) rfl (dep (show d + 12 + 0 + 1 ≤ (d + 13) from by omega) (Nat.le_of_ble_eq_true rfl)) dL_law_81 rfl rfl (Nat.le_of_ble_eq_true rfl) hq z9)) ?_
    refine XG.l (fun z9 => x_istore dL_law_84 (Nat.le_of_ble_eq_true rfl) rfl rfl z9) ?_
    refine XG.l (fun z9 => x_iload dL_law_86 rfl z9) ?_
    refine XG.l (fun z9 => x_iconst 1 dL_law_88 rfl z9) ?_
    refine XG.l (fun z9 => x_iand dL_law_89 z9) ?_
    refine XG.l (fun z9 => x_istore dL_law_90 (Nat.le_of_ble_eq_true rfl) rfl rfl z9) ?_
    refine XG.l (fun z9 => x_iload dL_law_92 rfl z9) ?_
    refine XG.l (fun z9 => x_iconst 5 dL_law_94 rfl z9) ?_
    refine XG.l (fun z9 => x_iushr dL_law_95 z9) ?_
    refine XG.l (fun z9 => x_iconst 1 dL_law_96 rfl z9) ?_
    refine XG.l (fun z9 => x_iand dL_law_97 z9) ?_
    refine XG.l (fun z9 => x_istore dL_law_98 (Nat.le_of_ble_eq_true rfl) rfl rfl z9) ?_
    refine XG.l (fun z9 => x_iload dL_law_100 rfl z9) ?_
    refine XG.l (fun z9 => x_bipush 6 dL_law_102 (by decide) z9) ?_
    refine XG.l (fun z9 => x_iushr dL_law_104 z9) ?_
    refine XG.l (fun z9 => x_iconst 3 dL_law_105 rfl z9) ?_
    refine XG.l (fun z9 => x_iand dL_law_106 z9) ?_
    refine XG.l (fun z9 => x_istore dL_law_107 (Nat.le_of_ble_eq_true rfl) rfl rfl z9) ?_
    refine XG.l (fun z9 => x_iload dL_law_109 rfl z9) ?_
    refine XG.l (fun z9 => x_bipush 8 dL_law_111 (by decide) z9) ?_
    refine XG.l (fun z9 => x_iushr dL_law_113 z9) ?_
    refine XG.l (fun z9 => x_iconst 1 dL_law_114 rfl z9) ?_
    refine XG.l (fun z9 => x_iand dL_law_115 z9) ?_
    refine XG.l (fun z9 => x_aloadn dL_law_116 rfl z9) ?_
    obtain ⟨u53, hq54, h⟩ := b1_s h
    obtain ⟨v55, hq56, h⟩ := o1_s h
    have hq := z0 (c_X9_stallCount (d + 5) (K := K) (I := I) (cW_s hq54) hq56)
    refine XG.l (fun z9 => X.c0 (z_Vcall [] [.int ((ush v51 8) &&& 1)] (cs_L_291 _) (ci := 7) rfl (LW.o (cW_s hq54)) (dep (show d + 5 + 7 + 1 ≤ (d + 13) from by omega) (Nat.le_of_ble_eq_true rfl)) dL_law_117 rfl rfl (Nat.le_of_ble_eq_true rfl) hq z9)) ?_
    obtain ⟨u57, hq58, h⟩ := b1_s h
    refine XG.l (fun z9 => x_irem dL_law_120 (nz_s hq58) z9) ?_
    refine XG.l (fun z9 => x_istore dL_law_121 (Nat.le_of_ble_eq_true rfl) rfl rfl z9) ?_
    refine XG.l (fun z9 => x_iconst 1 dL_law_123 rfl z9) ?_
    refine XG.l (fun z9 => x_iload dL_law_124 rfl z9) ?_
    refine XG.l (fun z9 => x_bipush 9 dL_law_126 (by decide) z9) ?_
    refine XG.l (fun z9 => x_iushr dL_law_128 z9) ?_
    refine XG.l (fun z9 => x_bipush 7 dL_law_129 (by decide) z9) ?_
    refine XG.l (fun z9 => x_iand dL_law_131 z9) ?_
    refine XG.l (fun z9 => x_iadd dL_law_132 z9) ?_
    refine XG.l (fun z9 => x_istore dL_law_133 (Nat.le_of_ble_eq_true rfl) rfl rfl z9) ?_
    refine XG.l (fun z9 => x_aloadn dL_law_135 rfl z9) ?_
    refine XG.l (fun z9 => x_aload dL_law_136 rfl z9) ?_
    obtain ⟨I59, K60, hq61, h⟩ := b2_s h
    have hq := c_L_sees (d + 2) hq61
    refine XG.call hq.1 ?_ (fun z9 => z_Scall [.ref x1, .ref x6] [] (cs_L_294 _) (dep (show d + 2 + 10 + 1 ≤ (d + 13) from by omega) (Nat.le_of_ble_eq_true rfl)) dL_law_138 rfl rfl (Nat.le_of_ble_eq_true rfl) hq.2 z9)
    refine XG.l (fun z9 => x_aloadn dL_law_141 rfl z9) ?_
    refine XG.l (fun z9 => x_iload dL_law_142 rfl z9) ?_
    obtain ⟨u62, hq63, h⟩ := b1_s h
    obtain ⟨v64, I65, hq66, h⟩ := o2_s h
    have hq := z0 (c_X9_saveState (d + 5) (K := K60) (I := I59) (cW_s hq63) hq66)
    refine XG.l (fun z9 => X.c0 (z_Vcall [.int (v51 &&& 1)] [] (cs_L_298 _) (ci := 7) rfl (LW.o (cW_s hq63)) (dep (show d + 5 + 7 + 1 ≤ (d + 13) from by omega) (Nat.le_of_ble_eq_true rfl)) dL_law_144 rfl rfl (Nat.le_of_ble_eq_true rfl) hq z9)) ?_
    refine XG.l (fun z9 => x_i2l dL_law_147 z9) ?_
    refine XG.l (fun z9 => x_aload dL_law_148 rfl z9) ?_
    refine XG.l (fun z9 => x_iconst 0 dL_law_150 rfl z9) ?_
    obtain ⟨m68, hq69, h⟩ := b1_s h
    obtain ⟨j67, hq70, h⟩ := b1_s h
    refine XG.l (fun z9 => x_lald (cA_s hq69).1 (cA_s hq69).2 (ix_s hq70).1 (ix_s hq70).2 dL_law_151 z9) ?_
    refine XG.l (fun z9 => x_lcmp dL_law_152 z9) ?_
    rcases Classical.em ((lg_cmp (v64 : Int32).toInt64 (kJ K60 x6 j67)) = 0) with hc | hc
    · have h := ifT hc h
      refine XG.l (fun z9 => x_if_ne 172 dL_law_153 rfl (fun hn => absurd hc hn) (fun _ => z9)) ?_
      refine XG.l (fun z9 => x_aloadn dL_law_156 rfl z9) ?_
      obtain ⟨v71, hq72, h⟩ := b1_s h
      have hq := c_L_all (d + 2) hq72
      refine XG.l (fun z9 => X.c0 (z_Scall [.ref x1] [] (cs_L_287 _) (dep (show d + 2 + 10 + 1 ≤ (d + 13) from by omega) (Nat.le_of_ble_eq_true rfl)) dL_law_157 rfl rfl (Nat.le_of_ble_eq_true rfl) hq z9)) ?_
      refine XG.l (fun z9 => x_iload dL_law_160 rfl z9) ?_
      rcases Classical.em (v71 = x5) with hc | hc
      · have h := ifT hc h
        refine XG.l (fun z9 => x_icmp_ne 172 dL_law_162 rfl (fun hn => absurd hc hn) (fun _ => z9)) ?_
        refine XG.l (fun z9 => x_aloadn dL_law_165 rfl z9) ?_
        obtain ⟨u73, hq74, h⟩ := b1_s h
        obtain ⟨v75, hq76, h⟩ := o1_s h
        have hq := z0 (c_X9_imbalance (d + 5) (K := K60) (I := I65) (cW_s hq74) hq76)
        refine XG.l (fun z9 => X.c0 (z_Vcall [] [] (cs_L_268 _) (ci := 7) rfl (LW.o (cW_s hq74)) (dep (show d + 5 + 7 + 1 ≤ (d + 13) from by omega) (Nat.le_of_ble_eq_true rfl)) dL_law_166 rfl rfl (Nat.le_of_ble_eq_true rfl) hq z9)) ?_
        rcases Classical.em (v75 = 0) with hc | hc
        · have h := ifT hc h
          refine XG.l (fun z9 => x_if_eq 174 dL_law_169 rfl (fun _ => z9) (fun hn => absurd hc hn)) ?_
          refine XG.l (fun z9 => x_iload dL_law_174 rfl z9) ?_
          refine XG.l (fun z9 => x_iconst 1 dL_law_176 rfl z9) ?_
          refine XG.l (fun z9 => x_iushr dL_law_177 z9) ?_
          refine XG.l (fun z9 => x_bipush 15 dL_law_178 (by decide) z9) ?_
          refine XG.l (fun z9 => x_iand dL_law_180 z9) ?_
          refine XG.l (fun z9 => x_istore dL_law_181 (Nat.le_of_ble_eq_true rfl) rfl rfl z9) ?_
          refine XG.l (fun z9 => x_iload dL_law_183 rfl z9) ?_
          refine XG.l (fun z9 => x_iconst 5 dL_law_185 rfl z9) ?_
          rcases Classical.em (5 ≤ ((ush v51 1) &&& 15)) with hc | hc
          · have h := ifT hc h
            refine XG.l (fun z9 => x_icmp_ge 286 dL_law_186 rfl (fun _ => z9) (fun hn => absurd hc hn)) ?_
            refine XG.l (fun z9 => x_iload dL_law_286 rfl z9) ?_
            refine XG.l (fun z9 => x_bipush 7 dL_law_288 (by decide) z9) ?_
            rcases Classical.em (7 ≤ ((ush v51 1) &&& 15)) with hc | hc
            · have h := ifT hc h
              refine XG.l (fun z9 => x_icmp_ge 374 dL_law_290 rfl (fun _ => z9) (fun hn => absurd hc hn)) ?_
              refine XG.l (fun z9 => x_iload dL_law_374 rfl z9) ?_
              refine XG.l (fun z9 => x_bipush 9 dL_law_376 (by decide) z9) ?_
              rcases Classical.em (9 ≤ ((ush v51 1) &&& 15)) with hc | hc
              · have h := ifT hc h
                refine XG.l (fun z9 => x_icmp_ge 452 dL_law_378 rfl (fun _ => z9) (fun hn => absurd hc hn)) ?_
                refine XG.l (fun z9 => x_iload dL_law_452 rfl z9) ?_
                refine XG.l (fun z9 => x_bipush 11 dL_law_454 (by decide) z9) ?_
                rcases Classical.em (11 ≤ ((ush v51 1) &&& 15)) with hc | hc
                · have h := ifT hc h
                  refine XG.l (fun z9 => x_icmp_ge 511 dL_law_456 rfl (fun _ => z9) (fun hn => absurd hc hn)) ?_
                  refine XG.l (fun z9 => x_iload dL_law_511 rfl z9) ?_
                  refine XG.l (fun z9 => x_bipush 13 dL_law_513 (by decide) z9) ?_
                  rcases Classical.em (13 ≤ ((ush v51 1) &&& 15)) with hc | hc
                  · have h := ifT hc h
                    refine XG.l (fun z9 => x_icmp_ge 599 dL_law_515 rfl (fun _ => z9) (fun hn => absurd hc hn)) ?_
                    refine XG.l (fun z9 => x_iload dL_law_599 rfl z9) ?_
                    refine XG.l (fun z9 => x_bipush 13 dL_law_601 (by decide) z9) ?_
                    rcases Classical.em (((ush v51 1) &&& 15) = 13) with hc | hc
                    · have h := ifT hc h
                      refine XG.l (fun z9 => x_icmp_ne 640 dL_law_603 rfl (fun hn => absurd hc hn) (fun _ => z9)) ?_
                      refine XG.l (fun z9 => x_aloadn dL_law_606 rfl z9) ?_
                      refine XG.l (fun z9 => x_iload dL_law_607 rfl z9) ?_
                      refine XG.l (fun z9 => x_iload dL_law_609 rfl z9) ?_
                      obtain ⟨u135, hq136, h⟩ := b1_s h
                      obtain ⟨v137, I138, hq139, h⟩ := o2_s h
                      have hq := z0 (c_X9_setLimit (d + 3) (K := K60) (I := I65) (cW_s hq136) hq139)
                      refine XG.l (fun z9 => X.c0 (z_Vcall [.int ((ush v51 5) &&& 1), .int (1 + ((ush v51 9) &&& 7))] [] (cs_L_345 _) (ci := 7) rfl (LW.o (cW_s hq136)) (dep (show d + 3 + 9 + 1 ≤ (d + 13) from by omega) (Nat.le_of_ble_eq_true rfl)) dL_law_611 rfl rfl (Nat.le_of_ble_eq_true rfl) hq z9)) ?_
                      refine XG.l (fun z9 => x_i2l dL_law_614 z9) ?_
                      refine XG.l (fun z9 => x_aload dL_law_615 rfl z9) ?_
                      refine XG.l (fun z9 => x_bipush 20 dL_law_617 (by decide) z9) ?_
                      refine XG.l (fun z9 => x_iload dL_law_619 rfl z9) ?_
                      refine XG.l (fun z9 => x_iadd dL_law_621 z9) ?_
                      obtain ⟨m141, hq142, h⟩ := b1_s h
                      obtain ⟨j140, hq143, h⟩ := b1_s h
                      refine XG.l (fun z9 => x_lald (cA_s hq142).1 (cA_s hq142).2 (ix_s hq143).1 (ix_s hq143).2 dL_law_622 z9) ?_
                      refine XG.l (fun z9 => x_lcmp dL_law_623 z9) ?_
                      rcases Classical.em ((lg_cmp (v137 : Int32).toInt64 (kJ K60 x6 j140)) = 0) with hc | hc
                      · have h := ifT hc h
                        refine XG.l (fun z9 => x_if_ne 638 dL_law_624 rfl (fun hn => absurd hc hn) (fun _ => z9)) ?_
                        refine XG.l (fun z9 => x_aloadn dL_law_627 rfl z9) ?_
                        refine XG.l (fun z9 => x_iload dL_law_628 rfl z9) ?_
                        obtain ⟨u144, hq145, h⟩ := b1_s h
                        obtain ⟨v146, hq147, h⟩ := o1_s h
                        have hq := z0 (c_X9_shoppingLimit (d + 3) (K := K60) (I := I138) (cW_s hq145) hq147)
                        refine XG.l (fun z9 => X.c0 (z_Vcall [.int ((ush v51 5) &&& 1)] [] (cs_L_235 _) (ci := 7) rfl (LW.o (cW_s hq145)) (dep (show d + 3 + 9 + 1 ≤ (d + 13) from by omega) (Nat.le_of_ble_eq_true rfl)) dL_law_630 rfl rfl (Nat.le_of_ble_eq_true rfl) hq z9)) ?_
                        refine XG.l (fun z9 => x_iload dL_law_633 rfl z9) ?_
                        rcases Classical.em (v146 = (1 + ((ush v51 9) &&& 7))) with hc | hc
                        · have h := ifT hc h
                          refine XG.l (fun z9 => x_icmp_eq 730 dL_law_635 rfl (fun _ => z9) (fun hn => absurd hc hn)) ?_
                          exact XG.forget (L' := [.ref (xE 50), .ref x1, .retAddr 0, .retAddr 0, .retAddr 0, .int x5, .ref x6, .ref x7, .int x8, .int v51, .int (v51 &&& 1), .retAddr 0, .retAddr 0, .retAddr 0, .retAddr 0, .retAddr 0, .retAddr 0, .retAddr 0, .retAddr 0]) ⟨Or.inl rfl, ⟨Or.inl rfl, ⟨Or.inl rfl, ⟨Or.inl rfl, ⟨Or.inl rfl, ⟨Or.inl rfl, ⟨Or.inl rfl, ⟨Or.inl rfl, ⟨Or.inl rfl, ⟨Or.inl rfl, ⟨Or.inl rfl, ⟨Or.inr rfl, ⟨Or.inr rfl, ⟨Or.inr rfl, ⟨Or.inr rfl, ⟨Or.inr rfl, ⟨Or.inl rfl, ⟨Or.inl rfl, ⟨Or.inl rfl, trivial⟩⟩⟩⟩⟩⟩⟩⟩⟩⟩⟩⟩⟩⟩⟩⟩⟩⟩⟩ (tl_L_law_730 d ih h)
                        have h := ifF hc h
                        refine XG.l (fun z9 => x_icmp_eq 730 dL_law_635 rfl (fun hn => absurd hn hc) (fun _ => z9)) ?_
                        refine XG.l (fun z9 => x_iconst 0 dL_law_638 rfl z9) ?_
                        cases h
                        exact XG.z (x_zret rfl rfl dL_law_639 ⟨rfl, rfl, rfl⟩)
                      have h := ifF hc h
                      refine XG.l (fun z9 => x_if_ne 638 dL_law_624 rfl (fun _ => z9) (fun hn => absurd hn hc)) ?_
                      refine XG.l (fun z9 => x_iconst 0 dL_law_638 rfl z9) ?_
                      cases h
                      exact XG.z (x_zret rfl rfl dL_law_639 ⟨rfl, rfl, rfl⟩)
                    have h := ifF hc h
                    refine XG.l (fun z9 => x_icmp_ne 640 dL_law_603 rfl (fun _ => z9) (fun hn => absurd hn hc)) ?_
                    refine XG.l (fun z9 => x_iload dL_law_640 rfl z9) ?_
                    refine XG.l (fun z9 => x_bipush 14 dL_law_642 (by decide) z9) ?_
                    rcases Classical.em (((ush v51 1) &&& 15) = 14) with hc | hc
                    · have h := ifT hc h
                      refine XG.l (fun z9 => x_icmp_ne 684 dL_law_644 rfl (fun hn => absurd hc hn) (fun _ => z9)) ?_
                      refine XG.l (fun z9 => x_aloadn dL_law_647 rfl z9) ?_
                      refine XG.l (fun z9 => x_iload dL_law_648 rfl z9) ?_
                      obtain ⟨u122, hq123, h⟩ := b1_s h
                      obtain ⟨v124, hq125, h⟩ := o1_s h
                      have hq := z0 (c_X9_margin (d + 3) (K := K60) (I := I65) (cW_s hq123) hq125)
                      refine XG.l (fun z9 => X.c0 (z_Vcall [.int (((ush v51 8) &&& 1) - ((ush v51 8) &&& 1) / v55 * v55)] [] (cs_L_250 _) (ci := 7) rfl (LW.o (cW_s hq123)) (dep (show d + 3 + 9 + 1 ≤ (d + 13) from by omega) (Nat.le_of_ble_eq_true rfl)) dL_law_650 rfl rfl (Nat.le_of_ble_eq_true rfl) hq z9)) ?_
                      refine XG.l (fun z9 => x_istore dL_law_653 (Nat.le_of_ble_eq_true rfl) rfl rfl z9) ?_
                      refine XG.l (fun z9 => x_aloadn dL_law_655 rfl z9) ?_
                      refine XG.l (fun z9 => x_iload dL_law_656 rfl z9) ?_
                      refine XG.l (fun z9 => x_iload dL_law_658 rfl z9) ?_
                      obtain ⟨u126, hq127, h⟩ := b1_s h
                      obtain ⟨v128, I129, hq130, h⟩ := o2_s h
                      have hq := z0 (c_X9_setMargin (d + 3) (K := K60) (I := I65) (cW_s hq127) hq130)
                      refine XG.l (fun z9 => X.c0 (z_Vcall [.int (((ush v51 8) &&& 1) - ((ush v51 8) &&& 1) / v55 * v55), .int (1 + ((ush v51 9) &&& 7))] [] (cs_L_348 _) (ci := 7) rfl (LW.o (cW_s hq127)) (dep (show d + 3 + 9 + 1 ≤ (d + 13) from by omega) (Nat.le_of_ble_eq_true rfl)) dL_law_660 rfl rfl (Nat.le_of_ble_eq_true rfl) hq z9)) ?_
                      refine XG.l (fun z9 => x_iload dL_law_663 rfl z9) ?_
                      rcases Classical.em (v128 = v124) with hc | hc
                      · have h := ifT hc h
                        refine XG.l (fun z9 => x_icmp_ne 679 dL_law_665 rfl (fun hn => absurd hc hn) (fun _ => z9)) ?_
                        refine XG.l (fun z9 => x_aloadn dL_law_668 rfl z9) ?_
                        refine XG.l (fun z9 => x_iload dL_law_669 rfl z9) ?_
                        obtain ⟨u131, hq132, h⟩ := b1_s h
                        obtain ⟨v133, hq134, h⟩ := o1_s h
                        have hq := z0 (c_X9_margin (d + 3) (K := K60) (I := I129) (cW_s hq132) hq134)
                        refine XG.l (fun z9 => X.c0 (z_Vcall [.int (((ush v51 8) &&& 1) - ((ush v51 8) &&& 1) / v55 * v55)] [] (cs_L_250 _) (ci := 7) rfl (LW.o (cW_s hq132)) (dep (show d + 3 + 9 + 1 ≤ (d + 13) from by omega) (Nat.le_of_ble_eq_true rfl)) dL_law_671 rfl rfl (Nat.le_of_ble_eq_true rfl) hq z9)) ?_
                        refine XG.l (fun z9 => x_iload dL_law_674 rfl z9) ?_
                        rcases Classical.em (v133 = (1 + ((ush v51 9) &&& 7))) with hc | hc
                        · have h := ifT hc h
                          refine XG.l (fun z9 => x_icmp_eq 681 dL_law_676 rfl (fun _ => z9) (fun hn => absurd hc hn)) ?_
                          refine XG.l (fun z9 => x_goto 730 dL_law_681 rfl z9) ?_
                          exact XG.forget (L' := [.ref (xE 50), .ref x1, .retAddr 0, .retAddr 0, .retAddr 0, .int x5, .ref x6, .ref x7, .int x8, .int v51, .int (v51 &&& 1), .retAddr 0, .retAddr 0, .retAddr 0, .retAddr 0, .retAddr 0, .retAddr 0, .retAddr 0, .retAddr 0]) ⟨Or.inl rfl, ⟨Or.inl rfl, ⟨Or.inl rfl, ⟨Or.inl rfl, ⟨Or.inl rfl, ⟨Or.inl rfl, ⟨Or.inl rfl, ⟨Or.inl rfl, ⟨Or.inl rfl, ⟨Or.inl rfl, ⟨Or.inl rfl, ⟨Or.inr rfl, ⟨Or.inr rfl, ⟨Or.inr rfl, ⟨Or.inr rfl, ⟨Or.inr rfl, ⟨Or.inr rfl, ⟨Or.inl rfl, ⟨Or.inl rfl, trivial⟩⟩⟩⟩⟩⟩⟩⟩⟩⟩⟩⟩⟩⟩⟩⟩⟩⟩⟩ (tl_L_law_730 d ih h)
                        have h := ifF hc h
                        refine XG.l (fun z9 => x_icmp_eq 681 dL_law_676 rfl (fun hn => absurd hn hc) (fun _ => z9)) ?_
                        refine XG.l (fun z9 => x_iconst 0 dL_law_679 rfl z9) ?_
                        cases h
                        exact XG.z (x_zret rfl rfl dL_law_680 ⟨rfl, rfl, rfl⟩)
                      have h := ifF hc h
                      refine XG.l (fun z9 => x_icmp_ne 679 dL_law_665 rfl (fun _ => z9) (fun hn => absurd hn hc)) ?_
                      refine XG.l (fun z9 => x_iconst 0 dL_law_679 rfl z9) ?_
                      cases h
                      exact XG.z (x_zret rfl rfl dL_law_680 ⟨rfl, rfl, rfl⟩)
                    have h := ifF hc h
                    refine XG.l (fun z9 => x_icmp_ne 684 dL_law_644 rfl (fun _ => z9) (fun hn => absurd hn hc)) ?_
                    refine XG.l (fun z9 => x_aloadn dL_law_684 rfl z9) ?_
                    refine XG.l (fun z9 => x_iload dL_law_685 rfl z9) ?_
                    obtain ⟨u77, hq78, h⟩ := b1_s h
                    obtain ⟨v79, hq80, h⟩ := o1_s h
                    have hq := z0 (c_X9_daysUntilBirthday (d + 3) (K := K60) (I := I65) (cW_s hq78) hq80)
                    refine XG.l (fun z9 => X.c0 (z_Vcall [.int ((ush v51 5) &&& 1)] [] (cs_L_351 _) (ci := 7) rfl (LW.o (cW_s hq78)) (dep (show d + 3 + 9 + 1 ≤ (d + 13) from by omega) (Nat.le_of_ble_eq_true rfl)) dL_law_687 rfl rfl (Nat.le_of_ble_eq_true rfl) hq z9)) ?_
                    refine XG.l (fun z9 => x_istore dL_law_690 (Nat.le_of_ble_eq_true rfl) rfl rfl z9) ?_
                    refine XG.l (fun z9 => x_iload dL_law_692 rfl z9) ?_
                    rcases Classical.em (v79 ≤ 0) with hc | hc
                    · have h := ifT hc h
                      refine XG.l (fun z9 => x_if_le 730 dL_law_694 rfl (fun _ => z9) (fun hn => absurd hc hn)) ?_
                      exact XG.forget (L' := [.ref (xE 50), .ref x1, .retAddr 0, .retAddr 0, .retAddr 0, .int x5, .ref x6, .ref x7, .int x8, .int v51, .int (v51 &&& 1), .retAddr 0, .retAddr 0, .retAddr 0, .retAddr 0, .retAddr 0, .retAddr 0, .retAddr 0, .retAddr 0]) ⟨Or.inl rfl, ⟨Or.inl rfl, ⟨Or.inl rfl, ⟨Or.inl rfl, ⟨Or.inl rfl, ⟨Or.inl rfl, ⟨Or.inl rfl, ⟨Or.inl rfl, ⟨Or.inl rfl, ⟨Or.inl rfl, ⟨Or.inl rfl, ⟨Or.inr rfl, ⟨Or.inr rfl, ⟨Or.inr rfl, ⟨Or.inr rfl, ⟨Or.inr rfl, ⟨Or.inr rfl, ⟨Or.inl rfl, ⟨Or.inl rfl, trivial⟩⟩⟩⟩⟩⟩⟩⟩⟩⟩⟩⟩⟩⟩⟩⟩⟩⟩⟩ (tl_L_law_730 d ih h)
                    have h := ifF hc h
                    refine XG.l (fun z9 => x_if_le 730 dL_law_694 rfl (fun hn => absurd hn hc) (fun _ => z9)) ?_
                    refine XG.l (fun z9 => x_aloadn dL_law_697 rfl z9) ?_
                    refine XG.l (fun z9 => x_iload dL_law_698 rfl z9) ?_
                    obtain ⟨u105, hq106, h⟩ := b1_s h
                    obtain ⟨v107, I108, hq109, h⟩ := o2_s h
                    have hq := z0 (c_X9_advance (d + 5) (K := K60) (I := I65) (cW_s hq106) hq109)
                    refine XG.l (fun z9 => X.c0 (z_Vcall [.int v79] [] (cs_L_308 _) (ci := 7) rfl (LW.o (cW_s hq106)) (dep (show d + 5 + 7 + 1 ≤ (d + 13) from by omega) (Nat.le_of_ble_eq_true rfl)) dL_law_700 rfl rfl (Nat.le_of_ble_eq_true rfl) hq z9)) ?_
                    rcases Classical.em (v107 < 0) with hc | hc
                    · have h := ifT hc h
                      refine XG.l (fun z9 => x_if_lt 728 dL_law_703 rfl (fun _ => z9) (fun hn => absurd hc hn)) ?_
                      refine XG.l (fun z9 => x_iconst 0 dL_law_728 rfl z9) ?_
                      cases h
                      exact XG.z (x_zret rfl rfl dL_law_729 ⟨rfl, rfl, rfl⟩)
                    have h := ifF hc h
                    refine XG.l (fun z9 => x_if_lt 728 dL_law_703 rfl (fun hn => absurd hn hc) (fun _ => z9)) ?_
                    refine XG.l (fun z9 => x_aloadn dL_law_706 rfl z9) ?_
                    refine XG.l (fun z9 => x_iload dL_law_707 rfl z9) ?_
                    obtain ⟨u110, hq111, h⟩ := b1_s h
                    obtain ⟨v112, hq113, h⟩ := o1_s h
                    have hq := z0 (c_X9_daysUntilBirthday (d + 3) (K := K60) (I := I108) (cW_s hq111) hq113)
                    refine XG.l (fun z9 => X.c0 (z_Vcall [.int ((ush v51 5) &&& 1)] [] (cs_L_351 _) (ci := 7) rfl (LW.o (cW_s hq111)) (dep (show d + 3 + 9 + 1 ≤ (d + 13) from by omega) (Nat.le_of_ble_eq_true rfl)) dL_law_709 rfl rfl (Nat.le_of_ble_eq_true rfl) hq z9)) ?_
                    rcases Classical.em (v112 = 0) with hc | hc
                    · have h := ifT hc h
                      refine XG.l (fun z9 => x_if_ne 728 dL_law_712 rfl (fun hn => absurd hc hn) (fun _ => z9)) ?_
                      refine XG.l (fun z9 => x_aloadn dL_law_715 rfl z9) ?_
                      obtain ⟨u114, hq115, h⟩ := b1_s h
                      obtain ⟨v116, hq117, h⟩ := o1_s h
                      have hq := z0 (c_X9_dayOfYear (d + 5) (K := K60) (I := I108) (cW_s hq115) hq117)
                      refine XG.l (fun z9 => X.c0 (z_Vcall [] [] (cs_L_259 _) (ci := 7) rfl (LW.o (cW_s hq115)) (dep (show d + 5 + 7 + 1 ≤ (d + 13) from by omega) (Nat.le_of_ble_eq_true rfl)) dL_law_716 rfl rfl (Nat.le_of_ble_eq_true rfl) hq z9)) ?_
                      refine XG.l (fun z9 => x_aloadn dL_law_719 rfl z9) ?_
                      refine XG.l (fun z9 => x_iload dL_law_720 rfl z9) ?_
                      obtain ⟨u118, hq119, h⟩ := b1_s h
                      obtain ⟨v120, hq121, h⟩ := o1_s h
                      have hq := z0 (c_X9_birthday (d + 3) (K := K60) (I := I108) (cW_s hq119) hq121)
                      refine XG.l (fun z9 => X.c0 (z_Vcall [.int ((ush v51 5) &&& 1)] [.int v116] (cs_L_354 _) (ci := 7) rfl (LW.o (cW_s hq119)) (dep (show d + 3 + 9 + 1 ≤ (d + 13) from by omega) (Nat.le_of_ble_eq_true rfl)) dL_law_722 rfl rfl (Nat.le_of_ble_eq_true rfl) hq z9)) ?_
                      rcases Classical.em (v116 = v120) with hc | hc
                      · have h := ifT hc h
                        refine XG.l (fun z9 => x_icmp_eq 730 dL_law_725 rfl (fun _ => z9) (fun hn => absurd hc hn)) ?_
                        exact XG.forget (L' := [.ref (xE 50), .ref x1, .retAddr 0, .retAddr 0, .retAddr 0, .int x5, .ref x6, .ref x7, .int x8, .int v51, .int (v51 &&& 1), .retAddr 0, .retAddr 0, .retAddr 0, .retAddr 0, .retAddr 0, .retAddr 0, .retAddr 0, .retAddr 0]) ⟨Or.inl rfl, ⟨Or.inl rfl, ⟨Or.inl rfl, ⟨Or.inl rfl, ⟨Or.inl rfl, ⟨Or.inl rfl, ⟨Or.inl rfl, ⟨Or.inl rfl, ⟨Or.inl rfl, ⟨Or.inl rfl, ⟨Or.inl rfl, ⟨Or.inr rfl, ⟨Or.inr rfl, ⟨Or.inr rfl, ⟨Or.inr rfl, ⟨Or.inr rfl, ⟨Or.inr rfl, ⟨Or.inl rfl, ⟨Or.inl rfl, trivial⟩⟩⟩⟩⟩⟩⟩⟩⟩⟩⟩⟩⟩⟩⟩⟩⟩⟩⟩ (tl_L_law_730 d ih h)
                      have h := ifF hc h
                      refine XG.l (fun z9 => x_icmp_eq 730 dL_law_725 rfl (fun hn => absurd hn hc) (fun _ => z9)) ?_
                      refine XG.l (fun z9 => x_iconst 0 dL_law_728 rfl z9) ?_
                      cases h
                      exact XG.z (x_zret rfl rfl dL_law_729 ⟨rfl, rfl, rfl⟩)
                    have h := ifF hc h
                    refine XG.l (fun z9 => x_if_ne 728 dL_law_712 rfl (fun _ => z9) (fun hn => absurd hn hc)) ?_
                    refine XG.l (fun z9 => x_iconst 0 dL_law_728 rfl z9) ?_
                    cases h
                    exact XG.z (x_zret rfl rfl dL_law_729 ⟨rfl, rfl, rfl⟩)
                  have h := ifF hc h
                  refine XG.l (fun z9 => x_icmp_ge 599 dL_law_515 rfl (fun hn => absurd hn hc) (fun _ => z9)) ?_
                  refine XG.l (fun z9 => x_aloadn dL_law_518 rfl z9) ?_
                  refine XG.l (fun z9 => x_iload dL_law_519 rfl z9) ?_
                  obtain ⟨u148, hq149, h⟩ := b1_s h
                  obtain ⟨v150, hq151, h⟩ := o1_s h
                  have hq := z0 (c_X9_bestGrant (d + 4) (K := K60) (I := I65) (cW_s hq149) hq151)
                  refine XG.l (fun z9 => X.c0 (z_Vcall [.int ((ush v51 5) &&& 1)] [] (cs_L_339 _) (ci := 7) rfl (LW.o (cW_s hq149)) (dep (show d + 4 + 8 + 1 ≤ (d + 13) from by omega) (Nat.le_of_ble_eq_true rfl)) dL_law_521 rfl rfl (Nat.le_of_ble_eq_true rfl) hq z9)) ?_
                  refine XG.l (fun z9 => x_istore dL_law_524 (Nat.le_of_ble_eq_true rfl) rfl rfl z9) ?_
                  refine XG.l (fun z9 => x_iload dL_law_526 rfl z9) ?_
                  rcases Classical.em (0 ≤ v150) with hc | hc
                  · have h := ifT hc h
                    refine XG.l (fun z9 => x_if_ge 535 dL_law_528 rfl (fun _ => z9) (fun hn => absurd hc hn)) ?_
                    refine XG.l (fun z9 => x_aloadn dL_law_535 rfl z9) ?_
                    refine XG.l (fun z9 => x_iload dL_law_536 rfl z9) ?_
                    obtain ⟨u152, hq153, h⟩ := b1_s h
                    obtain ⟨v154, hq155, h⟩ := o1_s h
                    have hq := z0 (c_X9_value (d + 3) (K := K60) (I := I65) (cW_s hq153) hq155)
                    refine XG.l (fun z9 => X.c0 (z_Vcall [.int v150] [] (cs_L_220 _) (ci := 7) rfl (LW.o (cW_s hq153)) (dep (show d + 3 + 9 + 1 ≤ (d + 13) from by omega) (Nat.le_of_ble_eq_true rfl)) dL_law_538 rfl rfl (Nat.le_of_ble_eq_true rfl) hq z9)) ?_
                    exact XG.forget (L' := [.ref (xE 50), .ref x1, .retAddr 0, .retAddr 0, .retAddr 0, .int x5, .ref x6, .ref x7, .int x8, .int v51, .int (v51 &&& 1), .int ((ush v51 5) &&& 1), .retAddr 0, .retAddr 0, .retAddr 0, .retAddr 0, .int v150, .retAddr 0, .retAddr 0]) ⟨Or.inl rfl, ⟨Or.inl rfl, ⟨Or.inl rfl, ⟨Or.inl rfl, ⟨Or.inl rfl, ⟨Or.inl rfl, ⟨Or.inl rfl, ⟨Or.inl rfl, ⟨Or.inl rfl, ⟨Or.inl rfl, ⟨Or.inl rfl, ⟨Or.inl rfl, ⟨Or.inr rfl, ⟨Or.inr rfl, ⟨Or.inr rfl, ⟨Or.inr rfl, ⟨Or.inl rfl, ⟨Or.inl rfl, ⟨Or.inl rfl, trivial⟩⟩⟩⟩⟩⟩⟩⟩⟩⟩⟩⟩⟩⟩⟩⟩⟩⟩⟩ (tl_L_law_541 d ih h)
                  have h := ifF hc h
                  refine XG.l (fun z9 => x_if_ge 535 dL_law_528 rfl (fun hn => absurd hn hc) (fun _ => z9)) ?_
                  refine XG.l (fun z9 => x_iconst 0 dL_law_531 rfl z9) ?_
                  refine XG.l (fun z9 => x_goto 541 dL_law_532 rfl z9) ?_
                  exact XG.forget (L' := [.ref (xE 50), .ref x1, .retAddr 0, .retAddr 0, .retAddr 0, .int x5, .ref x6, .ref x7, .int x8, .int v51, .int (v51 &&& 1), .int ((ush v51 5) &&& 1), .retAddr 0, .retAddr 0, .retAddr 0, .retAddr 0, .int v150, .retAddr 0, .retAddr 0]) ⟨Or.inl rfl, ⟨Or.inl rfl, ⟨Or.inl rfl, ⟨Or.inl rfl, ⟨Or.inl rfl, ⟨Or.inl rfl, ⟨Or.inl rfl, ⟨Or.inl rfl, ⟨Or.inl rfl, ⟨Or.inl rfl, ⟨Or.inl rfl, ⟨Or.inl rfl, ⟨Or.inr rfl, ⟨Or.inr rfl, ⟨Or.inr rfl, ⟨Or.inr rfl, ⟨Or.inl rfl, ⟨Or.inl rfl, ⟨Or.inl rfl, trivial⟩⟩⟩⟩⟩⟩⟩⟩⟩⟩⟩⟩⟩⟩⟩⟩⟩⟩⟩ (tl_L_law_541 d ih h)
                have h := ifF hc h
                refine XG.l (fun z9 => x_icmp_ge 511 dL_law_456 rfl (fun hn => absurd hn hc) (fun _ => z9)) ?_
                refine XG.l (fun z9 => x_aloadn dL_law_459 rfl z9) ?_
                refine XG.l (fun z9 => x_iload dL_law_460 rfl z9) ?_
                obtain ⟨u177, hq178, h⟩ := b1_s h
                obtain ⟨v179, hq180, h⟩ := o1_s h
                have hq := z0 (c_X9_refund (d + 4) (K := K60) (I := I65) (cW_s hq178) hq180)
                refine XG.l (fun z9 => X.c0 (z_Vcall [.int ((ush v51 6) &&& 3)] [] (cs_L_330 _) (ci := 7) rfl (LW.o (cW_s hq178)) (dep (show d + 4 + 8 + 1 ≤ (d + 13) from by omega) (Nat.le_of_ble_eq_true rfl)) dL_law_462 rfl rfl (Nat.le_of_ble_eq_true rfl) hq z9)) ?_
                refine XG.l (fun z9 => x_istore dL_law_465 (Nat.le_of_ble_eq_true rfl) rfl rfl z9) ?_
                refine XG.l (fun z9 => x_aloadn dL_law_467 rfl z9) ?_
                refine XG.l (fun z9 => x_iload dL_law_468 rfl z9) ?_
                obtain ⟨u181, hq182, h⟩ := b1_s h
                obtain ⟨v183, hq184, h⟩ := o1_s h
                have hq := z0 (c_X9_returnObstacle (d + 4) (K := K60) (I := I65) (cW_s hq182) hq184)
                refine XG.l (fun z9 => X.c0 (z_Vcall [.int ((ush v51 6) &&& 3)] [] (cs_L_333 _) (ci := 7) rfl (LW.o (cW_s hq182)) (dep (show d + 4 + 8 + 1 ≤ (d + 13) from by omega) (Nat.le_of_ble_eq_true rfl)) dL_law_470 rfl rfl (Nat.le_of_ble_eq_true rfl) hq z9)) ?_
                rcases Classical.em (v183 = 0) with hc | hc
                · have h := ifT hc h
                  refine XG.l (fun z9 => x_if_ne 508 dL_law_473 rfl (fun hn => absurd hc hn) (fun _ => z9)) ?_
                  refine XG.l (fun z9 => x_aloadn dL_law_476 rfl z9) ?_
                  refine XG.l (fun z9 => x_iload dL_law_477 rfl z9) ?_
                  obtain ⟨u185, hq186, h⟩ := b1_s h
                  obtain ⟨v187, I188, hq189, h⟩ := o2_s h
                  have hq := z0 (c_X9_returnWish (d + 4) (K := K60) (I := I65) (cW_s hq186) hq189)
                  refine XG.l (fun z9 => X.c0 (z_Vcall [.int ((ush v51 6) &&& 3)] [] (cs_L_336 _) (ci := 7) rfl (LW.o (cW_s hq186)) (dep (show d + 4 + 8 + 1 ≤ (d + 13) from by omega) (Nat.le_of_ble_eq_true rfl)) dL_law_479 rfl rfl (Nat.le_of_ble_eq_true rfl) hq z9)) ?_
                  refine XG.l (fun z9 => x_iload dL_law_482 rfl z9) ?_
                  rcases Classical.em (v187 = v179) with hc | hc
                  · have h := ifT hc h
                    refine XG.l (fun z9 => x_icmp_ne 506 dL_law_484 rfl (fun hn => absurd hc hn) (fun _ => z9)) ?_
                    refine XG.l (fun z9 => x_aloadn dL_law_487 rfl z9) ?_
                    refine XG.l (fun z9 => x_iload dL_law_488 rfl z9) ?_
                    obtain ⟨u190, hq191, h⟩ := b1_s h
                    obtain ⟨v192, hq193, h⟩ := o1_s h
                    have hq := z0 (c_X9_owner (d + 3) (K := K60) (I := I188) (cW_s hq191) hq193)
                    refine XG.l (fun z9 => X.c0 (z_Vcall [.int ((ush v51 6) &&& 3)] [] (cs_L_197 _) (ci := 7) rfl (LW.o (cW_s hq191)) (dep (show d + 3 + 9 + 1 ≤ (d + 13) from by omega) (Nat.le_of_ble_eq_true rfl)) dL_law_490 rfl rfl (Nat.le_of_ble_eq_true rfl) hq z9)) ?_
                    refine XG.l (fun z9 => x_iconst (-1) dL_law_493 rfl z9) ?_
                    rcases Classical.em (v192 = (-1)) with hc | hc
                    · have h := ifT hc h
                      refine XG.l (fun z9 => x_icmp_ne 506 dL_law_494 rfl (fun hn => absurd hc hn) (fun _ => z9)) ?_
                      refine XG.l (fun z9 => x_aloadn dL_law_497 rfl z9) ?_
                      refine XG.l (fun z9 => x_iload dL_law_498 rfl z9) ?_
                      obtain ⟨u194, hq195, h⟩ := b1_s h
                      obtain ⟨v196, hq197, h⟩ := o1_s h
                      have hq := z0 (c_X9_stallOf (d + 3) (K := K60) (I := I188) (cW_s hq195) hq197)
                      refine XG.l (fun z9 => X.c0 (z_Vcall [.int ((ush v51 6) &&& 3)] [] (cs_L_199 _) (ci := 7) rfl (LW.o (cW_s hq195)) (dep (show d + 3 + 9 + 1 ≤ (d + 13) from by omega) (Nat.le_of_ble_eq_true rfl)) dL_law_500 rfl rfl (Nat.le_of_ble_eq_true rfl) hq z9)) ?_
                      rcases Classical.em (0 ≤ v196) with hc | hc
                      · have h := ifT hc h
                        refine XG.l (fun z9 => x_if_ge 508 dL_law_503 rfl (fun _ => z9) (fun hn => absurd hc hn)) ?_
                        exact XG.forget (L' := [.ref (xE 50), .ref x1, .retAddr 0, .retAddr 0, .retAddr 0, .int x5, .ref x6, .ref x7, .int x8, .int v51, .int (v51 &&& 1), .retAddr 0, .retAddr 0, .retAddr 0, .retAddr 0, .retAddr 0, .retAddr 0, .retAddr 0, .retAddr 0]) ⟨Or.inl rfl, ⟨Or.inl rfl, ⟨Or.inl rfl, ⟨Or.inl rfl, ⟨Or.inl rfl, ⟨Or.inl rfl, ⟨Or.inl rfl, ⟨Or.inl rfl, ⟨Or.inl rfl, ⟨Or.inl rfl, ⟨Or.inl rfl, ⟨Or.inr rfl, ⟨Or.inr rfl, ⟨Or.inr rfl, ⟨Or.inr rfl, ⟨Or.inr rfl, ⟨Or.inr rfl, ⟨Or.inl rfl, ⟨Or.inl rfl, trivial⟩⟩⟩⟩⟩⟩⟩⟩⟩⟩⟩⟩⟩⟩⟩⟩⟩⟩⟩ (tl_L_law_508 d ih h)
                      have h := ifF hc h
                      refine XG.l (fun z9 => x_if_ge 508 dL_law_503 rfl (fun hn => absurd hn hc) (fun _ => z9)) ?_
                      refine XG.l (fun z9 => x_iconst 0 dL_law_506 rfl z9) ?_
                      cases h
                      exact XG.z (x_zret rfl rfl dL_law_507 ⟨rfl, rfl, rfl⟩)
                    have h := ifF hc h
                    refine XG.l (fun z9 => x_icmp_ne 506 dL_law_494 rfl (fun _ => z9) (fun hn => absurd hn hc)) ?_
                    refine XG.l (fun z9 => x_iconst 0 dL_law_506 rfl z9) ?_
                    cases h
                    exact XG.z (x_zret rfl rfl dL_law_507 ⟨rfl, rfl, rfl⟩)
                  have h := ifF hc h
                  refine XG.l (fun z9 => x_icmp_ne 506 dL_law_484 rfl (fun _ => z9) (fun hn => absurd hn hc)) ?_
                  refine XG.l (fun z9 => x_iconst 0 dL_law_506 rfl z9) ?_
                  cases h
                  exact XG.z (x_zret rfl rfl dL_law_507 ⟨rfl, rfl, rfl⟩)
                have h := ifF hc h
                refine XG.l (fun z9 => x_if_ne 508 dL_law_473 rfl (fun _ => z9) (fun hn => absurd hn hc)) ?_
                exact XG.forget (L' := [.ref (xE 50), .ref x1, .retAddr 0, .retAddr 0, .retAddr 0, .int x5, .ref x6, .ref x7, .int x8, .int v51, .int (v51 &&& 1), .retAddr 0, .retAddr 0, .retAddr 0, .retAddr 0, .retAddr 0, .retAddr 0, .retAddr 0, .retAddr 0]) ⟨Or.inl rfl, ⟨Or.inl rfl, ⟨Or.inl rfl, ⟨Or.inl rfl, ⟨Or.inl rfl, ⟨Or.inl rfl, ⟨Or.inl rfl, ⟨Or.inl rfl, ⟨Or.inl rfl, ⟨Or.inl rfl, ⟨Or.inl rfl, ⟨Or.inr rfl, ⟨Or.inr rfl, ⟨Or.inr rfl, ⟨Or.inr rfl, ⟨Or.inr rfl, ⟨Or.inr rfl, ⟨Or.inl rfl, ⟨Or.inl rfl, trivial⟩⟩⟩⟩⟩⟩⟩⟩⟩⟩⟩⟩⟩⟩⟩⟩⟩⟩⟩ (tl_L_law_508 d ih h)
              have h := ifF hc h
              refine XG.l (fun z9 => x_icmp_ge 452 dL_law_378 rfl (fun hn => absurd hn hc) (fun _ => z9)) ?_
              refine XG.l (fun z9 => x_aloadn dL_law_381 rfl z9) ?_
              refine XG.l (fun z9 => x_iload dL_law_382 rfl z9) ?_
              obtain ⟨u198, hq199, h⟩ := b1_s h
              obtain ⟨v200, hq201, h⟩ := o1_s h
              have hq := z0 (c_X9_bestOffer (d + 4) (K := K60) (I := I65) (cW_s hq199) hq201)
              refine XG.l (fun z9 => X.c0 (z_Vcall [.int ((ush v51 6) &&& 3)] [] (cs_L_321 _) (ci := 7) rfl (LW.o (cW_s hq199)) (dep (show d + 4 + 8 + 1 ≤ (d + 13) from by omega) (Nat.le_of_ble_eq_true rfl)) dL_law_384 rfl rfl (Nat.le_of_ble_eq_true rfl) hq z9)) ?_
              refine XG.l (fun z9 => x_istore dL_law_387 (Nat.le_of_ble_eq_true rfl) rfl rfl z9) ?_
              refine XG.l (fun z9 => x_iload dL_law_389 rfl z9) ?_
              rcases Classical.em (0 ≤ v200) with hc | hc
              · have h := ifT hc h
                refine XG.l (fun z9 => x_if_ge 398 dL_law_391 rfl (fun _ => z9) (fun hn => absurd hc hn)) ?_
                refine XG.l (fun z9 => x_aloadn dL_law_398 rfl z9) ?_
                refine XG.l (fun z9 => x_iload dL_law_399 rfl z9) ?_
                refine XG.l (fun z9 => x_iload dL_law_401 rfl z9) ?_
                obtain ⟨u202, hq203, h⟩ := b1_s h
                obtain ⟨v204, hq205, h⟩ := o1_s h
                have hq := z0 (c_X9_offer (d + 4) (K := K60) (I := I65) (cW_s hq203) hq205)
                refine XG.l (fun z9 => X.c0 (z_Vcall [.int ((ush v51 6) &&& 3), .int v200] [] (cs_L_324 _) (ci := 7) rfl (LW.o (cW_s hq203)) (dep (show d + 4 + 8 + 1 ≤ (d + 13) from by omega) (Nat.le_of_ble_eq_true rfl)) dL_law_403 rfl rfl (Nat.le_of_ble_eq_true rfl) hq z9)) ?_
                exact XG.forget (L' := [.ref (xE 50), .ref x1, .retAddr 0, .retAddr 0, .retAddr 0, .int x5, .ref x6, .ref x7, .int x8, .int v51, .int (v51 &&& 1), .retAddr 0, .int ((ush v51 6) &&& 3), .retAddr 0, .retAddr 0, .retAddr 0, .int v200, .retAddr 0, .retAddr 0]) ⟨Or.inl rfl, ⟨Or.inl rfl, ⟨Or.inl rfl, ⟨Or.inl rfl, ⟨Or.inl rfl, ⟨Or.inl rfl, ⟨Or.inl rfl, ⟨Or.inl rfl, ⟨Or.inl rfl, ⟨Or.inl rfl, ⟨Or.inl rfl, ⟨Or.inr rfl, ⟨Or.inl rfl, ⟨Or.inr rfl, ⟨Or.inr rfl, ⟨Or.inr rfl, ⟨Or.inl rfl, ⟨Or.inl rfl, ⟨Or.inl rfl, trivial⟩⟩⟩⟩⟩⟩⟩⟩⟩⟩⟩⟩⟩⟩⟩⟩⟩⟩⟩ (tl_L_law_406 d ih h)
              have h := ifF hc h
              refine XG.l (fun z9 => x_if_ge 398 dL_law_391 rfl (fun hn => absurd hn hc) (fun _ => z9)) ?_
              refine XG.l (fun z9 => x_iconst 0 dL_law_394 rfl z9) ?_
              refine XG.l (fun z9 => x_goto 406 dL_law_395 rfl z9) ?_
              exact XG.forget (L' := [.ref (xE 50), .ref x1, .retAddr 0, .retAddr 0, .retAddr 0, .int x5, .ref x6, .ref x7, .int x8, .int v51, .int (v51 &&& 1), .retAddr 0, .int ((ush v51 6) &&& 3), .retAddr 0, .retAddr 0, .retAddr 0, .int v200, .retAddr 0, .retAddr 0]) ⟨Or.inl rfl, ⟨Or.inl rfl, ⟨Or.inl rfl, ⟨Or.inl rfl, ⟨Or.inl rfl, ⟨Or.inl rfl, ⟨Or.inl rfl, ⟨Or.inl rfl, ⟨Or.inl rfl, ⟨Or.inl rfl, ⟨Or.inl rfl, ⟨Or.inr rfl, ⟨Or.inl rfl, ⟨Or.inr rfl, ⟨Or.inr rfl, ⟨Or.inr rfl, ⟨Or.inl rfl, ⟨Or.inl rfl, ⟨Or.inl rfl, trivial⟩⟩⟩⟩⟩⟩⟩⟩⟩⟩⟩⟩⟩⟩⟩⟩⟩⟩⟩ (tl_L_law_406 d ih h)
            have h := ifF hc h
            refine XG.l (fun z9 => x_icmp_ge 374 dL_law_290 rfl (fun hn => absurd hn hc) (fun _ => z9)) ?_
            refine XG.l (fun z9 => x_aloadn dL_law_293 rfl z9) ?_
            refine XG.l (fun z9 => x_iload dL_law_294 rfl z9) ?_
            obtain ⟨u219, hq220, h⟩ := b1_s h
            obtain ⟨v221, hq222, h⟩ := o1_s h
            have hq := z0 (c_X9_cheapestWish (d + 3) (K := K60) (I := I65) (cW_s hq220) hq222)
            refine XG.l (fun z9 => X.c0 (z_Vcall [.int ((ush v51 5) &&& 1)] [] (cs_L_309 _) (ci := 7) rfl (LW.o (cW_s hq220)) (dep (show d + 3 + 9 + 1 ≤ (d + 13) from by omega) (Nat.le_of_ble_eq_true rfl)) dL_law_296 rfl rfl (Nat.le_of_ble_eq_true rfl) hq z9)) ?_
            refine XG.l (fun z9 => x_istore dL_law_299 (Nat.le_of_ble_eq_true rfl) rfl rfl z9) ?_
            refine XG.l (fun z9 => x_iload dL_law_301 rfl z9) ?_
            rcases Classical.em (0 ≤ v221) with hc | hc
            · have h := ifT hc h
              refine XG.l (fun z9 => x_if_ge 310 dL_law_303 rfl (fun _ => z9) (fun hn => absurd hc hn)) ?_
              refine XG.l (fun z9 => x_aloadn dL_law_310 rfl z9) ?_
              refine XG.l (fun z9 => x_iload dL_law_311 rfl z9) ?_
              obtain ⟨u223, hq224, h⟩ := b1_s h
              obtain ⟨v225, hq226, h⟩ := o1_s h
              have hq := z0 (c_X9_price (d + 4) (K := K60) (I := I65) (cW_s hq224) hq226)
              refine XG.l (fun z9 => X.c0 (z_Vcall [.int v221] [] (cs_L_312 _) (ci := 7) rfl (LW.o (cW_s hq224)) (dep (show d + 4 + 8 + 1 ≤ (d + 13) from by omega) (Nat.le_of_ble_eq_true rfl)) dL_law_313 rfl rfl (Nat.le_of_ble_eq_true rfl) hq z9)) ?_
              exact XG.forget (L' := [.ref (xE 50), .ref x1, .retAddr 0, .retAddr 0, .retAddr 0, .int x5, .ref x6, .ref x7, .int x8, .int v51, .int (v51 &&& 1), .int ((ush v51 5) &&& 1), .retAddr 0, .retAddr 0, .retAddr 0, .retAddr 0, .int v221, .retAddr 0, .retAddr 0]) ⟨Or.inl rfl, ⟨Or.inl rfl, ⟨Or.inl rfl, ⟨Or.inl rfl, ⟨Or.inl rfl, ⟨Or.inl rfl, ⟨Or.inl rfl, ⟨Or.inl rfl, ⟨Or.inl rfl, ⟨Or.inl rfl, ⟨Or.inl rfl, ⟨Or.inl rfl, ⟨Or.inr rfl, ⟨Or.inr rfl, ⟨Or.inr rfl, ⟨Or.inr rfl, ⟨Or.inl rfl, ⟨Or.inl rfl, ⟨Or.inl rfl, trivial⟩⟩⟩⟩⟩⟩⟩⟩⟩⟩⟩⟩⟩⟩⟩⟩⟩⟩⟩ (tl_L_law_316 d ih h)
            have h := ifF hc h
            refine XG.l (fun z9 => x_if_ge 310 dL_law_303 rfl (fun hn => absurd hn hc) (fun _ => z9)) ?_
            refine XG.l (fun z9 => x_iconst 0 dL_law_306 rfl z9) ?_
            refine XG.l (fun z9 => x_goto 316 dL_law_307 rfl z9) ?_
            exact XG.forget (L' := [.ref (xE 50), .ref x1, .retAddr 0, .retAddr 0, .retAddr 0, .int x5, .ref x6, .ref x7, .int x8, .int v51, .int (v51 &&& 1), .int ((ush v51 5) &&& 1), .retAddr 0, .retAddr 0, .retAddr 0, .retAddr 0, .int v221, .retAddr 0, .retAddr 0]) ⟨Or.inl rfl, ⟨Or.inl rfl, ⟨Or.inl rfl, ⟨Or.inl rfl, ⟨Or.inl rfl, ⟨Or.inl rfl, ⟨Or.inl rfl, ⟨Or.inl rfl, ⟨Or.inl rfl, ⟨Or.inl rfl, ⟨Or.inl rfl, ⟨Or.inl rfl, ⟨Or.inr rfl, ⟨Or.inr rfl, ⟨Or.inr rfl, ⟨Or.inr rfl, ⟨Or.inl rfl, ⟨Or.inl rfl, ⟨Or.inl rfl, trivial⟩⟩⟩⟩⟩⟩⟩⟩⟩⟩⟩⟩⟩⟩⟩⟩⟩⟩⟩ (tl_L_law_316 d ih h)
          have h := ifF hc h
          refine XG.l (fun z9 => x_icmp_ge 286 dL_law_186 rfl (fun hn => absurd hn hc) (fun _ => z9)) ?_
          refine XG.l (fun z9 => x_aloadn dL_law_189 rfl z9) ?_
          refine XG.l (fun z9 => x_iload dL_law_190 rfl z9) ?_
          refine XG.l (fun z9 => x_iload dL_law_192 rfl z9) ?_
          obtain ⟨u244, hq245, h⟩ := b1_s h
          obtain ⟨v246, I247, hq248, h⟩ := o2_s h
          have hq := z0 (c_X9_coinsAfter (d + 4) (K := K60) (I := I65) (cW_s hq245) hq248)
          refine XG.l (fun z9 => X.c0 (z_Vcall [.int ((ush v51 5) &&& 1), .int (1 + ((ush v51 9) &&& 7))] [] (cs_L_301 _) (ci := 7) rfl (LW.o (cW_s hq245)) (dep (show d + 4 + 8 + 1 ≤ (d + 13) from by omega) (Nat.le_of_ble_eq_true rfl)) dL_law_194 rfl rfl (Nat.le_of_ble_eq_true rfl) hq z9)) ?_
          refine XG.l (fun z9 => x_istore dL_law_197 (Nat.le_of_ble_eq_true rfl) rfl rfl z9) ?_
          refine XG.l (fun z9 => x_aloadn dL_law_199 rfl z9) ?_
          refine XG.l (fun z9 => x_iload dL_law_200 rfl z9) ?_
          refine XG.l (fun z9 => x_iload dL_law_202 rfl z9) ?_
          obtain ⟨u249, hq250, h⟩ := b1_s h
          obtain ⟨v251, I252, hq253, h⟩ := o2_s h
          have hq := z0 (c_X9_valueAfter (d + 4) (K := K60) (I := I247) (cW_s hq250) hq253)
          refine XG.l (fun z9 => X.c0 (z_Vcall [.int ((ush v51 6) &&& 3), .int (1 + ((ush v51 9) &&& 7))] [] (cs_L_305 _) (ci := 7) rfl (LW.o (cW_s hq250)) (dep (show d + 4 + 8 + 1 ≤ (d + 13) from by omega) (Nat.le_of_ble_eq_true rfl)) dL_law_204 rfl rfl (Nat.le_of_ble_eq_true rfl) hq z9)) ?_
          refine XG.l (fun z9 => x_istore dL_law_207 (Nat.le_of_ble_eq_true rfl) rfl rfl z9) ?_
          refine XG.l (fun z9 => x_aloadn dL_law_209 rfl z9) ?_
          refine XG.l (fun z9 => x_iload dL_law_210 rfl z9) ?_
          obtain ⟨u254, hq255, h⟩ := b1_s h
          obtain ⟨v256, hq257, h⟩ := o1_s h
          have hq := z0 (c_X9_isGranted (d + 3) (K := K60) (I := I252) (cW_s hq255) hq257)
          refine XG.l (fun z9 => X.c0 (z_Vcall [.int ((ush v51 6) &&& 3)] [] (cs_L_202 _) (ci := 7) rfl (LW.o (cW_s hq255)) (dep (show d + 3 + 9 + 1 ≤ (d + 13) from by omega) (Nat.le_of_ble_eq_true rfl)) dL_law_212 rfl rfl (Nat.le_of_ble_eq_true rfl) hq z9)) ?_
          refine XG.l (fun z9 => x_istore dL_law_215 (Nat.le_of_ble_eq_true rfl) rfl rfl z9) ?_
          refine XG.l (fun z9 => x_aloadn dL_law_217 rfl z9) ?_
          refine XG.l (fun z9 => x_iload dL_law_218 rfl z9) ?_
          obtain ⟨u258, hq259, h⟩ := b1_s h
          obtain ⟨v260, I261, hq262, h⟩ := o2_s h
          have hq := z0 (c_X9_advance (d + 5) (K := K60) (I := I252) (cW_s hq259) hq262)
          refine XG.l (fun z9 => X.c0 (z_Vcall [.int (1 + ((ush v51 9) &&& 7))] [] (cs_L_308 _) (ci := 7) rfl (LW.o (cW_s hq259)) (dep (show d + 5 + 7 + 1 ≤ (d + 13) from by omega) (Nat.le_of_ble_eq_true rfl)) dL_law_220 rfl rfl (Nat.le_of_ble_eq_true rfl) hq z9)) ?_
          rcases Classical.em (v260 < 0) with hc | hc
          · have h := ifT hc h
            refine XG.l (fun z9 => x_if_lt 281 dL_law_223 rfl (fun _ => z9) (fun hn => absurd hc hn)) ?_
            refine XG.l (fun z9 => x_iconst 0 dL_law_281 rfl z9) ?_
            cases h
            exact XG.z (x_zret rfl rfl dL_law_282 ⟨rfl, rfl, rfl⟩)
          have h := ifF hc h
          refine XG.l (fun z9 => x_if_lt 281 dL_law_223 rfl (fun hn => absurd hn hc) (fun _ => z9)) ?_
          refine XG.l (fun z9 => x_aloadn dL_law_226 rfl z9) ?_
          refine XG.l (fun z9 => x_iload dL_law_227 rfl z9) ?_
          obtain ⟨u263, hq264, h⟩ := b1_s h
          obtain ⟨v265, hq266, h⟩ := o1_s h
          have hq := z0 (c_X9_coins (d + 3) (K := K60) (I := I261) (cW_s hq264) hq266)
          refine XG.l (fun z9 => X.c0 (z_Vcall [.int ((ush v51 5) &&& 1)] [] (cs_L_225 _) (ci := 7) rfl (LW.o (cW_s hq264)) (dep (show d + 3 + 9 + 1 ≤ (d + 13) from by omega) (Nat.le_of_ble_eq_true rfl)) dL_law_229 rfl rfl (Nat.le_of_ble_eq_true rfl) hq z9)) ?_
          refine XG.l (fun z9 => x_iload dL_law_232 rfl z9) ?_
          rcases Classical.em (v265 = v246) with hc | hc
          · have h := ifT hc h
            refine XG.l (fun z9 => x_icmp_ne 281 dL_law_234 rfl (fun hn => absurd hc hn) (fun _ => z9)) ?_
            refine XG.l (fun z9 => x_aloadn dL_law_237 rfl z9) ?_
            refine XG.l (fun z9 => x_iload dL_law_238 rfl z9) ?_
            obtain ⟨u267, hq268, h⟩ := b1_s h
            obtain ⟨v269, hq270, h⟩ := o1_s h
            have hq := z0 (c_X9_value (d + 3) (K := K60) (I := I261) (cW_s hq268) hq270)
            refine XG.l (fun z9 => X.c0 (z_Vcall [.int ((ush v51 6) &&& 3)] [] (cs_L_220 _) (ci := 7) rfl (LW.o (cW_s hq268)) (dep (show d + 3 + 9 + 1 ≤ (d + 13) from by omega) (Nat.le_of_ble_eq_true rfl)) dL_law_240 rfl rfl (Nat.le_of_ble_eq_true rfl) hq z9)) ?_
            refine XG.l (fun z9 => x_iload dL_law_243 rfl z9) ?_
            rcases Classical.em (v269 = v251) with hc | hc
            · have h := ifT hc h
              refine XG.l (fun z9 => x_icmp_ne 281 dL_law_245 rfl (fun hn => absurd hc hn) (fun _ => z9)) ?_
              refine XG.l (fun z9 => x_aloadn dL_law_248 rfl z9) ?_
              refine XG.l (fun z9 => x_iload dL_law_249 rfl z9) ?_
              obtain ⟨u271, hq272, h⟩ := b1_s h
              obtain ⟨v273, hq274, h⟩ := o1_s h
              have hq := z0 (c_X9_wear (d + 3) (K := K60) (I := I261) (cW_s hq272) hq274)
              refine XG.l (fun z9 => X.c0 (z_Vcall [.int ((ush v51 6) &&& 3)] [] (cs_L_206 _) (ci := 7) rfl (LW.o (cW_s hq272)) (dep (show d + 3 + 9 + 1 ≤ (d + 13) from by omega) (Nat.le_of_ble_eq_true rfl)) dL_law_251 rfl rfl (Nat.le_of_ble_eq_true rfl) hq z9)) ?_
              refine XG.l (fun z9 => x_i2l dL_law_254 z9) ?_
              refine XG.l (fun z9 => x_aload dL_law_255 rfl z9) ?_
              refine XG.l (fun z9 => x_bipush 10 dL_law_257 (by decide) z9) ?_
              refine XG.l (fun z9 => x_iload dL_law_259 rfl z9) ?_
              refine XG.l (fun z9 => x_iadd dL_law_261 z9) ?_
              obtain ⟨m276, hq277, h⟩ := b1_s h
              obtain ⟨j275, hq278, h⟩ := b1_s h
              refine XG.l (fun z9 => x_lald (cA_s hq277).1 (cA_s hq277).2 (ix_s hq278).1 (ix_s hq278).2 dL_law_262 z9) ?_
              refine XG.l (fun z9 => x_lcmp dL_law_263 z9) ?_
              rcases Classical.em ((lg_cmp (v273 : Int32).toInt64 (kJ K60 x6 j275)) < 0) with hc | hc
              · have h := ifT hc h
                refine XG.l (fun z9 => x_if_lt 281 dL_law_264 rfl (fun _ => z9) (fun hn => absurd hc hn)) ?_
                refine XG.l (fun z9 => x_iconst 0 dL_law_281 rfl z9) ?_
                cases h
                exact XG.z (x_zret rfl rfl dL_law_282 ⟨rfl, rfl, rfl⟩)
              have h := ifF hc h
              refine XG.l (fun z9 => x_if_lt 281 dL_law_264 rfl (fun hn => absurd hn hc) (fun _ => z9)) ?_
              refine XG.l (fun z9 => x_iload dL_law_267 rfl z9) ?_
              rcases Classical.em (v256 = 0) with hc | hc
              · have h := ifT hc h
                refine XG.l (fun z9 => x_if_eq 283 dL_law_269 rfl (fun _ => z9) (fun hn => absurd hc hn)) ?_
                exact XG.forget (L' := [.ref (xE 50), .ref x1, .retAddr 0, .retAddr 0, .retAddr 0, .int x5, .ref x6, .ref x7, .int x8, .int v51, .int (v51 &&& 1), .retAddr 0, .retAddr 0, .retAddr 0, .retAddr 0, .retAddr 0, .retAddr 0, .retAddr 0, .retAddr 0]) ⟨Or.inl rfl, ⟨Or.inl rfl, ⟨Or.inl rfl, ⟨Or.inl rfl, ⟨Or.inl rfl, ⟨Or.inl rfl, ⟨Or.inl rfl, ⟨Or.inl rfl, ⟨Or.inl rfl, ⟨Or.inl rfl, ⟨Or.inl rfl, ⟨Or.inr rfl, ⟨Or.inr rfl, ⟨Or.inr rfl, ⟨Or.inr rfl, ⟨Or.inr rfl, ⟨Or.inr rfl, ⟨Or.inr rfl, ⟨Or.inr rfl, trivial⟩⟩⟩⟩⟩⟩⟩⟩⟩⟩⟩⟩⟩⟩⟩⟩⟩⟩⟩ (tl_L_law_283 d ih h)
              have h := ifF hc h
              refine XG.l (fun z9 => x_if_eq 283 dL_law_269 rfl (fun hn => absurd hn hc) (fun _ => z9)) ?_
              refine XG.l (fun z9 => x_aloadn dL_law_272 rfl z9) ?_
              refine XG.l (fun z9 => x_iload dL_law_273 rfl z9) ?_
              obtain ⟨u279, hq280, h⟩ := b1_s h
              obtain ⟨v281, hq282, h⟩ := o1_s h
              have hq := z0 (c_X9_isGranted (d + 3) (K := K60) (I := I261) (cW_s hq280) hq282)
              refine XG.l (fun z9 => X.c0 (z_Vcall [.int ((ush v51 6) &&& 3)] [] (cs_L_202 _) (ci := 7) rfl (LW.o (cW_s hq280)) (dep (show d + 3 + 9 + 1 ≤ (d + 13) from by omega) (Nat.le_of_ble_eq_true rfl)) dL_law_275 rfl rfl (Nat.le_of_ble_eq_true rfl) hq z9)) ?_
              rcases Classical.em (v281 = 0) with hc | hc
              · have h := ifT hc h
                refine XG.l (fun z9 => x_if_ne 283 dL_law_278 rfl (fun hn => absurd hc hn) (fun _ => z9)) ?_
                refine XG.l (fun z9 => x_iconst 0 dL_law_281 rfl z9) ?_
                cases h
                exact XG.z (x_zret rfl rfl dL_law_282 ⟨rfl, rfl, rfl⟩)
              have h := ifF hc h
              refine XG.l (fun z9 => x_if_ne 283 dL_law_278 rfl (fun _ => z9) (fun hn => absurd hn hc)) ?_
              exact XG.forget (L' := [.ref (xE 50), .ref x1, .retAddr 0, .retAddr 0, .retAddr 0, .int x5, .ref x6, .ref x7, .int x8, .int v51, .int (v51 &&& 1), .retAddr 0, .retAddr 0, .retAddr 0, .retAddr 0, .retAddr 0, .retAddr 0, .retAddr 0, .retAddr 0]) ⟨Or.inl rfl, ⟨Or.inl rfl, ⟨Or.inl rfl, ⟨Or.inl rfl, ⟨Or.inl rfl, ⟨Or.inl rfl, ⟨Or.inl rfl, ⟨Or.inl rfl, ⟨Or.inl rfl, ⟨Or.inl rfl, ⟨Or.inl rfl, ⟨Or.inr rfl, ⟨Or.inr rfl, ⟨Or.inr rfl, ⟨Or.inr rfl, ⟨Or.inr rfl, ⟨Or.inr rfl, ⟨Or.inr rfl, ⟨Or.inr rfl, trivial⟩⟩⟩⟩⟩⟩⟩⟩⟩⟩⟩⟩⟩⟩⟩⟩⟩⟩⟩ (tl_L_law_283 d ih h)
            have h := ifF hc h
            refine XG.l (fun z9 => x_icmp_ne 281 dL_law_245 rfl (fun _ => z9) (fun hn => absurd hn hc)) ?_
            refine XG.l (fun z9 => x_iconst 0 dL_law_281 rfl z9) ?_
            cases h
            exact XG.z (x_zret rfl rfl dL_law_282 ⟨rfl, rfl, rfl⟩)
          have h := ifF hc h
          refine XG.l (fun z9 => x_icmp_ne 281 dL_law_234 rfl (fun _ => z9) (fun hn => absurd hn hc)) ?_
          refine XG.l (fun z9 => x_iconst 0 dL_law_281 rfl z9) ?_
          cases h
          exact XG.z (x_zret rfl rfl dL_law_282 ⟨rfl, rfl, rfl⟩)
        have h := ifF hc h
        refine XG.l (fun z9 => x_if_eq 174 dL_law_169 rfl (fun hn => absurd hn hc) (fun _ => z9)) ?_
        refine XG.l (fun z9 => x_iconst 0 dL_law_172 rfl z9) ?_
        cases h
        exact XG.z (x_zret rfl rfl dL_law_173 ⟨rfl, rfl, rfl⟩)
      have h := ifF hc h
      refine XG.l (fun z9 => x_icmp_ne 172 dL_law_162 rfl (fun _ => z9) (fun hn => absurd hn hc)) ?_
      refine XG.l (fun z9 => x_iconst 0 dL_law_172 rfl z9) ?_
      cases h
      exact XG.z (x_zret rfl rfl dL_law_173 ⟨rfl, rfl, rfl⟩)
    have h := ifF hc h
    refine XG.l (fun z9 => x_if_ne 172 dL_law_153 rfl (fun _ => z9) (fun hn => absurd hn hc)) ?_
    refine XG.l (fun z9 => x_iconst 0 dL_law_172 rfl z9) ?_
    cases h
    exact XG.z (x_zret rfl rfl dL_law_173 ⟨rfl, rfl, rfl⟩)
noncomputable def f_L_law (n : Nat) (xs : Nat → Int32) (I : Mem) (K : Kt) (w : Nat) : Option (Int32 × Mem × Kt) := b1 (ixn 7) fun m1 => b1 (cL K) fun _ => b2 (puN I K (100, m1)) fun I3 K4 => b3 (f_L_market n xs I3 K4) fun v8 I9 K10 => b1 (f_L_cell n xs I9 K10 9) fun v12 => b3 (f_L_text I9 K10 v8 v12) fun v14 I15 K16 => b2 (f_L_told I15 K16 w (kN K) v14) fun v18 I19 => b1 (cW K16 w) fun _ => b1 (cT K16 (w + 1 + 1)) fun k24 => o3 (f_X9_parseSetup I19 k24 w v18) fun v23 I26 k27 => b1 (pkk K16 (w + 1 + 1) k27) fun K29 => if v23 = 4 then (b1 (f_L_all I26 K29 w) fun v31 => b1 (ixn 60) fun m33 => b1 (cL K29) fun _ => b2 (puN I26 K29 (103, m33)) fun I35 K36 => b1 (ixn 60) fun m40 => b1 (cL K36) fun _ => b2 (puN I35 K36 (103, m40)) fun I42 K43 => l_L_law_68 n xs FU I42 K43 w v31 (kN K29) (kN K36) 0) else (some (0, I26, K29))
theorem c_L_law (d : Nat) {n : Nat} {xs : Nat → Int32} {K : Kt} {I : Mem} {w : Nat} {v : Int32} {I9 : Mem} {K9 : Kt} (h : f_L_law n xs I K w = some (v, I9, K9)) : XG (mL_law (d + 13)) cL_law 2 12 K9 I K 8 [.ref (xE 50), .ref w, .retAddr 0, .retAddr 0, .retAddr 0, .retAddr 0, .retAddr 0, .retAddr 0, .retAddr 0, .retAddr 0, .retAddr 0, .retAddr 0, .retAddr 0, .retAddr 0, .retAddr 0, .retAddr 0, .retAddr 0, .retAddr 0, .retAddr 0] [] (Ro (.inl (some (.int v))) I9 K9) (GsL n xs) := by
  unfold f_L_law at h
  refine XG.l (fun z9 => x_bipush 7 dL_law_8 (by decide) z9) ?_
  obtain ⟨m1, hq5, h⟩ := b1_s h
  obtain ⟨u2, hq6, h⟩ := b1_s h
  obtain ⟨I3, K4, hq7, h⟩ := b2_s h
  refine XG.sn hq7 ?_ (fun z9 => x_newI (show Cond.arrayClass .int ∈ wsG from inT2 93 rfl rfl) (ixn_s hq5).1 (ixn_s hq5).2 (cL_s hq6) dL_law_10 z9)
  refine XG.l (fun z9 => x_astoren dL_law_12 (Nat.le_of_ble_eq_true rfl) rfl rfl z9) ?_
  refine XG.l (fun z9 => x_aloadn dL_law_13 rfl z9) ?_
  obtain ⟨v8, I9, K10, hq11, h⟩ := b3_s h
  have hq := c_L_market (d + 6) hq11
  refine XG.call hq.1 ?_ (fun z9 => z_SScall [.ref (xE 50)] [] (cs_L_272 _) rfl (dep (show d + 6 + 6 + 1 ≤ (d + 13) from by omega) (Nat.le_of_ble_eq_true rfl)) dL_law_14 rfl rfl (Nat.le_of_ble_eq_true rfl) hq.2 z9)
  refine XG.l (fun z9 => x_astoren dL_law_17 (Nat.le_of_ble_eq_true rfl) rfl rfl z9) ?_
  refine XG.l (fun z9 => x_aloadn dL_law_18 rfl z9) ?_
  refine XG.l (fun z9 => x_aloadn dL_law_19 rfl z9) ?_
  refine XG.l (fun z9 => x_bipush 9 dL_law_20 (by decide) z9) ?_
  obtain ⟨v12, hq13, h⟩ := b1_s h
  have hq := c_L_cell (d + 12) hq13
  refine XG.l (fun z9 => X.c0 (z_SScall [.ref (xE 50), .int 9] [.ref v8] (cs_L_28 _) rfl (dep (show d + 12 + 0 + 1 ≤ (d + 13) from by omega) (Nat.le_of_ble_eq_true rfl)) dL_law_22 rfl rfl (Nat.le_of_ble_eq_true rfl) hq z9)) ?_
  obtain ⟨v14, I15, K16, hq17, h⟩ := b3_s h
  have hq := c_L_text (d + 3) hq17
  refine XG.call hq.1 ?_ (fun z9 => z_Scall [.ref v8, .int v12] [] (cs_L_276 _) (dep (show d + 3 + 9 + 1 ≤ (d + 13) from by omega) (Nat.le_of_ble_eq_true rfl)) dL_law_25 rfl rfl (Nat.le_of_ble_eq_true rfl) hq.2 z9)
  refine XG.l (fun z9 => x_astore dL_law_28 (Nat.le_of_ble_eq_true rfl) rfl rfl z9) ?_
  refine XG.l (fun z9 => x_aloadn dL_law_30 rfl z9) ?_
  refine XG.l (fun z9 => x_aloadn dL_law_31 rfl z9) ?_
  refine XG.l (fun z9 => x_aloadn dL_law_32 rfl z9) ?_
  refine XG.l (fun z9 => x_aload dL_law_33 rfl z9) ?_
  obtain ⟨v18, I19, hq20, h⟩ := b2_s h
  have hq := c_L_told (d + 7) hq20
  refine XG.l (fun z9 => X.c0 (z_Scall [.ref w, .ref (kN K), .ref v14] [.ref w] (cs_L_280 _) (dep (show d + 7 + 5 + 1 ≤ (d + 13) from by omega) (Nat.le_of_ble_eq_true rfl)) dL_law_35 rfl rfl (Nat.le_of_ble_eq_true rfl) hq z9)) ?_
  obtain ⟨u21, hq22, h⟩ := b1_s h
  obtain ⟨k24, hq25, h⟩ := b1_s h
  obtain ⟨v23, I26, k27, hq28, h⟩ := o3_s h
  obtain ⟨K29, hq30, h⟩ := b1_s h
  have hq := zP (c_X9_parseSetup d (K := K16) (I := I19) (cW_s hq22) hq28)
  rw [(cT_s hq25).1] at hq
  rw [pkk_s hq30] at hq
  refine XG.payE ?_ (fun z9 => z_Vcall [.int v18] [] (cs_L_284 _) (ci := 7) rfl (LW.o (cW_s hq22)) (dep (show d + 0 + 12 + 1 ≤ (d + 13) from by omega) (Nat.le_of_ble_eq_true rfl)) dL_law_38 rfl rfl (Nat.le_of_ble_eq_true rfl) hq z9) (pkk_s hq30)
  refine XG.l (fun z9 => x_iconst 4 dL_law_41 rfl z9) ?_
  rcases Classical.em (v23 = 4) with hc | hc
  · have h := ifT hc h
    refine XG.l (fun z9 => x_icmp_eq 47 dL_law_42 rfl (fun _ => z9) (fun hn => absurd hc hn)) ?_
    refine XG.l (fun z9 => x_aloadn dL_law_47 rfl z9) ?_
    obtain ⟨v31, hq32, h⟩ := b1_s h
    have hq := c_L_all (d + 2) hq32
    refine XG.l (fun z9 => X.c0 (z_Scall [.ref w] [] (cs_L_287 _) (dep (show d + 2 + 10 + 1 ≤ (d + 13) from by omega) (Nat.le_of_ble_eq_true rfl)) dL_law_48 rfl rfl (Nat.le_of_ble_eq_true rfl) hq z9)) ?_
    refine XG.l (fun z9 => x_istore dL_law_51 (Nat.le_of_ble_eq_true rfl) rfl rfl z9) ?_
    refine XG.l (fun z9 => x_bipush 60 dL_law_53 (by decide) z9) ?_
    obtain ⟨m33, hq37, h⟩ := b1_s h
    obtain ⟨u34, hq38, h⟩ := b1_s h
    obtain ⟨I35, K36, hq39, h⟩ := b2_s h
    refine XG.sn hq39 ?_ (fun z9 => x_newJ (show Cond.arrayClass .long ∈ wsG from inT8 235 rfl rfl) (ixn_s hq37).1 (ixn_s hq37).2 (cL_s hq38) dL_law_55 z9)
    refine XG.l (fun z9 => x_astore dL_law_57 (Nat.le_of_ble_eq_true rfl) rfl rfl z9) ?_
    refine XG.l (fun z9 => x_bipush 60 dL_law_59 (by decide) z9) ?_
    obtain ⟨m40, hq44, h⟩ := b1_s h
    obtain ⟨u41, hq45, h⟩ := b1_s h
    obtain ⟨I42, K43, hq46, h⟩ := b2_s h
    refine XG.sn hq46 ?_ (fun z9 => x_newJ (show Cond.arrayClass .long ∈ wsG from inT8 235 rfl rfl) (ixn_s hq44).1 (ixn_s hq44).2 (cL_s hq45) dL_law_61 z9)
    refine XG.l (fun z9 => x_astore dL_law_63 (Nat.le_of_ble_eq_true rfl) rfl rfl z9) ?_
    refine XG.l (fun z9 => x_iconst 0 dL_law_65 rfl z9) ?_
    refine XG.l (fun z9 => x_istore dL_law_66 (Nat.le_of_ble_eq_true rfl) rfl rfl z9) ?_
    exact XG.forget (L' := [.ref (xE 50), .ref w, .retAddr 0, .retAddr 0, .retAddr 0, .int v31, .ref (kN K29), .ref (kN K36), .int 0, .retAddr 0, .retAddr 0, .retAddr 0, .retAddr 0, .retAddr 0, .retAddr 0, .retAddr 0, .retAddr 0, .retAddr 0, .retAddr 0]) ⟨Or.inl rfl, ⟨Or.inl rfl, ⟨Or.inr rfl, ⟨Or.inr rfl, ⟨Or.inr rfl, ⟨Or.inl rfl, ⟨Or.inl rfl, ⟨Or.inl rfl, ⟨Or.inl rfl, ⟨Or.inl rfl, ⟨Or.inl rfl, ⟨Or.inl rfl, ⟨Or.inl rfl, ⟨Or.inl rfl, ⟨Or.inl rfl, ⟨Or.inl rfl, ⟨Or.inl rfl, ⟨Or.inl rfl, ⟨Or.inl rfl, trivial⟩⟩⟩⟩⟩⟩⟩⟩⟩⟩⟩⟩⟩⟩⟩⟩⟩⟩⟩ (tl_L_law_68 d FU h)
  have h := ifF hc h
  refine XG.l (fun z9 => x_icmp_eq 47 dL_law_42 rfl (fun hn => absurd hn hc) (fun _ => z9)) ?_
  refine XG.l (fun z9 => x_iconst 0 dL_law_45 rfl z9) ?_
  cases h
  exact XG.z (x_zret rfl rfl dL_law_46 ⟨rfl, rfl, rfl⟩)
