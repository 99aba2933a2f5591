noncomputable def f_X10_readsItem (a_X10_readsRepeat : Mem → Nat → Option Mem) (I : Mem) (x0 : Nat) : Option (Mem) := b1 (f_X10_isWord I x0 0) fun v1 => if v1 = 0 then (b1 (f_X10_isWord I x0 1) fun v3 => if v3 = 0 then (b1 (f_X10_isWord I x0 2) fun v5 => if v5 = 0 then (b1 (f_X10_isWord I x0 3) fun v7 => if v7 = 0 then (b1 (f_X10_isWord I x0 4) fun v9 => if v9 = 0 then (b1 (f_X10_isWord I x0 14) fun v11 => if v11 = 0 then (b1 (f_X10_isWord I x0 15) fun v13 => if v13 = 0 then (b1 (f_X10_isWord I x0 5) fun v15 => if v15 = 0 then (b1 (f_X10_isWord I x0 13) fun v17 => if v17 = 0 then (b1 (f_X10_isWord I x0 16) fun v19 => if v19 = 0 then (b1 (f_X10_isWord I x0 17) fun v21 => if v21 = 0 then (b1 (f_X10_readsTrade I x0) fun I23 => some (I23)) else (b1 (a_X10_readsRepeat I x0) fun I25 => some (I25))) else (b1 (f_X10_readsAdvance I x0) fun I27 => some (I27))) else (b1 (f_X10_readsSale I x0) fun I29 => some (I29))) else (b1 (f_X10_readsLimit I x0) fun I31 => some (I31))) else (b1 (f_X10_readsTax I x0) fun I33 => some (I33))) else (b1 (ix 0 355) fun j35 => b1 (f_X10_readsSetting I x0 8 ((I (x0 + 1) j35) - 1)) fun I36 => some (I36))) else (b1 (f_X10_readsSetting I x0 6 50) fun I38 => some (I38))) else (b1 (f_X10_readsSetting I x0 5 30) fun I40 => some (I40))) else (b1 (f_X10_readsWish I x0) fun I42 => some (I42))) else (b1 (f_X10_readsPerson I x0) fun I44 => some (I44))) else (b1 (f_X10_readsStall I x0) fun I46 => some (I46))
theorem c_X10_readsItem (d : Nat) {K : Kt} {a_X10_readsRepeat : Mem → Nat → Option Mem} (ha_X10_readsRepeat : ∀ {I : Mem} {x0 : Nat} (H0 : MK K x0) {I9 : Mem}, a_X10_readsRepeat I x0 = some I9 → Ct (mX10_readsRepeat (d + 11)) cX10_readsRepeat 0 0 [.ref x0] I K (Ro (.inl none) I9 K)) {I : Mem} {x0 : Nat} (H0 : MK K x0) {I9 : Mem} (h : f_X10_readsItem a_X10_readsRepeat I x0 = some I9) : Ct (mX10_readsItem (d + 12)) cX10_readsItem 0 0 [.ref x0] I K (Ro (.inl none) I9 K) := by
  refine Ct.of rfl pn_X10 (catR cat0) (Nat.le_of_ble_eq_true rfl) (show X _ _ _ _ _ _ 0 [.ref x0] [] _ from ?_)
  unfold f_X10_readsItem at h
  refine x_aloadn dX10_readsItem_0 rfl ?_
  refine x_ldcS 0 (show (RX10, 242, "stall", 0) ∈ strT from by decide +kernel) dX10_readsItem_1 ?_
  obtain ⟨v1, h2, h⟩ := b1_s h
  refine z_V1 [.ref (xE (100 + 0))] [] (cs_X10_135 _) (ci := 8) rfl (MK.o H0) (dep (show d + 7 + 4 + 1 ≤ (d + 12) from by omega) (Nat.le_of_ble_eq_true rfl)) dX10_readsItem_3 rfl rfl (Nat.le_of_ble_eq_true rfl) (c_X10_isWord (d + 7) (K := K) (I := I) H0 h2) ?_
  refine x_if_eq 16 dX10_readsItem_6 rfl (fun hc => ?_) (fun hc => ?_)
  · have h := ifT hc h
    refine x_aloadn dX10_readsItem_16 rfl ?_
    refine x_ldcS 1 (show (RX10, 247, "person", 1) ∈ strT from by decide +kernel) dX10_readsItem_17 ?_
    obtain ⟨v3, h4, h⟩ := b1_s h
    refine z_V1 [.ref (xE (100 + 1))] [] (cs_X10_135 _) (ci := 8) rfl (MK.o H0) (dep (show d + 7 + 4 + 1 ≤ (d + 12) from by omega) (Nat.le_of_ble_eq_true rfl)) dX10_readsItem_19 rfl rfl (Nat.le_of_ble_eq_true rfl) (c_X10_isWord (d + 7) (K := K) (I := I) H0 h4) ?_
    refine x_if_eq 32 dX10_readsItem_22 rfl (fun hc => ?_) (fun hc => ?_)
    · have h := ifT hc h
      refine x_aloadn dX10_readsItem_32 rfl ?_
      refine x_ldcS 2 (show (RX10, 252, "wish", 2) ∈ strT from by decide +kernel) dX10_readsItem_33 ?_
      obtain ⟨v5, h6, h⟩ := b1_s h
      refine z_V1 [.ref (xE (100 + 2))] [] (cs_X10_135 _) (ci := 8) rfl (MK.o H0) (dep (show d + 7 + 4 + 1 ≤ (d + 12) from by omega) (Nat.le_of_ble_eq_true rfl)) dX10_readsItem_35 rfl rfl (Nat.le_of_ble_eq_true rfl) (c_X10_isWord (d + 7) (K := K) (I := I) H0 h6) ?_
      refine x_if_eq 48 dX10_readsItem_38 rfl (fun hc => ?_) (fun hc => ?_)
      · have h := ifT hc h
        refine x_aloadn dX10_readsItem_48 rfl ?_
        refine x_ldcWS 3 (show (RX10, 257, "regret", 3) ∈ strT from by decide +kernel) dX10_readsItem_49 ?_
        obtain ⟨v7, h8, h⟩ := b1_s h
        refine z_V1 [.ref (xE (100 + 3))] [] (cs_X10_135 _) (ci := 8) rfl (MK.o H0) (dep (show d + 7 + 4 + 1 ≤ (d + 12) from by omega) (Nat.le_of_ble_eq_true rfl)) dX10_readsItem_52 rfl rfl (Nat.le_of_ble_eq_true rfl) (c_X10_isWord (d + 7) (K := K) (I := I) H0 h8) ?_
        refine x_if_eq 68 dX10_readsItem_55 rfl (fun hc => ?_) (fun hc => ?_)
        · have h := ifT hc h
          refine x_aloadn dX10_readsItem_68 rfl ?_
          refine x_ldcWS 4 (show (RX10, 262, "fee", 4) ∈ strT from by decide +kernel) dX10_readsItem_69 ?_
          obtain ⟨v9, h10, h⟩ := b1_s h
          refine z_V1 [.ref (xE (100 + 4))] [] (cs_X10_135 _) (ci := 8) rfl (MK.o H0) (dep (show d + 7 + 4 + 1 ≤ (d + 12) from by omega) (Nat.le_of_ble_eq_true rfl)) dX10_readsItem_72 rfl rfl (Nat.le_of_ble_eq_true rfl) (c_X10_isWord (d + 7) (K := K) (I := I) H0 h10) ?_
          refine x_if_eq 89 dX10_readsItem_75 rfl (fun hc => ?_) (fun hc => ?_)
          · have h := ifT hc h
            refine x_aloadn dX10_readsItem_89 rfl ?_
            refine x_ldcWS 14 (show (RX10, 264, "auction", 14) ∈ strT from by decide +kernel) dX10_readsItem_90 ?_
            obtain ⟨v11, h12, h⟩ := b1_s h
            refine z_V1 [.ref (xE (100 + 14))] [] (cs_X10_135 _) (ci := 8) rfl (MK.o H0) (dep (show d + 7 + 4 + 1 ≤ (d + 12) from by omega) (Nat.le_of_ble_eq_true rfl)) dX10_readsItem_93 rfl rfl (Nat.le_of_ble_eq_true rfl) (c_X10_isWord (d + 7) (K := K) (I := I) H0 h12) ?_
            refine x_if_eq 116 dX10_readsItem_96 rfl (fun hc => ?_) (fun hc => ?_)
            · have h := ifT hc h
              refine x_aloadn dX10_readsItem_116 rfl ?_
              refine x_ldcWS 15 (show (RX10, 266, "tax", 15) ∈ strT from by decide +kernel) dX10_readsItem_117 ?_
              obtain ⟨v13, h14, h⟩ := b1_s h
              refine z_V1 [.ref (xE (100 + 15))] [] (cs_X10_135 _) (ci := 8) rfl (MK.o H0) (dep (show d + 7 + 4 + 1 ≤ (d + 12) from by omega) (Nat.le_of_ble_eq_true rfl)) dX10_readsItem_120 rfl rfl (Nat.le_of_ble_eq_true rfl) (c_X10_isWord (d + 7) (K := K) (I := I) H0 h14) ?_
              refine x_if_eq 133 dX10_readsItem_123 rfl (fun hc => ?_) (fun hc => ?_)
              · have h := ifT hc h
                refine x_aloadn dX10_readsItem_133 rfl ?_
                refine x_ldcWS 5 (show (RX10, 271, "limit", 5) ∈ strT from by decide +kernel) dX10_readsItem_134 ?_
                obtain ⟨v15, h16, h⟩ := b1_s h
                refine z_V1 [.ref (xE (100 + 5))] [] (cs_X10_135 _) (ci := 8) rfl (MK.o H0) (dep (show d + 7 + 4 + 1 ≤ (d + 12) from by omega) (Nat.le_of_ble_eq_true rfl)) dX10_readsItem_137 rfl rfl (Nat.le_of_ble_eq_true rfl) (c_X10_isWord (d + 7) (K := K) (I := I) H0 h16) ?_
                refine x_if_eq 150 dX10_readsItem_140 rfl (fun hc => ?_) (fun hc => ?_)
                · have h := ifT hc h
                  refine x_aloadn dX10_readsItem_150 rfl ?_
                  refine x_ldcWS 13 (show (RX10, 276, "sale", 13) ∈ strT from by decide +kernel) dX10_readsItem_151 ?_
                  obtain ⟨v17, h18, h⟩ := b1_s h
                  refine z_V1 [.ref (xE (100 + 13))] [] (cs_X10_135 _) (ci := 8) rfl (MK.o H0) (dep (show d + 7 + 4 + 1 ≤ (d + 12) from by omega) (Nat.le_of_ble_eq_true rfl)) dX10_readsItem_154 rfl rfl (Nat.le_of_ble_eq_true rfl) (c_X10_isWord (d + 7) (K := K) (I := I) H0 h18) ?_
                  refine x_if_eq 167 dX10_readsItem_157 rfl (fun hc => ?_) (fun hc => ?_)
                  · have h := ifT hc h
                    refine x_aloadn dX10_readsItem_167 rfl ?_
                    refine x_ldcWS 16 (show (RX10, 281, "advance", 16) ∈ strT from by decide +kernel) dX10_readsItem_168 ?_
                    obtain ⟨v19, h20, h⟩ := b1_s h
                    refine z_V1 [.ref (xE (100 + 16))] [] (cs_X10_135 _) (ci := 8) rfl (MK.o H0) (dep (show d + 7 + 4 + 1 ≤ (d + 12) from by omega) (Nat.le_of_ble_eq_true rfl)) dX10_readsItem_171 rfl rfl (Nat.le_of_ble_eq_true rfl) (c_X10_isWord (d + 7) (K := K) (I := I) H0 h20) ?_
                    refine x_if_eq 184 dX10_readsItem_174 rfl (fun hc => ?_) (fun hc => ?_)
                    · have h := ifT hc h
                      refine x_aloadn dX10_readsItem_184 rfl ?_
                      refine x_ldcWS 17 (show (RX10, 286, "repeat", 17) ∈ strT from by decide +kernel) dX10_readsItem_185 ?_
                      obtain ⟨v21, h22, h⟩ := b1_s h
                      refine z_V1 [.ref (xE (100 + 17))] [] (cs_X10_135 _) (ci := 8) rfl (MK.o H0) (dep (show d + 7 + 4 + 1 ≤ (d + 12) from by omega) (Nat.le_of_ble_eq_true rfl)) dX10_readsItem_188 rfl rfl (Nat.le_of_ble_eq_true rfl) (c_X10_isWord (d + 7) (K := K) (I := I) H0 h22) ?_
                      refine x_if_eq 201 dX10_readsItem_191 rfl (fun hc => ?_) (fun hc => ?_)
                      · have h := ifT hc h
                        refine x_aloadn dX10_readsItem_201 rfl ?_
                        obtain ⟨I23, h24, h⟩ := b1_s h
                        refine z_V0 [] [] (cs_X10_291 _) (ci := 8) rfl (MK.o H0) (dep (show d + 5 + 6 + 1 ≤ (d + 12) from by omega) (Nat.le_of_ble_eq_true rfl)) dX10_readsItem_202 rfl rfl (Nat.le_of_ble_eq_true rfl) (c_X10_readsTrade (d + 5) (K := K) (I := I) H0 h24) ?_
                        cases h
                        exact x_vret rfl dX10_readsItem_205 ⟨rfl, rfl, rfl⟩
                      have h := ifF hc h
                      refine x_aloadn dX10_readsItem_194 rfl ?_
                      obtain ⟨I25, h26, h⟩ := b1_s h
                      refine z_V0 [] [] (cs_X10_288 _) (ci := 8) rfl (MK.o H0) (dep (show d + 11 + 1 ≤ (d + 12) from by omega) (Nat.le_of_ble_eq_true rfl)) dX10_readsItem_195 rfl rfl (Nat.le_of_ble_eq_true rfl) (ha_X10_readsRepeat H0 h26) ?_
                      refine x_goto 205 dX10_readsItem_198 rfl ?_
                      cases h
                      exact x_vret rfl dX10_readsItem_205 ⟨rfl, rfl, rfl⟩
                    have h := ifF hc h
                    refine x_aloadn dX10_readsItem_177 rfl ?_
                    obtain ⟨I27, h28, h⟩ := b1_s h
                    refine z_V0 [] [] (cs_X10_283 _) (ci := 8) rfl (MK.o H0) (dep (show d + 1 + 10 + 1 ≤ (d + 12) from by omega) (Nat.le_of_ble_eq_true rfl)) dX10_readsItem_178 rfl rfl (Nat.le_of_ble_eq_true rfl) (c_X10_readsAdvance (d + 1) (K := K) (I := I) H0 h28) ?_
                    refine x_goto 205 dX10_readsItem_181 rfl ?_
                    cases h
                    exact x_vret rfl dX10_readsItem_205 ⟨rfl, rfl, rfl⟩
                  have h := ifF hc h
                  refine x_aloadn dX10_readsItem_160 rfl ?_
                  obtain ⟨I29, h30, h⟩ := b1_s h
                  refine z_V0 [] [] (cs_X10_278 _) (ci := 8) rfl (MK.o H0) (dep (show d + 7 + 4 + 1 ≤ (d + 12) from by omega) (Nat.le_of_ble_eq_true rfl)) dX10_readsItem_161 rfl rfl (Nat.le_of_ble_eq_true rfl) (c_X10_readsSale (d + 7) (K := K) (I := I) H0 h30) ?_
                  refine x_goto 205 dX10_readsItem_164 rfl ?_
                  cases h
                  exact x_vret rfl dX10_readsItem_205 ⟨rfl, rfl, rfl⟩
                have h := ifF hc h
                refine x_aloadn dX10_readsItem_143 rfl ?_
                obtain ⟨I31, h32, h⟩ := b1_s h
                refine z_V0 [] [] (cs_X10_273 _) (ci := 8) rfl (MK.o H0) (dep (show d + 7 + 4 + 1 ≤ (d + 12) from by omega) (Nat.le_of_ble_eq_true rfl)) dX10_readsItem_144 rfl rfl (Nat.le_of_ble_eq_true rfl) (c_X10_readsLimit (d + 7) (K := K) (I := I) H0 h32) ?_
                refine x_goto 205 dX10_readsItem_147 rfl ?_
                cases h
                exact x_vret rfl dX10_readsItem_205 ⟨rfl, rfl, rfl⟩
              have h := ifF hc h
              refine x_aloadn dX10_readsItem_126 rfl ?_
              obtain ⟨I33, h34, h⟩ := b1_s h
              refine z_V0 [] [] (cs_X10_268 _) (ci := 8) rfl (MK.o H0) (dep (show d + 7 + 4 + 1 ≤ (d + 12) from by omega) (Nat.le_of_ble_eq_true rfl)) dX10_readsItem_127 rfl rfl (Nat.le_of_ble_eq_true rfl) (c_X10_readsTax (d + 7) (K := K) (I := I) H0 h34) ?_
              refine x_goto 205 dX10_readsItem_130 rfl ?_
              cases h
              exact x_vret rfl dX10_readsItem_205 ⟨rfl, rfl, rfl⟩
            have h := ifF hc h
            refine x_aloadn dX10_readsItem_99 rfl ?_
            refine x_bipush 8 dX10_readsItem_100 rfl ?_
            refine x_aloadn dX10_readsItem_102 rfl ?_
            refine z_getR fs_X10_9 (MK.o H0) (MK.g1 H0) dX10_readsItem_103 ?_
            refine x_iconst 0 dX10_readsItem_106 rfl ?_
            obtain ⟨j35, hj35, h⟩ := b1_s h
            refine z_iald (MK.l1 H0) hj35 dX10_readsItem_107 ?_
            refine x_iconst 1 dX10_readsItem_108 rfl ?_
            refine x_isub dX10_readsItem_109 ?_
            obtain ⟨I36, h37, h⟩ := b1_s h
            refine z_V0 [.int 8, .int ((I (x0 + 1) j35) - 1)] [] (cs_X10_259 _) (ci := 8) rfl (MK.o H0) (dep (show d + 7 + 4 + 1 ≤ (d + 12) from by omega) (Nat.le_of_ble_eq_true rfl)) dX10_readsItem_110 rfl rfl (Nat.le_of_ble_eq_true rfl) (c_X10_readsSetting (d + 7) (K := K) (I := I) H0 h37) ?_
            refine x_goto 205 dX10_readsItem_113 rfl ?_
            cases h
            exact x_vret rfl dX10_readsItem_205 ⟨rfl, rfl, rfl⟩
          have h := ifF hc h
          refine x_aloadn dX10_readsItem_78 rfl ?_
          refine x_bipush 6 dX10_readsItem_79 rfl ?_
          refine x_bipush 50 dX10_readsItem_81 rfl ?_
          obtain ⟨I38, h39, h⟩ := b1_s h
          refine z_V0 [.int 6, .int 50] [] (cs_X10_259 _) (ci := 8) rfl (MK.o H0) (dep (show d + 7 + 4 + 1 ≤ (d + 12) from by omega) (Nat.le_of_ble_eq_true rfl)) dX10_readsItem_83 rfl rfl (Nat.le_of_ble_eq_true rfl) (c_X10_readsSetting (d + 7) (K := K) (I := I) H0 h39) ?_
          refine x_goto 205 dX10_readsItem_86 rfl ?_
          cases h
          exact x_vret rfl dX10_readsItem_205 ⟨rfl, rfl, rfl⟩
        have h := ifF hc h
        refine x_aloadn dX10_readsItem_58 rfl ?_
        refine x_iconst 5 dX10_readsItem_59 rfl ?_
        refine x_bipush 30 dX10_readsItem_60 rfl ?_
        obtain ⟨I40, h41, h⟩ := b1_s h
        refine z_V0 [.int 5, .int 30] [] (cs_X10_259 _) (ci := 8) rfl (MK.o H0) (dep (show d + 7 + 4 + 1 ≤ (d + 12) from by omega) (Nat.le_of_ble_eq_true rfl)) dX10_readsItem_62 rfl rfl (Nat.le_of_ble_eq_true rfl) (c_X10_readsSetting (d + 7) (K := K) (I := I) H0 h41) ?_
        refine x_goto 205 dX10_readsItem_65 rfl ?_
        cases h
        exact x_vret rfl dX10_readsItem_205 ⟨rfl, rfl, rfl⟩
      have h := ifF hc h
      refine x_aloadn dX10_readsItem_41 rfl ?_
      obtain ⟨I42, h43, h⟩ := b1_s h
      refine z_V0 [] [] (cs_X10_254 _) (ci := 8) rfl (MK.o H0) (dep (show d + 5 + 6 + 1 ≤ (d + 12) from by omega) (Nat.le_of_ble_eq_true rfl)) dX10_readsItem_42 rfl rfl (Nat.le_of_ble_eq_true rfl) (c_X10_readsWish (d + 5) (K := K) (I := I) H0 h43) ?_
      refine x_goto 205 dX10_readsItem_45 rfl ?_
      cases h
      exact x_vret rfl dX10_readsItem_205 ⟨rfl, rfl, rfl⟩
    have h := ifF hc h
    refine x_aloadn dX10_readsItem_25 rfl ?_
    obtain ⟨I44, h45, h⟩ := b1_s h
    refine z_V0 [] [] (cs_X10_249 _) (ci := 8) rfl (MK.o H0) (dep (show d + 5 + 6 + 1 ≤ (d + 12) from by omega) (Nat.le_of_ble_eq_true rfl)) dX10_readsItem_26 rfl rfl (Nat.le_of_ble_eq_true rfl) (c_X10_readsPerson (d + 5) (K := K) (I := I) H0 h45) ?_
    refine x_goto 205 dX10_readsItem_29 rfl ?_
    cases h
    exact x_vret rfl dX10_readsItem_205 ⟨rfl, rfl, rfl⟩
  have h := ifF hc h
  refine x_aloadn dX10_readsItem_9 rfl ?_
  obtain ⟨I46, h47, h⟩ := b1_s h
  refine z_V0 [] [] (cs_X10_244 _) (ci := 8) rfl (MK.o H0) (dep (show d + 7 + 4 + 1 ≤ (d + 12) from by omega) (Nat.le_of_ble_eq_true rfl)) dX10_readsItem_10 rfl rfl (Nat.le_of_ble_eq_true rfl) (c_X10_readsStall (d + 7) (K := K) (I := I) H0 h47) ?_
  refine x_goto 205 dX10_readsItem_13 rfl ?_
  cases h
  exact x_vret rfl dX10_readsItem_205 ⟨rfl, rfl, rfl⟩
noncomputable def l_X10_readsItems_0 (a_X10_readsItem : Mem → Nat → Option Mem) (n : Nat) (I : Mem) (x0 : Nat) : Option (Mem) := match n with
  | 0 => none
  | n + 1 => b1 (f_X10_goes I x0) fun I1 => b1 (a_X10_readsItem I1 x0) fun I3 => b1 (f_X10_is I3 x0 4) fun v5 => if v5 = 0 then (b1 (f_X10_is I3 x0 6) fun v7 => if v7 = 0 then (b1 (f_X10_faults I3 x0 1) fun I9 => some (I9)) else (some (I3))) else (l_X10_readsItems_0 a_X10_readsItem n I3 x0)
theorem tl_X10_readsItems_0 (d : Nat) {K : Kt} {a_X10_readsItem : Mem → Nat → Option Mem} (ha_X10_readsItem : ∀ {I : Mem} {x0 : Nat} (H0 : MK K x0) {I9 : Mem}, a_X10_readsItem I x0 = some I9 → Ct (mX10_readsItem (d + 3)) cX10_readsItem 0 0 [.ref x0] I K (Ro (.inl none) I9 K)) (n : Nat) : ∀ {I : Mem} {x0 : Nat} (H0 : MK K x0) {I9 : Mem}, l_X10_readsItems_0 a_X10_readsItem n I x0 = some I9 → X (mX10_readsItems (d + 4)) cX10_readsItems 0 0 I K 0 [.ref x0] [] (Ro (.inl none) I9 K) := by
  induction n with
  | zero =>
    intro I x0 H0 I9 h
    cases h
  | succ n ih =>
    intro I x0 H0 I9 h
    unfold l_X10_readsItems_0 at h
    refine x_aloadn dX10_readsItems_0 rfl ?_
    obtain ⟨I1, h2, h⟩ := b1_s h
    refine z_V0 [] [] (cs_X10_115 _) (ci := 8) rfl (MK.o H0) (dep (show d + 1 + 2 + 1 ≤ (d + 4) from by omega) (Nat.le_of_ble_eq_true rfl)) dX10_readsItems_1 rfl rfl (Nat.le_of_ble_eq_true rfl) (c_X10_goes (d + 1) (K := K) (I := I) H0 h2) ?_
    refine x_aloadn dX10_readsItems_4 rfl ?_
    obtain ⟨I3, h4, h⟩ := b1_s h
    refine z_V0 [] [] (cs_X10_233 _) (ci := 8) rfl (MK.o H0) (dep (show d + 3 + 1 ≤ (d + 4) from by omega) (Nat.le_of_ble_eq_true rfl)) dX10_readsItems_5 rfl rfl (Nat.le_of_ble_eq_true rfl) (ha_X10_readsItem H0 h4) ?_
    refine x_aloadn dX10_readsItems_8 rfl ?_
    refine x_iconst 4 dX10_readsItems_9 rfl ?_
    obtain ⟨v5, h6, h⟩ := b1_s h
    refine z_V1 [.int 4] [] (cs_X10_98 _) (ci := 8) rfl (MK.o H0) (dep (show d + 3 + 0 + 1 ≤ (d + 4) from by omega) (Nat.le_of_ble_eq_true rfl)) dX10_readsItems_10 rfl rfl (Nat.le_of_ble_eq_true rfl) (c_X10_is (d + 3) (K := K) (I := I3) H0 h6) ?_
    refine x_if_ne 0 dX10_readsItems_13 rfl (fun hc => ?_) (fun hc => ?_)
    · have h := ifF hc h
      exact ih H0 h
    have h := ifT hc h
    refine x_aloadn dX10_readsItems_16 rfl ?_
    refine x_bipush 6 dX10_readsItems_17 rfl ?_
    obtain ⟨v7, h8, h⟩ := b1_s h
    refine z_V1 [.int 6] [] (cs_X10_98 _) (ci := 8) rfl (MK.o H0) (dep (show d + 3 + 0 + 1 ≤ (d + 4) from by omega) (Nat.le_of_ble_eq_true rfl)) dX10_readsItems_19 rfl rfl (Nat.le_of_ble_eq_true rfl) (c_X10_is (d + 3) (K := K) (I := I3) H0 h8) ?_
    refine x_if_ne 30 dX10_readsItems_22 rfl (fun hc => ?_) (fun hc => ?_)
    · have h := ifF hc h
      cases h
      exact x_vret rfl dX10_readsItems_30 ⟨rfl, rfl, rfl⟩
    have h := ifT hc h
    refine x_aloadn dX10_readsItems_25 rfl ?_
    refine x_iconst 1 dX10_readsItems_26 rfl ?_
    obtain ⟨I9, h10, h⟩ := b1_s h
    refine z_V0 [.int 1] [] (cs_X10_95 _) (ci := 8) rfl (MK.o H0) (dep (show d + 3 + 0 + 1 ≤ (d + 4) from by omega) (Nat.le_of_ble_eq_true rfl)) dX10_readsItems_27 rfl rfl (Nat.le_of_ble_eq_true rfl) (c_X10_faults (d + 3) (K := K) (I := I3) H0 h10) ?_
    cases h
    exact x_vret rfl dX10_readsItems_30 ⟨rfl, rfl, rfl⟩
noncomputable def f_X10_readsItems (a_X10_readsItem : Mem → Nat → Option Mem) (I : Mem) (x0 : Nat) : Option (Mem) := l_X10_readsItems_0 a_X10_readsItem FU I x0
theorem c_X10_readsItems (d : Nat) {K : Kt} {a_X10_readsItem : Mem → Nat → Option Mem} (ha_X10_readsItem : ∀ {I : Mem} {x0 : Nat} (H0 : MK K x0) {I9 : Mem}, a_X10_readsItem I x0 = some I9 → Ct (mX10_readsItem (d + 3)) cX10_readsItem 0 0 [.ref x0] I K (Ro (.inl none) I9 K)) {I : Mem} {x0 : Nat} (H0 : MK K x0) {I9 : Mem} (h : f_X10_readsItems a_X10_readsItem I x0 = some I9) : Ct (mX10_readsItems (d + 4)) cX10_readsItems 0 0 [.ref x0] I K (Ro (.inl none) I9 K) := by
  refine Ct.of rfl pn_X10 (catR cat0) (Nat.le_of_ble_eq_true rfl) (show X _ _ _ _ _ _ 0 [.ref x0] [] _ from ?_)
  unfold f_X10_readsItems at h
  exact tl_X10_readsItems_0 d ha_X10_readsItem FU H0 h
noncomputable def l_X10_readsRepeat_81 (a_X10_readsItems : Mem → Nat → Option Mem) (I : Mem) (x0 : Nat) : Option (Mem) := b1 (pu I x0 17 ((I x0 17) - 1)) fun I9 => b1 (f_X10_goes I9 x0) fun I10 => some (I10)
theorem tl_X10_readsRepeat_81 (d : Nat) {K : Kt} {a_X10_readsItems : Mem → Nat → Option Mem} (ha_X10_readsItems : ∀ {I : Mem} {x0 : Nat} (H0 : MK K x0) {I9 : Mem}, a_X10_readsItems I x0 = some I9 → Ct (mX10_readsItems (d + 4)) cX10_readsItems 0 0 [.ref x0] I K (Ro (.inl none) I9 K)) : ∀ {I : Mem} {x0 : Nat} (H0 : MK K x0) {I9 : Mem}, l_X10_readsRepeat_81 a_X10_readsItems I x0 = some I9 → X (mX10_readsRepeat (d + 5)) cX10_readsRepeat 0 0 I K 81 [.ref x0, .retAddr 0, .retAddr 0, .retAddr 0] [] (Ro (.inl none) I9 K) := by
  intro I x0 H0 I9 h
  unfold l_X10_readsRepeat_81 at h
  refine x_aloadn dX10_readsRepeat_81 rfl ?_
  refine x_dup dX10_readsRepeat_82 rfl ?_
  refine z_getI fs_X10_236 (MK.o H0) dX10_readsRepeat_83 ?_
  refine x_iconst 1 dX10_readsRepeat_86 rfl ?_
  refine x_isub dX10_readsRepeat_87 ?_
  obtain ⟨I9, hI9, h⟩ := b1_s h
  refine z_putI fs_X10_236 (MK.o H0) hI9 dX10_readsRepeat_88 ?_
  refine x_aloadn dX10_readsRepeat_91 rfl ?_
  obtain ⟨I10, h11, h⟩ := b1_s h
  refine z_V0 [] [] (cs_X10_115 _) (ci := 8) rfl (MK.o H0) (dep (show d + 2 + 2 + 1 ≤ (d + 5) from by omega) (Nat.le_of_ble_eq_true rfl)) dX10_readsRepeat_92 rfl rfl (Nat.le_of_ble_eq_true rfl) (c_X10_goes (d + 2) (K := K) (I := I9) H0 h11) ?_
  cases h
  exact x_vret rfl dX10_readsRepeat_95 ⟨rfl, rfl, rfl⟩
noncomputable def l_X10_readsRepeat_54 (a_X10_readsItems : Mem → Nat → Option Mem) (n : Nat) (I : Mem) (x0 : Nat) (x1 : Int32) (x2 : Int32) (x3 : Int32) : Option (Mem) := match n with
  | 0 => none
  | n + 1 => if x1 ≤ x3 then (l_X10_readsRepeat_81 a_X10_readsItems I x0) else (if (I x0 10) = 0 then (b1 (pu I x0 13 x2) fun I12 => b1 (a_X10_readsItems I12 x0) fun I13 => l_X10_readsRepeat_54 a_X10_readsItems n I13 x0 x1 x2 (x3 + 1)) else (l_X10_readsRepeat_81 a_X10_readsItems I x0))
theorem tl_X10_readsRepeat_54 (d : Nat) {K : Kt} {a_X10_readsItems : Mem → Nat → Option Mem} (ha_X10_readsItems : ∀ {I : Mem} {x0 : Nat} (H0 : MK K x0) {I9 : Mem}, a_X10_readsItems I x0 = some I9 → Ct (mX10_readsItems (d + 4)) cX10_readsItems 0 0 [.ref x0] I K (Ro (.inl none) I9 K)) (n : Nat) : ∀ {I : Mem} {x0 : Nat} (H0 : MK K x0) {x1 : Int32} {x2 : Int32} {x3 : Int32} {I9 : Mem}, l_X10_readsRepeat_54 a_X10_readsItems n I x0 x1 x2 x3 = some I9 → X (mX10_readsRepeat (d + 5)) cX10_readsRepeat 0 0 I K 54 [.ref x0, .int x1, .int x2, .int x3] [] (Ro (.inl none) I9 K) := by
  induction n with
  | zero =>
    intro I x0 H0 x1 x2 x3 I9 h
    cases h
  | succ n ih =>
    intro I x0 H0 x1 x2 x3 I9 h
    unfold l_X10_readsRepeat_54 at h
    refine x_iloadn dX10_readsRepeat_54 rfl ?_
    refine x_iloadn dX10_readsRepeat_55 rfl ?_
    refine x_icmp_ge 81 dX10_readsRepeat_56 rfl (fun hc => ?_) (fun hc => ?_)
    · have h := ifT hc h
      exact X.forget (L' := [.ref x0, .retAddr 0, .retAddr 0, .retAddr 0]) ⟨Or.inl rfl, ⟨Or.inr rfl, ⟨Or.inr rfl, ⟨Or.inr rfl, trivial⟩⟩⟩⟩ (tl_X10_readsRepeat_81 d ha_X10_readsItems H0 h)
    have h := ifF hc h
    refine x_aloadn dX10_readsRepeat_59 rfl ?_
    refine z_getI fs_X10_59 (MK.o H0) dX10_readsRepeat_60 ?_
    refine x_if_ne 81 dX10_readsRepeat_63 rfl (fun hc => ?_) (fun hc => ?_)
    · have h := ifF hc h
      exact X.forget (L' := [.ref x0, .retAddr 0, .retAddr 0, .retAddr 0]) ⟨Or.inl rfl, ⟨Or.inr rfl, ⟨Or.inr rfl, ⟨Or.inr rfl, trivial⟩⟩⟩⟩ (tl_X10_readsRepeat_81 d ha_X10_readsItems H0 h)
    have h := ifT hc h
    refine x_aloadn dX10_readsRepeat_66 rfl ?_
    refine x_iloadn dX10_readsRepeat_67 rfl ?_
    obtain ⟨I12, hI12, h⟩ := b1_s h
    refine z_putI fs_X10_73 (MK.o H0) hI12 dX10_readsRepeat_68 ?_
    refine x_aloadn dX10_readsRepeat_71 rfl ?_
    obtain ⟨I13, h14, h⟩ := b1_s h
    refine z_V0 [] [] (cs_X10_239 _) (ci := 8) rfl (MK.o H0) (dep (show d + 4 + 1 ≤ (d + 5) from by omega) (Nat.le_of_ble_eq_true rfl)) dX10_readsRepeat_72 rfl rfl (Nat.le_of_ble_eq_true rfl) (ha_X10_readsItems H0 h14) ?_
    refine z_iinc 1 (by decide) dX10_readsRepeat_75 rfl rfl rfl ?_
    refine x_goto 54 dX10_readsRepeat_78 rfl ?_
    exact ih H0 h
noncomputable def l_X10_readsRepeat_37 (a_X10_readsItems : Mem → Nat → Option Mem) (I : Mem) (x0 : Nat) (x1 : Int32) : Option (Mem) := b1 (pu I x0 17 ((I x0 17) + 1)) fun I8 => l_X10_readsRepeat_54 a_X10_readsItems FU I8 x0 x1 (I x0 13) 0
theorem tl_X10_readsRepeat_37 (d : Nat) {K : Kt} {a_X10_readsItems : Mem → Nat → Option Mem} (ha_X10_readsItems : ∀ {I : Mem} {x0 : Nat} (H0 : MK K x0) {I9 : Mem}, a_X10_readsItems I x0 = some I9 → Ct (mX10_readsItems (d + 4)) cX10_readsItems 0 0 [.ref x0] I K (Ro (.inl none) I9 K)) : ∀ {I : Mem} {x0 : Nat} (H0 : MK K x0) {x1 : Int32} {I9 : Mem}, l_X10_readsRepeat_37 a_X10_readsItems I x0 x1 = some I9 → X (mX10_readsRepeat (d + 5)) cX10_readsRepeat 0 0 I K 37 [.ref x0, .int x1, .retAddr 0, .retAddr 0] [] (Ro (.inl none) I9 K) := by
  intro I x0 H0 x1 I9 h
  unfold l_X10_readsRepeat_37 at h
  refine x_aloadn dX10_readsRepeat_37 rfl ?_
  refine z_getI fs_X10_73 (MK.o H0) dX10_readsRepeat_38 ?_
  refine x_istoren dX10_readsRepeat_41 (Nat.le_of_ble_eq_true rfl) rfl rfl ?_
  refine x_aloadn dX10_readsRepeat_42 rfl ?_
  refine x_dup dX10_readsRepeat_43 rfl ?_
  refine z_getI fs_X10_236 (MK.o H0) dX10_readsRepeat_44 ?_
  refine x_iconst 1 dX10_readsRepeat_47 rfl ?_
  refine x_iadd dX10_readsRepeat_48 ?_
  obtain ⟨I8, hI8, h⟩ := b1_s h
  refine z_putI fs_X10_236 (MK.o H0) hI8 dX10_readsRepeat_49 ?_
  refine x_iconst 0 dX10_readsRepeat_52 rfl ?_
  refine x_istoren dX10_readsRepeat_53 (Nat.le_of_ble_eq_true rfl) rfl rfl ?_
  exact tl_X10_readsRepeat_54 d ha_X10_readsItems FU H0 h
noncomputable def l_X10_readsRepeat_13 (a_X10_readsItems : Mem → Nat → Option Mem) (I : Mem) (x0 : Nat) : Option (Mem) := b1 (f_X10_goes I x0) fun I1 => b2 (f_X10_readNumber I1 x0 1 5) fun v3 I4 => b1 (f_X10_is I4 x0 5) fun v6 => if v6 = 0 then (b1 (f_X10_faults I4 x0 1) fun I15 => l_X10_readsRepeat_37 a_X10_readsItems I15 x0 v3) else (l_X10_readsRepeat_37 a_X10_readsItems I4 x0 v3)
theorem tl_X10_readsRepeat_13 (d : Nat) {K : Kt} {a_X10_readsItems : Mem → Nat → Option Mem} (ha_X10_readsItems : ∀ {I : Mem} {x0 : Nat} (H0 : MK K x0) {I9 : Mem}, a_X10_readsItems I x0 = some I9 → Ct (mX10_readsItems (d + 4)) cX10_readsItems 0 0 [.ref x0] I K (Ro (.inl none) I9 K)) : ∀ {I : Mem} {x0 : Nat} (H0 : MK K x0) {I9 : Mem}, l_X10_readsRepeat_13 a_X10_readsItems I x0 = some I9 → X (mX10_readsRepeat (d + 5)) cX10_readsRepeat 0 0 I K 13 [.ref x0, .retAddr 0, .retAddr 0, .retAddr 0] [] (Ro (.inl none) I9 K) := by
  intro I x0 H0 I9 h
  unfold l_X10_readsRepeat_13 at h
  refine x_aloadn dX10_readsRepeat_13 rfl ?_
  obtain ⟨I1, h2, h⟩ := b1_s h
  refine z_V0 [] [] (cs_X10_115 _) (ci := 8) rfl (MK.o H0) (dep (show d + 2 + 2 + 1 ≤ (d + 5) from by omega) (Nat.le_of_ble_eq_true rfl)) dX10_readsRepeat_14 rfl rfl (Nat.le_of_ble_eq_true rfl) (c_X10_goes (d + 2) (K := K) (I := I) H0 h2) ?_
  refine x_aloadn dX10_readsRepeat_17 rfl ?_
  refine x_iconst 1 dX10_readsRepeat_18 rfl ?_
  refine x_iconst 5 dX10_readsRepeat_19 rfl ?_
  obtain ⟨v3, I4, h5, h⟩ := b2_s h
  refine z_V1 [.int 1, .int 5] [] (cs_X10_126 _) (ci := 8) rfl (MK.o H0) (dep (show d + 1 + 3 + 1 ≤ (d + 5) from by omega) (Nat.le_of_ble_eq_true rfl)) dX10_readsRepeat_20 rfl rfl (Nat.le_of_ble_eq_true rfl) (c_X10_readNumber (d + 1) (K := K) (I := I1) H0 h5) ?_
  refine x_istoren dX10_readsRepeat_23 (Nat.le_of_ble_eq_true rfl) rfl rfl ?_
  refine x_aloadn dX10_readsRepeat_24 rfl ?_
  refine x_iconst 5 dX10_readsRepeat_25 rfl ?_
  obtain ⟨v6, h7, h⟩ := b1_s h
  refine z_V1 [.int 5] [] (cs_X10_98 _) (ci := 8) rfl (MK.o H0) (dep (show d + 4 + 0 + 1 ≤ (d + 5) from by omega) (Nat.le_of_ble_eq_true rfl)) dX10_readsRepeat_26 rfl rfl (Nat.le_of_ble_eq_true rfl) (c_X10_is (d + 4) (K := K) (I := I4) H0 h7) ?_
  refine x_if_ne 37 dX10_readsRepeat_29 rfl (fun hc => ?_) (fun hc => ?_)
  · have h := ifF hc h
    exact tl_X10_readsRepeat_37 d ha_X10_readsItems H0 h
  have h := ifT hc h
  refine x_aloadn dX10_readsRepeat_32 rfl ?_
  refine x_iconst 1 dX10_readsRepeat_33 rfl ?_
  obtain ⟨I15, h16, h⟩ := b1_s h
  refine z_V0 [.int 1] [] (cs_X10_95 _) (ci := 8) rfl (MK.o H0) (dep (show d + 4 + 0 + 1 ≤ (d + 5) from by omega) (Nat.le_of_ble_eq_true rfl)) dX10_readsRepeat_34 rfl rfl (Nat.le_of_ble_eq_true rfl) (c_X10_faults (d + 4) (K := K) (I := I4) H0 h16) ?_
  exact tl_X10_readsRepeat_37 d ha_X10_readsItems H0 h
noncomputable def f_X10_readsRepeat (a_X10_readsItems : Mem → Nat → Option Mem) (I : Mem) (x0 : Nat) : Option (Mem) := if (I x0 17) = 3 then (b1 (f_X10_faults I x0 4) fun I17 => l_X10_readsRepeat_13 a_X10_readsItems I17 x0) else (l_X10_readsRepeat_13 a_X10_readsItems I x0)
theorem c_X10_readsRepeat (d : Nat) {K : Kt} {a_X10_readsItems : Mem → Nat → Option Mem} (ha_X10_readsItems : ∀ {I : Mem} {x0 : Nat} (H0 : MK K x0) {I9 : Mem}, a_X10_readsItems I x0 = some I9 → Ct (mX10_readsItems (d + 4)) cX10_readsItems 0 0 [.ref x0] I K (Ro (.inl none) I9 K)) {I : Mem} {x0 : Nat} (H0 : MK K x0) {I9 : Mem} (h : f_X10_readsRepeat a_X10_readsItems I x0 = some I9) : Ct (mX10_readsRepeat (d + 5)) cX10_readsRepeat 0 0 [.ref x0] I K (Ro (.inl none) I9 K) := by
  refine Ct.of rfl pn_X10 (catR cat0) (Nat.le_of_ble_eq_true rfl) (show X _ _ _ _ _ _ 0 [.ref x0, .retAddr 0, .retAddr 0, .retAddr 0] [] _ from ?_)
  unfold f_X10_readsRepeat at h
  refine x_aloadn dX10_readsRepeat_0 rfl ?_
  refine z_getI fs_X10_236 (MK.o H0) dX10_readsRepeat_1 ?_
  refine x_iconst 3 dX10_readsRepeat_4 rfl ?_
  refine x_icmp_ne 13 dX10_readsRepeat_5 rfl (fun hc => ?_) (fun hc => ?_)
  · have h := ifF hc h
    exact tl_X10_readsRepeat_13 d ha_X10_readsItems H0 h
  have h := ifT hc h
  refine x_aloadn dX10_readsRepeat_8 rfl ?_
  refine x_iconst 4 dX10_readsRepeat_9 rfl ?_
  obtain ⟨I17, h18, h⟩ := b1_s h
  refine z_V0 [.int 4] [] (cs_X10_95 _) (ci := 8) rfl (MK.o H0) (dep (show d + 4 + 0 + 1 ≤ (d + 5) from by omega) (Nat.le_of_ble_eq_true rfl)) dX10_readsRepeat_10 rfl rfl (Nat.le_of_ble_eq_true rfl) (c_X10_faults (d + 4) (K := K) (I := I) H0 h18) ?_
  exact tl_X10_readsRepeat_13 d ha_X10_readsItems H0 h
noncomputable def l_X10_readsText_86 (a_X10_readsItem : Mem → Nat → Option Mem) (I : Mem) (x0 : Nat) : Option (Mem) := b1 (f_X10_faults I x0 4) fun I17 => some (I17)
theorem tl_X10_readsText_86 (d : Nat) {K : Kt} {a_X10_readsItem : Mem → Nat → Option Mem} (ha_X10_readsItem : ∀ {I : Mem} {x0 : Nat} (H0 : MK K x0) {I9 : Mem}, a_X10_readsItem I x0 = some I9 → Ct (mX10_readsItem (d + 5)) cX10_readsItem 0 0 [.ref x0] I K (Ro (.inl none) I9 K)) : ∀ {I : Mem} {x0 : Nat} (H0 : MK K x0) {I9 : Mem}, l_X10_readsText_86 a_X10_readsItem I x0 = some I9 → X (mX10_readsText (d + 6)) cX10_readsText 0 0 I K 86 [.ref x0] [] (Ro (.inl none) I9 K) := by
  intro I x0 H0 I9 h
  unfold l_X10_readsText_86 at h
  refine x_aloadn dX10_readsText_86 rfl ?_
  refine x_iconst 4 dX10_readsText_87 rfl ?_
  obtain ⟨I17, h18, h⟩ := b1_s h
  refine z_V0 [.int 4] [] (cs_X10_95 _) (ci := 8) rfl (MK.o H0) (dep (show d + 5 + 0 + 1 ≤ (d + 6) from by omega) (Nat.le_of_ble_eq_true rfl)) dX10_readsText_88 rfl rfl (Nat.le_of_ble_eq_true rfl) (c_X10_faults (d + 5) (K := K) (I := I) H0 h18) ?_
  cases h
  exact x_vret rfl dX10_readsText_91 ⟨rfl, rfl, rfl⟩
noncomputable def l_X10_readsText_68 (a_X10_readsItem : Mem → Nat → Option Mem) (I : Mem) (x0 : Nat) : Option (Mem) := b1 (ix 3 355) fun j16 => if (I (x0 + 1) j16) = 0 then (l_X10_readsText_86 a_X10_readsItem I x0) else (b1 (ix 2 355) fun j19 => if (I (x0 + 1) j19) = 0 then (l_X10_readsText_86 a_X10_readsItem I x0) else (some (I)))
theorem tl_X10_readsText_68 (d : Nat) {K : Kt} {a_X10_readsItem : Mem → Nat → Option Mem} (ha_X10_readsItem : ∀ {I : Mem} {x0 : Nat} (H0 : MK K x0) {I9 : Mem}, a_X10_readsItem I x0 = some I9 → Ct (mX10_readsItem (d + 5)) cX10_readsItem 0 0 [.ref x0] I K (Ro (.inl none) I9 K)) : ∀ {I : Mem} {x0 : Nat} (H0 : MK K x0) {I9 : Mem}, l_X10_readsText_68 a_X10_readsItem I x0 = some I9 → X (mX10_readsText (d + 6)) cX10_readsText 0 0 I K 68 [.ref x0] [] (Ro (.inl none) I9 K) := by
  intro I x0 H0 I9 h
  unfold l_X10_readsText_68 at h
  refine x_aloadn dX10_readsText_68 rfl ?_
  refine z_getR fs_X10_9 (MK.o H0) (MK.g1 H0) dX10_readsText_69 ?_
  refine x_iconst 3 dX10_readsText_72 rfl ?_
  obtain ⟨j16, hj16, h⟩ := b1_s h
  refine z_iald (MK.l1 H0) hj16 dX10_readsText_73 ?_
  refine x_if_eq 86 dX10_readsText_74 rfl (fun hc => ?_) (fun hc => ?_)
  · have h := ifT hc h
    exact tl_X10_readsText_86 d ha_X10_readsItem H0 h
  have h := ifF hc h
  refine x_aloadn dX10_readsText_77 rfl ?_
  refine z_getR fs_X10_9 (MK.o H0) (MK.g1 H0) dX10_readsText_78 ?_
  refine x_iconst 2 dX10_readsText_81 rfl ?_
  obtain ⟨j19, hj19, h⟩ := b1_s h
  refine z_iald (MK.l1 H0) hj19 dX10_readsText_82 ?_
  refine x_if_ne 91 dX10_readsText_83 rfl (fun hc => ?_) (fun hc => ?_)
  · have h := ifF hc h
    cases h
    exact x_vret rfl dX10_readsText_91 ⟨rfl, rfl, rfl⟩
  have h := ifT hc h
  exact tl_X10_readsText_86 d ha_X10_readsItem H0 h
noncomputable def l_X10_readsText_36 (a_X10_readsItem : Mem → Nat → Option Mem) (n : Nat) (I : Mem) (x0 : Nat) : Option (Mem) := match n with
  | 0 => none
  | n + 1 => b1 (f_X10_is I x0 4) fun v12 => if v12 = 0 then (b1 (f_X10_is I x0 1) fun v14 => if v14 = 0 then (b1 (f_X10_faults I x0 1) fun I20 => l_X10_readsText_68 a_X10_readsItem I20 x0) else (l_X10_readsText_68 a_X10_readsItem I x0)) else (b1 (f_X10_goes I x0) fun I22 => b1 (a_X10_readsItem I22 x0) fun I24 => l_X10_readsText_36 a_X10_readsItem n I24 x0)
theorem tl_X10_readsText_36 (d : Nat) {K : Kt} {a_X10_readsItem : Mem → Nat → Option Mem} (ha_X10_readsItem : ∀ {I : Mem} {x0 : Nat} (H0 : MK K x0) {I9 : Mem}, a_X10_readsItem I x0 = some I9 → Ct (mX10_readsItem (d + 5)) cX10_readsItem 0 0 [.ref x0] I K (Ro (.inl none) I9 K)) (n : Nat) : ∀ {I : Mem} {x0 : Nat} (H0 : MK K x0) {I9 : Mem}, l_X10_readsText_36 a_X10_readsItem n I x0 = some I9 → X (mX10_readsText (d + 6)) cX10_readsText 0 0 I K 36 [.ref x0] [] (Ro (.inl none) I9 K) := by
  induction n with
  | zero =>
    intro I x0 H0 I9 h
    cases h
  | succ n ih =>
    intro I x0 H0 I9 h
    unfold l_X10_readsText_36 at h
    refine x_aloadn dX10_readsText_36 rfl ?_
    refine x_iconst 4 dX10_readsText_37 rfl ?_
    obtain ⟨v12, h13, h⟩ := b1_s h
    refine z_V1 [.int 4] [] (cs_X10_98 _) (ci := 8) rfl (MK.o H0) (dep (show d + 5 + 0 + 1 ≤ (d + 6) from by omega) (Nat.le_of_ble_eq_true rfl)) dX10_readsText_38 rfl rfl (Nat.le_of_ble_eq_true rfl) (c_X10_is (d + 5) (K := K) (I := I) H0 h13) ?_
    refine x_if_eq 55 dX10_readsText_41 rfl (fun hc => ?_) (fun hc => ?_)
    · have h := ifT hc h
      refine x_aloadn dX10_readsText_55 rfl ?_
      refine x_iconst 1 dX10_readsText_56 rfl ?_
      obtain ⟨v14, h15, h⟩ := b1_s h
      refine z_V1 [.int 1] [] (cs_X10_98 _) (ci := 8) rfl (MK.o H0) (dep (show d + 5 + 0 + 1 ≤ (d + 6) from by omega) (Nat.le_of_ble_eq_true rfl)) dX10_readsText_57 rfl rfl (Nat.le_of_ble_eq_true rfl) (c_X10_is (d + 5) (K := K) (I := I) H0 h15) ?_
      refine x_if_ne 68 dX10_readsText_60 rfl (fun hc => ?_) (fun hc => ?_)
      · have h := ifF hc h
        exact tl_X10_readsText_68 d ha_X10_readsItem H0 h
      have h := ifT hc h
      refine x_aloadn dX10_readsText_63 rfl ?_
      refine x_iconst 1 dX10_readsText_64 rfl ?_
      obtain ⟨I20, h21, h⟩ := b1_s h
      refine z_V0 [.int 1] [] (cs_X10_95 _) (ci := 8) rfl (MK.o H0) (dep (show d + 5 + 0 + 1 ≤ (d + 6) from by omega) (Nat.le_of_ble_eq_true rfl)) dX10_readsText_65 rfl rfl (Nat.le_of_ble_eq_true rfl) (c_X10_faults (d + 5) (K := K) (I := I) H0 h21) ?_
      exact tl_X10_readsText_68 d ha_X10_readsItem H0 h
    have h := ifF hc h
    refine x_aloadn dX10_readsText_44 rfl ?_
    obtain ⟨I22, h23, h⟩ := b1_s h
    refine z_V0 [] [] (cs_X10_115 _) (ci := 8) rfl (MK.o H0) (dep (show d + 3 + 2 + 1 ≤ (d + 6) from by omega) (Nat.le_of_ble_eq_true rfl)) dX10_readsText_45 rfl rfl (Nat.le_of_ble_eq_true rfl) (c_X10_goes (d + 3) (K := K) (I := I) H0 h23) ?_
    refine x_aloadn dX10_readsText_48 rfl ?_
    obtain ⟨I24, h25, h⟩ := b1_s h
    refine z_V0 [] [] (cs_X10_233 _) (ci := 8) rfl (MK.o H0) (dep (show d + 5 + 1 ≤ (d + 6) from by omega) (Nat.le_of_ble_eq_true rfl)) dX10_readsText_49 rfl rfl (Nat.le_of_ble_eq_true rfl) (ha_X10_readsItem H0 h25) ?_
    refine x_goto 36 dX10_readsText_52 rfl ?_
    exact ih H0 h
noncomputable def l_X10_readsText_19 (a_X10_readsItem : Mem → Nat → Option Mem) (I : Mem) (x0 : Nat) : Option (Mem) := b1 (f_X10_goes I x0) fun I5 => b2 (f_X10_readNumber I5 x0 4 60) fun v7 I8 => b1 (ix 0 355) fun j10 => b1 (pu I8 (x0 + 1) j10 v7) fun I11 => l_X10_readsText_36 a_X10_readsItem FU I11 x0
theorem tl_X10_readsText_19 (d : Nat) {K : Kt} {a_X10_readsItem : Mem → Nat → Option Mem} (ha_X10_readsItem : ∀ {I : Mem} {x0 : Nat} (H0 : MK K x0) {I9 : Mem}, a_X10_readsItem I x0 = some I9 → Ct (mX10_readsItem (d + 5)) cX10_readsItem 0 0 [.ref x0] I K (Ro (.inl none) I9 K)) : ∀ {I : Mem} {x0 : Nat} (H0 : MK K x0) {I9 : Mem}, l_X10_readsText_19 a_X10_readsItem I x0 = some I9 → X (mX10_readsText (d + 6)) cX10_readsText 0 0 I K 19 [.ref x0] [] (Ro (.inl none) I9 K) := by
  intro I x0 H0 I9 h
  unfold l_X10_readsText_19 at h
  refine x_aloadn dX10_readsText_19 rfl ?_
  obtain ⟨I5, h6, h⟩ := b1_s h
  refine z_V0 [] [] (cs_X10_115 _) (ci := 8) rfl (MK.o H0) (dep (show d + 3 + 2 + 1 ≤ (d + 6) from by omega) (Nat.le_of_ble_eq_true rfl)) dX10_readsText_20 rfl rfl (Nat.le_of_ble_eq_true rfl) (c_X10_goes (d + 3) (K := K) (I := I) H0 h6) ?_
  refine x_aloadn dX10_readsText_23 rfl ?_
  refine z_getR fs_X10_9 (MK.o H0) (MK.g1 H0) dX10_readsText_24 ?_
  refine x_iconst 0 dX10_readsText_27 rfl ?_
  refine x_aloadn dX10_readsText_28 rfl ?_
  refine x_iconst 4 dX10_readsText_29 rfl ?_
  refine x_bipush 60 dX10_readsText_30 rfl ?_
  obtain ⟨v7, I8, h9, h⟩ := b2_s h
  refine z_V1 [.int 4, .int 60] [.int 0, .ref (x0 + 1)] (cs_X10_126 _) (ci := 8) rfl (MK.o H0) (dep (show d + 2 + 3 + 1 ≤ (d + 6) from by omega) (Nat.le_of_ble_eq_true rfl)) dX10_readsText_32 rfl rfl (Nat.le_of_ble_eq_true rfl) (c_X10_readNumber (d + 2) (K := K) (I := I5) H0 h9) ?_
  obtain ⟨j10, hj10, h⟩ := b1_s h
  obtain ⟨I11, hI11, h⟩ := b1_s h
  refine z_iast (MK.l1 H0) hj10 hI11 dX10_readsText_35 ?_
  exact tl_X10_readsText_36 d ha_X10_readsItem FU H0 h
noncomputable def f_X10_readsText (a_X10_readsItem : Mem → Nat → Option Mem) (I : Mem) (x0 : Nat) : Option (Mem) := b1 (f_X10_goes I x0) fun I1 => b1 (f_X10_isWord I1 x0 19) fun v3 => if v3 = 0 then (b1 (f_X10_faults I1 x0 1) fun I26 => l_X10_readsText_19 a_X10_readsItem I26 x0) else (l_X10_readsText_19 a_X10_readsItem I1 x0)
theorem c_X10_readsText (d : Nat) {K : Kt} {a_X10_readsItem : Mem → Nat → Option Mem} (ha_X10_readsItem : ∀ {I : Mem} {x0 : Nat} (H0 : MK K x0) {I9 : Mem}, a_X10_readsItem I x0 = some I9 → Ct (mX10_readsItem (d + 5)) cX10_readsItem 0 0 [.ref x0] I K (Ro (.inl none) I9 K)) {I : Mem} {x0 : Nat} (H0 : MK K x0) {I9 : Mem} (h : f_X10_readsText a_X10_readsItem I x0 = some I9) : Ct (mX10_readsText (d + 6)) cX10_readsText 0 0 [.ref x0] I K (Ro (.inl none) I9 K) := by
  refine Ct.of rfl pn_X10 (catR cat0) (Nat.le_of_ble_eq_true rfl) (show X _ _ _ _ _ _ 0 [.ref x0] [] _ from ?_)
  unfold f_X10_readsText at h
  refine x_aloadn dX10_readsText_0 rfl ?_
  obtain ⟨I1, h2, h⟩ := b1_s h
  refine z_V0 [] [] (cs_X10_115 _) (ci := 8) rfl (MK.o H0) (dep (show d + 3 + 2 + 1 ≤ (d + 6) from by omega) (Nat.le_of_ble_eq_true rfl)) dX10_readsText_1 rfl rfl (Nat.le_of_ble_eq_true rfl) (c_X10_goes (d + 3) (K := K) (I := I) H0 h2) ?_
  refine x_aloadn dX10_readsText_4 rfl ?_
  refine x_ldcWS 19 (show (RX10, 329, "market", 19) ∈ strT from by decide +kernel) dX10_readsText_5 ?_
  obtain ⟨v3, h4, h⟩ := b1_s h
  refine z_V1 [.ref (xE (100 + 19))] [] (cs_X10_135 _) (ci := 8) rfl (MK.o H0) (dep (show d + 1 + 4 + 1 ≤ (d + 6) from by omega) (Nat.le_of_ble_eq_true rfl)) dX10_readsText_8 rfl rfl (Nat.le_of_ble_eq_true rfl) (c_X10_isWord (d + 1) (K := K) (I := I1) H0 h4) ?_
  refine x_if_ne 19 dX10_readsText_11 rfl (fun hc => ?_) (fun hc => ?_)
  · have h := ifF hc h
    exact tl_X10_readsText_19 d ha_X10_readsItem H0 h
  have h := ifT hc h
  refine x_aloadn dX10_readsText_14 rfl ?_
  refine x_iconst 1 dX10_readsText_15 rfl ?_
  obtain ⟨I26, h27, h⟩ := b1_s h
  refine z_V0 [.int 1] [] (cs_X10_95 _) (ci := 8) rfl (MK.o H0) (dep (show d + 5 + 0 + 1 ≤ (d + 6) from by omega) (Nat.le_of_ble_eq_true rfl)) dX10_readsText_16 rfl rfl (Nat.le_of_ble_eq_true rfl) (c_X10_faults (d + 5) (K := K) (I := I1) H0 h27) ?_
  exact tl_X10_readsText_19 d ha_X10_readsItem H0 h
noncomputable def l_X10_parseSetup_61 (a_X10_readsText : Mem → Nat → Option Mem) (n : Nat) (I : Mem) (x0 : Nat) (x2 : Int32) : Option (Int32 × Mem) := match n with
  | 0 => none
  | n + 1 => if 355 ≤ x2 then (b1 (ix 5 355) fun j15 => b1 (pu I (x0 + 1) j15 3) fun I16 => b1 (ix 6 355) fun j17 => b1 (pu I16 (x0 + 1) j17 10) fun I18 => b1 (ix 8 355) fun j19 => b1 (pu I18 (x0 + 1) j19 (-1)) fun I20 => b1 (ix 9 355) fun j21 => b1 (pu I20 (x0 + 1) j21 (-1)) fun I22 => b1 (a_X10_readsText I22 x0) fun I23 => if (I23 x0 10) ≤ 0 then (b1 (pu I23 x0 6 1) fun I25 => b1 (pu I25 x0 7 0) fun I26 => b1 (ix 0 2) fun j27 => b1 (pu I26 (x0 + 5) j27 (vp_nar .boolean 0)) fun I28 => b1 (ix 1 2) fun j29 => b1 (pu I28 (x0 + 5) j29 (vp_nar .boolean 0)) fun I30 => b1 (ix 4 355) fun j31 => some ((I30 (x0 + 1) j31), I30)) else (b1 (pu I23 x0 0 2) fun I32 => b2 (f_X10_back I32 x0 0) fun v33 I34 => some (v33, I34))) else (b1 (ix x2 355) fun j36 => b1 (pu I (x0 + 1) j36 0) fun I37 => l_X10_parseSetup_61 a_X10_readsText n I37 x0 (x2 + 1))
theorem tl_X10_parseSetup_61 (d : Nat) {K : Kt} {a_X10_readsText : Mem → Nat → Option Mem} (ha_X10_readsText : ∀ {I : Mem} {x0 : Nat} (H0 : MK K x0) {I9 : Mem}, a_X10_readsText I x0 = some I9 → Ct (mX10_readsText (d + 2)) cX10_readsText 0 0 [.ref x0] I K (Ro (.inl none) I9 K)) (n : Nat) : ∀ {I : Mem} {x0 : Nat} (H0 : MK K x0) {x2 : Int32} {v : Int32} {I9 : Mem}, l_X10_parseSetup_61 a_X10_readsText n I x0 x2 = some (v, I9) → X (mX10_parseSetup (d + 3)) cX10_parseSetup 0 0 I K 61 [.ref x0, .retAddr 0, .int x2] [] (Ro (.inl (some (.int v))) I9 K) := by
  induction n with
  | zero =>
    intro I x0 H0 x2 v I9 h
    cases h
  | succ n ih =>
    intro I x0 H0 x2 v I9 h
    unfold l_X10_parseSetup_61 at h
    refine x_iloadn dX10_parseSetup_61 rfl ?_
    refine x_sipush 355 dX10_parseSetup_62 rfl ?_
    refine x_icmp_ge 81 dX10_parseSetup_65 rfl (fun hc => ?_) (fun hc => ?_)
    · have h := ifT hc h
      refine x_aloadn dX10_parseSetup_81 rfl ?_
      refine z_getR fs_X10_9 (MK.o H0) (MK.g1 H0) dX10_parseSetup_82 ?_
      refine x_iconst 5 dX10_parseSetup_85 rfl ?_
      refine x_iconst 3 dX10_parseSetup_86 rfl ?_
      obtain ⟨j15, hj15, h⟩ := b1_s h
      obtain ⟨I16, hI16, h⟩ := b1_s h
      refine z_iast (MK.l1 H0) hj15 hI16 dX10_parseSetup_87 ?_
      refine x_aloadn dX10_parseSetup_88 rfl ?_
      refine z_getR fs_X10_9 (MK.o H0) (MK.g1 H0) dX10_parseSetup_89 ?_
      refine x_bipush 6 dX10_parseSetup_92 rfl ?_
      refine x_bipush 10 dX10_parseSetup_94 rfl ?_
      obtain ⟨j17, hj17, h⟩ := b1_s h
      obtain ⟨I18, hI18, h⟩ := b1_s h
      refine z_iast (MK.l1 H0) hj17 hI18 dX10_parseSetup_96 ?_
      refine x_aloadn dX10_parseSetup_97 rfl ?_
      refine z_getR fs_X10_9 (MK.o H0) (MK.g1 H0) dX10_parseSetup_98 ?_
      refine x_bipush 8 dX10_parseSetup_101 rfl ?_
      refine x_iconst (-1) dX10_parseSetup_103 rfl ?_
      obtain ⟨j19, hj19, h⟩ := b1_s h
      obtain ⟨I20, hI20, h⟩ := b1_s h
      refine z_iast (MK.l1 H0) hj19 hI20 dX10_parseSetup_104 ?_
      refine x_aloadn dX10_parseSetup_105 rfl ?_
      refine z_getR fs_X10_9 (MK.o H0) (MK.g1 H0) dX10_parseSetup_106 ?_
      refine x_bipush 9 dX10_parseSetup_109 rfl ?_
      refine x_iconst (-1) dX10_parseSetup_111 rfl ?_
      obtain ⟨j21, hj21, h⟩ := b1_s h
      obtain ⟨I22, hI22, h⟩ := b1_s h
      refine z_iast (MK.l1 H0) hj21 hI22 dX10_parseSetup_112 ?_
      refine x_aloadn dX10_parseSetup_113 rfl ?_
      obtain ⟨I23, h24, h⟩ := b1_s h
      refine z_V0 [] [] (cs_X10_334 _) (ci := 8) rfl (MK.o H0) (dep (show d + 2 + 1 ≤ (d + 3) from by omega) (Nat.le_of_ble_eq_true rfl)) dX10_parseSetup_114 rfl rfl (Nat.le_of_ble_eq_true rfl) (ha_X10_readsText H0 h24) ?_
      refine x_aloadn dX10_parseSetup_117 rfl ?_
      refine z_getI fs_X10_59 (MK.o H0) dX10_parseSetup_118 ?_
      refine x_if_le 135 dX10_parseSetup_121 rfl (fun hc => ?_) (fun hc => ?_)
      · have h := ifT hc h
        refine x_aloadn dX10_parseSetup_135 rfl ?_
        refine x_iconst 1 dX10_parseSetup_136 rfl ?_
        obtain ⟨I25, hI25, h⟩ := b1_s h
        refine z_putZ (u := ()) fs_X10_44 (MK.o H0) rfl hI25 dX10_parseSetup_137 ?_
        refine x_aloadn dX10_parseSetup_140 rfl ?_
        refine x_iconst 0 dX10_parseSetup_141 rfl ?_
        obtain ⟨I26, hI26, h⟩ := b1_s h
        refine z_putI fs_X10_340 (MK.o H0) hI26 dX10_parseSetup_142 ?_
        refine x_aloadn dX10_parseSetup_145 rfl ?_
        refine z_getR fs_X10_22 (MK.o H0) (MK.g5 H0) dX10_parseSetup_146 ?_
        refine x_iconst 0 dX10_parseSetup_149 rfl ?_
        refine x_iconst 0 dX10_parseSetup_150 rfl ?_
        obtain ⟨j27, hj27, h⟩ := b1_s h
        obtain ⟨I28, hI28, h⟩ := b1_s h
        refine z_zast (MK.l5 H0) hj27 hI28 dX10_parseSetup_151 ?_
        refine x_aloadn dX10_parseSetup_152 rfl ?_
        refine z_getR fs_X10_22 (MK.o H0) (MK.g5 H0) dX10_parseSetup_153 ?_
        refine x_iconst 1 dX10_parseSetup_156 rfl ?_
        refine x_iconst 0 dX10_parseSetup_157 rfl ?_
        obtain ⟨j29, hj29, h⟩ := b1_s h
        obtain ⟨I30, hI30, h⟩ := b1_s h
        refine z_zast (MK.l5 H0) hj29 hI30 dX10_parseSetup_158 ?_
        refine x_aloadn dX10_parseSetup_159 rfl ?_
        refine z_getR fs_X10_9 (MK.o H0) (MK.g1 H0) dX10_parseSetup_160 ?_
        refine x_iconst 4 dX10_parseSetup_163 rfl ?_
        obtain ⟨j31, hj31, h⟩ := b1_s h
        refine z_iald (MK.l1 H0) hj31 dX10_parseSetup_164 ?_
        cases h
        exact x_iret rfl dX10_parseSetup_165 ⟨rfl, rfl, rfl⟩
      have h := ifF hc h
      refine x_aloadn dX10_parseSetup_124 rfl ?_
      refine x_iconst 2 dX10_parseSetup_125 rfl ?_
      obtain ⟨I32, hI32, h⟩ := b1_s h
      refine z_putI fs_X10_37 (MK.o H0) hI32 dX10_parseSetup_126 ?_
      refine x_aloadn dX10_parseSetup_129 rfl ?_
      refine x_iconst 0 dX10_parseSetup_130 rfl ?_
      obtain ⟨v33, I34, h35, h⟩ := b2_s h
      refine z_V1 [.int 0] [] (cs_X10_337 _) (ci := 8) rfl (MK.o H0) (dep (show d + 1 + 1 + 1 ≤ (d + 3) from by omega) (Nat.le_of_ble_eq_true rfl)) dX10_parseSetup_131 rfl rfl (Nat.le_of_ble_eq_true rfl) (c_X10_back (d + 1) (K := K) (I := I32) H0 h35) ?_
      cases h
      exact x_iret rfl dX10_parseSetup_134 ⟨rfl, rfl, rfl⟩
    have h := ifF hc h
    refine x_aloadn dX10_parseSetup_68 rfl ?_
    refine z_getR fs_X10_9 (MK.o H0) (MK.g1 H0) dX10_parseSetup_69 ?_
    refine x_iloadn dX10_parseSetup_72 rfl ?_
    refine x_iconst 0 dX10_parseSetup_73 rfl ?_
    obtain ⟨j36, hj36, h⟩ := b1_s h
    obtain ⟨I37, hI37, h⟩ := b1_s h
    refine z_iast (MK.l1 H0) hj36 hI37 dX10_parseSetup_74 ?_
    refine z_iinc 1 (by decide) dX10_parseSetup_75 rfl rfl rfl ?_
    refine x_goto 61 dX10_parseSetup_78 rfl ?_
    exact ih H0 h
noncomputable def f_X10_parseSetup (a_X10_readsText : Mem → Nat → Option Mem) (I : Mem) (x0 : Nat) (x1 : Int32) : Option (Int32 × Mem) := b1 (f_X10_in x1 0 (I x0 9)) fun v1 => b2 (f_X10_may I x0 v1 1 1) fun v3 I4 => if v3 = 0 then (some (0, I4)) else (b1 (pu I4 x0 12 x1) fun I6 => b1 (pu I6 x0 13 0) fun I7 => b1 (pu I7 x0 9 0) fun I8 => b1 (pu I8 x0 10 0) fun I9 => b1 (pu I9 x0 11 (-1)) fun I10 => b1 (pu I10 x0 17 0) fun I11 => b1 (pu I11 x0 18 0) fun I12 => b1 (f_X10_thinks I12 x0) fun I13 => l_X10_parseSetup_61 a_X10_readsText FU I13 x0 0)
theorem c_X10_parseSetup (d : Nat) {K : Kt} {a_X10_readsText : Mem → Nat → Option Mem} (ha_X10_readsText : ∀ {I : Mem} {x0 : Nat} (H0 : MK K x0) {I9 : Mem}, a_X10_readsText I x0 = some I9 → Ct (mX10_readsText (d + 2)) cX10_readsText 0 0 [.ref x0] I K (Ro (.inl none) I9 K)) {I : Mem} {x0 : Nat} (H0 : MK K x0) {x1 : Int32} {v : Int32} {I9 : Mem} (h : f_X10_parseSetup a_X10_readsText I x0 x1 = some (v, I9)) : Ct (mX10_parseSetup (d + 3)) cX10_parseSetup 0 0 [.ref x0, .int x1] I K (Ro (.inl (some (.int v))) I9 K) := by
  refine Ct.of rfl pn_X10 (catR (catI cat0)) (Nat.le_of_ble_eq_true rfl) (show X _ _ _ _ _ _ 0 [.ref x0, .int x1, .retAddr 0] [] _ from ?_)
  unfold f_X10_parseSetup at h
  refine x_aloadn dX10_parseSetup_0 rfl ?_
  refine x_iloadn dX10_parseSetup_1 rfl ?_
  refine x_iconst 0 dX10_parseSetup_2 rfl ?_
  refine x_aloadn dX10_parseSetup_3 rfl ?_
  refine z_getI fs_X10_52 (MK.o H0) dX10_parseSetup_4 ?_
  obtain ⟨v1, h2, h⟩ := b1_s h
  refine z_S1 [.int x1, .int 0, .int (I x0 9)] [.ref x0] (cs_X10_69 _) (dep (show d + 2 + 0 + 1 ≤ (d + 3) from by omega) (Nat.le_of_ble_eq_true rfl)) dX10_parseSetup_7 rfl rfl (Nat.le_of_ble_eq_true rfl) (c_X10_in (d + 2) (K := K) (I := I) h2) ?_
  refine x_iconst 1 dX10_parseSetup_10 rfl ?_
  refine x_iconst 1 dX10_parseSetup_11 rfl ?_
  obtain ⟨v3, I4, h5, h⟩ := b2_s h
  refine z_V1 [.int v1, .int 1, .int 1] [] (cs_X10_40 _) (ci := 8) rfl (MK.o H0) (dep (show d + 2 + 0 + 1 ≤ (d + 3) from by omega) (Nat.le_of_ble_eq_true rfl)) dX10_parseSetup_12 rfl rfl (Nat.le_of_ble_eq_true rfl) (c_X10_may (d + 2) (K := K) (I := I) H0 h5) ?_
  refine x_if_ne 20 dX10_parseSetup_15 rfl (fun hc => ?_) (fun hc => ?_)
  · have h := ifF hc h
    refine x_aloadn dX10_parseSetup_20 rfl ?_
    refine x_iloadn dX10_parseSetup_21 rfl ?_
    obtain ⟨I6, hI6, h⟩ := b1_s h
    refine z_putI fs_X10_66 (MK.o H0) hI6 dX10_parseSetup_22 ?_
    refine x_aloadn dX10_parseSetup_25 rfl ?_
    refine x_iconst 0 dX10_parseSetup_26 rfl ?_
    obtain ⟨I7, hI7, h⟩ := b1_s h
    refine z_putI fs_X10_73 (MK.o H0) hI7 dX10_parseSetup_27 ?_
    refine x_aloadn dX10_parseSetup_30 rfl ?_
    refine x_iconst 0 dX10_parseSetup_31 rfl ?_
    obtain ⟨I8, hI8, h⟩ := b1_s h
    refine z_putI fs_X10_52 (MK.o H0) hI8 dX10_parseSetup_32 ?_
    refine x_aloadn dX10_parseSetup_35 rfl ?_
    refine x_iconst 0 dX10_parseSetup_36 rfl ?_
    obtain ⟨I9, hI9, h⟩ := b1_s h
    refine z_putI fs_X10_59 (MK.o H0) hI9 dX10_parseSetup_37 ?_
    refine x_aloadn dX10_parseSetup_40 rfl ?_
    refine x_iconst (-1) dX10_parseSetup_41 rfl ?_
    obtain ⟨I10, hI10, h⟩ := b1_s h
    refine z_putI fs_X10_30 (MK.o H0) hI10 dX10_parseSetup_42 ?_
    refine x_aloadn dX10_parseSetup_45 rfl ?_
    refine x_iconst 0 dX10_parseSetup_46 rfl ?_
    obtain ⟨I11, hI11, h⟩ := b1_s h
    refine z_putI fs_X10_236 (MK.o H0) hI11 dX10_parseSetup_47 ?_
    refine x_aloadn dX10_parseSetup_50 rfl ?_
    refine x_iconst 0 dX10_parseSetup_51 rfl ?_
    obtain ⟨I12, hI12, h⟩ := b1_s h
    refine z_putI fs_X10_227 (MK.o H0) hI12 dX10_parseSetup_52 ?_
    refine x_aloadn dX10_parseSetup_55 rfl ?_
    obtain ⟨I13, h14, h⟩ := b1_s h
    refine z_V0 [] [] (cs_X10_331 _) (ci := 8) rfl (MK.o H0) (dep (show d + 1 + 1 + 1 ≤ (d + 3) from by omega) (Nat.le_of_ble_eq_true rfl)) dX10_parseSetup_56 rfl rfl (Nat.le_of_ble_eq_true rfl) (c_X10_thinks (d + 1) (K := K) (I := I12) H0 h14) ?_
    refine x_iconst 0 dX10_parseSetup_59 rfl ?_
    refine x_istoren dX10_parseSetup_60 (Nat.le_of_ble_eq_true rfl) rfl rfl ?_
    exact X.forget (L' := [.ref x0, .retAddr 0, .int 0]) ⟨Or.inl rfl, ⟨Or.inr rfl, ⟨Or.inl rfl, trivial⟩⟩⟩ (tl_X10_parseSetup_61 d ha_X10_readsText FU H0 h)
  have h := ifT hc h
  refine x_iconst 0 dX10_parseSetup_18 rfl ?_
  cases h
  exact x_iret rfl dX10_parseSetup_19 ⟨rfl, rfl, rfl⟩
