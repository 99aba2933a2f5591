/-! the law's text: what it prints -/
section TXT3
variable {I I0 I1 I' I2 : Mem} {K K0 K1 K' K2 : Kt} {b r cap kb x ns y B : Nat} {L L0 T : List Nat} {v : Int32}
theorem cRO {ci a : Nat} (h : LO K ci a) : cO K ci a = some () := cO_n h
theorem nfls {a c : Nat} (h : c < a) (ha : a < 2147483648) : (nI a ≤ nI c) = False := nJ_ef h ha

theorem tx_97 (H : HB K0 I0 ns ns 2 4) (V : HV I0 ns ns 2 4 y) (hk : kN K0 = 428 + ns) (hn1 : 1 ≤ ns) (hn2 : ns ≤ 2) : ∀ d i, i + d = ns → ∀ f, d < f → ∀ I K B, TW ns K0 I0 K I b (L0 ++ tUp (tSt I0) i) B → B + 22 * d ≤ 420 →
    ∃ I' K', l_L_text_97 f I K 415 v b (nI i) = l_L_text_179 FU I' K' 415 v b 0 ∧ TW ns K0 I0 K' I' b (L0 ++ tUp (tSt I0) ns) (B + 22 * d) := by
  intro d
  induction d with
  | zero =>
    intro i hi f hf I K B S hB
    obtain rfl : i = ns := by omega
    cases f with
    | zero => omega
    | succ f =>
      refine ⟨I, K, ?_, S⟩
      have h0 := S.h H hk hn2
      unfold l_L_text_97
      rw [cO_n h0.m, b1_so, gR_e h0.g8, b1_so, cO_n h0.ls.1, b1_so, h0.ls.size, b1_so, if_pos (Int32.le_refl _)]
  | succ d ih =>
    intro i hi f hf I K B S hB
    cases f with
    | zero => omega
    | succ f =>
      obtain ⟨q0, q1, q2, q3, ⟨w0, -, u0⟩, ⟨w1, u1'⟩, ⟨w2, u2'⟩, w3, u3'⟩ := V.2.1 i (by omega)
      have hb0 : vN I0 (419 + 2 * i) 0 < 1000 := by rw [vN_e w0 (by omega)]; omega
      have hb1 : vN I0 (419 + 2 * i) 1 < 1000 := by rw [vN_e w1 (by omega)]; omega
      have hb2 : vN I0 (419 + 2 * i) 2 < 1000 := by rw [vN_e w2 (by omega)]; omega
      have hb3 : vN I0 (419 + 2 * i) 3 < 1000 := by rw [vN_e w3 (by omega)]; omega
      have v0 := vN_n w0 (by omega)
      have v1 := vN_n w1 (by omega)
      have v2 := vN_n w2 (by omega)
      have v3 := vN_n w3 (by omega)
      obtain ⟨I1x, K1x, e1x, S1x⟩ := S.str (x := 30) (n := 7) (by decide) (by decide) (by omega) hn2
      obtain ⟨I2x, K2x, e2x, S2x⟩ := S1x.int (v := vN I0 (419 + 2 * i) 0) hb0 (by omega) hn2
      obtain ⟨I3x, K3x, e3x, S3x⟩ := S2x.sp (by omega) hn2
      obtain ⟨I4x, K4x, e4x, S4x⟩ := S3x.int (v := vN I0 (419 + 2 * i) 1) hb1 (by omega) hn2
      obtain ⟨I5x, K5x, e5x, S5x⟩ := S4x.sp (by omega) hn2
      obtain ⟨I6x, K6x, e6x, S6x⟩ := S5x.int (v := vN I0 (419 + 2 * i) 2) hb2 (by omega) hn2
      obtain ⟨I7x, K7x, e7x, S7x⟩ := S6x.sp (by omega) hn2
      obtain ⟨I8x, K8x, e8x, S8x⟩ := S7x.int (v := vN I0 (419 + 2 * i) 3) hb3 (by omega) hn2
      obtain ⟨I9, K9, r1, r2⟩ := ih (i + 1) (by omega) f (by omega) I8x K8x (B + 7 + 3 + 1 + 3 + 1 + 3 + 1 + 3) (by
        have e : L0 ++ tUp (tSt I0) (i + 1) = L0 ++ tUp (tSt I0) i ++ sBy 30 ++ dig (vN I0 (419 + 2 * i) 0) ++ [32] ++ dig (vN I0 (419 + 2 * i) 1) ++ [32] ++ dig (vN I0 (419 + 2 * i) 2) ++ [32] ++ dig (vN I0 (419 + 2 * i) 3) := by
          show L0 ++ (tUp (tSt I0) i ++ tSt I0 i) = _
          unfold tSt
          simp only [List.append_assoc]
        rw [e]
        exact S8x) (by omega)
      refine ⟨I9, K9, ?_, by rw [show B + 22 * (d + 1) = B + 7 + 3 + 1 + 3 + 1 + 3 + 1 + 3 + 22 * d by omega]; exact r2⟩
      rw [← r1]
      have o0x := cO_n S.o
      have h0x := S.h H hk hn2
      have a0x := cA_n (h0x.2.2.1 i (by omega)).2
      have i0x := S.i (a := (419 + 2 * i)) (by omega)
      have o1x := cO_n S1x.o
      have h1x := S1x.h H hk hn2
      have a1x := cA_n (h1x.2.2.1 i (by omega)).2
      have i1x := S1x.i (a := (419 + 2 * i)) (by omega)
      have o2x := cO_n S2x.o
      have h2x := S2x.h H hk hn2
      have a2x := cA_n (h2x.2.2.1 i (by omega)).2
      have i2x := S2x.i (a := (419 + 2 * i)) (by omega)
      have o3x := cO_n S3x.o
      have h3x := S3x.h H hk hn2
      have a3x := cA_n (h3x.2.2.1 i (by omega)).2
      have i3x := S3x.i (a := (419 + 2 * i)) (by omega)
      have o4x := cO_n S4x.o
      have h4x := S4x.h H hk hn2
      have a4x := cA_n (h4x.2.2.1 i (by omega)).2
      have i4x := S4x.i (a := (419 + 2 * i)) (by omega)
      have o5x := cO_n S5x.o
      have h5x := S5x.h H hk hn2
      have a5x := cA_n (h5x.2.2.1 i (by omega)).2
      have i5x := S5x.i (a := (419 + 2 * i)) (by omega)
      have o6x := cO_n S6x.o
      have h6x := S6x.h H hk hn2
      have a6x := cA_n (h6x.2.2.1 i (by omega)).2
      have i6x := S6x.i (a := (419 + 2 * i)) (by omega)
      have o7x := cO_n S7x.o
      have h7x := S7x.h H hk hn2
      have a7x := cA_n (h7x.2.2.1 i (by omega)).2
      have i7x := S7x.i (a := (419 + 2 * i)) (by omega)
      have o8x := cO_n S8x.o
      have h8x := S8x.h H hk hn2
      have a8x := cA_n (h8x.2.2.1 i (by omega)).2
      have i8x := S8x.i (a := (419 + 2 * i)) (by omega)
      conv => lhs; unfold l_L_text_97
      have x0 : ix 0 4 = some 0 := rfl
      have x1 : ix 1 4 = some 1 := rfl
      have x2 : ix 2 4 = some 2 := rfl
      have x3 : ix 3 4 = some 3 := rfl
      rw [cO_n h0x.m, b1_so, gR_e h0x.g8, b1_so, cO_n h0x.ls.1, b1_so, h0x.ls.size, b1_so, if_neg (nle_f (by omega) (by omega)), b1_so, b1_so, cO_n h0x.ls.1, b1_so, h0x.ls.get (by omega) (by omega) (h0x.2.2.1 i (by omega)).1, b1_so, a0x, b1_so, o0x, b1_so, e1x, b3_so, a1x, b1_so, x0, b1_so, o1x, b1_so, i1x, v0, e2x, b3_so, o2x, b1_so, e3x, b3_so, a3x, b1_so, x1, b1_so, o3x, b1_so, i3x, v1, e4x, b3_so, o4x, b1_so, e5x, b3_so, a5x, b1_so, x2, b1_so, o5x, b1_so, i5x, v2, e6x, b3_so, o6x, b1_so, e7x, b3_so, a7x, b1_so, x3, b1_so, o7x, b1_so, i7x, v3, e8x, b3_so, nI_s1]
theorem tx_179 (H : HB K0 I0 ns ns 2 4) (V : HV I0 ns ns 2 4 y) (hk : kN K0 = 428 + ns) (hn1 : 1 ≤ ns) (hn2 : ns ≤ 2) : ∀ d i, i + d = 2 → ∀ f, d < f → ∀ I K B, TW ns K0 I0 K I b (L0 ++ tUp (tPe I0 ns) i) B → B + 52 * d ≤ 420 →
    ∃ I' K', l_L_text_179 f I K 415 v b (nI i) = l_L_text_329 FU I' K' 415 v b 0 ∧ TW ns K0 I0 K' I' b (L0 ++ tUp (tPe I0 ns) 2) (B + 52 * d) := by
  intro d
  induction d with
  | zero =>
    intro i hi f hf I K B S hB
    obtain rfl : i = 2 := by omega
    cases f with
    | zero => omega
    | succ f =>
      refine ⟨I, K, ?_, S⟩
      have h0 := S.h H hk hn2
      unfold l_L_text_179
      rw [cO_n h0.m, b1_so, gR_e h0.g7, b1_so, cO_n h0.lp.1, b1_so, h0.lp.size, b1_so, if_pos (Int32.le_refl _)]
  | succ d ih =>
    intro i hi f hf I K B S hB
    cases f with
    | zero => omega
    | succ f =>
      obtain ⟨q0, q1, q2, q4, ⟨⟨w0, u0⟩, ⟨w1, u1'⟩, w2, u2'⟩, ⟨-, w4, u4'⟩, -⟩ := V.2.2.1 i (by omega)
      have hy := V.1.1
      have hb0 : vN I0 (420 + ns + 2 * i) 0 < 1000 := by rw [vN_e w0 (by omega)]; omega
      have hb1 : vN I0 (420 + ns + 2 * i) 1 < 1000 := by rw [vN_e w1 (by omega)]; omega
      have hb2 : vN I0 (420 + ns + 2 * i) 2 < 1000 := by rw [vN_e w2 (by omega)]; omega
      have hb4 : vN I0 (420 + ns + 2 * i) 4 < 1000 := by rw [vN_e w4 (by omega)]; omega
      have v0 := vN_n w0 (by omega)
      have v1 := vN_n w1 (by omega)
      have v2 := vN_n w2 (by omega)
      have v4 := vN_n w4 (by omega)
      have hl5 : (if I0 (420 + ns + 2 * i) 5 = 0 then 0 else 6) ≤ 6 := by split <;> omega
      have hl6 : (if I0 (420 + ns + 2 * i) 6 = 0 then 0 else 8) ≤ 8 := by split <;> omega
      obtain ⟨nm, enm, hnm2, hnm⟩ : ∃ nm, nm = (if i = 0 then 32 else 33) ∧ nm < 42 ∧ (sBy nm).length = 3 := ⟨_, rfl, by split <;> decide, by split <;> decide⟩
      obtain ⟨I1x, K1x, e1x, S1x⟩ := S.str (x := 31) (n := 8) (by decide) (by decide) (by omega) hn2
      obtain ⟨I2x, K2x, e2x, S2x⟩ := S1x.str (x := nm) (n := 3) (by omega) hnm (by omega) hn2
      obtain ⟨I3x, K3x, e3x, S3x⟩ := S2x.sp (by omega) hn2
      obtain ⟨I4x, K4x, e4x, S4x⟩ := S3x.int (v := vN I0 (420 + ns + 2 * i) 0) hb0 (by omega) hn2
      obtain ⟨I5x, K5x, e5x, S5x⟩ := S4x.sp (by omega) hn2
      obtain ⟨I6x, K6x, e6x, S6x⟩ := S5x.int (v := vN I0 (420 + ns + 2 * i) 1) hb1 (by omega) hn2
      obtain ⟨I7x, K7x, e7x, S7x⟩ := S6x.sp (by omega) hn2
      obtain ⟨I8x, K8x, e8x, S8x⟩ := S7x.int (v := vN I0 (420 + ns + 2 * i) 2) hb2 (by omega) hn2
      obtain ⟨I9x, K9x, e9x, S9x⟩ := S8x.str (x := (if I0 (420 + ns + 2 * i) 5 = 0 then 18 else 34)) (n := (if I0 (420 + ns + 2 * i) 5 = 0 then 0 else 6)) (by split <;> decide) (by split <;> decide) (by omega) hn2
      obtain ⟨I10x, K10x, e10x, S10x⟩ := S9x.str (x := (if I0 (420 + ns + 2 * i) 6 = 0 then 18 else 35)) (n := (if I0 (420 + ns + 2 * i) 6 = 0 then 0 else 8)) (by split <;> decide) (by split <;> decide) (by omega) hn2
      obtain ⟨I11x, K11x, e11x, S11x⟩ := S10x.str (x := 36) (n := 7) (by decide) (by decide) (by omega) hn2
      obtain ⟨I12x, K12x, e12x, S12x⟩ := S11x.int (v := i) (by omega) (by omega) hn2
      obtain ⟨I13x, K13x, e13x, S13x⟩ := S12x.sp (by omega) hn2
      obtain ⟨I14x, K14x, e14x, S14x⟩ := S13x.int (v := vN I0 (420 + ns + 2 * i) 4) hb4 (by omega) hn2
      obtain ⟨I9, K9, r1, r2⟩ := ih (i + 1) (by omega) f (by omega) I14x K14x (B + 52) (by
        have e : L0 ++ tUp (tPe I0 ns) (i + 1) = L0 ++ tUp (tPe I0 ns) i ++ sBy 31 ++ sBy nm ++ [32] ++ dig (vN I0 (420 + ns + 2 * i) 0) ++ [32] ++ dig (vN I0 (420 + ns + 2 * i) 1) ++ [32] ++ dig (vN I0 (420 + ns + 2 * i) 2) ++ sBy (if I0 (420 + ns + 2 * i) 5 = 0 then 18 else 34) ++ sBy (if I0 (420 + ns + 2 * i) 6 = 0 then 18 else 35) ++ sBy 36 ++ dig i ++ [32] ++ dig (vN I0 (420 + ns + 2 * i) 4) := by
          show L0 ++ (tUp (tPe I0 ns) i ++ tPe I0 ns i) = _
          unfold tPe
          rw [← enm]
          simp only [List.append_assoc]
        rw [e]
        exact ⟨S14x.1, by have := S14x.2; omega⟩) (by omega)
      refine ⟨I9, K9, ?_, by rw [show B + 52 * (d + 1) = B + 52 + 52 * d by omega]; exact r2⟩
      rw [← r1]
      have o0x := cO_n S.o
      have h0x := S.h H hk hn2
      have i0x := S.i (a := (420 + ns + 2 * i)) (by omega)
      have p0x := cO_n (h0x.2.2.2.1 i (by omega)).2
      have o1x := cO_n S1x.o
      have h1x := S1x.h H hk hn2
      have i1x := S1x.i (a := (420 + ns + 2 * i)) (by omega)
      have p1x := cO_n (h1x.2.2.2.1 i (by omega)).2
      have o2x := cO_n S2x.o
      have h2x := S2x.h H hk hn2
      have i2x := S2x.i (a := (420 + ns + 2 * i)) (by omega)
      have p2x := cO_n (h2x.2.2.2.1 i (by omega)).2
      have o3x := cO_n S3x.o
      have h3x := S3x.h H hk hn2
      have i3x := S3x.i (a := (420 + ns + 2 * i)) (by omega)
      have p3x := cO_n (h3x.2.2.2.1 i (by omega)).2
      have o4x := cO_n S4x.o
      have h4x := S4x.h H hk hn2
      have i4x := S4x.i (a := (420 + ns + 2 * i)) (by omega)
      have p4x := cO_n (h4x.2.2.2.1 i (by omega)).2
      have o5x := cO_n S5x.o
      have h5x := S5x.h H hk hn2
      have i5x := S5x.i (a := (420 + ns + 2 * i)) (by omega)
      have p5x := cO_n (h5x.2.2.2.1 i (by omega)).2
      have o6x := cO_n S6x.o
      have h6x := S6x.h H hk hn2
      have i6x := S6x.i (a := (420 + ns + 2 * i)) (by omega)
      have p6x := cO_n (h6x.2.2.2.1 i (by omega)).2
      have o7x := cO_n S7x.o
      have h7x := S7x.h H hk hn2
      have i7x := S7x.i (a := (420 + ns + 2 * i)) (by omega)
      have p7x := cO_n (h7x.2.2.2.1 i (by omega)).2
      have o8x := cO_n S8x.o
      have h8x := S8x.h H hk hn2
      have i8x := S8x.i (a := (420 + ns + 2 * i)) (by omega)
      have p8x := cO_n (h8x.2.2.2.1 i (by omega)).2
      have o9x := cO_n S9x.o
      have h9x := S9x.h H hk hn2
      have i9x := S9x.i (a := (420 + ns + 2 * i)) (by omega)
      have p9x := cO_n (h9x.2.2.2.1 i (by omega)).2
      have o10x := cO_n S10x.o
      have h10x := S10x.h H hk hn2
      have i10x := S10x.i (a := (420 + ns + 2 * i)) (by omega)
      have p10x := cO_n (h10x.2.2.2.1 i (by omega)).2
      have o11x := cO_n S11x.o
      have h11x := S11x.h H hk hn2
      have i11x := S11x.i (a := (420 + ns + 2 * i)) (by omega)
      have p11x := cO_n (h11x.2.2.2.1 i (by omega)).2
      have o12x := cO_n S12x.o
      have h12x := S12x.h H hk hn2
      have i12x := S12x.i (a := (420 + ns + 2 * i)) (by omega)
      have p12x := cO_n (h12x.2.2.2.1 i (by omega)).2
      have o13x := cO_n S13x.o
      have h13x := S13x.h H hk hn2
      have i13x := S13x.i (a := (420 + ns + 2 * i)) (by omega)
      have p13x := cO_n (h13x.2.2.2.1 i (by omega)).2
      have o14x := cO_n S14x.o
      have h14x := S14x.h H hk hn2
      have i14x := S14x.i (a := (420 + ns + 2 * i)) (by omega)
      have p14x := cO_n (h14x.2.2.2.1 i (by omega)).2
      have e295 : ∀ z6, z6 = (if I0 (420 + ns + 2 * i) 6 = 0 then 18 else 35) → l_L_text_295 (l_L_text_179 f) I9x K9x 415 v b (nI i) (420 + ns + 2 * i) z6 b = l_L_text_179 f I14x K14x 415 v b (nI (i + 1)) := fun z6 hz => by
        subst hz
        unfold l_L_text_295
        rw [o9x, b1_so, e10x, b3_so, o10x, b1_so, e11x, b3_so, o11x, b1_so, e12x, b3_so, o12x, b1_so, e13x, b3_so, p13x, b1_so, o13x, b1_so, i13x, v4, e14x, b3_so, nI_s1]
      have e277 : ∀ z5, z5 = (if I0 (420 + ns + 2 * i) 5 = 0 then 18 else 34) → l_L_text_277 (l_L_text_179 f) I8x K8x 415 v b (nI i) (420 + ns + 2 * i) z5 b = l_L_text_179 f I14x K14x 415 v b (nI (i + 1)) := fun z5 hz => by
        subst hz
        unfold l_L_text_277
        rw [o8x, b1_so, e9x, b3_so, p9x, b1_so, i9x]
        split
        · next h => exact e295 18 (by rw [if_pos h])
        · next h => exact e295 35 (by rw [if_neg h])
      have e220 : l_L_text_220 (l_L_text_179 f) I1x K1x 415 v b (nI i) (420 + ns + 2 * i) nm b = l_L_text_179 f I14x K14x 415 v b (nI (i + 1)) := by
        unfold l_L_text_220
        rw [o1x, b1_so, e2x, b3_so, o2x, b1_so, e3x, b3_so, p3x, b1_so, o3x, b1_so, i3x, v0, e4x, b3_so, o4x, b1_so, e5x, b3_so, p5x, b1_so, o5x, b1_so, i5x, v1, e6x, b3_so, o6x, b1_so, e7x, b3_so, p7x, b1_so, o7x, b1_so, i7x, v2, e8x, b3_so, p8x, b1_so, i8x]
        split
        · next h => exact e277 18 (by rw [if_pos h])
        · next h => exact e277 34 (by rw [if_neg h])
      conv => lhs; unfold l_L_text_179
      rw [cO_n h0x.m, b1_so, gR_e h0x.g7, b1_so, cO_n h0x.lp.1, b1_so, h0x.lp.size, b1_so, if_neg (nle_f (by omega) (by omega)), b1_so, b1_so, cO_n h0x.lp.1, b1_so, h0x.lp.get (by omega) (by omega) (h0x.2.2.2.1 i (by omega)).1, b1_so, p0x, b1_so, o0x, b1_so, e1x, b3_so]
      have ei : (nI i = 0) = (i = 0) := by rw [show (0 : Int32) = nI 0 from rfl, nJ_i (by omega) (by omega)]
      by_cases h : i = 0
      · rw [if_pos (by rw [ei]; exact h)]
        rw [if_pos h] at enm
        rw [← enm]
        exact e220
      · rw [if_neg (by rw [ei]; exact h)]
        rw [if_neg h] at enm
        rw [← enm]
        exact e220
end TXT3
