/-! the whole text -/
section TXT6
variable {I I0 I1 I' I2 : Mem} {K K0 K1 K' K2 : Kt} {b r cap kb x ns y B : Nat} {L L0 T : List Nat} {v : Int32}
theorem bi_row (hk : kN K0 = kb) (hkb : kb ≤ 700000) : ∃ I1 K1, f_J4_init_a7421 (u1 I0 kb (fun _ => 0)) (kNew K0 (0, 4)) kb 25 = some (I1, K1) ∧ TS kb K0 I0 K1 I1 kb (sBy 25) := by
  subst hk
  let I1 : Mem := u2 (u1 I0 (kN K0) (fun _ => 0)) (kN K0) 1 0
  let KK : Kt := kNew K0 (0, 4)
  let I2 : Mem := u1 I1 (kN KK) (fun _ => 0)
  let K2 : Kt := kPut (kNew KK (101, 23)) (kN K0) 0 (kN KK)
  have hKK : kN KK = kN K0 + 1 := rfl
  have oo : LO KK 0 (kN K0) := LO.mk
  have o1 : LO K2 0 (kN K0) := (show LO (kNew KK (101, 23)) 0 (kN K0) from oo.nw)
  have eb : I2 (kN K0) = I1 (kN K0) := u1_n (by omega)
  have er : I2 (kN KK) = fun _ => 0 := u1_s
  have eb1 : I2 (kN K0) 1 = 0 := by rw [eb]; exact u2_s
  have eb3 : I2 (kN K0) 3 = 0 := by
    rw [eb]
    show u2 (u1 I0 (kN K0) (fun _ => 0)) (kN K0) 1 0 (kN K0) 3 = 0
    rw [u2_k (by decide), u1_s]
  have S0 : TS (kN K0) K0 I0 K2 I2 (kN K0) [] := by
    refine ⟨kN KK, 23, ⟨⟨⟨o1, kp_s⟩, (show LA (kNew KK (101, 23)) 101 23 (kN KK) from LA.mk), by omega⟩, ⟨eb1, eb3⟩, ⟨Nat.zero_le _, by decide⟩, fun i c hi => by simp at hi, fun i hi => by rw [er]; exact fit0⟩, ⟨Nat.le_refl _, by omega⟩, ⟨⟨?_, ?_⟩, fun c hc => ⟨?_, ?_, ?_⟩⟩, ?_, ?_⟩
    · show kN K0 ≤ kN K0 + 1 + 1; omega
    · show gz (kNew KK (101, 23)) ≤ gz K0 + 10000 * (kN K0 + 1 + 1 - kN K0)
      rw [gz_new, show gz KK = gz K0 + 4 from gz_new]
      show gz K0 + 4 + 23 ≤ _
      omega
    · show u1 I1 (kN KK) (fun _ => 0) c = I0 c
      rw [u1_n (by omega)]
      show u2 (u1 I0 (kN K0) (fun _ => 0)) (kN K0) 1 0 c = I0 c
      rw [u2_a (by omega), u1_n (by omega)]
    · show kS (kNew (kNew K0 (0, 4)) (101, 23)) c = kS K0 c
      rw [kn_s (show c ≠ kN K0 + 1 by omega), kn_s (by omega)]
    · show kG (kPut (kNew (kNew K0 (0, 4)) (101, 23)) (kN K0) 0 (kN K0 + 1)) c = kG K0 c
      rw [kp_a (by omega), kn_g (show c ≠ kN K0 + 1 by omega), kn_g (by omega)]
    · show kN K0 + 1 + 1 ≤ _; omega
    · show kN K0 ≤ kN K0 + 1 + 1; omega
  obtain ⟨I3, K3, e3, S3⟩ := S0.str (x := 25) (by decide) (by decide) hkb
  refine ⟨I3, K3, ?_, S3⟩
  unfold f_J4_init_a7421 f_J5_init_a7421
  rw [show ckS 25 = some () from if_pos (by decide), b1_so, jl_row (by decide), b1_so, show (nI (sBy 25).length : Int32) = 7 from by decide, if_neg (by decide)]
  unfold l_J5_init_a7421_24 f_J4_append_cf1ce
  rw [show ckS 25 = some () from if_pos (by decide), b1_so, jc_row (by decide), b1_so, cO_n oo, b1_so, cF_b, b1_so, pu_so, b1_so, if_pos rfl, show ixn (7 + 16) = some 23 from ixn_n (n := 23) (by decide), b1_so, cL_n (show kN KK < 900000 by omega), b1_so, puN_e, b2_so, cO_n oo.nw, b1_so, puG_e, b1_so, cO_n o1, b1_so, b1_so, show f_J4_append_15ec4 (u1 (u2 (u1 I0 (kN K0) fun x => 0) (kN K0) 1 0) (kN (kNew K0 (0, 4))) fun x => 0) (kPut (kNew (kNew K0 (0, 4)) (101, 23)) (kN K0) 0 (kN (kNew K0 (0, 4)))) (kN K0) 25 = _ from e3]
  rfl

theorem tx_62 (A : AdvOk) (H : HB K0 I0 ns ns 2 4) (V : HV I0 ns ns 2 4 y) (hk : kN K0 = 428 + ns) (hn1 : 1 ≤ ns) (hn2 : ns ≤ 2) (S : TW ns K0 I0 K I b L B) (hB : B ≤ 100) :
    TEnd K0 I0 ns (l_L_text_62 I K 415 v b) (L ++ tTa I0 ++ tUp (tSt I0) ns ++ tUp (tPe I0 ns) 2 ++ tUp (tWi I0 ns) 4 ++ (if v &&& 1 = 0 then sBy 41 else [])) := by
  have go : ∀ (I K B L), TW ns K0 I0 K I b L B → B ≤ 112 → TEnd K0 I0 ns (l_L_text_97 FU I K 415 v b 0) (L ++ tUp (tSt I0) ns ++ tUp (tPe I0 ns) 2 ++ tUp (tWi I0 ns) 4 ++ (if v &&& 1 = 0 then sBy 41 else [])) := by
    intro I K B L S hB
    have hF := FU_ge
    obtain ⟨I1, K1, e1, S1⟩ := tx_97 (L0 := L) (v := v) H V hk hn1 hn2 ns 0 (by omega) FU (by omega) I K B (by simpa [tUp] using S) (by omega)
    obtain ⟨I2, K2, e2, S2⟩ := tx_179 (L0 := L ++ tUp (tSt I0) ns) (v := v) H V hk hn1 hn2 2 0 (by omega) FU (by omega) I1 K1 _ (by simpa [tUp] using S1) (by omega)
    have e3 := tx_329 (L0 := L ++ tUp (tSt I0) ns ++ tUp (tPe I0 ns) 2) (v := v) A H V hk hn1 hn2 4 0 (by omega) FU (by omega) I2 K2 _ (by simpa [tUp] using S2) (by omega)
    rw [show l_L_text_97 FU I K 415 v b 0 = _ from e1, show l_L_text_179 FU I1 K1 415 v b 0 = _ from e2]
    exact e3
  have h0 := S.h H hk hn2
  unfold l_L_text_62
  rw [cO_n h0.m, b1_so, S.i (a := 415) (by omega)]
  rcases V.1.2.2.2.2.2 with h | ⟨a, t, ⟨ha, ha2⟩, ht, ht2⟩
  · have hn : I0 415 5 < 0 := by rw [h]; exact lt_m1
    rw [if_pos hn, show tTa I0 = [] from if_pos hn, List.append_nil]
    exact go I K B L S (by omega)
  · have hy := V.1.1.2.2
    have hn : ¬ I0 415 5 < 0 := by rw [ha]; exact nln (by omega)

    obtain ⟨I1x, K1x, e1x, S1x⟩ := S.str (x := 29) (n := 5) (by decide) (by decide) (by omega) hn2
    obtain ⟨I2x, K2x, e2x, S2x⟩ := S1x.int (v := a) (by omega) (by omega) hn2
    obtain ⟨I3x, K3x, e3x, S3x⟩ := S2x.sp (by omega) hn2
    obtain ⟨I4x, K4x, e4x, S4x⟩ := S3x.int (v := t) (by omega) (by omega) hn2
    rw [if_neg hn, cO_n S.o, b1_so, e1x, b3_so, cO_n (S1x.h H hk hn2).m, b1_so, cO_n S1x.o, b1_so, S1x.i (a := 415) (by omega), ha, e2x, b3_so, cO_n S2x.o, b1_so, e3x, b3_so, cO_n (S3x.h H hk hn2).m, b1_so, cO_n S3x.o, b1_so, S3x.i (a := 415) (by omega), ht, e4x, b3_so]
    have e := go I4x K4x _ _ S4x (by omega)
    have et : tTa I0 = sBy 29 ++ dig a ++ [32] ++ dig t := by
      unfold tTa
      rw [if_neg hn, vN_e ha (by omega), vN_e ht (by omega)]
    rw [et]
    simp only [List.append_assoc] at e ⊢
    exact e
/-- the law's market prints its text -/
theorem text_whole (A : AdvOk) (H : HB K0 I0 ns ns 2 4) (V : HV I0 ns ns 2 4 y) (hk : kN K0 = 428 + ns) (hn1 : 1 ≤ ns) (hn2 : ns ≤ 2) : TEnd K0 I0 ns (f_L_text I0 K0 415 v) (tAll I0 ns v) := by
  obtain ⟨I, K, e0, T0⟩ := bi_row (K0 := K0) (I0 := I0) hk (by omega)
  have S : TW ns K0 I0 K I (428 + ns) (sBy 25) 7 := ⟨T0, by decide⟩
  obtain ⟨⟨hy, hy1, hy2⟩, -, ⟨g, hg, hg2⟩, ⟨f, hf, hf2⟩, hau, -⟩ := V.1
  obtain ⟨yy, rfl⟩ : ∃ yy, yy = y := ⟨y, rfl⟩

  obtain ⟨I1x, K1x, e1x, S1x⟩ := S.int (v := yy) (by omega) (by omega) hn2
  obtain ⟨I2x, K2x, e2x, S2x⟩ := S1x.str (x := 26) (n := 8) (by decide) (by decide) (by omega) hn2
  obtain ⟨I3x, K3x, e3x, S3x⟩ := S2x.int (v := g) (by omega) (by omega) hn2
  obtain ⟨I4x, K4x, e4x, S4x⟩ := S3x.str (x := 27) (n := 5) (by decide) (by decide) (by omega) hn2
  obtain ⟨I5x, K5x, e5x, S5x⟩ := S4x.int (v := f) (by omega) (by omega) hn2
  have eH : tHd I0 = sBy 25 ++ dig yy ++ sBy 26 ++ dig g ++ sBy 27 ++ dig f := by
    unfold tHd
    rw [vN_e hy (by omega), vN_e hg (by omega), vN_e hf (by omega)]
  unfold f_L_text
  rw [cL_n (by omega), b1_so, puN_e, b2_so, hk, e0, b2_so, cO_n (S.h H hk hn2).m, b1_so, cO_n S.o, b1_so, S.i (a := 415) (by omega), hy, e1x, b3_so, cO_n S1x.o, b1_so, e2x, b3_so, cO_n (S2x.h H hk hn2).m, b1_so, cO_n S2x.o, b1_so, S2x.i (a := 415) (by omega), hg, e3x, b3_so, cO_n S3x.o, b1_so, e4x, b3_so, cO_n (S4x.h H hk hn2).m, b1_so, cO_n S4x.o, b1_so, S4x.i (a := 415) (by omega), hf, e5x, b3_so, cO_n (S5x.h H hk hn2).m, b1_so, S5x.i (a := 415) (by omega)]
  unfold tAll
  rw [eH]
  rcases hau with h | ⟨a, ha, ha2⟩
  · have hn : I0 415 4 < 0 := by rw [h]; exact lt_m1
    rw [if_pos hn, show tAu I0 = [] from if_pos hn, List.append_nil]
    exact tx_62 A H V hk hn1 hn2 S5x (by omega)
  · have hn : ¬ I0 415 4 < 0 := by rw [ha]; exact nln (by omega)
    obtain ⟨I6, K6, e6, S6⟩ := S5x.str (x := 28) (n := 9) (by decide) (by decide) (by omega) hn2
    obtain ⟨I7, K7, e7, S7⟩ := S6.int (v := a) (by omega) (by omega) hn2
    rw [if_neg hn, cO_n S5x.o, b1_so, e6, b3_so, cO_n (S6.h H hk hn2).m, b1_so, cO_n S6.o, b1_so, S6.i (a := 415) (by omega), ha, e7, b3_so, show tAu I0 = sBy 28 ++ dig a from by unfold tAu; rw [if_neg hn, vN_e ha (by omega)]]
    have e := tx_62 A H V hk hn1 hn2 S7 (v := v) (by omega)
    simp only [List.append_assoc] at e ⊢
    exact e
end TXT6
