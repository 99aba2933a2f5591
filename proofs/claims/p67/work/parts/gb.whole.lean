/-! the wishes printed; the whole text -/
section TXT5
variable {I I0 I1 I' I2 : Mem} {K K0 K1 K' K2 : Kt} {b r cap kb x ns y B : Nat} {L L0 T : List Nat} {v : Int32}
theorem BS.mv (Bb : BS K I b r cap L) (h1 : I' b = I b) (h2 : I' r = I r) : BS K I' b r cap L := by
  obtain ⟨s1, s2, s3, s4, s5⟩ := Bb
  exact ⟨s1, by rw [h1]; exact s2, s3, fun i c hi => by rw [h2]; exact s4 i c hi, fun i hi => by rw [h2]; exact s5 i hi⟩
/-- the text is a string -/
def TEnd (K0 : Kt) (I0 : Mem) (ns : Nat) (X : Option (Nat × Mem × Kt)) (L : List Nat) : Prop := ∃ s I' K', X = some (s, I', K') ∧ StrAt K' I' s L ∧ (L.length ≤ 450 ∧ kN K0 ≤ kN K' ∧ kN K' ≤ 1000 ∧ gz K' ≤ gz K0 + 6000000) ∧ ∀ c, c < 415 → I' c = I0 c ∧ kS K' c = kS K0 c ∧ kG K' c = kG K0 c
theorem tx_483 (hk : kN K0 = 428 + ns) (hn2 : ns ≤ 2) (S : TW ns K0 I0 K I b L B) (hB : B ≤ 450) (hI : ∀ c, (c < 415 ∨ 428 + ns ≤ c) → I' c = I c) : TEnd K0 I0 ns (l_L_text_483 I' K b) L := by
  obtain ⟨⟨r, cap, Bb, ⟨hb, hr⟩, ⟨⟨t1, t2⟩, t3⟩, hN, hkn⟩, hL⟩ := S
  have Bb' := Bb.mv (I' := I') (hI b (Or.inr hb)) (hI r (Or.inr hr))
  obtain ⟨s, I2, K2, e, h1, ⟨h2, h3, h4⟩, h5⟩ := toStr Bb' (by omega)
  refine ⟨s, I2, K2, ?_, h1, ⟨by omega, by omega, by omega, by omega⟩, fun c hc => ?_⟩
  · unfold l_L_text_483
    rw [cO_n Bb.1.1.1, b1_so, e, b3_so]
  · obtain ⟨a1, a2, a3⟩ := h5 c (by omega)
    obtain ⟨b1', b2', b3'⟩ := t3 c (by omega)
    exact ⟨by rw [a1, hI c (Or.inl hc), b1'], a2.trans b2', a3.trans b3'⟩
theorem HV.tw (V : HV I0 ns ns 2 4 y) (S : TW ns K0 I0 K I b L B) (hn2 : ns ≤ 2) : HV I ns ns 2 4 y := by
  refine V.mv (S.i (by omega)) (fun i hi => S.i (by omega)) (fun i hi => S.i (by omega)) (fun i hi => S.i ?_) (Or.inr rfl)
  unfold wd
  split <;> omega
theorem ch_n {k : Nat} (h : k < 4) : (((112 + nI k : Int32)).toUInt32 % 65536).toInt32 = nI (112 + k) := by
  rw [show (112 : Int32) + nI k = nI (112 + k) from nI_add 112 k]
  exact chN _ (by omega)
theorem lt_m1 : (-1 : Int32) < 0 := by decide

theorem tx_329 (A : AdvOk) (H : HB K0 I0 ns ns 2 4) (V : HV I0 ns ns 2 4 y) (hk : kN K0 = 428 + ns) (hn1 : 1 ≤ ns) (hn2 : ns ≤ 2) : ∀ d k, k + d = 4 → ∀ f, d < f → ∀ I K B, TW ns K0 I0 K I b (L0 ++ tUp (tWi I0 ns) k) B → B + 33 * d ≤ 420 →
    TEnd K0 I0 ns (l_L_text_329 f I K 415 v b (nI k)) (L0 ++ tUp (tWi I0 ns) 4 ++ (if v &&& 1 = 0 then sBy 41 else [])) := by
  intro d
  induction d with
  | zero =>
    intro k hi f hf I K B S hB
    obtain rfl : k = 4 := by omega
    cases f with
    | zero => omega
    | succ f =>
      have h0 := S.h H hk hn2
      unfold l_L_text_329
      rw [cO_n h0.m, b1_so, gR_e h0.g9, b1_so, cO_n h0.lw.1, b1_so, h0.lw.size, b1_so, if_pos (Int32.le_refl _)]
      by_cases hv : v &&& 1 = 0
      · obtain ⟨I1, K1, e1, S1⟩ := S.str (x := 41) (n := 21) (by decide) (by decide) (by omega) hn2
        have h1 := S1.h H hk hn2
        obtain ⟨u, I2, e2, hI⟩ := A ns y K1 I1 hn1 hn2 h1 (V.tw S1 hn2)
        rw [if_pos hv, if_pos hv, cO_n S.o, b1_so, e1, b3_so, cO_n h1.m, b1_so, e2, b2_so]
        exact tx_483 hk hn2 S1 (by omega) hI
      · rw [if_neg hv, if_neg hv, List.append_nil]
        exact tx_483 hk hn2 S (by omega) (fun _ _ => rfl)
  | succ d ih =>
    intro k hi f hf I K B S hB
    cases f with
    | zero => omega
    | succ f =>
      have hwd : wd ns k < 428 + ns := by unfold wd; split <;> omega
      obtain ⟨q0, q1, q2, ⟨w0, -, u0⟩, ⟨w1, u1'⟩, ⟨w2, u2'⟩, wp, -⟩ := V.2.2.2 k (by omega)
      have hb0 : vN I0 (wd ns k) 0 < 1000 := by rw [vN_e w0 (by omega)]; omega
      have hb1 : vN I0 (wd ns k) 1 < 1000 := by rw [vN_e w1 (by omega)]; omega
      have hb2 : vN I0 (wd ns k) 2 < 1000 := by rw [vN_e w2 (by omega)]; omega
      have v0 := vN_n w0 (by omega)
      have v1 := vN_n w1 (by omega)
      have v2 := vN_n w2 (by omega)
      obtain ⟨I1x, K1x, e1x, S1x⟩ := S.str (x := 37) (n := 6) (by decide) (by decide) (by omega) hn2
      obtain ⟨I2x, K2x, e2x, S2x⟩ := S1x.chr (c := 112 + k) (by omega) (by omega) hn2
      obtain ⟨I3x, K3x, e3x, S3x⟩ := S2x.sp (by omega) hn2
      obtain ⟨I4x, K4x, e4x, S4x⟩ := S3x.int (v := vN I0 (wd ns k) 0) hb0 (by omega) hn2
      obtain ⟨I5x, K5x, e5x, S5x⟩ := S4x.sp (by omega) hn2
      obtain ⟨I6x, K6x, e6x, S6x⟩ := S5x.int (v := vN I0 (wd ns k) 1) hb1 (by omega) hn2
      have o0x := cO_n S.o
      have h0x := S.h H hk hn2
      have i0x := S.i (a := (wd ns k)) hwd
      have p0x := cO_n (h0x.2.2.2.2 k (by omega)).2
      have o1x := cO_n S1x.o
      have h1x := S1x.h H hk hn2
      have i1x := S1x.i (a := (wd ns k)) hwd
      have p1x := cO_n (h1x.2.2.2.2 k (by omega)).2
      have o2x := cO_n S2x.o
      have h2x := S2x.h H hk hn2
      have i2x := S2x.i (a := (wd ns k)) hwd
      have p2x := cO_n (h2x.2.2.2.2 k (by omega)).2
      have o3x := cO_n S3x.o
      have h3x := S3x.h H hk hn2
      have i3x := S3x.i (a := (wd ns k)) hwd
      have p3x := cO_n (h3x.2.2.2.2 k (by omega)).2
      have o4x := cO_n S4x.o
      have h4x := S4x.h H hk hn2
      have i4x := S4x.i (a := (wd ns k)) hwd
      have p4x := cO_n (h4x.2.2.2.2 k (by omega)).2
      have o5x := cO_n S5x.o
      have h5x := S5x.h H hk hn2
      have i5x := S5x.i (a := (wd ns k)) hwd
      have p5x := cO_n (h5x.2.2.2.2 k (by omega)).2
      have o6x := cO_n S6x.o
      have h6x := S6x.h H hk hn2
      have i6x := S6x.i (a := (wd ns k)) hwd
      have p6x := cO_n (h6x.2.2.2.2 k (by omega)).2
      -- behind the place: the wear
      have fin : ∀ (I7 : Mem) (K7 : Kt) (B7 : Nat) (L7 : List Nat), TW ns K0 I0 K7 I7 b L7 B7 → B7 + 9 + 33 * d ≤ 420 → L7 = L0 ++ tUp (tWi I0 ns) k ++ sBy 37 ++ [112 + k] ++ [32] ++ dig (vN I0 (wd ns k) 0) ++ [32] ++ dig (vN I0 (wd ns k) 1) ++ (if I0 (wd ns k) 3 < 0 then sBy 39 ++ dig (vN I0 (wd ns k) 4) else sBy 38 ++ dig (vN I0 (wd ns k) 3)) →
          TEnd K0 I0 ns (l_L_text_435 (l_L_text_329 f) I7 K7 415 v b (nI k) (wd ns k)) (L0 ++ tUp (tWi I0 ns) 4 ++ (if v &&& 1 = 0 then sBy 41 else [])) := by
        intro I7 K7 B7 L7 S7 hB7 hL7
        have o7 := cO_n S7.o
        have p7 := cO_n ((S7.h H hk hn2).2.2.2.2 k (by omega)).2
        have i7 := S7.i (a := (wd ns k)) hwd
        have eT : L0 ++ tUp (tWi I0 ns) (k + 1) = L7 ++ (if I0 (wd ns k) 2 ≤ 0 then [] else sBy 40 ++ dig (vN I0 (wd ns k) 2)) := by
          show L0 ++ (tUp (tWi I0 ns) k ++ tWi I0 ns k) = _
          rw [hL7]
          generalize tUp (tWi I0 ns) k = U
          unfold tWi
          simp only [List.append_assoc]
        unfold l_L_text_435
        rw [p7, b1_so, i7]
        by_cases h2 : I0 (wd ns k) 2 ≤ 0
        · rw [if_pos h2, List.append_nil] at eT
          rw [if_pos h2, nI_s1]
          exact ih (k + 1) (by omega) f (by omega) I7 K7 B7 (by rw [eT]; exact S7) (by omega)
        · obtain ⟨I8, K8, e8, S8⟩ := S7.str (x := 40) (n := 6) (by decide) (by decide) (by omega) hn2
          obtain ⟨I9, K9, e9, S9⟩ := S8.int (v := vN I0 (wd ns k) 2) hb2 (by omega) hn2
          have p8 := cO_n ((S8.h H hk hn2).2.2.2.2 k (by omega)).2
          have i8 := S8.i (a := (wd ns k)) hwd
          rw [if_neg h2, ← List.append_assoc] at eT
          rw [if_neg h2, o7, b1_so, e8, b3_so, p8, b1_so, cO_n S8.o, b1_so, i8, v2, e9, b3_so, nI_s1]
          exact ih (k + 1) (by omega) f (by omega) I9 K9 (B7 + 6 + 3) (by rw [eT]; exact S9) (by omega)
      unfold l_L_text_329
      rw [cO_n h0x.m, b1_so, gR_e h0x.g9, b1_so, cO_n h0x.lw.1, b1_so, h0x.lw.size, b1_so, if_neg (nle_f (by omega) (by omega)), b1_so, b1_so, cO_n h0x.lw.1, b1_so, h0x.lw.get (by omega) (by omega) (h0x.2.2.2.2 k (by omega)).1, b1_so, p0x, b1_so, o0x, b1_so, e1x, b3_so, o1x, b1_so, ch_n (by omega), e2x, b3_so, o2x, b1_so, e3x, b3_so, p3x, b1_so, o3x, b1_so, i3x, v0, e4x, b3_so, o4x, b1_so, e5x, b3_so, p5x, b1_so, o5x, b1_so, i5x, v1, e6x, b3_so, p6x, b1_so, i6x]
      rcases wp with ⟨t, t1, t2, t3, -⟩ | ⟨t1, t, t2, t3⟩
      · have hb3 : vN I0 (wd ns k) 3 < 1000 := by rw [vN_e t2 (by omega)]; omega
        have v3 := vN_n t2 (by omega)
        have hn3 : ¬ I0 (wd ns k) 3 < 0 := by rw [t2]; exact nln (by omega)
        obtain ⟨I7, K7, e7, S7⟩ := S6x.str (x := 38) (n := 4) (by decide) (by decide) (by omega) hn2
        obtain ⟨I8, K8, e8, S8⟩ := S7.int (v := vN I0 (wd ns k) 3) hb3 (by omega) hn2
        rw [if_neg hn3, o6x, b1_so, e7, b3_so, cO_n ((S7.h H hk hn2).2.2.2.2 k (by omega)).2, b1_so, cO_n S7.o, b1_so, S7.i (a := (wd ns k)) hwd, v3, e8, b3_so]
        exact fin I8 K8 _ _ S8 (by omega) (by rw [if_neg hn3]; simp only [List.append_assoc])
      · have hb4 : vN I0 (wd ns k) 4 < 1000 := by rw [vN_e t2 (by omega)]; omega
        have v4 := vN_n t2 (by omega)
        have hn3 : I0 (wd ns k) 3 < 0 := by rw [t1]; exact lt_m1
        obtain ⟨I7, K7, e7, S7⟩ := S6x.str (x := 39) (n := 6) (by decide) (by decide) (by omega) hn2
        obtain ⟨I8, K8, e8, S8⟩ := S7.int (v := vN I0 (wd ns k) 4) hb4 (by omega) hn2
        rw [if_pos hn3, o6x, b1_so, e7, b3_so, cO_n ((S7.h H hk hn2).2.2.2.2 k (by omega)).2, b1_so, cO_n S7.o, b1_so, S7.i (a := (wd ns k)) hwd, v4, e8, b3_so]
        exact fin I8 K8 _ _ S8 (by omega) (by rw [if_pos hn3]; simp only [List.append_assoc])
end TXT5
