/-! averages -/
theorem av_64 : ∀ s, s < 161 → ∀ n, n < 17 → n = 0 ∨ (((FP.ddiv (FP.i2d (nI s)) (FP.i2d (nI n))) &&& 0x7fffffffffffffff ≤ 0x7ff0000000000000) ∧ Op.cmpValue (FP.dcmp (FP.ddiv (FP.i2d (nI s)) (FP.i2d (nI n))) (FP.ddiv (FP.i2d (nI s)) (FP.i2d (nI n)))) .l = 0) := by decide +kernel
theorem av_32 : ∀ s, s < 251 → ∀ n, n < 6 → n = 0 ∨ (((FP.fdiv (FP.i2f (nI s)) (FP.i2f (nI n))) &&& 0x7fffffff ≤ 0x7f800000) ∧ ((FP.f2d (FP.fdiv (FP.i2f (nI s)) (FP.i2f (nI n)))) &&& 0x7fffffffffffffff ≤ 0x7ff0000000000000) ∧ Op.cmpValue (FP.dcmp (FP.f2d (FP.fdiv (FP.i2f (nI s)) (FP.i2f (nI n)))) (FP.f2d (FP.fdiv (FP.i2f (nI s)) (FP.i2f (nI n))))) .l = 0) := by decide +kernel
theorem av_10 : ((1 : Int32) = 0) = False := eq_false (by decide)
section AV
variable {I : Mem} {w m q np ns nw : Nat} {N : Nat → Int32}
/-- wear of those in trade, and stars -/
def sWr (N : Nat → Int32) : Nat → Nat
  | 0 => 0
  | n + 1 => sWr N n + (if wN N n 3 = 1 ∨ wN N n 3 = 0 then (wN N n 2).toInt.toNat else 0)
def sSt (N : Nat → Int32) : Nat → Nat
  | 0 => 0
  | n + 1 => sSt N n + (sN N n 2).toInt.toNat
theorem sWr_n (H : WF N np ns nw) {i : Nat} (hi : i < nw) : wN N i 2 = nI (wN N i 2).toInt.toNat ∧ (wN N i 2).toInt.toNat ≤ 10 := by
  obtain ⟨-, b, e, -, ⟨h1, h2⟩, -⟩ := H.2.2.2.1 i hi
  have h3 : (wN N i 2).toInt.toNat = e := by
    rw [h1, nI_toInt (by omega)]
    omega
  rw [h3]
  exact ⟨h1, h2⟩
theorem sSt_n (H : WF N np ns nw) {i : Nat} (hi : i < ns) : sN N i 2 = nI (sN N i 2).toInt.toNat ∧ (sN N i 2).toInt.toNat ≤ 50 := by
  obtain ⟨c, t, g, -, ⟨h1, h2⟩, -⟩ := H.2.2.2.2.1 i hi
  have h3 : (sN N i 2).toInt.toNat = t := by
    rw [h1, nI_toInt (by omega)]
    omega
  rw [h3]
  exact ⟨h1, h2⟩
theorem sWr_le (H : WF N np ns nw) : ∀ i, i ≤ nw → sWr N i ≤ 10 * i
  | 0, _ => Nat.le_refl _
  | i + 1, hi => by
    have h1 := sWr_le H i (by omega)
    have h2 := (sWr_n H (i := i) (by omega)).2
    show sWr N i + (if wN N i 3 = 1 ∨ wN N i 3 = 0 then (wN N i 2).toInt.toNat else 0) ≤ _
    split <;> omega
theorem sSt_le (H : WF N np ns nw) : ∀ i, i ≤ ns → sSt N i ≤ 50 * i
  | 0, _ => Nat.le_refl _
  | i + 1, hi => by
    have h1 := sSt_le H i (by omega)
    have h2 := (sSt_n H (i := i) (by omega)).2
    show sSt N i + (sN N i 2).toInt.toNat ≤ _
    omega
theorem cnt_10 : ∀ n, sCnt (fun w => wN N w 3 = 0) n + sCnt (fun w => wN N w 3 = 1) n = sCnt (fun w => wN N w 3 = 1 ∨ wN N w 3 = 0) n
  | 0 => rfl
  | n + 1 => by
    have h := cnt_10 n
    show (sCnt (fun w => wN N w 3 = 0) n + (if wN N n 3 = 0 then 1 else 0)) + (sCnt (fun w => wN N w 3 = 1) n + (if wN N n 3 = 1 then 1 else 0)) = sCnt (fun w => wN N w 3 = 1 ∨ wN N w 3 = 0) n + (if wN N n 3 = 1 ∨ wN N n 3 = 0 then 1 else 0)
    by_cases h1 : wN N n 3 = 1
    · rw [h1]
      simp (decide := true) only [if_true, if_false, true_or]
      omega
    · by_cases h0 : wN N n 3 = 0
      · rw [h0]
        simp (decide := true) only [if_true, if_false, or_true]
        omega
      · rw [if_neg h0, if_neg h1, if_neg (fun h9 => h9.elim h1 h0)]
        omega
def rWr (N : Nat → Int32) (nw : Nat) : UInt64 := if nI (sCnt (fun w => wN N w 3 = 1 ∨ wN N w 3 = 0) nw) = 0 then FP.dconst0 else FP.ddiv (FP.i2d (nI (sWr N nw))) (FP.i2d (nI (sCnt (fun w => wN N w 3 = 1 ∨ wN N w 3 = 0) nw)))
def rSt (N : Nat → Int32) (ns : Nat) : UInt32 := FP.fdiv (FP.i2f (nI (sSt N ns))) (FP.i2f (nI ns))
theorem nI_z {c : Nat} (h : c < 1000) : (nI c = 0) = (c = 0) := by
  refine propext ⟨fun h1 => ?_, fun h1 => by rw [h1]; rfl⟩
  have h2 := congrArg Int32.toInt h1
  rw [nI_toInt (by omega)] at h2
  have : (0 : Int32).toInt = 0 := rfl
  omega
theorem wr_nn (H : WF N np ns nw) (h : ¬ nI (sCnt (fun w => wN N w 3 = 1 ∨ wN N w 3 = 0) nw) = 0) : vf_n64 (FP.ddiv (FP.i2d (nI (sWr N nw))) (FP.i2d (nI (sCnt (fun w => wN N w 3 = 1 ∨ wN N w 3 = 0) nw)))) ∧ Op.cmpValue (FP.dcmp (FP.ddiv (FP.i2d (nI (sWr N nw))) (FP.i2d (nI (sCnt (fun w => wN N w 3 = 1 ∨ wN N w 3 = 0) nw)))) (FP.ddiv (FP.i2d (nI (sWr N nw))) (FP.i2d (nI (sCnt (fun w => wN N w 3 = 1 ∨ wN N w 3 = 0) nw))))) .l = 0 := by
  have k3 := H.w.2
  have h1 := sWr_le H nw (Nat.le_refl _)
  have h2 := sCnt_le (P := fun w => wN N w 3 = 1 ∨ wN N w 3 = 0) nw
  rw [nI_z (by omega)] at h
  exact (av_64 _ (by omega) _ (by omega)).resolve_left h
theorem st_nn (H : WF N np ns nw) (h : 1 ≤ ns) : vf_n32 (rSt N ns) ∧ vf_n64 (FP.f2d (rSt N ns)) ∧ Op.cmpValue (FP.dcmp (FP.f2d (rSt N ns)) (FP.f2d (rSt N ns))) .l = 0 := by
  have k3 := H.s.2
  have h1 := sSt_le H ns (Nat.le_refl _)
  exact (av_32 _ (by omega) _ (by omega)).resolve_left (by omega)
theorem h_meanWear (R : RM I q N np ns nw) : f_X3_meanWear I q = some (rWr N nw) := by
  have k3 := R.f.w.2
  refine up_loop (fun f (z : Int32 × Int32 × Int32) => l_X3_meanWear_6 f I q z.1 z.2.1 z.2.2) (fun i => (nI (sWr N i), nI (sCnt (fun w => wN N w 3 = 1 ∨ wN N w 3 = 0) i), nI i)) nw _ (fun i hi f => ?_) (fun f => ?_) (FU_up (by omega))
  · have g := h_isInTrade R hi
    by_cases h : wN N i 3 = 1 ∨ wN N i 3 = 0
    · have e := sCnt_ye (P := fun w => wN N w 3 = 1 ∨ wN N w 3 = 0) h
      have e2 : sWr N (i + 1) = sWr N i + (wN N i 2).toInt.toNat := by
        show _ + (if _ then _ else _) = _
        rw [if_pos h]
      have e3 := (sWr_n R.f hi).1
      have e4 : nI (sWr N i) + wN N i 2 = nI (sWr N (i + 1)) := by
        rw [e2, ← nI_add, ← e3]
      rw [bI_t h] at g
      simp (disch := omega) only [l_X3_meanWear_6, R.h5, g, R.w3 hi, e, e4, av_10, b1_so, b2_so, b3_so, e1_ok, e1_er, e2_ok, e2_er, e3_ok, e3_er, bI_so, bI_so', bI_0, bI_1, cB_bI, nI_s1, nJ_et, nJ_ef, nJ_lt, nJ_lf, pu_sM, sM_s, if_true, if_false, ite_self, Nat.lt_irrefl, Int32.zero_add, Int32.add_zero, not_true_eq_false, not_false_eq_true, rfw0, rfw1, rfw2, rfw3, rfw4, rfw5, rfw6, rfw7, rfp0, rfp1, rfp2, rfp3, rfp4, rfp5, rfp6, rfs0, rfs1, rfs2, rfs3, rwp0, rwp1, rwp2, rwp3, rwp4, rwp5, rwp6, rwp7, rpp0, rpp1, rpp2, rpp3, rpp4, rpp5, rpp6, rsp0, rsp1, rsp2, rsp3, ixn16, ixn6, ixn5]
    · have e := sCnt_no (P := fun w => wN N w 3 = 1 ∨ wN N w 3 = 0) h
      have e2 : sWr N (i + 1) = sWr N i := by
        show _ + (if _ then _ else _) = _
        rw [if_neg h]
        rfl
      rw [bI_f h] at g
      simp (disch := omega) only [l_X3_meanWear_6, R.h5, g, e, e2, b1_so, b2_so, b3_so, e1_ok, e1_er, e2_ok, e2_er, e3_ok, e3_er, bI_so, bI_so', bI_0, bI_1, cB_bI, nI_s1, nJ_et, nJ_ef, nJ_lt, nJ_lf, pu_sM, sM_s, if_true, if_false, ite_self, Nat.lt_irrefl, Int32.zero_add, Int32.add_zero, not_true_eq_false, not_false_eq_true, rfw0, rfw1, rfw2, rfw3, rfw4, rfw5, rfw6, rfw7, rfp0, rfp1, rfp2, rfp3, rfp4, rfp5, rfp6, rfs0, rfs1, rfs2, rfs3, rwp0, rwp1, rwp2, rwp3, rwp4, rwp5, rwp6, rwp7, rpp0, rpp1, rpp2, rpp3, rpp4, rpp5, rpp6, rsp0, rsp1, rsp2, rsp3, ixn16, ixn6, ixn5]
  · by_cases h : nI (sCnt (fun w => wN N w 3 = 1 ∨ wN N w 3 = 0) nw) = 0
    · simp (disch := omega) only [l_X3_meanWear_6, R.h5, h, rWr, b1_so, b2_so, b3_so, e1_ok, e1_er, e2_ok, e2_er, e3_ok, e3_er, bI_so, bI_so', bI_0, bI_1, cB_bI, nI_s1, nJ_et, nJ_ef, nJ_lt, nJ_lf, pu_sM, sM_s, if_true, if_false, ite_self, Nat.lt_irrefl, Int32.zero_add, Int32.add_zero, not_true_eq_false, not_false_eq_true, rfw0, rfw1, rfw2, rfw3, rfw4, rfw5, rfw6, rfw7, rfp0, rfp1, rfp2, rfp3, rfp4, rfp5, rfp6, rfs0, rfs1, rfs2, rfs3, rwp0, rwp1, rwp2, rwp3, rwp4, rwp5, rwp6, rwp7, rpp0, rpp1, rpp2, rpp3, rpp4, rpp5, rpp6, rsp0, rsp1, rsp2, rsp3, ixn16, ixn6, ixn5]
    · simp (disch := omega) only [l_X3_meanWear_6, R.h5, h, rWr, cN64_so (wr_nn R.f h).1, b1_so, b2_so, b3_so, e1_ok, e1_er, e2_ok, e2_er, e3_ok, e3_er, bI_so, bI_so', bI_0, bI_1, cB_bI, nI_s1, nJ_et, nJ_ef, nJ_lt, nJ_lf, pu_sM, sM_s, if_true, if_false, ite_self, Nat.lt_irrefl, Int32.zero_add, Int32.add_zero, not_true_eq_false, not_false_eq_true, rfw0, rfw1, rfw2, rfw3, rfw4, rfw5, rfw6, rfw7, rfp0, rfp1, rfp2, rfp3, rfp4, rfp5, rfp6, rfs0, rfs1, rfs2, rfs3, rwp0, rwp1, rwp2, rwp3, rwp4, rwp5, rwp6, rwp7, rpp0, rpp1, rpp2, rpp3, rpp4, rpp5, rpp6, rsp0, rsp1, rsp2, rsp3, ixn16, ixn6, ixn5]
theorem h_meanStars (R : RM I q N np ns nw) (h1 : 1 ≤ ns) : f_X3_meanStars I q = some (rSt N ns) := by
  have k3 := R.f.s.2
  have hz : ¬ nI ns = 0 := by
    rw [nI_z (by omega)]
    omega
  refine up_loop (fun f (z : Int32 × Int32) => l_X3_meanStars_4 f I q z.1 z.2) (fun i => (nI (sSt N i), nI i)) ns _ (fun i hi f => ?_) (fun f => ?_) (FU_up (by omega))
  · have e4 : nI (sSt N i) + sN N i 2 = nI (sSt N (i + 1)) := by
      show _ = nI (sSt N i + (sN N i 2).toInt.toNat)
      rw [← nI_add, ← (sSt_n R.f hi).1]
    simp (disch := omega) only [l_X3_meanStars_4, R.h4, R.s2 hi, e4, b1_so, b2_so, b3_so, e1_ok, e1_er, e2_ok, e2_er, e3_ok, e3_er, bI_so, bI_so', bI_0, bI_1, cB_bI, nI_s1, nJ_et, nJ_ef, nJ_lt, nJ_lf, pu_sM, sM_s, if_true, if_false, ite_self, Nat.lt_irrefl, Int32.zero_add, Int32.add_zero, not_true_eq_false, not_false_eq_true, rfw0, rfw1, rfw2, rfw3, rfw4, rfw5, rfw6, rfw7, rfp0, rfp1, rfp2, rfp3, rfp4, rfp5, rfp6, rfs0, rfs1, rfs2, rfs3, rwp0, rwp1, rwp2, rwp3, rwp4, rwp5, rwp6, rwp7, rpp0, rpp1, rpp2, rpp3, rpp4, rpp5, rpp6, rsp0, rsp1, rsp2, rsp3, ixn16, ixn6, ixn5]
  · have h2 : cN32 (FP.fdiv (FP.i2f (nI (sSt N ns))) (FP.i2f (nI ns))) = some () := cN32_so (st_nn R.f h1).1
    simp (disch := omega) only [l_X3_meanStars_4, R.h4, hz, h2, rSt, b1_so, b2_so, b3_so, e1_ok, e1_er, e2_ok, e2_er, e3_ok, e3_er, bI_so, bI_so', bI_0, bI_1, cB_bI, nI_s1, nJ_et, nJ_ef, nJ_lt, nJ_lf, pu_sM, sM_s, if_true, if_false, ite_self, Nat.lt_irrefl, Int32.zero_add, Int32.add_zero, not_true_eq_false, not_false_eq_true, rfw0, rfw1, rfw2, rfw3, rfw4, rfw5, rfw6, rfw7, rfp0, rfp1, rfp2, rfp3, rfp4, rfp5, rfp6, rfs0, rfs1, rfs2, rfs3, rwp0, rwp1, rwp2, rwp3, rwp4, rwp5, rwp6, rwp7, rpp0, rpp1, rpp2, rpp3, rpp4, rpp5, rpp6, rsp0, rsp1, rsp2, rsp3, ixn16, ixn6, ixn5]
theorem r_avW (H : WF N np ns nw) : l_X10_averageWear_25 FU (sM I m N) m (nI (sCnt (fun w => wN N w 3 = 1 ∨ wN N w 3 = 0) nw)) 0 0 = some (rWr N nw, sM I m N) := by
  have k3 := H.w.2
  have h4 := H.w.1
  refine up_loop (fun f (z : Int32 × Int32) => l_X10_averageWear_25 f (sM I m N) m (nI (sCnt (fun w => wN N w 3 = 1 ∨ wN N w 3 = 0) nw)) z.1 z.2) (fun i => (nI (sWr N i), nI i)) nw _ (fun i hi f => ?_) (fun f => ?_) (FU_up (by omega))
  · have g1 := r_isOwned (I := I) (m := m) (N := N) (w := i) (by omega)
    have g0 := r_isInStall (I := I) (m := m) (N := N) (w := i) (by omega)
    have gw := r_ofWish (I := I) (m := m) (N := N) (w := i) (k := 2) (by omega) (by omega)
    have gw : f_X10_ofWish (sM I m N) m (nI i) 2 = some (wN N i 2) := gw
    by_cases h : wN N i 3 = 1 ∨ wN N i 3 = 0
    · have e2 : sWr N (i + 1) = sWr N i + (wN N i 2).toInt.toNat := by
        show _ + (if _ then _ else _) = _
        rw [if_pos h]
      have e3 := (sWr_n H hi).1
      have e4 : nI (sWr N i) + wN N i 2 = nI (sWr N (i + 1)) := by
        rw [e2, ← nI_add, ← e3]
      by_cases h1 : wN N i 3 = 1
      · rw [bI_t h1] at g1
        simp (disch := omega) only [l_X10_averageWear_25, l_X10_averageWear_52, ix4, h4, g1, gw, e4, av_10, b1_so, b2_so, b3_so, e1_ok, e1_er, e2_ok, e2_er, e3_ok, e3_er, bI_so, bI_so', bI_0, bI_1, cB_bI, nI_s1, nJ_et, nJ_ef, nJ_lt, nJ_lf, pu_sM, sM_s, if_true, if_false, ite_self, Nat.lt_irrefl, Int32.zero_add, Int32.add_zero, not_true_eq_false, not_false_eq_true, rfw0, rfw1, rfw2, rfw3, rfw4, rfw5, rfw6, rfw7, rfp0, rfp1, rfp2, rfp3, rfp4, rfp5, rfp6, rfs0, rfs1, rfs2, rfs3, rwp0, rwp1, rwp2, rwp3, rwp4, rwp5, rwp6, rwp7, rpp0, rpp1, rpp2, rpp3, rpp4, rpp5, rpp6, rsp0, rsp1, rsp2, rsp3, ixn16, ixn6, ixn5]
      · rw [bI_f h1] at g1
        rw [bI_t (h.resolve_left h1)] at g0
        simp (disch := omega) only [l_X10_averageWear_25, l_X10_averageWear_52, ix4, h4, g1, g0, gw, e4, av_10, b1_so, b2_so, b3_so, e1_ok, e1_er, e2_ok, e2_er, e3_ok, e3_er, bI_so, bI_so', bI_0, bI_1, cB_bI, nI_s1, nJ_et, nJ_ef, nJ_lt, nJ_lf, pu_sM, sM_s, if_true, if_false, ite_self, Nat.lt_irrefl, Int32.zero_add, Int32.add_zero, not_true_eq_false, not_false_eq_true, rfw0, rfw1, rfw2, rfw3, rfw4, rfw5, rfw6, rfw7, rfp0, rfp1, rfp2, rfp3, rfp4, rfp5, rfp6, rfs0, rfs1, rfs2, rfs3, rwp0, rwp1, rwp2, rwp3, rwp4, rwp5, rwp6, rwp7, rpp0, rpp1, rpp2, rpp3, rpp4, rpp5, rpp6, rsp0, rsp1, rsp2, rsp3, ixn16, ixn6, ixn5]
    · have e2 : sWr N (i + 1) = sWr N i := by
        show _ + (if _ then _ else _) = _
        rw [if_neg h]
        rfl
      rw [bI_f (fun h9 => h (.inl h9))] at g1
      rw [bI_f (fun h9 => h (.inr h9))] at g0
      simp (disch := omega) only [l_X10_averageWear_25, ix4, h4, g1, g0, e2, b1_so, b2_so, b3_so, e1_ok, e1_er, e2_ok, e2_er, e3_ok, e3_er, bI_so, bI_so', bI_0, bI_1, cB_bI, nI_s1, nJ_et, nJ_ef, nJ_lt, nJ_lf, pu_sM, sM_s, if_true, if_false, ite_self, Nat.lt_irrefl, Int32.zero_add, Int32.add_zero, not_true_eq_false, not_false_eq_true, rfw0, rfw1, rfw2, rfw3, rfw4, rfw5, rfw6, rfw7, rfp0, rfp1, rfp2, rfp3, rfp4, rfp5, rfp6, rfs0, rfs1, rfs2, rfs3, rwp0, rwp1, rwp2, rwp3, rwp4, rwp5, rwp6, rwp7, rpp0, rpp1, rpp2, rpp3, rpp4, rpp5, rpp6, rsp0, rsp1, rsp2, rsp3, ixn16, ixn6, ixn5]
  · by_cases h : nI (sCnt (fun w => wN N w 3 = 1 ∨ wN N w 3 = 0) nw) = 0
    · simp (disch := omega) only [l_X10_averageWear_25, ix4, h4, h, rWr, b1_so, b2_so, b3_so, e1_ok, e1_er, e2_ok, e2_er, e3_ok, e3_er, bI_so, bI_so', bI_0, bI_1, cB_bI, nI_s1, nJ_et, nJ_ef, nJ_lt, nJ_lf, pu_sM, sM_s, if_true, if_false, ite_self, Nat.lt_irrefl, Int32.zero_add, Int32.add_zero, not_true_eq_false, not_false_eq_true, rfw0, rfw1, rfw2, rfw3, rfw4, rfw5, rfw6, rfw7, rfp0, rfp1, rfp2, rfp3, rfp4, rfp5, rfp6, rfs0, rfs1, rfs2, rfs3, rwp0, rwp1, rwp2, rwp3, rwp4, rwp5, rwp6, rwp7, rpp0, rpp1, rpp2, rpp3, rpp4, rpp5, rpp6, rsp0, rsp1, rsp2, rsp3, ixn16, ixn6, ixn5]
    · simp (disch := omega) only [l_X10_averageWear_25, ix4, h4, h, rWr, cN64_so (wr_nn H h).1, b1_so, b2_so, b3_so, e1_ok, e1_er, e2_ok, e2_er, e3_ok, e3_er, bI_so, bI_so', bI_0, bI_1, cB_bI, nI_s1, nJ_et, nJ_ef, nJ_lt, nJ_lf, pu_sM, sM_s, if_true, if_false, ite_self, Nat.lt_irrefl, Int32.zero_add, Int32.add_zero, not_true_eq_false, not_false_eq_true, rfw0, rfw1, rfw2, rfw3, rfw4, rfw5, rfw6, rfw7, rfp0, rfp1, rfp2, rfp3, rfp4, rfp5, rfp6, rfs0, rfs1, rfs2, rfs3, rwp0, rwp1, rwp2, rwp3, rwp4, rwp5, rwp6, rwp7, rpp0, rpp1, rpp2, rpp3, rpp4, rpp5, rpp6, rsp0, rsp1, rsp2, rsp3, ixn16, ixn6, ixn5]
theorem r_avS (H : WF N np ns nw) (h1 : 1 ≤ ns) : l_X10_averageStars_13 FU (sM I m N) m 0 0 = some (rSt N ns, sM I m N) := by
  have k3 := H.s.2
  have h3 := H.s.1
  refine up_loop (fun f (z : Int32 × Int32) => l_X10_averageStars_13 f (sM I m N) m z.1 z.2) (fun i => (nI (sSt N i), nI i)) ns _ (fun i hi f => ?_) (fun f => ?_) (FU_up (by omega))
  · have e4 : nI (sSt N i) + sN N i 2 = nI (sSt N (i + 1)) := by
      show _ = nI (sSt N i + (sN N i 2).toInt.toNat)
      rw [← nI_add, ← (sSt_n H hi).1]
    have gs : f_X10_ofStall (sM I m N) m (nI i) 2 = some (sN N i 2) := r_ofStall (I := I) (m := m) (N := N) (k := 2) (by omega) (by omega)
    simp (disch := omega) only [l_X10_averageStars_13, ix3, h3, gs, e4, b1_so, b2_so, b3_so, e1_ok, e1_er, e2_ok, e2_er, e3_ok, e3_er, bI_so, bI_so', bI_0, bI_1, cB_bI, nI_s1, nJ_et, nJ_ef, nJ_lt, nJ_lf, pu_sM, sM_s, if_true, if_false, ite_self, Nat.lt_irrefl, Int32.zero_add, Int32.add_zero, not_true_eq_false, not_false_eq_true, rfw0, rfw1, rfw2, rfw3, rfw4, rfw5, rfw6, rfw7, rfp0, rfp1, rfp2, rfp3, rfp4, rfp5, rfp6, rfs0, rfs1, rfs2, rfs3, rwp0, rwp1, rwp2, rwp3, rwp4, rwp5, rwp6, rwp7, rpp0, rpp1, rpp2, rpp3, rpp4, rpp5, rpp6, rsp0, rsp1, rsp2, rsp3, ixn16, ixn6, ixn5]
  · have h2 : cN32 (FP.fdiv (FP.i2f (nI (sSt N ns))) (FP.i2f (nI ns))) = some () := cN32_so (st_nn H h1).1
    simp (disch := omega) only [l_X10_averageStars_13, ix3, h3, h2, rSt, b1_so, b2_so, b3_so, e1_ok, e1_er, e2_ok, e2_er, e3_ok, e3_er, bI_so, bI_so', bI_0, bI_1, cB_bI, nI_s1, nJ_et, nJ_ef, nJ_lt, nJ_lf, pu_sM, sM_s, if_true, if_false, ite_self, Nat.lt_irrefl, Int32.zero_add, Int32.add_zero, not_true_eq_false, not_false_eq_true, rfw0, rfw1, rfw2, rfw3, rfw4, rfw5, rfw6, rfw7, rfp0, rfp1, rfp2, rfp3, rfp4, rfp5, rfp6, rfs0, rfs1, rfs2, rfs3, rwp0, rwp1, rwp2, rwp3, rwp4, rwp5, rwp6, rwp7, rpp0, rpp1, rpp2, rpp3, rpp4, rpp5, rpp6, rsp0, rsp1, rsp2, rsp3, ixn16, ixn6, ixn5]
theorem lc_averageWear {K : Kt} {kb gb D : Nat} (S : ST I K w m kb gb D) : LD64 I K w m kb gb (D + 300) := by
  obtain ⟨L, np, ns, nw, B, G⟩ := S.br
  have hk := r_mayLook (I := I) (m := m) B.1.2
  by_cases hL : L
  · have R := B.2 hL
    rw [bI_t hL, th_0 hL trivial] at hk
    have w0 := r_wishesIn (I := u2 I m 0 0) (m := m) R.f (x := 0)
    have w1 := r_wishesIn (I := u2 I m 0 0) (m := m) R.f (x := 1)
    have g := r_avW (I := u2 I m 0 0) (m := m) R.f
    rw [sMt] at w0 w1 g
    have g1 : f_X9_averageWear I w = some (.ok (rWr (I (m + 1)) nw)) := by
      unfold f_X9_averageWear
      rw [h_loaded B.1.1, if_pos hL, e1_ok, ckE_n, b1_so, h_meanWear R, b1_so]
    have g2 : f_X10_averageWear I m = some (rWr (I (m + 1)) nw, u2 I m 0 0) := by
      unfold f_X10_averageWear
      rw [hk, b2_so, if_neg (by decide), w0, b1_so, w1, b1_so, nI_add, cnt_10, g]
    refine ⟨.ok (rWr (I (m + 1)) nw), 0, rWr (I (m + 1)) nw, u2 I m 0 0, ⟨c_X9_averageWear 0 S.lw g1, rfl, fun Kj hM => c_X10_averageWear 0 hM g2⟩, ⟨u2_s, fun v hv => ?_⟩, S.th.le (Nat.le_add_right _ _)⟩
    cases hv
    refine ⟨rfl, ?_⟩
    unfold rWr
    by_cases h : nI (sCnt (fun w => wN (I (m + 1)) w 3 = 1 ∨ wN (I (m + 1)) w 3 = 0) nw) = 0
    · rw [if_pos h]
      decide +kernel
    · rw [if_neg h]
      exact (wr_nn R.f h).2
  · rw [bI_f hL, th_1 hL] at hk
    have g1 : f_X9_averageWear I w = some (.error eIS) := by
      unfold f_X9_averageWear
      rw [h_loaded B.1.1, if_neg hL, e1_er]
    have g2 : f_X10_averageWear I m = some (FP.dconst0, u2 I m 0 1) := by
      unfold f_X10_averageWear
      rw [hk, b2_so, if_pos rfl]
    exact ⟨.error eIS, 1, FP.dconst0, u2 I m 0 1, ⟨c_X9_averageWear 0 S.lw g1, ⟨0, rfl, by decide, rfl⟩, fun Kj hM => c_X10_averageWear 0 hM g2⟩, ⟨u2_s, fun v hv => by cases hv⟩, S.th.le (Nat.le_add_right _ _)⟩
theorem lc_averageStars {K : Kt} {kb gb D : Nat} (S : ST I K w m kb gb D) : LD32 I K w m kb gb (D + 300) := by
  obtain ⟨L, np, ns, nw, B, G⟩ := S.br
  have hk := r_mayLook (I := I) (m := m) B.1.2
  by_cases hL : L
  · have R := B.2 hL
    have n1 : 1 ≤ ns := (G hL).2.2.2.2.2
    rw [bI_t hL, th_0 hL trivial] at hk
    have g := r_avS (I := u2 I m 0 0) (m := m) R.f n1
    rw [sMt] at g
    have g1 : f_X9_averageStars I w = some (.ok (rSt (I (m + 1)) ns)) := by
      unfold f_X9_averageStars
      rw [h_loaded B.1.1, if_pos hL, e1_ok, ckE_n, b1_so, h_meanStars R n1, b1_so]
    have g2 : f_X10_averageStars I m = some (rSt (I (m + 1)) ns, u2 I m 0 0) := by
      unfold f_X10_averageStars
      rw [hk, b2_so, if_neg (by decide), g]
    refine ⟨.ok (rSt (I (m + 1)) ns), 0, rSt (I (m + 1)) ns, u2 I m 0 0, ⟨c_X9_averageStars 0 S.lw g1, rfl, fun Kj hM => c_X10_averageStars 0 hM g2⟩, ⟨u2_s, fun v hv => ?_⟩, S.th.le (Nat.le_add_right _ _)⟩
    cases hv
    exact ⟨rfl, (st_nn R.f n1).2⟩
  · rw [bI_f hL, th_1 hL] at hk
    have g1 : f_X9_averageStars I w = some (.error eIS) := by
      unfold f_X9_averageStars
      rw [h_loaded B.1.1, if_neg hL, e1_er]
    have g2 : f_X10_averageStars I m = some (FP.fconst0, u2 I m 0 1) := by
      unfold f_X10_averageStars
      rw [hk, b2_so, if_pos rfl]
    exact ⟨.error eIS, 1, FP.fconst0, u2 I m 0 1, ⟨c_X9_averageStars 0 S.lw g1, ⟨0, rfl, by decide, rfl⟩, fun Kj hM => c_X10_averageStars 0 hM g2⟩, ⟨u2_s, fun v hv => by cases hv⟩, S.th.le (Nat.le_add_right _ _)⟩
end AV
