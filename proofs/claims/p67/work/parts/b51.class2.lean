section CB
variable {I : Mem} {q np ns nw : Nat} {N : Nat → Int32}
/-- in trade the price is a small number -/
theorem sPr_n (H : WF N np ns nw) {w : Nat} (hw : w < nw) (h3 : wN N w 3 = 0) : ∃ k, sPr N w = nI k ∧ k < 20000000 := by
  obtain ⟨-, b, e, q1, q2, q3⟩ := H.2.2.2.1 w hw
  obtain ⟨h1, h2⟩ := H.a0 hw h3
  obtain ⟨c, t, g, a1, a2, a3, a4⟩ := H.2.2.2.2.1 _ h2
  have c1 : b * (10 - e) ≤ 99 * 10 := Nat.mul_le_mul q1.2.2 (by omega)
  have c2 : b * (10 - e) * (100 + g) ≤ 99 * 10 * 200 := Nat.mul_le_mul c1 (by omega)
  have c3 : b * (10 - e) * (100 + g) * (50 + t) ≤ 99 * 10 * 200 * 100 := Nat.mul_le_mul c2 (by omega)
  refine ⟨b * (10 - e) * (100 + g) * (50 + t) / 100000, ?_, by have := Nat.div_le_self (b * (10 - e) * (100 + g) * (50 + t)) 100000; omega⟩
  unfold sPr
  rw [q1.1, q2.1, a2.1, a3.1, show (10 : Int32) = nI 10 from rfl, show (100 : Int32) = nI 100 from rfl, show (50 : Int32) = nI 50 from rfl, show (100000 : Int32) = nI 100000 from rfl, pk_sub (by omega), nI_add, nI_add, pk_mul, pk_mul, pk_mul, pk_div (by omega) (by decide) (by decide)]
theorem sPrice_e (H : WF N np ns nw) {w : Nat} (hw : w < nw) (h3 : wN N w 3 = 0) : (if sPr N w = 0 then 1 else sPr N w) = sPrice N w := by
  obtain ⟨k, h1, h2⟩ := sPr_n H hw h3
  unfold sPrice
  rw [h1]
  by_cases h0 : k = 0
  · subst h0; rfl
  · rw [if_neg (nI_ne0 (by omega) (by omega))]
    by_cases h9 : 1 < k
    · rw [if_pos (show (1 : Int32) < nI k from nI_lt (a := 1) h9 (by omega))]
    · have : k = 1 := by omega
      subst this
      rfl
theorem h_priceOf (R : RM I q N np ns nw) {w : Nat} (hw : w < nw) (h3 : wN N w 3 = 0) : f_X3_priceOf I q (nI w) = some (sPrice N w) := by
  obtain ⟨h1, h2⟩ := R.f.a0 hw h3
  have b2 := R.f.s.2
  have b3 := R.f.w.2
  have e4 : I (q + 15 + w) 4 = nI (aT N w) := by rw [R.w4 hw, if_pos h3, h1]
  have e := sPrice_e R.f hw h3
  unfold sPr at e
  simp (disch := omega) only [f_X3_priceOf, e4, oI_n, R.w1 hw, R.w3 hw, R.s2 h2, R.s3 h2, ite3, e, b1_so, b2_so, b3_so, e1_ok, e1_er, e2_ok, e2_er, e3_ok, e3_er, bI_so, bI_so', bI_0, bI_1, cB_bI, nI_s1, nJ_et, nJ_ef, nJ_lt, nJ_lf, pu_sM, sM_s, if_true, if_false, ite_self, Nat.lt_irrefl, Int32.zero_add, Int32.add_zero, not_true_eq_false, not_false_eq_true, rfw0, rfw1, rfw2, rfw3, rfw4, rfw5, rfw6, rfw7, rfp0, rfp1, rfp2, rfp3, rfp4, rfp5, rfp6, rfs0, rfs1, rfs2, rfs3, rwp0, rwp1, rwp2, rwp3, rwp4, rwp5, rwp6, rwp7, rpp0, rpp1, rpp2, rpp3, rpp4, rpp5, rpp6, rsp0, rsp1, rsp2, rsp3, ixn16, ixn6, ixn5]
theorem h_priceN (R : RM I q N np ns nw) {w : Nat} (hw : w < nw) (h3 : ¬ wN N w 3 = 0) : f_X3_priceOf I q (nI w) = some (-1) := by
  have b3 := R.f.w.2
  have e4 : I (q + 15 + w) 4 = -1 := by rw [R.w4 hw, if_neg h3]
  simp (disch := omega) only [f_X3_priceOf, e4, b1_so, b2_so, b3_so, e1_ok, e1_er, e2_ok, e2_er, e3_ok, e3_er, bI_so, bI_so', bI_0, bI_1, cB_bI, nI_s1, nJ_et, nJ_ef, nJ_lt, nJ_lf, pu_sM, sM_s, if_true, if_false, ite_self, Nat.lt_irrefl, Int32.zero_add, Int32.add_zero, not_true_eq_false, not_false_eq_true, rfw0, rfw1, rfw2, rfw3, rfw4, rfw5, rfw6, rfw7, rfp0, rfp1, rfp2, rfp3, rfp4, rfp5, rfp6, rfs0, rfs1, rfs2, rfs3, rwp0, rwp1, rwp2, rwp3, rwp4, rwp5, rwp6, rwp7, rpp0, rpp1, rpp2, rpp3, rpp4, rpp5, rpp6, rsp0, rsp1, rsp2, rsp3, ixn16, ixn6, ixn5]
theorem h_offerFor (R : RM I q N np ns nw) {w s : Nat} (hw : w < nw) (hs : s < ns) : f_X3_offerFor I q (nI w) (nI s) = some (sOff N w s) := by
  have b2 := R.f.s.2
  have b3 := R.f.w.2
  simp (disch := omega) only [f_X3_offerFor, R.w1 hw, R.w3 hw, R.s2 hs, sOff, b1_so, b2_so, b3_so, e1_ok, e1_er, e2_ok, e2_er, e3_ok, e3_er, bI_so, bI_so', bI_0, bI_1, cB_bI, nI_s1, nJ_et, nJ_ef, nJ_lt, nJ_lf, pu_sM, sM_s, if_true, if_false, ite_self, Nat.lt_irrefl, Int32.zero_add, Int32.add_zero, not_true_eq_false, not_false_eq_true, rfw0, rfw1, rfw2, rfw3, rfw4, rfw5, rfw6, rfw7, rfp0, rfp1, rfp2, rfp3, rfp4, rfp5, rfp6, rfs0, rfs1, rfs2, rfs3, rwp0, rwp1, rwp2, rwp3, rwp4, rwp5, rwp6, rwp7, rpp0, rpp1, rpp2, rpp3, rpp4, rpp5, rpp6, rsp0, rsp1, rsp2, rsp3, ixn16, ixn6, ixn5]
theorem h_refundFor (R : RM I q N np ns nw) {w : Nat} (hw : w < nw) : f_X3_refundFor I q (nI w) = some (if wN N w 5 = -1 then -1 else sRef N w) := by
  have b3 := R.f.w.2
  simp (disch := omega) only [f_X3_refundFor, R.w8 hw, R.w9 hw, R.h9, sRef, ite3, b1_so, b2_so, b3_so, e1_ok, e1_er, e2_ok, e2_er, e3_ok, e3_er, bI_so, bI_so', bI_0, bI_1, cB_bI, nI_s1, nJ_et, nJ_ef, nJ_lt, nJ_lf, pu_sM, sM_s, if_true, if_false, ite_self, Nat.lt_irrefl, Int32.zero_add, Int32.add_zero, not_true_eq_false, not_false_eq_true, rfw0, rfw1, rfw2, rfw3, rfw4, rfw5, rfw6, rfw7, rfp0, rfp1, rfp2, rfp3, rfp4, rfp5, rfp6, rfs0, rfs1, rfs2, rfs3, rwp0, rwp1, rwp2, rwp3, rwp4, rwp5, rwp6, rwp7, rpp0, rpp1, rpp2, rpp3, rpp4, rpp5, rpp6, rsp0, rsp1, rsp2, rsp3, ixn16, ixn6, ixn5]
theorem owns_lt (R : RM I q N np ns nw) {p : Nat} (hp : p < np) : (nI (sOwns N nw (nI p)) < 4) = ¬ sOwns N nw (nI p) = 4 := by
  have h1 := (R.f.2.2.2.2.2 p hp).1
  rw [show (4 : Int32) = nI 4 from rfl, nJ_l (by omega) (by decide)]
  refine propext ⟨fun h => by omega, fun h => by omega⟩
theorem stock_lt (R : RM I q N np ns nw) {s : Nat} (hs : s < ns) : (nI (sStock N nw (nI s)) < sN N s 0) = ¬ nI (sStock N nw (nI s)) = sN N s 0 := by
  obtain ⟨c, t, g, a1, a2, a3, a4⟩ := R.f.2.2.2.2.1 s hs
  rw [a1.1, nJ_l (by omega) (by omega), nJ_i (by omega) (by omega)]
  refine propext ⟨fun h => by omega, fun h => by omega⟩
theorem i32i {x : Int32} : (x < x) = False := eq_false (fun h => absurd h (Int32.not_lt.mpr (Int32.le_refl x)))
theorem h_whyBuy (R : RM I q N np ns nw) {p w : Nat} (hp : p < np) (hw : w < nw) : f_X3_obstacleToBuy I q (nI p) (nI w) = some (sWhyBuy N nw p w) := by
  have b1 := R.f.p.2
  have b3 := R.f.w.2
  unfold sWhyBuy
  by_cases h3 : wN N w 3 = 0
  · simp (disch := omega) only [f_X3_obstacleToBuy, R.w4n hw, h3, h_priceOf R hw h3, R.p1 hp, h_ownedBy R (show p < 1000 by omega), owns_lt R hp, ite_not, ite3, b1_so, b2_so, b3_so, e1_ok, e1_er, e2_ok, e2_er, e3_ok, e3_er, bI_so, bI_so', bI_0, bI_1, cB_bI, nI_s1, nJ_et, nJ_ef, nJ_lt, nJ_lf, pu_sM, sM_s, if_true, if_false, ite_self, Nat.lt_irrefl, Int32.zero_add, Int32.add_zero, not_true_eq_false, not_false_eq_true, rfw0, rfw1, rfw2, rfw3, rfw4, rfw5, rfw6, rfw7, rfp0, rfp1, rfp2, rfp3, rfp4, rfp5, rfp6, rfs0, rfs1, rfs2, rfs3, rwp0, rwp1, rwp2, rwp3, rwp4, rwp5, rwp6, rwp7, rpp0, rpp1, rpp2, rpp3, rpp4, rpp5, rpp6, rsp0, rsp1, rsp2, rsp3, ixn16, ixn6, ixn5]
  · simp (disch := omega) only [f_X3_obstacleToBuy, R.w4n hw, h3, b1_so, b2_so, b3_so, e1_ok, e1_er, e2_ok, e2_er, e3_ok, e3_er, bI_so, bI_so', bI_0, bI_1, cB_bI, nI_s1, nJ_et, nJ_ef, nJ_lt, nJ_lf, pu_sM, sM_s, if_true, if_false, ite_self, Nat.lt_irrefl, Int32.zero_add, Int32.add_zero, not_true_eq_false, not_false_eq_true, rfw0, rfw1, rfw2, rfw3, rfw4, rfw5, rfw6, rfw7, rfp0, rfp1, rfp2, rfp3, rfp4, rfp5, rfp6, rfs0, rfs1, rfs2, rfs3, rwp0, rwp1, rwp2, rwp3, rwp4, rwp5, rwp6, rwp7, rpp0, rpp1, rpp2, rpp3, rpp4, rpp5, rpp6, rsp0, rsp1, rsp2, rsp3, ixn16, ixn6, ixn5]
theorem h_whySell (R : RM I q N np ns nw) {s w : Nat} (hs : s < ns) (hw : w < nw) : f_X3_obstacleToSell I q (nI w) (nI s) = some (sWhySell N nw w s) := by
  have b2 := R.f.s.2
  have b3 := R.f.w.2
  unfold sWhySell
  by_cases h3 : wN N w 3 = 1
  · by_cases h4 : nI (sStock N nw (nI s)) = sN N s 0
    · simp (disch := omega) only [f_X3_obstacleToSell, R.w5n hw, h3, h_stockOf R (show s < 1000 by omega), R.s0 hs, stock_lt R hs, h4, i32i, b1_so, b2_so, b3_so, e1_ok, e1_er, e2_ok, e2_er, e3_ok, e3_er, bI_so, bI_so', bI_0, bI_1, cB_bI, nI_s1, nJ_et, nJ_ef, nJ_lt, nJ_lf, pu_sM, sM_s, if_true, if_false, ite_self, Nat.lt_irrefl, Int32.zero_add, Int32.add_zero, not_true_eq_false, not_false_eq_true, rfw0, rfw1, rfw2, rfw3, rfw4, rfw5, rfw6, rfw7, rfp0, rfp1, rfp2, rfp3, rfp4, rfp5, rfp6, rfs0, rfs1, rfs2, rfs3, rwp0, rwp1, rwp2, rwp3, rwp4, rwp5, rwp6, rwp7, rpp0, rpp1, rpp2, rpp3, rpp4, rpp5, rpp6, rsp0, rsp1, rsp2, rsp3, ixn16, ixn6, ixn5]
    · simp (disch := omega) only [f_X3_obstacleToSell, R.w5n hw, h3, h_stockOf R (show s < 1000 by omega), R.s0 hs, R.s1 hs, stock_lt R hs, h4, h_offerFor R hw hs, ite3, b1_so, b2_so, b3_so, e1_ok, e1_er, e2_ok, e2_er, e3_ok, e3_er, bI_so, bI_so', bI_0, bI_1, cB_bI, nI_s1, nJ_et, nJ_ef, nJ_lt, nJ_lf, pu_sM, sM_s, if_true, if_false, ite_self, Nat.lt_irrefl, Int32.zero_add, Int32.add_zero, not_true_eq_false, not_false_eq_true, rfw0, rfw1, rfw2, rfw3, rfw4, rfw5, rfw6, rfw7, rfp0, rfp1, rfp2, rfp3, rfp4, rfp5, rfp6, rfs0, rfs1, rfs2, rfs3, rwp0, rwp1, rwp2, rwp3, rwp4, rwp5, rwp6, rwp7, rpp0, rpp1, rpp2, rpp3, rpp4, rpp5, rpp6, rsp0, rsp1, rsp2, rsp3, ixn16, ixn6, ixn5]
  · simp (disch := omega) only [f_X3_obstacleToSell, R.w5n hw, h3, b1_so, b2_so, b3_so, e1_ok, e1_er, e2_ok, e2_er, e3_ok, e3_er, bI_so, bI_so', bI_0, bI_1, cB_bI, nI_s1, nJ_et, nJ_ef, nJ_lt, nJ_lf, pu_sM, sM_s, if_true, if_false, ite_self, Nat.lt_irrefl, Int32.zero_add, Int32.add_zero, not_true_eq_false, not_false_eq_true, rfw0, rfw1, rfw2, rfw3, rfw4, rfw5, rfw6, rfw7, rfp0, rfp1, rfp2, rfp3, rfp4, rfp5, rfp6, rfs0, rfs1, rfs2, rfs3, rwp0, rwp1, rwp2, rwp3, rwp4, rwp5, rwp6, rwp7, rpp0, rpp1, rpp2, rpp3, rpp4, rpp5, rpp6, rsp0, rsp1, rsp2, rsp3, ixn16, ixn6, ixn5]
theorem h_whyRet (R : RM I q N np ns nw) {w : Nat} (hw : w < nw) : f_X3_obstacleToReturn I q (nI w) = some (sWhyRet N nw w) := by
  have b2 := R.f.s.2
  have b3 := R.f.w.2
  unfold sWhyRet
  by_cases h3 : wN N w 3 = 1
  · by_cases h5 : wN N w 5 = -1
    · simp (disch := omega) only [f_X3_obstacleToReturn, R.w5n hw, R.w8 hw, h3, h5, b1_so, b2_so, b3_so, e1_ok, e1_er, e2_ok, e2_er, e3_ok, e3_er, bI_so, bI_so', bI_0, bI_1, cB_bI, nI_s1, nJ_et, nJ_ef, nJ_lt, nJ_lf, pu_sM, sM_s, if_true, if_false, ite_self, Nat.lt_irrefl, Int32.zero_add, Int32.add_zero, not_true_eq_false, not_false_eq_true, rfw0, rfw1, rfw2, rfw3, rfw4, rfw5, rfw6, rfw7, rfp0, rfp1, rfp2, rfp3, rfp4, rfp5, rfp6, rfs0, rfs1, rfs2, rfs3, rwp0, rwp1, rwp2, rwp3, rwp4, rwp5, rwp6, rwp7, rpp0, rpp1, rpp2, rpp3, rpp4, rpp5, rpp6, rsp0, rsp1, rsp2, rsp3, ixn16, ixn6, ixn5]
    · obtain ⟨h7, h6⟩ := R.f.a7 hw h3 h5
      by_cases h4 : N 1 - wN N w 5 ≤ N 5
      · have hst := h_stockOf R (s := sE N w) (by omega)
        have hlt := stock_lt R h6
        by_cases h2 : nI (sStock N nw (nI (sE N w))) = sN N (sE N w) 0
        · simp (disch := omega) only [f_X3_obstacleToReturn, R.w5n hw, R.w8 hw, R.h6, R.h8, R.w10 hw, h7, h3, h5, h4, hst, R.s0 h6, hlt, h2, i32i, b1_so, b2_so, b3_so, e1_ok, e1_er, e2_ok, e2_er, e3_ok, e3_er, bI_so, bI_so', bI_0, bI_1, cB_bI, nI_s1, nJ_et, nJ_ef, nJ_lt, nJ_lf, pu_sM, sM_s, if_true, if_false, ite_self, Nat.lt_irrefl, Int32.zero_add, Int32.add_zero, not_true_eq_false, not_false_eq_true, rfw0, rfw1, rfw2, rfw3, rfw4, rfw5, rfw6, rfw7, rfp0, rfp1, rfp2, rfp3, rfp4, rfp5, rfp6, rfs0, rfs1, rfs2, rfs3, rwp0, rwp1, rwp2, rwp3, rwp4, rwp5, rwp6, rwp7, rpp0, rpp1, rpp2, rpp3, rpp4, rpp5, rpp6, rsp0, rsp1, rsp2, rsp3, ixn16, ixn6, ixn5]
        · simp (disch := omega) only [f_X3_obstacleToReturn, R.w5n hw, R.w8 hw, R.h6, R.h8, R.w10 hw, h7, h3, h5, h4, hst, R.s0 h6, R.s1 h6, hlt, h2, h_refundFor R hw, ite3, b1_so, b2_so, b3_so, e1_ok, e1_er, e2_ok, e2_er, e3_ok, e3_er, bI_so, bI_so', bI_0, bI_1, cB_bI, nI_s1, nJ_et, nJ_ef, nJ_lt, nJ_lf, pu_sM, sM_s, if_true, if_false, ite_self, Nat.lt_irrefl, Int32.zero_add, Int32.add_zero, not_true_eq_false, not_false_eq_true, rfw0, rfw1, rfw2, rfw3, rfw4, rfw5, rfw6, rfw7, rfp0, rfp1, rfp2, rfp3, rfp4, rfp5, rfp6, rfs0, rfs1, rfs2, rfs3, rwp0, rwp1, rwp2, rwp3, rwp4, rwp5, rwp6, rwp7, rpp0, rpp1, rpp2, rpp3, rpp4, rpp5, rpp6, rsp0, rsp1, rsp2, rsp3, ixn16, ixn6, ixn5]
      · simp (disch := omega) only [f_X3_obstacleToReturn, R.w5n hw, R.w8 hw, R.h6, R.h8, h3, h5, h4, b1_so, b2_so, b3_so, e1_ok, e1_er, e2_ok, e2_er, e3_ok, e3_er, bI_so, bI_so', bI_0, bI_1, cB_bI, nI_s1, nJ_et, nJ_ef, nJ_lt, nJ_lf, pu_sM, sM_s, if_true, if_false, ite_self, Nat.lt_irrefl, Int32.zero_add, Int32.add_zero, not_true_eq_false, not_false_eq_true, rfw0, rfw1, rfw2, rfw3, rfw4, rfw5, rfw6, rfw7, rfp0, rfp1, rfp2, rfp3, rfp4, rfp5, rfp6, rfs0, rfs1, rfs2, rfs3, rwp0, rwp1, rwp2, rwp3, rwp4, rwp5, rwp6, rwp7, rpp0, rpp1, rpp2, rpp3, rpp4, rpp5, rpp6, rsp0, rsp1, rsp2, rsp3, ixn16, ixn6, ixn5]
  · simp (disch := omega) only [f_X3_obstacleToReturn, R.w5n hw, h3, b1_so, b2_so, b3_so, e1_ok, e1_er, e2_ok, e2_er, e3_ok, e3_er, bI_so, bI_so', bI_0, bI_1, cB_bI, nI_s1, nJ_et, nJ_ef, nJ_lt, nJ_lf, pu_sM, sM_s, if_true, if_false, ite_self, Nat.lt_irrefl, Int32.zero_add, Int32.add_zero, not_true_eq_false, not_false_eq_true, rfw0, rfw1, rfw2, rfw3, rfw4, rfw5, rfw6, rfw7, rfp0, rfp1, rfp2, rfp3, rfp4, rfp5, rfp6, rfs0, rfs1, rfs2, rfs3, rwp0, rwp1, rwp2, rwp3, rwp4, rwp5, rwp6, rwp7, rpp0, rpp1, rpp2, rpp3, rpp4, rpp5, rpp6, rsp0, rsp1, rsp2, rsp3, ixn16, ixn6, ixn5]
theorem h_whyGr (R : RM I q N np ns nw) {w : Nat} (hw : w < nw) : f_X3_obstacleToGrant I q (nI w) = some (sWhyGr N w) := by
  have b1 := R.f.p.2
  have b3 := R.f.w.2
  unfold sWhyGr
  by_cases h3 : wN N w 3 = 1
  · obtain ⟨h7, h6⟩ := R.f.a1 hw h3
    have e5 : I (q + 15 + w) 5 = nI (aT N w) := by rw [R.w5 hw, if_pos h3, h7]
    by_cases h4 : pN N (aT N w) 1 = sDay N
    · simp (disch := omega) only [f_X3_obstacleToGrant, e5, oI_n, h3, h_today R, R.p2 h6, R.p3 h6, R.w2 hw, h4, ite3, b1_so, b2_so, b3_so, e1_ok, e1_er, e2_ok, e2_er, e3_ok, e3_er, bI_so, bI_so', bI_0, bI_1, cB_bI, nI_s1, nJ_et, nJ_ef, nJ_lt, nJ_lf, pu_sM, sM_s, if_true, if_false, ite_self, Nat.lt_irrefl, Int32.zero_add, Int32.add_zero, not_true_eq_false, not_false_eq_true, rfw0, rfw1, rfw2, rfw3, rfw4, rfw5, rfw6, rfw7, rfp0, rfp1, rfp2, rfp3, rfp4, rfp5, rfp6, rfs0, rfs1, rfs2, rfs3, rwp0, rwp1, rwp2, rwp3, rwp4, rwp5, rwp6, rwp7, rpp0, rpp1, rpp2, rpp3, rpp4, rpp5, rpp6, rsp0, rsp1, rsp2, rsp3, ixn16, ixn6, ixn5]
    · simp (disch := omega) only [f_X3_obstacleToGrant, e5, oI_n, h3, h_today R, R.p2 h6, h4, b1_so, b2_so, b3_so, e1_ok, e1_er, e2_ok, e2_er, e3_ok, e3_er, bI_so, bI_so', bI_0, bI_1, cB_bI, nI_s1, nJ_et, nJ_ef, nJ_lt, nJ_lf, pu_sM, sM_s, if_true, if_false, ite_self, Nat.lt_irrefl, Int32.zero_add, Int32.add_zero, not_true_eq_false, not_false_eq_true, rfw0, rfw1, rfw2, rfw3, rfw4, rfw5, rfw6, rfw7, rfp0, rfp1, rfp2, rfp3, rfp4, rfp5, rfp6, rfs0, rfs1, rfs2, rfs3, rwp0, rwp1, rwp2, rwp3, rwp4, rwp5, rwp6, rwp7, rpp0, rpp1, rpp2, rpp3, rpp4, rpp5, rpp6, rsp0, rsp1, rsp2, rsp3, ixn16, ixn6, ixn5]
  · simp (disch := omega) only [f_X3_obstacleToGrant, R.w5n hw, h3, b1_so, b2_so, b3_so, e1_ok, e1_er, e2_ok, e2_er, e3_ok, e3_er, bI_so, bI_so', bI_0, bI_1, cB_bI, nI_s1, nJ_et, nJ_ef, nJ_lt, nJ_lf, pu_sM, sM_s, if_true, if_false, ite_self, Nat.lt_irrefl, Int32.zero_add, Int32.add_zero, not_true_eq_false, not_false_eq_true, rfw0, rfw1, rfw2, rfw3, rfw4, rfw5, rfw6, rfw7, rfp0, rfp1, rfp2, rfp3, rfp4, rfp5, rfp6, rfs0, rfs1, rfs2, rfs3, rwp0, rwp1, rwp2, rwp3, rwp4, rwp5, rwp6, rwp7, rpp0, rpp1, rpp2, rpp3, rpp4, rpp5, rpp6, rsp0, rsp1, rsp2, rsp3, ixn16, ixn6, ixn5]
theorem h_worth (R : RM I q N np ns nw) {w : Nat} (hw : w < nw) : f_X8_worth I (q + 15 + w) = some (sVal N w) := by
  simp (disch := omega) only [f_X8_worth, R.w1 hw, R.w3 hw, sVal, b1_so, b2_so, b3_so, e1_ok, e1_er, e2_ok, e2_er, e3_ok, e3_er, bI_so, bI_so', bI_0, bI_1, cB_bI, nI_s1, nJ_et, nJ_ef, nJ_lt, nJ_lf, pu_sM, sM_s, if_true, if_false, ite_self, Nat.lt_irrefl, Int32.zero_add, Int32.add_zero, not_true_eq_false, not_false_eq_true, rfw0, rfw1, rfw2, rfw3, rfw4, rfw5, rfw6, rfw7, rfp0, rfp1, rfp2, rfp3, rfp4, rfp5, rfp6, rfs0, rfs1, rfs2, rfs3, rwp0, rwp1, rwp2, rwp3, rwp4, rwp5, rwp6, rwp7, rpp0, rpp1, rpp2, rpp3, rpp4, rpp5, rpp6, rsp0, rsp1, rsp2, rsp3, ixn16, ixn6, ixn5]
theorem h_cheapest (R : RM I q N np ns nw) {p : Nat} {lim : Int32} (hp : p < np) : f_X3_cheapestFor I q (nI p) lim = some (oI (sCheap N nw p lim)) := by
  have h1 := R.h5
  have h2 := R.f.w.2
  refine up_loop (fun f (z : Int32 × Int32) => l_X3_cheapestFor_5 f I q (nI p) lim z.1 z.2) (fun i => (oI (sBest (cP N nw p lim) (cB2 N) i), nI i)) nw _ (fun i hi f => ?_) (fun f => ?_) (FU_up (by omega))
  · by_cases hb : sWhyBuy N nw p i = 0
    · have h3 := whyBuy0 hb
      by_cases hl : sPrice N i ≤ lim
      · have hP : cP N nw p lim i := ⟨hb, hl⟩
        have hl2 : ¬ lim < sPrice N i := Int32.not_lt.mpr hl
        cases hz : sBest (cP N nw p lim) (cB2 N) i with
        | none =>
          have e := sBest_fi hP hz
          simp (disch := omega) only [l_X3_cheapestFor_5, h1, h_whyBuy R hp hi, hb, h_priceOf R hi h3, hl2, oI, e, hz, b1_so, b2_so, b3_so, e1_ok, e1_er, e2_ok, e2_er, e3_ok, e3_er, bI_so, bI_so', bI_0, bI_1, cB_bI, nI_s1, nJ_et, nJ_ef, nJ_lt, nJ_lf, pu_sM, sM_s, if_true, if_false, ite_self, Nat.lt_irrefl, Int32.zero_add, Int32.add_zero, not_true_eq_false, not_false_eq_true, rfw0, rfw1, rfw2, rfw3, rfw4, rfw5, rfw6, rfw7, rfp0, rfp1, rfp2, rfp3, rfp4, rfp5, rfp6, rfs0, rfs1, rfs2, rfs3, rwp0, rwp1, rwp2, rwp3, rwp4, rwp5, rwp6, rwp7, rpp0, rpp1, rpp2, rpp3, rpp4, rpp5, rpp6, rsp0, rsp1, rsp2, rsp3, ixn16, ixn6, ixn5]
        | some b =>
          obtain ⟨hb1, hb2⟩ := sBest_in hz
          have h4 := whyBuy0 hb2.1
          by_cases hv : sPrice N b ≤ sPrice N i
          · have e := sBest_ke hP hz (by exact fun h => h hv)
            simp (disch := omega) only [l_X3_cheapestFor_5, h1, h_whyBuy R hp hi, hb, h_priceOf R hi h3, hl2, oI, oI_n, e, hz, h_priceOf R (show b < nw by omega) h4, hv, b1_so, b2_so, b3_so, e1_ok, e1_er, e2_ok, e2_er, e3_ok, e3_er, bI_so, bI_so', bI_0, bI_1, cB_bI, nI_s1, nJ_et, nJ_ef, nJ_lt, nJ_lf, pu_sM, sM_s, if_true, if_false, ite_self, Nat.lt_irrefl, Int32.zero_add, Int32.add_zero, not_true_eq_false, not_false_eq_true, rfw0, rfw1, rfw2, rfw3, rfw4, rfw5, rfw6, rfw7, rfp0, rfp1, rfp2, rfp3, rfp4, rfp5, rfp6, rfs0, rfs1, rfs2, rfs3, rwp0, rwp1, rwp2, rwp3, rwp4, rwp5, rwp6, rwp7, rpp0, rpp1, rpp2, rpp3, rpp4, rpp5, rpp6, rsp0, rsp1, rsp2, rsp3, ixn16, ixn6, ixn5]
          · have e := sBest_up hP hz hv
            simp (disch := omega) only [l_X3_cheapestFor_5, h1, h_whyBuy R hp hi, hb, h_priceOf R hi h3, hl2, oI, oI_n, e, hz, h_priceOf R (show b < nw by omega) h4, hv, b1_so, b2_so, b3_so, e1_ok, e1_er, e2_ok, e2_er, e3_ok, e3_er, bI_so, bI_so', bI_0, bI_1, cB_bI, nI_s1, nJ_et, nJ_ef, nJ_lt, nJ_lf, pu_sM, sM_s, if_true, if_false, ite_self, Nat.lt_irrefl, Int32.zero_add, Int32.add_zero, not_true_eq_false, not_false_eq_true, rfw0, rfw1, rfw2, rfw3, rfw4, rfw5, rfw6, rfw7, rfp0, rfp1, rfp2, rfp3, rfp4, rfp5, rfp6, rfs0, rfs1, rfs2, rfs3, rwp0, rwp1, rwp2, rwp3, rwp4, rwp5, rwp6, rwp7, rpp0, rpp1, rpp2, rpp3, rpp4, rpp5, rpp6, rsp0, rsp1, rsp2, rsp3, ixn16, ixn6, ixn5]
      · have hl2 : lim < sPrice N i := Int32.not_le.mp hl
        have e := sBest_no (P := cP N nw p lim) (B := cB2 N) (n := i) (fun h => hl h.2)
        simp (disch := omega) only [l_X3_cheapestFor_5, h1, h_whyBuy R hp hi, hb, h_priceOf R hi h3, hl2, e, b1_so, b2_so, b3_so, e1_ok, e1_er, e2_ok, e2_er, e3_ok, e3_er, bI_so, bI_so', bI_0, bI_1, cB_bI, nI_s1, nJ_et, nJ_ef, nJ_lt, nJ_lf, pu_sM, sM_s, if_true, if_false, ite_self, Nat.lt_irrefl, Int32.zero_add, Int32.add_zero, not_true_eq_false, not_false_eq_true, rfw0, rfw1, rfw2, rfw3, rfw4, rfw5, rfw6, rfw7, rfp0, rfp1, rfp2, rfp3, rfp4, rfp5, rfp6, rfs0, rfs1, rfs2, rfs3, rwp0, rwp1, rwp2, rwp3, rwp4, rwp5, rwp6, rwp7, rpp0, rpp1, rpp2, rpp3, rpp4, rpp5, rpp6, rsp0, rsp1, rsp2, rsp3, ixn16, ixn6, ixn5]
    · have e := sBest_no (P := cP N nw p lim) (B := cB2 N) (n := i) (fun h => hb h.1)
      simp (disch := omega) only [l_X3_cheapestFor_5, h1, h_whyBuy R hp hi, hb, e, b1_so, b2_so, b3_so, e1_ok, e1_er, e2_ok, e2_er, e3_ok, e3_er, bI_so, bI_so', bI_0, bI_1, cB_bI, nI_s1, nJ_et, nJ_ef, nJ_lt, nJ_lf, pu_sM, sM_s, if_true, if_false, ite_self, Nat.lt_irrefl, Int32.zero_add, Int32.add_zero, not_true_eq_false, not_false_eq_true, rfw0, rfw1, rfw2, rfw3, rfw4, rfw5, rfw6, rfw7, rfp0, rfp1, rfp2, rfp3, rfp4, rfp5, rfp6, rfs0, rfs1, rfs2, rfs3, rwp0, rwp1, rwp2, rwp3, rwp4, rwp5, rwp6, rwp7, rpp0, rpp1, rpp2, rpp3, rpp4, rpp5, rpp6, rsp0, rsp1, rsp2, rsp3, ixn16, ixn6, ixn5]
  · simp (disch := omega) only [l_X3_cheapestFor_5, h1, b1_so, b2_so, b3_so, e1_ok, e1_er, e2_ok, e2_er, e3_ok, e3_er, bI_so, bI_so', bI_0, bI_1, cB_bI, nI_s1, nJ_et, nJ_ef, nJ_lt, nJ_lf, pu_sM, sM_s, if_true, if_false, ite_self, Nat.lt_irrefl, Int32.zero_add, Int32.add_zero, not_true_eq_false, not_false_eq_true, rfw0, rfw1, rfw2, rfw3, rfw4, rfw5, rfw6, rfw7, rfp0, rfp1, rfp2, rfp3, rfp4, rfp5, rfp6, rfs0, rfs1, rfs2, rfs3, rwp0, rwp1, rwp2, rwp3, rwp4, rwp5, rwp6, rwp7, rpp0, rpp1, rpp2, rpp3, rpp4, rpp5, rpp6, rsp0, rsp1, rsp2, rsp3, ixn16, ixn6, ixn5]
    rfl
theorem h_bestGrant (R : RM I q N np ns nw) {p : Nat} (hp : p < 1000) : f_X3_bestGrantFor I q (nI p) = some (oI (sGreat N nw p)) := by
  have h1 := R.h5
  have h2 := R.f.w.2
  refine up_loop (fun f (z : Int32 × Int32) => l_X3_bestGrantFor_4 f I q (nI p) z.1 z.2) (fun i => (oI (sBest (gP N p) (vB N) i), nI i)) nw _ (fun i hi f => ?_) (fun f => ?_) (FU_up (by omega))
  · have h5 := R.w5s hi (s := p) (by omega)
    by_cases hb : wN N i 3 = 1 ∧ wN N i 4 = nI p
    · by_cases hl : sWhyGr N i = 0
      · have hP : gP N p i := ⟨hb, hl⟩
        cases hz : sBest (gP N p) (vB N) i with
        | none =>
          have e := sBest_fi hP hz
          simp (disch := omega) only [l_X3_bestGrantFor_4, h1, h5, hb, and_self, h_whyGr R hi, hl, oI, e, hz, b1_so, b2_so, b3_so, e1_ok, e1_er, e2_ok, e2_er, e3_ok, e3_er, bI_so, bI_so', bI_0, bI_1, cB_bI, nI_s1, nJ_et, nJ_ef, nJ_lt, nJ_lf, pu_sM, sM_s, if_true, if_false, ite_self, Nat.lt_irrefl, Int32.zero_add, Int32.add_zero, not_true_eq_false, not_false_eq_true, rfw0, rfw1, rfw2, rfw3, rfw4, rfw5, rfw6, rfw7, rfp0, rfp1, rfp2, rfp3, rfp4, rfp5, rfp6, rfs0, rfs1, rfs2, rfs3, rwp0, rwp1, rwp2, rwp3, rwp4, rwp5, rwp6, rwp7, rpp0, rpp1, rpp2, rpp3, rpp4, rpp5, rpp6, rsp0, rsp1, rsp2, rsp3, ixn16, ixn6, ixn5]
        | some b =>
          obtain ⟨hb1, hb2⟩ := sBest_in hz
          by_cases hv : sVal N i ≤ sVal N b
          · have e := sBest_ke hP hz (by exact fun h => h hv)
            simp (disch := omega) only [l_X3_bestGrantFor_4, h1, h5, hb, and_self, h_whyGr R hi, hl, oI, oI_n, e, hz, h_worth R hi, h_worth R (show b < nw by omega), hv, b1_so, b2_so, b3_so, e1_ok, e1_er, e2_ok, e2_er, e3_ok, e3_er, bI_so, bI_so', bI_0, bI_1, cB_bI, nI_s1, nJ_et, nJ_ef, nJ_lt, nJ_lf, pu_sM, sM_s, if_true, if_false, ite_self, Nat.lt_irrefl, Int32.zero_add, Int32.add_zero, not_true_eq_false, not_false_eq_true, rfw0, rfw1, rfw2, rfw3, rfw4, rfw5, rfw6, rfw7, rfp0, rfp1, rfp2, rfp3, rfp4, rfp5, rfp6, rfs0, rfs1, rfs2, rfs3, rwp0, rwp1, rwp2, rwp3, rwp4, rwp5, rwp6, rwp7, rpp0, rpp1, rpp2, rpp3, rpp4, rpp5, rpp6, rsp0, rsp1, rsp2, rsp3, ixn16, ixn6, ixn5]
          · have e := sBest_up hP hz hv
            simp (disch := omega) only [l_X3_bestGrantFor_4, h1, h5, hb, and_self, h_whyGr R hi, hl, oI, oI_n, e, hz, h_worth R hi, h_worth R (show b < nw by omega), hv, b1_so, b2_so, b3_so, e1_ok, e1_er, e2_ok, e2_er, e3_ok, e3_er, bI_so, bI_so', bI_0, bI_1, cB_bI, nI_s1, nJ_et, nJ_ef, nJ_lt, nJ_lf, pu_sM, sM_s, if_true, if_false, ite_self, Nat.lt_irrefl, Int32.zero_add, Int32.add_zero, not_true_eq_false, not_false_eq_true, rfw0, rfw1, rfw2, rfw3, rfw4, rfw5, rfw6, rfw7, rfp0, rfp1, rfp2, rfp3, rfp4, rfp5, rfp6, rfs0, rfs1, rfs2, rfs3, rwp0, rwp1, rwp2, rwp3, rwp4, rwp5, rwp6, rwp7, rpp0, rpp1, rpp2, rpp3, rpp4, rpp5, rpp6, rsp0, rsp1, rsp2, rsp3, ixn16, ixn6, ixn5]
      · have e := sBest_no (P := gP N p) (B := vB N) (n := i) (fun h => hl h.2)
        simp (disch := omega) only [l_X3_bestGrantFor_4, h1, h5, hb, and_self, h_whyGr R hi, hl, e, b1_so, b2_so, b3_so, e1_ok, e1_er, e2_ok, e2_er, e3_ok, e3_er, bI_so, bI_so', bI_0, bI_1, cB_bI, nI_s1, nJ_et, nJ_ef, nJ_lt, nJ_lf, pu_sM, sM_s, if_true, if_false, ite_self, Nat.lt_irrefl, Int32.zero_add, Int32.add_zero, not_true_eq_false, not_false_eq_true, rfw0, rfw1, rfw2, rfw3, rfw4, rfw5, rfw6, rfw7, rfp0, rfp1, rfp2, rfp3, rfp4, rfp5, rfp6, rfs0, rfs1, rfs2, rfs3, rwp0, rwp1, rwp2, rwp3, rwp4, rwp5, rwp6, rwp7, rpp0, rpp1, rpp2, rpp3, rpp4, rpp5, rpp6, rsp0, rsp1, rsp2, rsp3, ixn16, ixn6, ixn5]
    · have e := sBest_no (P := gP N p) (B := vB N) (n := i) (fun h => hb h.1)
      simp (disch := omega) only [l_X3_bestGrantFor_4, h1, h5, hb, e, b1_so, b2_so, b3_so, e1_ok, e1_er, e2_ok, e2_er, e3_ok, e3_er, bI_so, bI_so', bI_0, bI_1, cB_bI, nI_s1, nJ_et, nJ_ef, nJ_lt, nJ_lf, pu_sM, sM_s, if_true, if_false, ite_self, Nat.lt_irrefl, Int32.zero_add, Int32.add_zero, not_true_eq_false, not_false_eq_true, rfw0, rfw1, rfw2, rfw3, rfw4, rfw5, rfw6, rfw7, rfp0, rfp1, rfp2, rfp3, rfp4, rfp5, rfp6, rfs0, rfs1, rfs2, rfs3, rwp0, rwp1, rwp2, rwp3, rwp4, rwp5, rwp6, rwp7, rpp0, rpp1, rpp2, rpp3, rpp4, rpp5, rpp6, rsp0, rsp1, rsp2, rsp3, ixn16, ixn6, ixn5]
  · simp (disch := omega) only [l_X3_bestGrantFor_4, h1, b1_so, b2_so, b3_so, e1_ok, e1_er, e2_ok, e2_er, e3_ok, e3_er, bI_so, bI_so', bI_0, bI_1, cB_bI, nI_s1, nJ_et, nJ_ef, nJ_lt, nJ_lf, pu_sM, sM_s, if_true, if_false, ite_self, Nat.lt_irrefl, Int32.zero_add, Int32.add_zero, not_true_eq_false, not_false_eq_true, rfw0, rfw1, rfw2, rfw3, rfw4, rfw5, rfw6, rfw7, rfp0, rfp1, rfp2, rfp3, rfp4, rfp5, rfp6, rfs0, rfs1, rfs2, rfs3, rwp0, rwp1, rwp2, rwp3, rwp4, rwp5, rwp6, rwp7, rpp0, rpp1, rpp2, rpp3, rpp4, rpp5, rpp6, rsp0, rsp1, rsp2, rsp3, ixn16, ixn6, ixn5]
    rfl
theorem h_bestStall (R : RM I q N np ns nw) {w : Nat} (hw : w < nw) : f_X3_bestStallFor I q (nI w) = some (oI (sBestOff N ns nw w)) := by
  have h1 := R.h4
  have h2 := R.f.s.2
  refine up_loop (fun f (z : Int32 × Int32) => l_X3_bestStallFor_4 f I q (nI w) z.1 z.2) (fun i => (oI (sBest (oP N nw w) (oB N w) i), nI i)) ns _ (fun i hi f => ?_) (fun f => ?_) (FU_up (by omega))
  · have hs := h_whySell R hi hw
    by_cases hl : sWhySell N nw w i = 0
    · cases hz : sBest (oP N nw w) (oB N w) i with
      | none =>
        have e := sBest_fi hl hz
        simp (disch := omega) only [l_X3_bestStallFor_4, h1, hs, hl, oI, e, hz, b1_so, b2_so, b3_so, e1_ok, e1_er, e2_ok, e2_er, e3_ok, e3_er, bI_so, bI_so', bI_0, bI_1, cB_bI, nI_s1, nJ_et, nJ_ef, nJ_lt, nJ_lf, pu_sM, sM_s, if_true, if_false, ite_self, Nat.lt_irrefl, Int32.zero_add, Int32.add_zero, not_true_eq_false, not_false_eq_true, rfw0, rfw1, rfw2, rfw3, rfw4, rfw5, rfw6, rfw7, rfp0, rfp1, rfp2, rfp3, rfp4, rfp5, rfp6, rfs0, rfs1, rfs2, rfs3, rwp0, rwp1, rwp2, rwp3, rwp4, rwp5, rwp6, rwp7, rpp0, rpp1, rpp2, rpp3, rpp4, rpp5, rpp6, rsp0, rsp1, rsp2, rsp3, ixn16, ixn6, ixn5]
      | some b =>
        obtain ⟨hb1, hb2⟩ := sBest_in hz
        have ho := h_offerFor R hw (s := b) (by omega)
        by_cases hv : sOff N w i ≤ sOff N w b
        · have e := sBest_ke hl hz (by exact fun h => h hv)
          simp (disch := omega) only [l_X3_bestStallFor_4, h1, hs, hl, oI, oI_n, e, hz, h_offerFor R hw hi, ho, hv, b1_so, b2_so, b3_so, e1_ok, e1_er, e2_ok, e2_er, e3_ok, e3_er, bI_so, bI_so', bI_0, bI_1, cB_bI, nI_s1, nJ_et, nJ_ef, nJ_lt, nJ_lf, pu_sM, sM_s, if_true, if_false, ite_self, Nat.lt_irrefl, Int32.zero_add, Int32.add_zero, not_true_eq_false, not_false_eq_true, rfw0, rfw1, rfw2, rfw3, rfw4, rfw5, rfw6, rfw7, rfp0, rfp1, rfp2, rfp3, rfp4, rfp5, rfp6, rfs0, rfs1, rfs2, rfs3, rwp0, rwp1, rwp2, rwp3, rwp4, rwp5, rwp6, rwp7, rpp0, rpp1, rpp2, rpp3, rpp4, rpp5, rpp6, rsp0, rsp1, rsp2, rsp3, ixn16, ixn6, ixn5]
        · have e := sBest_up hl hz hv
          simp (disch := omega) only [l_X3_bestStallFor_4, h1, hs, hl, oI, oI_n, e, hz, h_offerFor R hw hi, ho, hv, b1_so, b2_so, b3_so, e1_ok, e1_er, e2_ok, e2_er, e3_ok, e3_er, bI_so, bI_so', bI_0, bI_1, cB_bI, nI_s1, nJ_et, nJ_ef, nJ_lt, nJ_lf, pu_sM, sM_s, if_true, if_false, ite_self, Nat.lt_irrefl, Int32.zero_add, Int32.add_zero, not_true_eq_false, not_false_eq_true, rfw0, rfw1, rfw2, rfw3, rfw4, rfw5, rfw6, rfw7, rfp0, rfp1, rfp2, rfp3, rfp4, rfp5, rfp6, rfs0, rfs1, rfs2, rfs3, rwp0, rwp1, rwp2, rwp3, rwp4, rwp5, rwp6, rwp7, rpp0, rpp1, rpp2, rpp3, rpp4, rpp5, rpp6, rsp0, rsp1, rsp2, rsp3, ixn16, ixn6, ixn5]
    · have e := sBest_no (P := oP N nw w) (B := oB N w) (n := i) hl
      simp (disch := omega) only [l_X3_bestStallFor_4, h1, hs, hl, e, b1_so, b2_so, b3_so, e1_ok, e1_er, e2_ok, e2_er, e3_ok, e3_er, bI_so, bI_so', bI_0, bI_1, cB_bI, nI_s1, nJ_et, nJ_ef, nJ_lt, nJ_lf, pu_sM, sM_s, if_true, if_false, ite_self, Nat.lt_irrefl, Int32.zero_add, Int32.add_zero, not_true_eq_false, not_false_eq_true, rfw0, rfw1, rfw2, rfw3, rfw4, rfw5, rfw6, rfw7, rfp0, rfp1, rfp2, rfp3, rfp4, rfp5, rfp6, rfs0, rfs1, rfs2, rfs3, rwp0, rwp1, rwp2, rwp3, rwp4, rwp5, rwp6, rwp7, rpp0, rpp1, rpp2, rpp3, rpp4, rpp5, rpp6, rsp0, rsp1, rsp2, rsp3, ixn16, ixn6, ixn5]
  · simp (disch := omega) only [l_X3_bestStallFor_4, h1, b1_so, b2_so, b3_so, e1_ok, e1_er, e2_ok, e2_er, e3_ok, e3_er, bI_so, bI_so', bI_0, bI_1, cB_bI, nI_s1, nJ_et, nJ_ef, nJ_lt, nJ_lf, pu_sM, sM_s, if_true, if_false, ite_self, Nat.lt_irrefl, Int32.zero_add, Int32.add_zero, not_true_eq_false, not_false_eq_true, rfw0, rfw1, rfw2, rfw3, rfw4, rfw5, rfw6, rfw7, rfp0, rfp1, rfp2, rfp3, rfp4, rfp5, rfp6, rfs0, rfs1, rfs2, rfs3, rwp0, rwp1, rwp2, rwp3, rwp4, rwp5, rwp6, rwp7, rpp0, rpp1, rpp2, rpp3, rpp4, rpp5, rpp6, rsp0, rsp1, rsp2, rsp3, ixn16, ixn6, ixn5]
    rfl
theorem h_dearest (R : RM I q N np ns nw) {s : Nat} (hs : s < 1000) : f_X3_mostValuableIn I q (nI s) = some (oI (sDear N nw s)) := by
  have h1 := R.h5
  have h2 := R.f.w.2
  refine up_loop (fun f (z : Int32 × Int32) => l_X3_mostValuableIn_4 f I q (nI s) z.1 z.2) (fun i => (oI (sBest (dP N s) (vB N) i), nI i)) nw _ (fun i hi f => ?_) (fun f => ?_) (FU_up (by omega))
  · have h5 := R.w4s hi (s := s) (by omega)
    by_cases hb : wN N i 3 = 0 ∧ wN N i 4 = nI s
    · have hP : dP N s i := hb
      cases hz : sBest (dP N s) (vB N) i with
      | none =>
        have e := sBest_fi hP hz
        simp (disch := omega) only [l_X3_mostValuableIn_4, h1, h5, hb, and_self, oI, e, hz, b1_so, b2_so, b3_so, e1_ok, e1_er, e2_ok, e2_er, e3_ok, e3_er, bI_so, bI_so', bI_0, bI_1, cB_bI, nI_s1, nJ_et, nJ_ef, nJ_lt, nJ_lf, pu_sM, sM_s, if_true, if_false, ite_self, Nat.lt_irrefl, Int32.zero_add, Int32.add_zero, not_true_eq_false, not_false_eq_true, rfw0, rfw1, rfw2, rfw3, rfw4, rfw5, rfw6, rfw7, rfp0, rfp1, rfp2, rfp3, rfp4, rfp5, rfp6, rfs0, rfs1, rfs2, rfs3, rwp0, rwp1, rwp2, rwp3, rwp4, rwp5, rwp6, rwp7, rpp0, rpp1, rpp2, rpp3, rpp4, rpp5, rpp6, rsp0, rsp1, rsp2, rsp3, ixn16, ixn6, ixn5]
      | some b =>
        obtain ⟨hb1, hb2⟩ := sBest_in hz
        by_cases hv : sVal N i ≤ sVal N b
        · have e := sBest_ke hP hz (by exact fun h => h hv)
          simp (disch := omega) only [l_X3_mostValuableIn_4, h1, h5, hb, and_self, oI, oI_n, e, hz, h_worth R hi, h_worth R (show b < nw by omega), hv, b1_so, b2_so, b3_so, e1_ok, e1_er, e2_ok, e2_er, e3_ok, e3_er, bI_so, bI_so', bI_0, bI_1, cB_bI, nI_s1, nJ_et, nJ_ef, nJ_lt, nJ_lf, pu_sM, sM_s, if_true, if_false, ite_self, Nat.lt_irrefl, Int32.zero_add, Int32.add_zero, not_true_eq_false, not_false_eq_true, rfw0, rfw1, rfw2, rfw3, rfw4, rfw5, rfw6, rfw7, rfp0, rfp1, rfp2, rfp3, rfp4, rfp5, rfp6, rfs0, rfs1, rfs2, rfs3, rwp0, rwp1, rwp2, rwp3, rwp4, rwp5, rwp6, rwp7, rpp0, rpp1, rpp2, rpp3, rpp4, rpp5, rpp6, rsp0, rsp1, rsp2, rsp3, ixn16, ixn6, ixn5]
        · have e := sBest_up hP hz hv
          simp (disch := omega) only [l_X3_mostValuableIn_4, h1, h5, hb, and_self, oI, oI_n, e, hz, h_worth R hi, h_worth R (show b < nw by omega), hv, b1_so, b2_so, b3_so, e1_ok, e1_er, e2_ok, e2_er, e3_ok, e3_er, bI_so, bI_so', bI_0, bI_1, cB_bI, nI_s1, nJ_et, nJ_ef, nJ_lt, nJ_lf, pu_sM, sM_s, if_true, if_false, ite_self, Nat.lt_irrefl, Int32.zero_add, Int32.add_zero, not_true_eq_false, not_false_eq_true, rfw0, rfw1, rfw2, rfw3, rfw4, rfw5, rfw6, rfw7, rfp0, rfp1, rfp2, rfp3, rfp4, rfp5, rfp6, rfs0, rfs1, rfs2, rfs3, rwp0, rwp1, rwp2, rwp3, rwp4, rwp5, rwp6, rwp7, rpp0, rpp1, rpp2, rpp3, rpp4, rpp5, rpp6, rsp0, rsp1, rsp2, rsp3, ixn16, ixn6, ixn5]
    · have e := sBest_no (P := dP N s) (B := vB N) (n := i) hb
      simp (disch := omega) only [l_X3_mostValuableIn_4, h1, h5, hb, e, b1_so, b2_so, b3_so, e1_ok, e1_er, e2_ok, e2_er, e3_ok, e3_er, bI_so, bI_so', bI_0, bI_1, cB_bI, nI_s1, nJ_et, nJ_ef, nJ_lt, nJ_lf, pu_sM, sM_s, if_true, if_false, ite_self, Nat.lt_irrefl, Int32.zero_add, Int32.add_zero, not_true_eq_false, not_false_eq_true, rfw0, rfw1, rfw2, rfw3, rfw4, rfw5, rfw6, rfw7, rfp0, rfp1, rfp2, rfp3, rfp4, rfp5, rfp6, rfs0, rfs1, rfs2, rfs3, rwp0, rwp1, rwp2, rwp3, rwp4, rwp5, rwp6, rwp7, rpp0, rpp1, rpp2, rpp3, rpp4, rpp5, rpp6, rsp0, rsp1, rsp2, rsp3, ixn16, ixn6, ixn5]
  · simp (disch := omega) only [l_X3_mostValuableIn_4, h1, b1_so, b2_so, b3_so, e1_ok, e1_er, e2_ok, e2_er, e3_ok, e3_er, bI_so, bI_so', bI_0, bI_1, cB_bI, nI_s1, nJ_et, nJ_ef, nJ_lt, nJ_lf, pu_sM, sM_s, if_true, if_false, ite_self, Nat.lt_irrefl, Int32.zero_add, Int32.add_zero, not_true_eq_false, not_false_eq_true, rfw0, rfw1, rfw2, rfw3, rfw4, rfw5, rfw6, rfw7, rfp0, rfp1, rfp2, rfp3, rfp4, rfp5, rfp6, rfs0, rfs1, rfs2, rfs3, rwp0, rwp1, rwp2, rwp3, rwp4, rwp5, rwp6, rwp7, rpp0, rpp1, rpp2, rpp3, rpp4, rpp5, rpp6, rsp0, rsp1, rsp2, rsp3, ixn16, ixn6, ixn5]
    rfl
theorem h_poorest (R : RM I q N np ns nw) (h0 : 0 < ns) : f_X3_poorestStall I q = some (nI (sPoor N (ns - 1))) := by
  have h1 := R.h4
  have h2 := R.f.s.2
  refine up_loop (fun f (z : Int32 × Int32) => l_X3_poorestStall_4 f I q z.1 z.2) (fun i => (nI (sPoor N i), nI (i + 1))) (ns - 1) _ (fun i hi f => ?_) (fun f => ?_) (FU_up (by omega))
  · have h3 := sPoor_le (N := N) i
    have e : sPoor N (i + 1) = if sN N (sPoor N i) 1 ≤ sN N (i + 1) 1 then sPoor N i else i + 1 := rfl
    have e1 := R.s1 (s := i + 1) (by omega)
    have e2 := R.s1 (s := sPoor N i) (by omega)
    by_cases hv : sN N (sPoor N i) 1 ≤ sN N (i + 1) 1
    · simp (disch := omega) only [l_X3_poorestStall_4, h1, e1, e2, hv, e, b1_so, b2_so, b3_so, e1_ok, e1_er, e2_ok, e2_er, e3_ok, e3_er, bI_so, bI_so', bI_0, bI_1, cB_bI, nI_s1, nJ_et, nJ_ef, nJ_lt, nJ_lf, pu_sM, sM_s, if_true, if_false, ite_self, Nat.lt_irrefl, Int32.zero_add, Int32.add_zero, not_true_eq_false, not_false_eq_true, rfw0, rfw1, rfw2, rfw3, rfw4, rfw5, rfw6, rfw7, rfp0, rfp1, rfp2, rfp3, rfp4, rfp5, rfp6, rfs0, rfs1, rfs2, rfs3, rwp0, rwp1, rwp2, rwp3, rwp4, rwp5, rwp6, rwp7, rpp0, rpp1, rpp2, rpp3, rpp4, rpp5, rpp6, rsp0, rsp1, rsp2, rsp3, ixn16, ixn6, ixn5]
    · simp (disch := omega) only [l_X3_poorestStall_4, h1, e1, e2, hv, e, b1_so, b2_so, b3_so, e1_ok, e1_er, e2_ok, e2_er, e3_ok, e3_er, bI_so, bI_so', bI_0, bI_1, cB_bI, nI_s1, nJ_et, nJ_ef, nJ_lt, nJ_lf, pu_sM, sM_s, if_true, if_false, ite_self, Nat.lt_irrefl, Int32.zero_add, Int32.add_zero, not_true_eq_false, not_false_eq_true, rfw0, rfw1, rfw2, rfw3, rfw4, rfw5, rfw6, rfw7, rfp0, rfp1, rfp2, rfp3, rfp4, rfp5, rfp6, rfs0, rfs1, rfs2, rfs3, rwp0, rwp1, rwp2, rwp3, rwp4, rwp5, rwp6, rwp7, rpp0, rpp1, rpp2, rpp3, rpp4, rpp5, rpp6, rsp0, rsp1, rsp2, rsp3, ixn16, ixn6, ixn5]
  · simp (disch := omega) only [l_X3_poorestStall_4, h1, b1_so, b2_so, b3_so, e1_ok, e1_er, e2_ok, e2_er, e3_ok, e3_er, bI_so, bI_so', bI_0, bI_1, cB_bI, nI_s1, nJ_et, nJ_ef, nJ_lt, nJ_lf, pu_sM, sM_s, if_true, if_false, ite_self, Nat.lt_irrefl, Int32.zero_add, Int32.add_zero, not_true_eq_false, not_false_eq_true, rfw0, rfw1, rfw2, rfw3, rfw4, rfw5, rfw6, rfw7, rfp0, rfp1, rfp2, rfp3, rfp4, rfp5, rfp6, rfs0, rfs1, rfs2, rfs3, rwp0, rwp1, rwp2, rwp3, rwp4, rwp5, rwp6, rwp7, rpp0, rpp1, rpp2, rpp3, rpp4, rpp5, rpp6, rsp0, rsp1, rsp2, rsp3, ixn16, ixn6, ixn5]
end CB
