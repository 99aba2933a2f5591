section RF
variable {I : Mem} {m np ns nw : Nat} {N : Nat → Int32}
theorem wN_pay {s p w k : Nat} {c : Int32} (hs : s < 5) (hp : p < 6) : wN (sPay N s p c) w k = wN N w k := by
  unfold sPay
  rw [wN_n (by omega), wN_n (by omega)]
theorem own_pay {s p : Nat} {c q : Int32} (hs : s < 5) (hp : p < 6) : sOwns (sPay N s p c) nw q = sOwns N nw q := sCnt_eq (fun i hi => by rw [wN_pay hs hp, wN_pay hs hp])
theorem sto_pay {s p : Nat} {c q : Int32} (hs : s < 5) (hp : p < 6) : sStock (sPay N s p c) nw q = sStock N nw q := sCnt_eq (fun i hi => by rw [wN_pay hs hp, wN_pay hs hp])
theorem cap_pay {s s' p : Nat} {c : Int32} (hs : s < 5) (hp : p < 6) (h : s' < 5) : sN (sPay N s p c) s' 0 = sN N s' 0 := by
  unfold sPay
  rw [sN_n (by omega), sN_n (by omega)]
theorem WF.get (H : WF N np ns nw) {p w : Nat} {c : Int32} (hw : w < nw) (h3 : wN N w 3 = 0) (hp : p < np) (ho : sOwns N nw (nI p) < 4) : WF (sGet N p w c) np ns nw := by
  obtain ⟨h1, h2⟩ := H.a0 hw h3
  have b1 := H.p.2
  have b2 := H.s.2
  rw [sGet_mv]
  refine (H.pay (s := aT N w) (p := p) (by omega) (by omega)).mv hw (Or.inl (by rw [wN_pay (by omega) (by omega)]; exact h3)) (Or.inr (Or.inl ⟨rfl, p, hp, rfl, ?_, fun _ => ⟨aT N w, h2, rfl⟩⟩))
  rw [own_pay (by omega) (by omega)]
  exact ho
theorem starUp {t : Nat} {x : Int32} (hx : x = nI t) (ht : t ≤ 50) : ∃ t', (if x + 1 < 50 then x + 1 else 50) = nI t' ∧ t' ≤ 50 := by
  subst hx
  rw [nI_s1]
  by_cases h : t + 1 < 50
  · refine ⟨t + 1, if_pos ?_, by omega⟩
    exact nI_lt (b := 50) h (by omega)
  · refine ⟨50, if_neg ?_, by omega⟩
    exact nI_nlt (b := 50) (by omega) (by omega)
theorem starDn {t : Nat} {x : Int32} (hx : x = nI t) (ht : t ≤ 50) : ∃ t', (if 0 < x - 2 then x - 2 else 0) = nI t' ∧ t' ≤ 50 := by
  subst hx
  by_cases h : 2 < t
  · refine ⟨t - 2, ?_, by omega⟩
    rw [show nI t - 2 = nI (t - 2) from pk_sub (b := 2) (by omega)]
    exact if_pos (nI_lt (a := 0) (by omega) (by omega))
  · refine ⟨0, ?_, by omega⟩
    rcases (show t = 0 ∨ t = 1 ∨ t = 2 by omega) with rfl | rfl | rfl <;> rfl
theorem whyBuy4 (H : WF N np ns nw) {p w : Nat} (hp : p < np) (h : sWhyBuy N nw p w = 0) : sOwns N nw (nI p) < 4 := by
  have h3 := whyBuy0 h
  have h1 := (H.2.2.2.2.2 p hp).1
  unfold sWhyBuy at h
  rw [if_pos h3] at h
  by_cases h4 : sPrice N w ≤ pN N p 0
  · rw [if_pos h4] at h
    by_cases h5 : sOwns N nw (nI p) = 4
    · rw [if_pos h5] at h; exact absurd h (by decide)
    · omega
  · rw [if_neg h4] at h; exact absurd h (by decide)
theorem WF.buy (H : WF N np ns nw) {p w : Nat} (hw : w < nw) (hp : p < np) (h : sWhyBuy N nw p w = 0) : WF (sBuy N p w) np ns nw := by
  have h3 := whyBuy0 h
  obtain ⟨h1, h2⟩ := H.a0 hw h3
  have b2 := H.s.2
  obtain ⟨t, t1, t2⟩ := H.st h2
  obtain ⟨t', t3, t4⟩ := starUp t1 t2
  exact (H.get hw h3 hp (whyBuy4 H hp h)).star (by omega) t3 t4
theorem whySell1 {s w : Nat} (h : sWhySell N nw w s = 0) : wN N w 3 = 1 := by
  unfold sWhySell at h
  by_cases h3 : wN N w 3 = 1
  · exact h3
  · rw [if_neg h3] at h; exact absurd h (by decide)
theorem notFull (H : WF N np ns nw) {s : Nat} (hs : s < ns) (h : ¬ nI (sStock N nw (nI s)) = sN N s 0) : ∃ c, sN N s 0 = nI c ∧ c ≤ 8 ∧ sStock N nw (nI s) < c := by
  obtain ⟨c, t, g, a1, a2, a3, a4⟩ := H.2.2.2.2.1 s hs
  refine ⟨c, a1.1, a1.2, ?_⟩
  rw [a1.1, nJ_i (by omega) (by omega)] at h
  omega
theorem whySellF {s w : Nat} (h : sWhySell N nw w s = 0) : ¬ nI (sStock N nw (nI s)) = sN N s 0 := by
  intro h9
  unfold sWhySell at h
  rw [if_pos h9] at h
  by_cases h3 : wN N w 3 = 1
  · rw [if_pos h3] at h; exact absurd h (by decide)
  · rw [if_neg h3] at h; exact absurd h (by decide)
theorem WF.sell (H : WF N np ns nw) {s w : Nat} (hw : w < nw) (hs : s < ns) (h : sWhySell N nw w s = 0) : WF (sSell N w s) np ns nw := by
  have h3 := whySell1 h
  obtain ⟨h1, h2⟩ := H.a1 hw h3
  have b1 := H.p.2
  have b2 := H.s.2
  obtain ⟨c, c1, c2, c3⟩ := notFull H hs (whySellF h)
  unfold sSell
  rw [sGo_mv]
  refine (H.pay (s := s) (p := aT N w) (by omega) (by omega)).mv hw (Or.inr (by rw [wN_pay (by omega) (by omega)]; exact h3)) (Or.inl ⟨rfl, s, c, hs, rfl, ?_, c2, ?_⟩)
  · rw [cap_pay (by omega) (by omega) (by omega)]; exact c1
  · rw [sto_pay (by omega) (by omega)]; exact c3
theorem whyRet1 {w : Nat} (h : sWhyRet N nw w = 0) : wN N w 3 = 1 ∧ ¬ wN N w 5 = -1 ∧ ¬ nI (sStock N nw (nI (sE N w))) = sN N (sE N w) 0 := by
  unfold sWhyRet at h
  by_cases h3 : wN N w 3 = 1
  · rw [if_pos h3] at h
    by_cases h5 : wN N w 5 = -1
    · rw [if_pos h5] at h; exact absurd h (by decide)
    · rw [if_neg h5] at h
      refine ⟨h3, h5, fun h9 => ?_⟩
      rw [if_pos h9] at h
      split at h <;> exact absurd h (by decide)
  · rw [if_neg h3] at h; exact absurd h (by decide)
theorem WF.ret (H : WF N np ns nw) {w : Nat} (hw : w < nw) (h : sWhyRet N nw w = 0) : WF (sRet N w) np ns nw := by
  obtain ⟨h3, h5, hF⟩ := whyRet1 h
  obtain ⟨h1, h2⟩ := H.a1 hw h3
  obtain ⟨h6, h7⟩ := H.a7 hw h3 h5
  have b1 := H.p.2
  have b2 := H.s.2
  obtain ⟨c, c1, c2, c3⟩ := notFull H h7 hF
  obtain ⟨t, t1, t2⟩ := H.st h7
  obtain ⟨t', t3, t4⟩ := starDn t1 t2
  unfold sRet
  rw [sGo_mv]
  refine WF.star ?_ (by omega) t3 t4
  refine (H.pay (s := sE N w) (p := aT N w) (by omega) (by omega)).mv hw (Or.inr (by rw [wN_pay (by omega) (by omega)]; exact h3)) (Or.inl ⟨rfl, sE N w, c, h7, rfl, ?_, c2, ?_⟩)
  · rw [cap_pay (by omega) (by omega) (by omega)]; exact c1
  · rw [sto_pay (by omega) (by omega)]; exact c3
theorem whyGr1 {w : Nat} (h : sWhyGr N w = 0) : wN N w 3 = 1 := by
  unfold sWhyGr at h
  by_cases h3 : wN N w 3 = 1
  · exact h3
  · rw [if_neg h3] at h; exact absurd h (by decide)
theorem WF.gr (H : WF N np ns nw) {w : Nat} (hw : w < nw) (h3 : wN N w 3 = 1) : WF (sGr N w) np ns nw := by
  obtain ⟨h1, h2⟩ := H.a1 hw h3
  have b1 := H.p.2
  unfold sGr
  rw [sGo_mv]
  exact (H.free (Or.inl ⟨aT N w, 3, by omega, by decide, rfl⟩)).mv hw (Or.inr (by rw [wN_n (by omega)]; exact h3)) (Or.inr (Or.inr (Or.inl rfl)))
/-! the days -/
def sCel (N : Nat → Int32) (nw p : Nat) : Nat → Int32 := if pN N p 1 = sDay N then (if pN N p 5 = 1 then (match sGreat (upd N (11 + 14 * p + 2) (pN N p 2 + 1)) nw p with
  | none => upd N (11 + 14 * p + 2) (pN N p 2 + 1)
  | some w => sGr (upd N (11 + 14 * p + 2) (pN N p 2 + 1)) w) else upd N (11 + 14 * p + 2) (pN N p 2 + 1)) else N
theorem r_celebrates (H : WF N np ns nw) {p : Nat} (hp : p < np) : f_Y_celebrates (sM I m N) m (nI p) = some (sM I m (sCel N nw p)) ∧ WF (sCel N nw p) np ns nw := by
  have b1 := H.p.2
  unfold sCel
  by_cases h1 : pN N p 1 = sDay N
  · have H2 := H.free (j := 11 + 14 * p + 2) (x := pN N p 2 + 1) (Or.inl ⟨p, 2, by omega, by decide, rfl⟩)
    rw [if_pos h1]
    have hd := r_today (I := I) (m := m) H
    by_cases h5 : pN N p 5 = 1
    · rw [if_pos h5]
      have hg := r_greatestGrant (I := I) (m := m) H2 (p := p)
      have e5 : pN (upd N (11 + 14 * p + 2) (pN N p 2 + 1)) p 5 = pN N p 5 := pN_n (by omega)
      cases hz : sGreat (upd N (11 + 14 * p + 2) (pN N p 2 + 1)) nw p with
      | none =>
        refine ⟨?_, H2⟩
        simp (disch := omega) only [f_Y_celebrates, h1, hd, e5, h5, hg, hz, oI, l_Y_celebrates_47, b1_so, b2_so, b3_so, e1_ok, e1_er, e2_ok, e2_er, e3_ok, e3_er, bI_so, bI_so', bI_0, bI_1, cB_bI, nI_s1, nJ_et, nJ_ef, nJ_lt, nJ_lf, pu_sM, sM_s, if_true, if_false, ite_self, Nat.lt_irrefl, Int32.zero_add, Int32.add_zero, not_true_eq_false, not_false_eq_true, rfw0, rfw1, rfw2, rfw3, rfw4, rfw5, rfw6, rfw7, rfp0, rfp1, rfp2, rfp3, rfp4, rfp5, rfp6, rfs0, rfs1, rfs2, rfs3, rwp0, rwp1, rwp2, rwp3, rwp4, rwp5, rwp6, rwp7, rpp0, rpp1, rpp2, rpp3, rpp4, rpp5, rpp6, rsp0, rsp1, rsp2, rsp3]
      | some w =>
        obtain ⟨g1, g2⟩ := sBest_in hz
        have hr := r_grants (I := I) (m := m) H2 g1 g2.1.1
        refine ⟨?_, H2.gr g1 g2.1.1⟩
        have b3 := H.w.2
        simp (disch := omega) only [f_Y_celebrates, h1, hd, e5, h5, hg, hz, oI, oI_n, l_Y_celebrates_47, hr, b1_so, b2_so, b3_so, e1_ok, e1_er, e2_ok, e2_er, e3_ok, e3_er, bI_so, bI_so', bI_0, bI_1, cB_bI, nI_s1, nJ_et, nJ_ef, nJ_lt, nJ_lf, pu_sM, sM_s, if_true, if_false, ite_self, Nat.lt_irrefl, Int32.zero_add, Int32.add_zero, not_true_eq_false, not_false_eq_true, rfw0, rfw1, rfw2, rfw3, rfw4, rfw5, rfw6, rfw7, rfp0, rfp1, rfp2, rfp3, rfp4, rfp5, rfp6, rfs0, rfs1, rfs2, rfs3, rwp0, rwp1, rwp2, rwp3, rwp4, rwp5, rwp6, rwp7, rpp0, rpp1, rpp2, rpp3, rpp4, rpp5, rpp6, rsp0, rsp1, rsp2, rsp3]
    · rw [if_neg h5]
      refine ⟨?_, H2⟩
      have e5 : pN (upd N (11 + 14 * p + 2) (pN N p 2 + 1)) p 5 = pN N p 5 := pN_n (by omega)
      simp (disch := omega) only [f_Y_celebrates, h1, hd, e5, h5, l_Y_celebrates_47, b1_so, b2_so, b3_so, e1_ok, e1_er, e2_ok, e2_er, e3_ok, e3_er, bI_so, bI_so', bI_0, bI_1, cB_bI, nI_s1, nJ_et, nJ_ef, nJ_lt, nJ_lf, pu_sM, sM_s, if_true, if_false, ite_self, Nat.lt_irrefl, Int32.zero_add, Int32.add_zero, not_true_eq_false, not_false_eq_true, rfw0, rfw1, rfw2, rfw3, rfw4, rfw5, rfw6, rfw7, rfp0, rfp1, rfp2, rfp3, rfp4, rfp5, rfp6, rfs0, rfs1, rfs2, rfs3, rwp0, rwp1, rwp2, rwp3, rwp4, rwp5, rwp6, rwp7, rpp0, rpp1, rpp2, rpp3, rpp4, rpp5, rpp6, rsp0, rsp1, rsp2, rsp3]
  · rw [if_neg h1]
    refine ⟨?_, H⟩
    simp (disch := omega) only [f_Y_celebrates, h1, r_today H, b1_so, b2_so, b3_so, e1_ok, e1_er, e2_ok, e2_er, e3_ok, e3_er, bI_so, bI_so', bI_0, bI_1, cB_bI, nI_s1, nJ_et, nJ_ef, nJ_lt, nJ_lf, pu_sM, sM_s, if_true, if_false, ite_self, Nat.lt_irrefl, Int32.zero_add, Int32.add_zero, not_true_eq_false, not_false_eq_true, rfw0, rfw1, rfw2, rfw3, rfw4, rfw5, rfw6, rfw7, rfp0, rfp1, rfp2, rfp3, rfp4, rfp5, rfp6, rfs0, rfs1, rfs2, rfs3, rwp0, rwp1, rwp2, rwp3, rwp4, rwp5, rwp6, rwp7, rpp0, rpp1, rpp2, rpp3, rpp4, rpp5, rpp6, rsp0, rsp1, rsp2, rsp3]
def sShop (N : Nat → Int32) (nw p : Nat) : Nat → Int32 := if pN N p 4 ≤ 0 then N else match sCheap N nw p (pN N p 4) with
  | none => N
  | some w => sBuy N p w
theorem r_shops (H : WF N np ns nw) {p : Nat} (hp : p < np) : f_Y_shops (sM I m N) m (nI p) = some (sM I m (sShop N nw p)) ∧ WF (sShop N nw p) np ns nw := by
  have b1 := H.p.2
  have b3 := H.w.2
  unfold sShop
  by_cases h1 : pN N p 4 ≤ 0
  · rw [if_pos h1]
    refine ⟨?_, H⟩
    simp (disch := omega) only [f_Y_shops, h1, l_Y_shops_24, b1_so, b2_so, b3_so, e1_ok, e1_er, e2_ok, e2_er, e3_ok, e3_er, bI_so, bI_so', bI_0, bI_1, cB_bI, nI_s1, nJ_et, nJ_ef, nJ_lt, nJ_lf, pu_sM, sM_s, if_true, if_false, ite_self, Nat.lt_irrefl, Int32.zero_add, Int32.add_zero, not_true_eq_false, not_false_eq_true, rfw0, rfw1, rfw2, rfw3, rfw4, rfw5, rfw6, rfw7, rfp0, rfp1, rfp2, rfp3, rfp4, rfp5, rfp6, rfs0, rfs1, rfs2, rfs3, rwp0, rwp1, rwp2, rwp3, rwp4, rwp5, rwp6, rwp7, rpp0, rpp1, rpp2, rpp3, rpp4, rpp5, rpp6, rsp0, rsp1, rsp2, rsp3]
  · rw [if_neg h1]
    have hg := r_cheapest (I := I) (m := m) H (p := p) (lim := pN N p 4) (by omega)
    cases hz : sCheap N nw p (pN N p 4) with
    | none =>
      refine ⟨?_, H⟩
      simp (disch := omega) only [f_Y_shops, h1, l_Y_shops_24, hg, hz, oI, b1_so, b2_so, b3_so, e1_ok, e1_er, e2_ok, e2_er, e3_ok, e3_er, bI_so, bI_so', bI_0, bI_1, cB_bI, nI_s1, nJ_et, nJ_ef, nJ_lt, nJ_lf, pu_sM, sM_s, if_true, if_false, ite_self, Nat.lt_irrefl, Int32.zero_add, Int32.add_zero, not_true_eq_false, not_false_eq_true, rfw0, rfw1, rfw2, rfw3, rfw4, rfw5, rfw6, rfw7, rfp0, rfp1, rfp2, rfp3, rfp4, rfp5, rfp6, rfs0, rfs1, rfs2, rfs3, rwp0, rwp1, rwp2, rwp3, rwp4, rwp5, rwp6, rwp7, rpp0, rpp1, rpp2, rpp3, rpp4, rpp5, rpp6, rsp0, rsp1, rsp2, rsp3]
    | some w =>
      obtain ⟨g1, g2⟩ := sBest_in hz
      have hr := r_buys (I := I) (m := m) H (p := p) g1 (whyBuy0 g2.1) (by omega)
      refine ⟨?_, H.buy g1 hp g2.1⟩
      simp (disch := omega) only [f_Y_shops, h1, l_Y_shops_24, hg, hz, oI, oI_n, hr, b1_so, b2_so, b3_so, e1_ok, e1_er, e2_ok, e2_er, e3_ok, e3_er, bI_so, bI_so', bI_0, bI_1, cB_bI, nI_s1, nJ_et, nJ_ef, nJ_lt, nJ_lf, pu_sM, sM_s, if_true, if_false, ite_self, Nat.lt_irrefl, Int32.zero_add, Int32.add_zero, not_true_eq_false, not_false_eq_true, rfw0, rfw1, rfw2, rfw3, rfw4, rfw5, rfw6, rfw7, rfp0, rfp1, rfp2, rfp3, rfp4, rfp5, rfp6, rfs0, rfs1, rfs2, rfs3, rwp0, rwp1, rwp2, rwp3, rwp4, rwp5, rwp6, rwp7, rpp0, rpp1, rpp2, rpp3, rpp4, rpp5, rpp6, rsp0, rsp1, rsp2, rsp3]
end RF
