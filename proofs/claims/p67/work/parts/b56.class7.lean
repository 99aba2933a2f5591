section CG
variable {I : Mem} {q np ns nw : Nat} {N : Nat → Int32}
theorem g_it {g : Nat → (Nat → Int32) → Nat → Int32} (V : (Nat → Int32) → Prop) {n nw : Nat} : ∀ {N : Nat → Int32}, V N → (∀ i M, i < n → V M → V (g i M) ∧ sGrN (g i M) nw = sGrN M nw) → V (sIt g n N) ∧ sGrN (sIt g n N) nw = sGrN N nw := by
  induction n with
  | zero => intro N h _; exact ⟨h, rfl⟩
  | succ n ih =>
    intro N h hs
    obtain ⟨a1, a2⟩ := ih h (fun i M hi => hs i M (by omega))
    obtain ⟨c1, c2⟩ := hs n _ (Nat.lt_succ_self n) a1
    exact ⟨c1, c2.trans a2⟩
theorem g_get (H : WF N np ns nw) {p w : Nat} {c : Int32} (hw : w < nw) (h3 : wN N w 3 = 0) (hp : p < np) : sGrN (sGet N p w c) nw = sGrN N nw := by
  obtain ⟨h1, h2⟩ := H.a0 hw h3
  have b1 := H.p.2
  have b2 := H.s.2
  rw [sGet_mv, g_mv (by decide) (by rw [wN_pay (by omega) (by omega), h3]; decide), g_pay (by omega) (by omega)]
theorem g_buy (H : WF N np ns nw) {p w : Nat} (hw : w < nw) (h3 : wN N w 3 = 0) (hp : p < np) : sGrN (sBuy N p w) nw = sGrN N nw := by
  obtain ⟨h1, h2⟩ := H.a0 hw h3
  have b2 := H.s.2
  unfold sBuy
  rw [g_upd (Or.inl (by omega)), g_get H hw h3 hp]
theorem g_sell (H : WF N np ns nw) {s w : Nat} (hw : w < nw) (h3 : wN N w 3 = 1) (hs : s < ns) : sGrN (sSell N w s) nw = sGrN N nw := by
  obtain ⟨h1, h2⟩ := H.a1 hw h3
  have b1 := H.p.2
  have b2 := H.s.2
  unfold sSell
  rw [sGo_mv, g_mv (by decide) (by rw [wN_pay (by omega) (by omega), h3]; decide), g_pay (by omega) (by omega)]
theorem g_shop (H : WF N np ns nw) {p : Nat} (hp : p < np) : sGrN (sShop N nw p) nw = sGrN N nw := by
  unfold sShop
  split
  · rfl
  · cases hz : sCheap N nw p (pN N p 4) with
    | none => rfl
    | some w =>
      obtain ⟨g1, g2⟩ := sBest_in hz
      exact g_buy H g1 (whyBuy0 g2.1) hp
theorem g_bgo (H : WF N np ns nw) {p : Nat} : ∀ n, n ≤ nw → sGrN (sBgo N ns nw p n) nw = sGrN N nw := by
  intro n
  induction n with
  | zero => intro _; rfl
  | succ n ih =>
    intro hn
    by_cases hb : wN N (nw - (n + 1)) 3 = 1 ∧ wN N (nw - (n + 1)) 4 = nI p
    · have e : sBgo N ns nw p (n + 1) = (match sBarg N ns nw (nw - (n + 1)) with
        | none => sBgo N ns nw p n
        | some N' => N') := if_pos hb
      rw [e]
      unfold sBarg
      cases hz : sBestOff N ns nw (nw - (n + 1)) with
      | none => exact ih (by omega)
      | some s =>
        obtain ⟨g1, g2⟩ := sBest_in hz
        dsimp only
        by_cases hv : sLeast N (nw - (n + 1)) < sOff N (nw - (n + 1)) s
        · rw [if_pos hv]
          exact g_sell H (by omega) hb.1 g1
        · rw [if_neg hv]
          exact ih (by omega)
    · have e : sBgo N ns nw p (n + 1) = sBgo N ns nw p n := if_neg hb
      rw [e]
      exact ih (by omega)
theorem g_auc (H : WF N np ns nw) {s : Nat} : sGrN (sAuc N np nw s) nw = sGrN N nw := by
  unfold sAuc
  cases hz : sDear N nw s with
  | none => rfl
  | some w =>
    obtain ⟨g1, g2⟩ := sBest_in hz
    dsimp only
    cases hy : sBidder N np nw w with
    | none => rfl
    | some p =>
      obtain ⟨k1, k2⟩ := sBest_in hy
      dsimp only
      by_cases h9 : (if 1 < sVal N w / 2 then sVal N w / 2 else 1) ≤ sBid N p w
      · rw [if_pos h9]; exact g_get H g1 g2.1 k1
      · rw [if_neg h9]
theorem g_wear {w : Nat} : sGrN (sWear N w) nw = sGrN N nw := by
  unfold sWear
  by_cases h : wN N w 3 = 1 ∨ wN N w 3 = 0
  · rw [if_pos h]
    by_cases h10 : wN N w 2 + 1 = 10
    · rw [if_pos h10, sGo_mv, g_mv (by decide) (by rw [wN_n (by omega)]; exact ne2 h.symm), g_upd (Or.inr ⟨w, 2, rfl, by decide, by decide⟩)]
    · rw [if_neg h10, g_upd (Or.inr ⟨w, 2, rfl, by decide, by decide⟩)]
  · rw [if_neg h]
theorem g_P6 (H : WF N np ns nw) : sGrN (sP6 N nw) nw = sGrN N nw := by
  unfold sP6 sP7
  by_cases h : sDay (upd N 1 (N 1 + 1)) = 0
  · rw [if_pos h, (g_it (fun _ => True) (n := nw) (nw := nw) (N := upd N 1 (N 1 + 1)) trivial (fun i M _ _ => ⟨trivial, g_wear⟩)).2, g_upd (Or.inl (by decide))]
  · rw [if_neg h, g_upd (Or.inl (by decide))]
theorem g_P5 (H : WF N np ns nw) : sGrN (sP5 N np ns nw) nw = sGrN N nw := by
  have b1 := H.p.2
  have b2 := H.s.2
  unfold sP5
  by_cases h : 0 < ns ∧ sDay N = N 9
  · rw [if_pos h]
    have hg := g_it (g := fun p N => sTax N ns p) (fun M => WF M np ns nw) (n := np) (nw := nw) (N := N) H (fun i M hi hM => by
      have := sPoor_le (N := M) (ns - 1)
      exact ⟨(r_paysTax (I := fun _ _ => 0) (m := 0) hM h.1 hi).2, g_pay (by omega) (by omega)⟩)
    rw [g_P6 hg.1, hg.2]
  · rw [if_neg h, g_P6 H]
theorem g_P4 (H : WF N np ns nw) : sGrN (sP4 N np ns nw) nw = sGrN N nw := by
  unfold sP4
  by_cases h : sDay N = N 8
  · rw [if_pos h]
    have hg := g_it (g := fun s N => sAuc N np nw s) (fun M => WF M np ns nw) (n := ns) (nw := nw) (N := N) H (fun i M hi hM => ⟨(r_auctions (I := fun _ _ => 0) (m := 0) hM (s := i)).2, g_auc hM⟩)
    rw [g_P5 hg.1, hg.2]
  · rw [if_neg h, g_P5 H]
theorem g_P2 (H : WF N np ns nw) : sGrN (sP2 N np ns nw) nw = sGrN N nw := by
  unfold sP2 sP3
  have hg := g_it (g := fun p N => sShop N nw p) (fun M => WF M np ns nw) (n := np) (nw := nw) (N := N) H (fun i M hi hM => ⟨(r_shops (I := fun _ _ => 0) (m := 0) hM hi).2, g_shop hM hi⟩)
  have hg2 := g_it (g := fun p N => sBgOnce N ns nw p) (fun M => WF M np ns nw) (n := np) (nw := nw) (N := sIt (fun p N => sShop N nw p) np N) hg.1 (fun i M hi hM => ⟨(r_bargainsOnce (I := fun _ _ => 0) (m := 0) hM hi).2, by
    unfold sBgOnce
    split
    · rfl
    · exact g_bgo hM nw (Nat.le_refl _)⟩)
  rw [g_P4 hg2.1, hg2.2, hg.2]
/-- the end of the day, from the taxes on -/
theorem h_p39 (R : RM I q N np ns nw) : ∃ I', (∀ (c4 : Mem → Nat → Int32 → Int32 → Int32 → Option (Int32 × Mem)) (x1 x2 x3 : Int32), l_X3_simulate_39 c4 I q x1 x2 x3 = c4 I' q x1 x2 (x3 + 1)) ∧ RM I' q (sP5 N np ns nw) np ns nw ∧ Fr I I' q np nw := by
  have hd := h_today R
  unfold sP5
  by_cases h : sDay N = N 9
  · by_cases h0 : 0 < ns
    · obtain ⟨J, j1, j2, j3⟩ := h_taxes R h0
      obtain ⟨J2, k1, k2, k3⟩ := h_endDay j2
      rw [if_pos ⟨h0, h⟩]
      refine ⟨J2, fun c4 x1 x2 x3 => ?_, k2, j3.trans k3⟩
      simp (disch := omega) only [l_X3_simulate_39, hd, R.h11, h, j1, l_X3_simulate_54, k1, b1_so, b2_so, b3_so, e1_ok, e1_er, e2_ok, e2_er, e3_ok, e3_er, bI_so, bI_so', bI_0, bI_1, cB_bI, nI_s1, nJ_et, nJ_ef, nJ_lt, nJ_lf, pu_sM, sM_s, if_true, if_false, ite_self, Nat.lt_irrefl, Int32.zero_add, Int32.add_zero, not_true_eq_false, not_false_eq_true, rfw0, rfw1, rfw2, rfw3, rfw4, rfw5, rfw6, rfw7, rfp0, rfp1, rfp2, rfp3, rfp4, rfp5, rfp6, rfs0, rfs1, rfs2, rfs3, rwp0, rwp1, rwp2, rwp3, rwp4, rwp5, rwp6, rwp7, rpp0, rpp1, rpp2, rpp3, rpp4, rpp5, rpp6, rsp0, rsp1, rsp2, rsp3, ixn16, ixn6, ixn5]
    · obtain ⟨J2, k1, k2, k3⟩ := h_endDay R
      rw [if_neg (fun h9 => h0 h9.1)]
      refine ⟨J2, fun c4 x1 x2 x3 => ?_, k2, k3⟩
      simp (disch := omega) only [l_X3_simulate_39, hd, R.h11, h, h_taxes0 R h0, l_X3_simulate_54, k1, b1_so, b2_so, b3_so, e1_ok, e1_er, e2_ok, e2_er, e3_ok, e3_er, bI_so, bI_so', bI_0, bI_1, cB_bI, nI_s1, nJ_et, nJ_ef, nJ_lt, nJ_lf, pu_sM, sM_s, if_true, if_false, ite_self, Nat.lt_irrefl, Int32.zero_add, Int32.add_zero, not_true_eq_false, not_false_eq_true, rfw0, rfw1, rfw2, rfw3, rfw4, rfw5, rfw6, rfw7, rfp0, rfp1, rfp2, rfp3, rfp4, rfp5, rfp6, rfs0, rfs1, rfs2, rfs3, rwp0, rwp1, rwp2, rwp3, rwp4, rwp5, rwp6, rwp7, rpp0, rpp1, rpp2, rpp3, rpp4, rpp5, rpp6, rsp0, rsp1, rsp2, rsp3, ixn16, ixn6, ixn5]
  · obtain ⟨J2, k1, k2, k3⟩ := h_endDay R
    rw [if_neg (fun h9 => h h9.2)]
    refine ⟨J2, fun c4 x1 x2 x3 => ?_, k2, k3⟩
    simp (disch := omega) only [l_X3_simulate_39, hd, R.h11, h, l_X3_simulate_54, k1, b1_so, b2_so, b3_so, e1_ok, e1_er, e2_ok, e2_er, e3_ok, e3_er, bI_so, bI_so', bI_0, bI_1, cB_bI, nI_s1, nJ_et, nJ_ef, nJ_lt, nJ_lf, pu_sM, sM_s, if_true, if_false, ite_self, Nat.lt_irrefl, Int32.zero_add, Int32.add_zero, not_true_eq_false, not_false_eq_true, rfw0, rfw1, rfw2, rfw3, rfw4, rfw5, rfw6, rfw7, rfp0, rfp1, rfp2, rfp3, rfp4, rfp5, rfp6, rfs0, rfs1, rfs2, rfs3, rwp0, rwp1, rwp2, rwp3, rwp4, rwp5, rwp6, rwp7, rpp0, rpp1, rpp2, rpp3, rpp4, rpp5, rpp6, rsp0, rsp1, rsp2, rsp3, ixn16, ixn6, ixn5]
theorem h_simulate (R : RM I q N np ns nw) {d : Nat} (hd : d < 1000) : ∃ g I', f_X3_simulate I q (nI d) = some (nI g, I') ∧ RM I' q (sDays N np ns nw d) np ns nw ∧ Fr I I' q np nw ∧ sGrN (sDays N np ns nw d) nw = sGrN N nw + g := by
  have hX := ex_loop (fun f (z : Mem × Int32 × Int32) => l_X3_simulate_4 f z.1 q (nI d) z.2.1 z.2.2)
    (fun i z => z.2.2 = nI i ∧ RM z.1 q (sDays N np ns nw i) np ns nw ∧ Fr I z.1 q np nw ∧ ∃ g, z.2.1 = nI g ∧ sGrN (sDays N np ns nw i) nw = sGrN N nw + g) d
    (fun v => ∃ g I', v = some (nI g, I') ∧ RM I' q (sDays N np ns nw d) np ns nw ∧ Fr I I' q np nw ∧ sGrN (sDays N np ns nw d) nw = sGrN N nw + g)
    (fun i hi z hz => ?_) (fun z hz => ?_) (FU_up (n := d) (by omega)) (I, 0, 0) ⟨rfl, R, Fr.refl, 0, rfl, rfl⟩
  · obtain ⟨v, ⟨g, I', rfl, h1, h2, h3⟩, h4⟩ := hX
    exact ⟨g, I', h4, h1, h2, h3⟩
  · obtain ⟨J, x1, x2⟩ := z
    obtain ⟨e2, RJ, hf, g, e1, hg⟩ := hz
    dsimp only at e1 e2 RJ hf
    subst e1
    subst e2
    have eI : sDays N np ns nw (i + 1) = sPass (sDays N np ns nw i) np ns nw := rfl
    rw [eI]
    generalize sDays N np ns nw i = M at RJ hg ⊢
    unfold sPass
    obtain ⟨g2, J1, a1, a2, a3, a4⟩ := h_celebrate RJ
    have gP := g_P2 a2.f
    unfold sP2 at gP ⊢
    obtain ⟨J2, c1, c2, c3⟩ := h_shop a2
    unfold sP3 at gP ⊢
    obtain ⟨J3, d1, d2, d3⟩ := h_bargain c2
    unfold sP4 at gP ⊢
    have ht := h_today d2
    have f3 : Fr I J3 q np nw := hf.trans (a3.trans (c3.trans d3))
    have en : nI g + nI g2 = nI (g + g2) := nI_add g g2
    by_cases h : sDay (sIt (fun p N => sBgOnce N ns nw p) np (sIt (fun p N => sShop N nw p) np (sIt (fun p N => sCel N nw p) np M))) = (sIt (fun p N => sBgOnce N ns nw p) np (sIt (fun p N => sShop N nw p) np (sIt (fun p N => sCel N nw p) np M))) 8
    · rw [if_pos h] at gP ⊢
      obtain ⟨J4, k1, k2, k3⟩ := h_holdAuctions d2
      obtain ⟨J5, m1, m2, m3⟩ := h_p39 k2
      refine ⟨(J5, nI (g + g2), nI (i + 1)), ⟨rfl, m2, f3.trans (k3.trans m3), g + g2, rfl, ?_⟩, fun f => ?_⟩
      · rw [gP, a4, hg]; omega
      · simp (disch := omega) only [l_X3_simulate_4, a1, c1, d1, ht, d2.h10, h, k1, m1, en, b1_so, b2_so, b3_so, e1_ok, e1_er, e2_ok, e2_er, e3_ok, e3_er, bI_so, bI_so', bI_0, bI_1, cB_bI, nI_s1, nJ_et, nJ_ef, nJ_lt, nJ_lf, pu_sM, sM_s, if_true, if_false, ite_self, Nat.lt_irrefl, Int32.zero_add, Int32.add_zero, not_true_eq_false, not_false_eq_true, rfw0, rfw1, rfw2, rfw3, rfw4, rfw5, rfw6, rfw7, rfp0, rfp1, rfp2, rfp3, rfp4, rfp5, rfp6, rfs0, rfs1, rfs2, rfs3, rwp0, rwp1, rwp2, rwp3, rwp4, rwp5, rwp6, rwp7, rpp0, rpp1, rpp2, rpp3, rpp4, rpp5, rpp6, rsp0, rsp1, rsp2, rsp3, ixn16, ixn6, ixn5]
    · rw [if_neg h] at gP ⊢
      obtain ⟨J5, m1, m2, m3⟩ := h_p39 d2
      refine ⟨(J5, nI (g + g2), nI (i + 1)), ⟨rfl, m2, f3.trans m3, g + g2, rfl, ?_⟩, fun f => ?_⟩
      · rw [gP, a4, hg]; omega
      · simp (disch := omega) only [l_X3_simulate_4, a1, c1, d1, ht, d2.h10, h, m1, en, b1_so, b2_so, b3_so, e1_ok, e1_er, e2_ok, e2_er, e3_ok, e3_er, bI_so, bI_so', bI_0, bI_1, cB_bI, nI_s1, nJ_et, nJ_ef, nJ_lt, nJ_lf, pu_sM, sM_s, if_true, if_false, ite_self, Nat.lt_irrefl, Int32.zero_add, Int32.add_zero, not_true_eq_false, not_false_eq_true, rfw0, rfw1, rfw2, rfw3, rfw4, rfw5, rfw6, rfw7, rfp0, rfp1, rfp2, rfp3, rfp4, rfp5, rfp6, rfs0, rfs1, rfs2, rfs3, rwp0, rwp1, rwp2, rwp3, rwp4, rwp5, rwp6, rwp7, rpp0, rpp1, rpp2, rpp3, rpp4, rpp5, rpp6, rsp0, rsp1, rsp2, rsp3, ixn16, ixn6, ixn5]
  · obtain ⟨J, x1, x2⟩ := z
    obtain ⟨e2, RJ, hf, g, e1, hg⟩ := hz
    dsimp only at e1 e2 RJ hf
    subst e1
    subst e2
    refine ⟨_, ⟨g, J, rfl, RJ, hf, hg⟩, fun f => ?_⟩
    simp (disch := omega) only [l_X3_simulate_4, b1_so, b2_so, b3_so, e1_ok, e1_er, e2_ok, e2_er, e3_ok, e3_er, bI_so, bI_so', bI_0, bI_1, cB_bI, nI_s1, nJ_et, nJ_ef, nJ_lt, nJ_lf, pu_sM, sM_s, if_true, if_false, ite_self, Nat.lt_irrefl, Int32.zero_add, Int32.add_zero, not_true_eq_false, not_false_eq_true, rfw0, rfw1, rfw2, rfw3, rfw4, rfw5, rfw6, rfw7, rfp0, rfp1, rfp2, rfp3, rfp4, rfp5, rfp6, rfs0, rfs1, rfs2, rfs3, rwp0, rwp1, rwp2, rwp3, rwp4, rwp5, rwp6, rwp7, rpp0, rpp1, rpp2, rpp3, rpp4, rpp5, rpp6, rsp0, rsp1, rsp2, rsp3, ixn16, ixn6, ixn5]
end CG
