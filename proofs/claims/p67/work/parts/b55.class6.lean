section CF
variable {I : Mem} {q np ns nw : Nat} {N : Nat → Int32}
/-- the winner so far against the best bidder so far -/
def AV (N : Nat → Int32) (nw w i : Nat) (x3 x4 : Int32) : Prop := (∃ b, sBest (bP N nw) (bB N w) i = some b ∧ x3 = nI b ∧ x4 = sBid N b w ∧ 0 < sBid N b w) ∨ (x3 = -1 ∧ x4 = 0 ∧ (sBest (bP N nw) (bB N w) i = none ∨ ∃ b, sBest (bP N nw) (bB N w) i = some b ∧ sBid N b w ≤ 0))
theorem i_ltt {a b c : Int32} (h1 : a ≤ b) (h2 : b < c) : a < c := Int32.lt_of_le_of_lt h1 h2
theorem i_tlt {a b c : Int32} (h1 : a < b) (h2 : b ≤ c) : a < c := Int32.lt_of_lt_of_le h1 h2
theorem h_auctionOff (R : RM I q N np ns nw) {w : Nat} (hw : w < nw) (h3 : wN N w 3 = 0) : ∃ I', f_X3_auctionOff I q (nI w) = some I' ∧ RM I' q (match sBidder N np nw w with
    | none => N
    | some p => if (if 1 < sVal N w / 2 then sVal N w / 2 else 1) ≤ sBid N p w then sGet N p w (sBid N p w) else N) np ns nw ∧ Fr I I' q np nw := by
  have b1 := R.f.p.2
  have b3 := R.f.w.2
  have hX := ex_loop (fun f (z : Int32 × Int32 × Int32) => l_X3_auctionOff_18 f I q (nI w) (sVal N w) z.1 z.2.1 z.2.2)
    (fun i z => z.2.2 = nI i ∧ AV N nw w i z.1 z.2.1) np
    (fun v => ∃ I', v = some I' ∧ RM I' q (match sBidder N np nw w with
      | none => N
      | some p => if (if 1 < sVal N w / 2 then sVal N w / 2 else 1) ≤ sBid N p w then sGet N p w (sBid N p w) else N) np ns nw ∧ Fr I I' q np nw)
    (fun i hi z hz => ?_) (fun z hz => ?_) (FU_up (n := np) (by omega)) (-1, 0, 0) ⟨rfl, Or.inr ⟨rfl, rfl, Or.inl rfl⟩⟩
  · obtain ⟨v, ⟨I', rfl, h1, h2⟩, h4⟩ := hX
    refine ⟨I', ?_, h1, h2⟩
    have h5 : l_X3_auctionOff_18 FU I q (nI w) (sVal N w) (-1) 0 0 = some I' := h4
    simp (disch := omega) only [f_X3_auctionOff, h_worth R hw, h5, b1_so, b2_so, b3_so, e1_ok, e1_er, e2_ok, e2_er, e3_ok, e3_er, bI_so, bI_so', bI_0, bI_1, cB_bI, nI_s1, nJ_et, nJ_ef, nJ_lt, nJ_lf, pu_sM, sM_s, if_true, if_false, ite_self, Nat.lt_irrefl, Int32.zero_add, Int32.add_zero, not_true_eq_false, not_false_eq_true, rfw0, rfw1, rfw2, rfw3, rfw4, rfw5, rfw6, rfw7, rfp0, rfp1, rfp2, rfp3, rfp4, rfp5, rfp6, rfs0, rfs1, rfs2, rfs3, rwp0, rwp1, rwp2, rwp3, rwp4, rwp5, rwp6, rwp7, rpp0, rpp1, rpp2, rpp3, rpp4, rpp5, rpp6, rsp0, rsp1, rsp2, rsp3, ixn16, ixn6, ixn5]
  · obtain ⟨x3, x4, x5⟩ := z
    obtain ⟨e5, hA⟩ := hz
    dsimp only at e5 hA
    subst e5
    have eb : (if sVal N w < pN N i 0 / 2 then sVal N w else pN N i 0 / 2) = sBid N i w := rfl
    have ho := h_ownedBy R (p := i) (by omega)
    have hol : (4 ≤ nI (sOwns N nw (nI i))) = (sOwns N nw (nI i) = 4) := by
      have h1 := (R.f.2.2.2.2.2 i hi).1
      rw [show (4 : Int32) = nI 4 from rfl, nJ_e (by decide) (by omega)]
      exact propext ⟨fun h => by omega, fun h => by omega⟩
    by_cases hl : sBid N i w ≤ x4
    · refine ⟨(x3, x4, nI (i + 1)), ⟨rfl, ?_⟩, fun f => ?_⟩
      · by_cases h4 : sOwns N nw (nI i) = 4
        · have e := sBest_no (P := bP N nw) (B := bB N w) (n := i) (fun h => h h4)
          unfold AV
          rw [e]
          exact hA
        · rcases hA with ⟨b, a1, a2, a3, a4⟩ | ⟨a1, a2, a3⟩
          · refine Or.inl ⟨b, sBest_ke (P := bP N nw) h4 a1 (fun h => h (by rw [← a3]; exact hl)), a2, a3, a4⟩
          · subst a2
            refine Or.inr ⟨a1, rfl, Or.inr ?_⟩
            rcases a3 with a3 | ⟨b, a3, a4⟩
            · exact ⟨i, sBest_fi (P := bP N nw) h4 a3, hl⟩
            · by_cases hv : sBid N i w ≤ sBid N b w
              · exact ⟨b, sBest_ke (P := bP N nw) h4 a3 (fun h => h hv), a4⟩
              · exact ⟨i, sBest_up (P := bP N nw) h4 a3 hv, hl⟩
      · simp (disch := omega) only [l_X3_auctionOff_18, R.h3, R.p1 hi, eb, hl, b1_so, b2_so, b3_so, e1_ok, e1_er, e2_ok, e2_er, e3_ok, e3_er, bI_so, bI_so', bI_0, bI_1, cB_bI, nI_s1, nJ_et, nJ_ef, nJ_lt, nJ_lf, pu_sM, sM_s, if_true, if_false, ite_self, Nat.lt_irrefl, Int32.zero_add, Int32.add_zero, not_true_eq_false, not_false_eq_true, rfw0, rfw1, rfw2, rfw3, rfw4, rfw5, rfw6, rfw7, rfp0, rfp1, rfp2, rfp3, rfp4, rfp5, rfp6, rfs0, rfs1, rfs2, rfs3, rwp0, rwp1, rwp2, rwp3, rwp4, rwp5, rwp6, rwp7, rpp0, rpp1, rpp2, rpp3, rpp4, rpp5, rpp6, rsp0, rsp1, rsp2, rsp3, ixn16, ixn6, ixn5]
    · by_cases h4 : sOwns N nw (nI i) = 4
      · refine ⟨(x3, x4, nI (i + 1)), ⟨rfl, ?_⟩, fun f => ?_⟩
        · have e := sBest_no (P := bP N nw) (B := bB N w) (n := i) (fun h => h h4)
          unfold AV
          rw [e]
          exact hA
        · have h4' : sCnt (fun w => wN N w 3 = 1 ∧ wN N w 4 = nI i) nw = 4 := h4
          rw [h4] at hol
          simp (disch := omega) only [l_X3_auctionOff_18, R.h3, R.p1 hi, eb, hl, ho, h4, hol, b1_so, b2_so, b3_so, e1_ok, e1_er, e2_ok, e2_er, e3_ok, e3_er, bI_so, bI_so', bI_0, bI_1, cB_bI, nI_s1, nJ_et, nJ_ef, nJ_lt, nJ_lf, pu_sM, sM_s, if_true, if_false, ite_self, Nat.lt_irrefl, Int32.zero_add, Int32.add_zero, not_true_eq_false, not_false_eq_true, rfw0, rfw1, rfw2, rfw3, rfw4, rfw5, rfw6, rfw7, rfp0, rfp1, rfp2, rfp3, rfp4, rfp5, rfp6, rfs0, rfs1, rfs2, rfs3, rwp0, rwp1, rwp2, rwp3, rwp4, rwp5, rwp6, rwp7, rpp0, rpp1, rpp2, rpp3, rpp4, rpp5, rpp6, rsp0, rsp1, rsp2, rsp3, ixn16, ixn6, ixn5]
      · refine ⟨(nI i, sBid N i w, nI (i + 1)), ⟨rfl, Or.inl ⟨i, ?_, rfl, rfl, ?_⟩⟩, fun f => ?_⟩
        · rcases hA with ⟨b, a1, a2, a3, a4⟩ | ⟨a1, a2, a3⟩
          · exact sBest_up (P := bP N nw) h4 a1 (fun h => hl (by rw [a3]; exact h))
          · subst a2
            rcases a3 with a3 | ⟨b, a3, a4⟩
            · exact sBest_fi (P := bP N nw) h4 a3
            · exact sBest_up (P := bP N nw) h4 a3 (fun h => hl (Int32.le_trans h a4))
        · rcases hA with ⟨b, a1, a2, a3, a4⟩ | ⟨a1, a2, a3⟩
          · rw [← a3] at a4
            exact Int32.lt_trans a4 (Int32.not_le.mp hl)
          · subst a2
            exact Int32.not_le.mp hl
        · simp (disch := omega) only [l_X3_auctionOff_18, R.h3, R.p1 hi, eb, hl, ho, hol, h4, b1_so, b2_so, b3_so, e1_ok, e1_er, e2_ok, e2_er, e3_ok, e3_er, bI_so, bI_so', bI_0, bI_1, cB_bI, nI_s1, nJ_et, nJ_ef, nJ_lt, nJ_lf, pu_sM, sM_s, if_true, if_false, ite_self, Nat.lt_irrefl, Int32.zero_add, Int32.add_zero, not_true_eq_false, not_false_eq_true, rfw0, rfw1, rfw2, rfw3, rfw4, rfw5, rfw6, rfw7, rfp0, rfp1, rfp2, rfp3, rfp4, rfp5, rfp6, rfs0, rfs1, rfs2, rfs3, rwp0, rwp1, rwp2, rwp3, rwp4, rwp5, rwp6, rwp7, rpp0, rpp1, rpp2, rpp3, rpp4, rpp5, rpp6, rsp0, rsp1, rsp2, rsp3, ixn16, ixn6, ixn5]
  · obtain ⟨x3, x4, x5⟩ := z
    obtain ⟨e5, hA⟩ := hz
    dsimp only at e5 hA
    subst e5
    have key : ∀ {x : Int32}, 0 < x → 1 ≤ x := fun {x} h => by
      rw [Int32.le_iff_toInt_le]
      rw [Int32.lt_iff_toInt_lt] at h
      have e1 : (1 : Int32).toInt = 1 := rfl
      have e0 : (0 : Int32).toInt = 0 := rfl
      omega
    rcases hA with ⟨b, a1, a2, a3, a4⟩ | ⟨a1, a2, a3⟩
    · obtain ⟨k1, k2⟩ := sBest_in a1
      subst a2
      subst a3
      have eB : sBidder N np nw w = some b := a1
      rw [eB]
      dsimp only
      have ho : sOwns N nw (nI b) < 4 := by
        have := (R.f.2.2.2.2.2 b k1).1
        have k3 : ¬ sOwns N nw (nI b) = 4 := k2
        omega
      by_cases hl : sBid N b w < sVal N w / 2
      · have hn : ¬ (if 1 < sVal N w / 2 then sVal N w / 2 else 1) ≤ sBid N b w := by
          rw [if_pos (i_ltt (key a4) hl)]
          exact Int32.not_le.mpr hl
        rw [if_neg hn]
        refine ⟨_, ⟨I, rfl, R, Fr.refl⟩, fun f => ?_⟩
        simp (disch := omega) only [l_X3_auctionOff_18, R.h3, oI_n, hl, b1_so, b2_so, b3_so, e1_ok, e1_er, e2_ok, e2_er, e3_ok, e3_er, bI_so, bI_so', bI_0, bI_1, cB_bI, nI_s1, nJ_et, nJ_ef, nJ_lt, nJ_lf, pu_sM, sM_s, if_true, if_false, ite_self, Nat.lt_irrefl, Int32.zero_add, Int32.add_zero, not_true_eq_false, not_false_eq_true, rfw0, rfw1, rfw2, rfw3, rfw4, rfw5, rfw6, rfw7, rfp0, rfp1, rfp2, rfp3, rfp4, rfp5, rfp6, rfs0, rfs1, rfs2, rfs3, rwp0, rwp1, rwp2, rwp3, rwp4, rwp5, rwp6, rwp7, rpp0, rpp1, rpp2, rpp3, rpp4, rpp5, rpp6, rsp0, rsp1, rsp2, rsp3, ixn16, ixn6, ixn5]
      · have hn : (if 1 < sVal N w / 2 then sVal N w / 2 else 1) ≤ sBid N b w := by
          by_cases h9 : 1 < sVal N w / 2
          · rw [if_pos h9]; exact Int32.not_lt.mp hl
          · rw [if_neg h9]; exact key a4
        rw [if_pos hn]
        obtain ⟨J, j1, j2, j3⟩ := h_handOver R (c := sBid N b w) k1 hw h3 ho
        refine ⟨_, ⟨J, rfl, j2, j3⟩, fun f => ?_⟩
        simp (disch := omega) only [l_X3_auctionOff_18, R.h3, oI_n, hl, j1, b1_so, b2_so, b3_so, e1_ok, e1_er, e2_ok, e2_er, e3_ok, e3_er, bI_so, bI_so', bI_0, bI_1, cB_bI, nI_s1, nJ_et, nJ_ef, nJ_lt, nJ_lf, pu_sM, sM_s, if_true, if_false, ite_self, Nat.lt_irrefl, Int32.zero_add, Int32.add_zero, not_true_eq_false, not_false_eq_true, rfw0, rfw1, rfw2, rfw3, rfw4, rfw5, rfw6, rfw7, rfp0, rfp1, rfp2, rfp3, rfp4, rfp5, rfp6, rfs0, rfs1, rfs2, rfs3, rwp0, rwp1, rwp2, rwp3, rwp4, rwp5, rwp6, rwp7, rpp0, rpp1, rpp2, rpp3, rpp4, rpp5, rpp6, rsp0, rsp1, rsp2, rsp3, ixn16, ixn6, ixn5]
    · subst a1
      subst a2
      have hN : (match sBidder N np nw w with
        | none => N
        | some p => if (if 1 < sVal N w / 2 then sVal N w / 2 else 1) ≤ sBid N p w then sGet N p w (sBid N p w) else N) = N := by
        rcases a3 with a3 | ⟨b, a3, a4⟩
        · have eB : sBidder N np nw w = none := a3
          rw [eB]
        · have eB : sBidder N np nw w = some b := a3
          rw [eB]
          refine if_neg (fun h => ?_)
          have h1 : (1 : Int32) ≤ (if 1 < sVal N w / 2 then sVal N w / 2 else 1) := by
            by_cases h9 : 1 < sVal N w / 2
            · rw [if_pos h9]; exact Int32.le_of_lt h9
            · rw [if_neg h9]; exact Int32.le_refl _
          exact absurd (Int32.le_trans h1 (Int32.le_trans h a4)) (by decide)
      rw [hN]
      refine ⟨_, ⟨I, rfl, R, Fr.refl⟩, fun f => ?_⟩
      simp (disch := omega) only [l_X3_auctionOff_18, R.h3, b1_so, b2_so, b3_so, e1_ok, e1_er, e2_ok, e2_er, e3_ok, e3_er, bI_so, bI_so', bI_0, bI_1, cB_bI, nI_s1, nJ_et, nJ_ef, nJ_lt, nJ_lf, pu_sM, sM_s, if_true, if_false, ite_self, Nat.lt_irrefl, Int32.zero_add, Int32.add_zero, not_true_eq_false, not_false_eq_true, rfw0, rfw1, rfw2, rfw3, rfw4, rfw5, rfw6, rfw7, rfp0, rfp1, rfp2, rfp3, rfp4, rfp5, rfp6, rfs0, rfs1, rfs2, rfs3, rwp0, rwp1, rwp2, rwp3, rwp4, rwp5, rwp6, rwp7, rpp0, rpp1, rpp2, rpp3, rpp4, rpp5, rpp6, rsp0, rsp1, rsp2, rsp3, ixn16, ixn6, ixn5]
theorem h_holdAuctions (R : RM I q N np ns nw) : ∃ I', f_X3_holdAuctions I q = some I' ∧ RM I' q (sIt (fun s N => sAuc N np nw s) ns N) np ns nw ∧ Fr I I' q np nw := by
  have b2 := R.f.s.2
  have b3 := R.f.w.2
  have hX := ex_loop (fun f (z : Mem × Int32) => l_X3_holdAuctions_2 f z.1 q z.2)
    (fun i z => z.2 = nI i ∧ RM z.1 q (sIt (fun s N => sAuc N np nw s) i N) np ns nw ∧ Fr I z.1 q np nw) ns
    (fun v => ∃ I', v = some I' ∧ RM I' q (sIt (fun s N => sAuc N np nw s) ns N) np ns nw ∧ Fr I I' q np nw)
    (fun i hi z hz => ?_) (fun z hz => ?_) (FU_up (n := ns) (by omega)) (I, 0) ⟨rfl, R, Fr.refl⟩
  · obtain ⟨v, ⟨I', rfl, h1, h2⟩, h4⟩ := hX
    exact ⟨I', h4, h1, h2⟩
  · obtain ⟨J, x2⟩ := z
    obtain ⟨e2, RJ, hf⟩ := hz
    dsimp only at e2 RJ hf
    subst e2
    have eI : sIt (fun s N => sAuc N np nw s) (i + 1) N = sAuc (sIt (fun s N => sAuc N np nw s) i N) np nw i := rfl
    rw [eI]
    generalize sIt (fun s N => sAuc N np nw s) i N = M at RJ ⊢
    unfold sAuc
    have hd := h_dearest RJ (s := i) (by omega)
    cases hz : sDear M nw i with
    | none =>
      rw [hz] at hd
      refine ⟨(J, nI (i + 1)), ⟨rfl, RJ, hf⟩, fun f => ?_⟩
      simp (disch := omega) only [l_X3_holdAuctions_2, RJ.h4, hd, oI, b1_so, b2_so, b3_so, e1_ok, e1_er, e2_ok, e2_er, e3_ok, e3_er, bI_so, bI_so', bI_0, bI_1, cB_bI, nI_s1, nJ_et, nJ_ef, nJ_lt, nJ_lf, pu_sM, sM_s, if_true, if_false, ite_self, Nat.lt_irrefl, Int32.zero_add, Int32.add_zero, not_true_eq_false, not_false_eq_true, rfw0, rfw1, rfw2, rfw3, rfw4, rfw5, rfw6, rfw7, rfp0, rfp1, rfp2, rfp3, rfp4, rfp5, rfp6, rfs0, rfs1, rfs2, rfs3, rwp0, rwp1, rwp2, rwp3, rwp4, rwp5, rwp6, rwp7, rpp0, rpp1, rpp2, rpp3, rpp4, rpp5, rpp6, rsp0, rsp1, rsp2, rsp3, ixn16, ixn6, ixn5]
    | some w =>
      rw [hz] at hd
      obtain ⟨g1, g2⟩ := sBest_in hz
      obtain ⟨J2, k1, k2, k3⟩ := h_auctionOff RJ g1 g2.1
      refine ⟨(J2, nI (i + 1)), ⟨rfl, k2, hf.trans k3⟩, fun f => ?_⟩
      simp (disch := omega) only [l_X3_holdAuctions_2, RJ.h4, hd, oI, oI_n, k1, b1_so, b2_so, b3_so, e1_ok, e1_er, e2_ok, e2_er, e3_ok, e3_er, bI_so, bI_so', bI_0, bI_1, cB_bI, nI_s1, nJ_et, nJ_ef, nJ_lt, nJ_lf, pu_sM, sM_s, if_true, if_false, ite_self, Nat.lt_irrefl, Int32.zero_add, Int32.add_zero, not_true_eq_false, not_false_eq_true, rfw0, rfw1, rfw2, rfw3, rfw4, rfw5, rfw6, rfw7, rfp0, rfp1, rfp2, rfp3, rfp4, rfp5, rfp6, rfs0, rfs1, rfs2, rfs3, rwp0, rwp1, rwp2, rwp3, rwp4, rwp5, rwp6, rwp7, rpp0, rpp1, rpp2, rpp3, rpp4, rpp5, rpp6, rsp0, rsp1, rsp2, rsp3, ixn16, ixn6, ixn5]
  · obtain ⟨J, x2⟩ := z
    obtain ⟨e2, RJ, hf⟩ := hz
    dsimp only at e2 RJ hf
    subst e2
    refine ⟨_, ⟨J, rfl, RJ, hf⟩, fun f => ?_⟩
    simp (disch := omega) only [l_X3_holdAuctions_2, RJ.h4, b1_so, b2_so, b3_so, e1_ok, e1_er, e2_ok, e2_er, e3_ok, e3_er, bI_so, bI_so', bI_0, bI_1, cB_bI, nI_s1, nJ_et, nJ_ef, nJ_lt, nJ_lf, pu_sM, sM_s, if_true, if_false, ite_self, Nat.lt_irrefl, Int32.zero_add, Int32.add_zero, not_true_eq_false, not_false_eq_true, rfw0, rfw1, rfw2, rfw3, rfw4, rfw5, rfw6, rfw7, rfp0, rfp1, rfp2, rfp3, rfp4, rfp5, rfp6, rfs0, rfs1, rfs2, rfs3, rwp0, rwp1, rwp2, rwp3, rwp4, rwp5, rwp6, rwp7, rpp0, rpp1, rpp2, rpp3, rpp4, rpp5, rpp6, rsp0, rsp1, rsp2, rsp3, ixn16, ixn6, ixn5]
theorem poor_pu {p : Nat} {x : Int32} : ∀ n, n < 5 → p < 6 → sPoor (upd N (11 + 14 * p + 0) x) n = sPoor N n
  | 0, _, _ => rfl
  | n + 1, h, hp => by
    have h1 : sPoor (upd N (11 + 14 * p + 0) x) n = sPoor N n := poor_pu n (by omega) hp
    have h2 := sPoor_le (N := N) n
    unfold sPoor
    rw [h1, sN_n (by omega), sN_n (by omega)]
theorem h_taxes (R : RM I q N np ns nw) (h0 : 0 < ns) : ∃ I', f_X3_collectTaxes I q = some I' ∧ RM I' q (sIt (fun p N => sTax N ns p) np N) np ns nw ∧ Fr I I' q np nw := by
  have b1 := R.f.p.2
  have b2 := R.f.s.2
  have hX := ex_loop (fun f (z : Mem × Int32) => l_X3_collectTaxes_2 f z.1 q z.2)
    (fun i z => z.2 = nI i ∧ RM z.1 q (sIt (fun p N => sTax N ns p) i N) np ns nw ∧ Fr I z.1 q np nw) np
    (fun v => ∃ I', v = some I' ∧ RM I' q (sIt (fun p N => sTax N ns p) np N) np ns nw ∧ Fr I I' q np nw)
    (fun i hi z hz => ?_) (fun z hz => ?_) (FU_up (n := np) (by omega)) (I, 0) ⟨rfl, R, Fr.refl⟩
  · obtain ⟨v, ⟨I', rfl, h1, h2⟩, h4⟩ := hX
    exact ⟨I', h4, h1, h2⟩
  · obtain ⟨J, x2⟩ := z
    obtain ⟨e2, RJ, hf⟩ := hz
    dsimp only at e2 RJ hf
    subst e2
    have eI : sIt (fun p N => sTax N ns p) (i + 1) N = sTax (sIt (fun p N => sTax N ns p) i N) ns i := rfl
    rw [eI]
    generalize sIt (fun p N => sTax N ns p) i N = M at RJ ⊢
    unfold sTax
    have hle := sPoor_le (N := M) (ns - 1)
    have R1 : RM (u2 J (q + 4 + i) 1 (pN M i 0 - pN M i 0 * M 10 / 100)) q (upd M (11 + 14 * i + 0) (pN M i 0 - pN M i 0 * M 10 / 100)) np ns nw := RJ.pu (k := 0) hi (by decide)
    have hp := h_poorest R1 h0
    rw [poor_pu _ (by omega) (by omega)] at hp
    have e1 : sN (upd M (11 + 14 * i + 0) (pN M i 0 - pN M i 0 * M 10 / 100)) (sPoor M (ns - 1)) 1 = sN M (sPoor M (ns - 1)) 1 := sN_n (by omega)
    have e2 : u2 J (q + 4 + i) 1 (pN M i 0 - pN M i 0 * M 10 / 100) (q + 10 + sPoor M (ns - 1)) 1 = sN M (sPoor M (ns - 1)) 1 := by rw [u2_a (by omega)]; exact RJ.s1 (by omega)
    have R2 := R1.su (s := sPoor M (ns - 1)) (k := 1) (x := sN M (sPoor M (ns - 1)) 1 + pN M i 0 * M 10 / 100) (by omega) (Or.inl rfl) (R1.f.free (Or.inr (Or.inl ⟨_, by omega, rfl⟩)))
    rw [pay_cm (by omega) (by omega)] at R2
    refine ⟨(u2 (u2 J (q + 4 + i) 1 (pN M i 0 - pN M i 0 * M 10 / 100)) (q + 10 + sPoor M (ns - 1)) 1 (sN M (sPoor M (ns - 1)) 1 + pN M i 0 * M 10 / 100), nI (i + 1)), ⟨rfl, R2, hf.trans ((Fr.u (by omega)).trans (Fr.u (by omega)))⟩, fun f => ?_⟩
    have e0 : (nI ns ≤ 0) = False := eq_false (nI_nle h0 (by omega))
    simp (disch := omega) only [l_X3_collectTaxes_2, RJ.h3, RJ.h4, e0, RJ.p1 hi, RJ.h12, pu_so, hp, e2, b1_so, b2_so, b3_so, e1_ok, e1_er, e2_ok, e2_er, e3_ok, e3_er, bI_so, bI_so', bI_0, bI_1, cB_bI, nI_s1, nJ_et, nJ_ef, nJ_lt, nJ_lf, pu_sM, sM_s, if_true, if_false, ite_self, Nat.lt_irrefl, Int32.zero_add, Int32.add_zero, not_true_eq_false, not_false_eq_true, rfw0, rfw1, rfw2, rfw3, rfw4, rfw5, rfw6, rfw7, rfp0, rfp1, rfp2, rfp3, rfp4, rfp5, rfp6, rfs0, rfs1, rfs2, rfs3, rwp0, rwp1, rwp2, rwp3, rwp4, rwp5, rwp6, rwp7, rpp0, rpp1, rpp2, rpp3, rpp4, rpp5, rpp6, rsp0, rsp1, rsp2, rsp3, ixn16, ixn6, ixn5]
  · obtain ⟨J, x2⟩ := z
    obtain ⟨e2, RJ, hf⟩ := hz
    dsimp only at e2 RJ hf
    subst e2
    refine ⟨_, ⟨J, rfl, RJ, hf⟩, fun f => ?_⟩
    simp (disch := omega) only [l_X3_collectTaxes_2, RJ.h3, b1_so, b2_so, b3_so, e1_ok, e1_er, e2_ok, e2_er, e3_ok, e3_er, bI_so, bI_so', bI_0, bI_1, cB_bI, nI_s1, nJ_et, nJ_ef, nJ_lt, nJ_lf, pu_sM, sM_s, if_true, if_false, ite_self, Nat.lt_irrefl, Int32.zero_add, Int32.add_zero, not_true_eq_false, not_false_eq_true, rfw0, rfw1, rfw2, rfw3, rfw4, rfw5, rfw6, rfw7, rfp0, rfp1, rfp2, rfp3, rfp4, rfp5, rfp6, rfs0, rfs1, rfs2, rfs3, rwp0, rwp1, rwp2, rwp3, rwp4, rwp5, rwp6, rwp7, rpp0, rpp1, rpp2, rpp3, rpp4, rpp5, rpp6, rsp0, rsp1, rsp2, rsp3, ixn16, ixn6, ixn5]
theorem h_taxes0 (R : RM I q N np ns nw) (h0 : ¬ 0 < ns) : f_X3_collectTaxes I q = some I := by
  have b1 := R.f.p.2
  have e : ns = 0 := by omega
  subst e
  obtain ⟨g, hg⟩ : ∃ g, FU = g + 1 := ⟨FU - 1, by have := FU_ge; omega⟩
  unfold f_X3_collectTaxes
  rw [hg]
  by_cases hp : np = 0
  · subst hp
    simp (disch := omega) only [l_X3_collectTaxes_2, R.h3, show (0 : Int32) = nI 0 from rfl, b1_so, b2_so, b3_so, e1_ok, e1_er, e2_ok, e2_er, e3_ok, e3_er, bI_so, bI_so', bI_0, bI_1, cB_bI, nI_s1, nJ_et, nJ_ef, nJ_lt, nJ_lf, pu_sM, sM_s, if_true, if_false, ite_self, Nat.lt_irrefl, Int32.zero_add, Int32.add_zero, not_true_eq_false, not_false_eq_true, rfw0, rfw1, rfw2, rfw3, rfw4, rfw5, rfw6, rfw7, rfp0, rfp1, rfp2, rfp3, rfp4, rfp5, rfp6, rfs0, rfs1, rfs2, rfs3, rwp0, rwp1, rwp2, rwp3, rwp4, rwp5, rwp6, rwp7, rpp0, rpp1, rpp2, rpp3, rpp4, rpp5, rpp6, rsp0, rsp1, rsp2, rsp3, ixn16, ixn6, ixn5]
  · have e : l_X3_collectTaxes_2 (g + 1) I q (nI 0) = some I := by
      simp (disch := omega) only [l_X3_collectTaxes_2, R.h3, R.h4, show (nI 0 ≤ 0) = True from eq_true (by decide), b1_so, b2_so, b3_so, e1_ok, e1_er, e2_ok, e2_er, e3_ok, e3_er, bI_so, bI_so', bI_0, bI_1, cB_bI, nI_s1, nJ_et, nJ_ef, nJ_lt, nJ_lf, pu_sM, sM_s, if_true, if_false, ite_self, Nat.lt_irrefl, Int32.zero_add, Int32.add_zero, not_true_eq_false, not_false_eq_true, rfw0, rfw1, rfw2, rfw3, rfw4, rfw5, rfw6, rfw7, rfp0, rfp1, rfp2, rfp3, rfp4, rfp5, rfp6, rfs0, rfs1, rfs2, rfs3, rwp0, rwp1, rwp2, rwp3, rwp4, rwp5, rwp6, rwp7, rpp0, rpp1, rpp2, rpp3, rpp4, rpp5, rpp6, rsp0, rsp1, rsp2, rsp3, ixn16, ixn6, ixn5]
    exact e
theorem u2_cm {a k j : Nat} {x y : Int32} (h : k ≠ j) : u2 (u2 I a k x) a j y = u2 (u2 I a j y) a k x := by
  funext b i
  by_cases h1 : b = a
  · subst h1
    by_cases h2 : i = k
    · subst h2; rw [u2_k h, u2_s, u2_s]
    · by_cases h3 : i = j
      · subst h3; rw [u2_s, u2_k h2, u2_s]
      · rw [u2_k h3, u2_k h2, u2_k h2, u2_k h3]
  · rw [u2_a h1, u2_a h1, u2_a h1, u2_a h1]
theorem RM.wu (R : RM I q N np ns nw) {w : Nat} {x : Int32} (hw : w < nw) (W : WF (upd N (115 + 15 * w + 2) x) np ns nw) : RM (u2 I (q + 15 + w) 3 x) q (upd N (115 + 15 * w + 2) x) np ns nw := by
  have b1 := R.f.p.2
  have b2 := R.f.s.2
  have b3 := R.f.w.2
  have hn : ∀ j, j < 115 → upd N (115 + 15 * w + 2) x j = N j := fun j hj => upd_n (by omega)
  obtain ⟨y, y1, y2⟩ := R.2.1
  refine ⟨W, ⟨y, (hn 0 (by decide)).trans y1, y2⟩, ?_, fun p' hp' => ?_, fun s' hs' => ?_, fun w' hw' => ?_⟩
  · unfold RH
    rw [u2_a (by omega), hn 0 (by decide), hn 1 (by decide), hn 2 (by decide), hn 3 (by decide), hn 4 (by decide), hn 5 (by decide), hn 6 (by decide), hn 7 (by decide), hn 8 (by decide), hn 9 (by decide), hn 10 (by decide)]
    exact R.h
  · have := R.p hp'
    unfold RP at this ⊢
    rw [u2_a (by omega), sNm_n (by omega), pN_n (by omega), pN_n (by omega), pN_n (by omega), pN_n (by omega), pN_n (by omega), pN_n (by omega), pN_n (by omega)]
    exact this
  · have := R.s hs'
    unfold RS at this ⊢
    rw [u2_a (by omega), sN_n (by omega), sN_n (by omega), sN_n (by omega), sN_n (by omega)]
    exact this
  · by_cases e : w' = w
    · subst e
      have := R.w hw'
      unfold RW at this ⊢
      rw [sNm_n (by omega), wN_n (by omega), wN_n (by omega), wN_w, wN_n (by omega), wN_n (by omega), wN_n (by omega), wN_n (by omega), wN_n (by omega), u2_k (by omega), u2_k (by omega), u2_k (by omega), u2_s, u2_k (by omega), u2_k (by omega), u2_k (by omega), u2_k (by omega), u2_k (by omega), u2_k (by omega), u2_k (by omega)]
      exact ⟨⟨this.1.1, this.1.2.1, this.1.2.2.1, rfl⟩, this.2⟩
    · have := R.w hw'
      unfold RW at this ⊢
      rw [u2_a (by omega), sNm_n (by omega), wN_n (by omega), wN_n (by omega), wN_n (by omega), wN_n (by omega), wN_n (by omega), wN_n (by omega), wN_n (by omega), wN_n (by omega)]
      exact this
theorem h_isInTrade (R : RM I q N np ns nw) {w : Nat} (hw : w < nw) : f_X8_isInTrade I (q + 15 + w) = some (bI (wN N w 3 = 1 ∨ wN N w 3 = 0)) := by
  unfold f_X8_isInTrade
  by_cases h0 : wN N w 3 = 0
  · simp (disch := omega) only [R.w4n hw, h0, or_true, bI, b1_so, b2_so, b3_so, e1_ok, e1_er, e2_ok, e2_er, e3_ok, e3_er, bI_so, bI_so', bI_0, bI_1, cB_bI, nI_s1, nJ_et, nJ_ef, nJ_lt, nJ_lf, pu_sM, sM_s, if_true, if_false, ite_self, Nat.lt_irrefl, Int32.zero_add, Int32.add_zero, not_true_eq_false, not_false_eq_true, rfw0, rfw1, rfw2, rfw3, rfw4, rfw5, rfw6, rfw7, rfp0, rfp1, rfp2, rfp3, rfp4, rfp5, rfp6, rfs0, rfs1, rfs2, rfs3, rwp0, rwp1, rwp2, rwp3, rwp4, rwp5, rwp6, rwp7, rpp0, rpp1, rpp2, rpp3, rpp4, rpp5, rpp6, rsp0, rsp1, rsp2, rsp3, ixn16, ixn6, ixn5]
  · by_cases h1 : wN N w 3 = 1
    · simp (disch := omega) only [R.w4n hw, R.w5n hw, h0, h1, true_or, bI, show ((1 : Int32) = 0) = False from eq_false (by decide), b1_so, b2_so, b3_so, e1_ok, e1_er, e2_ok, e2_er, e3_ok, e3_er, bI_so, bI_so', bI_0, bI_1, cB_bI, nI_s1, nJ_et, nJ_ef, nJ_lt, nJ_lf, pu_sM, sM_s, if_true, if_false, ite_self, Nat.lt_irrefl, Int32.zero_add, Int32.add_zero, not_true_eq_false, not_false_eq_true, rfw0, rfw1, rfw2, rfw3, rfw4, rfw5, rfw6, rfw7, rfp0, rfp1, rfp2, rfp3, rfp4, rfp5, rfp6, rfs0, rfs1, rfs2, rfs3, rwp0, rwp1, rwp2, rwp3, rwp4, rwp5, rwp6, rwp7, rpp0, rpp1, rpp2, rpp3, rpp4, rpp5, rpp6, rsp0, rsp1, rsp2, rsp3, ixn16, ixn6, ixn5]
    · simp (disch := omega) only [R.w4n hw, R.w5n hw, h0, h1, or_self, bI, b1_so, b2_so, b3_so, e1_ok, e1_er, e2_ok, e2_er, e3_ok, e3_er, bI_so, bI_so', bI_0, bI_1, cB_bI, nI_s1, nJ_et, nJ_ef, nJ_lt, nJ_lf, pu_sM, sM_s, if_true, if_false, ite_self, Nat.lt_irrefl, Int32.zero_add, Int32.add_zero, not_true_eq_false, not_false_eq_true, rfw0, rfw1, rfw2, rfw3, rfw4, rfw5, rfw6, rfw7, rfp0, rfp1, rfp2, rfp3, rfp4, rfp5, rfp6, rfs0, rfs1, rfs2, rfs3, rwp0, rwp1, rwp2, rwp3, rwp4, rwp5, rwp6, rwp7, rpp0, rpp1, rpp2, rpp3, rpp4, rpp5, rpp6, rsp0, rsp1, rsp2, rsp3, ixn16, ixn6, ixn5]
theorem h_wearOut (R : RM I q N np ns nw) {w : Nat} (hw : w < nw) (ht : wN N w 3 = 1 ∨ wN N w 3 = 0) : ∃ I', f_X3_wearOut I q (q + 15 + w) = some I' ∧ RM I' q (sWear N w) np ns nw ∧ Fr I I' q np nw := by
  have b3 := R.f.w.2
  obtain ⟨-, b, e, q1, q2, q3⟩ := R.f.2.2.2.1 w hw
  have q4 := q3 ht.symm
  have e1 : wN N w 2 + 1 = nI (e + 1) := by rw [q2.1, nI_s1]
  have W := (r_wears (I := I) (m := 0) R.f hw).2
  have w67 := R.w67 hw ht.symm
  unfold sWear at W ⊢
  rw [if_pos ht] at W ⊢
  have ew : u2 I (q + 15 + w) 3 (wN N w 2 + 1) (q + 15 + w) 3 = wN N w 2 + 1 := u2_s
  by_cases h10 : wN N w 2 + 1 = 10
  · rw [if_pos h10] at W ⊢
    have W1 : WF (sMv N w 3 (-1) (-1) (-1) (-1)) np ns nw := R.f.mv hw ht.symm (Or.inr (Or.inr (Or.inr rfl)))
    have RA : RM (u2 (mvT I (q + 15 + w) (-1) (-1)) (q + 15 + w) 7 1) q (sMv N w 3 (-1) (-1) (-1) (-1)) np ns nw := by
      refine R.mv hw (fun b hb => by rw [u2_a hb, mvT_n hb]) (fun k hk => by rw [u2_k (by omega), mvT_k (by omega)]) ?_ ?_ ?_ ?_ ?_ ?_ ?_ W1
      · rw [u2_k (by omega), mvT_4]; rfl
      · rw [u2_k (by omega), mvT_5]; rfl
      · rw [u2_k (by omega), mvT_k (by omega), w67.1]; rfl
      · rw [u2_s]; rfl
      · rw [u2_k (by omega), mvT_8]
      · rw [u2_k (by omega), mvT_9]
      · rw [u2_k (by omega), mvT_10]
    rw [sGo_mv, sMv_cm (by omega)] at W ⊢
    have RB := RA.wu hw W
    have eI : u2 (u2 (mvT I (q + 15 + w) (-1) (-1)) (q + 15 + w) 7 1) (q + 15 + w) 3 (wN N w 2 + 1) = u2 (mvT (u2 I (q + 15 + w) 3 (wN N w 2 + 1)) (q + 15 + w) (-1) (-1)) (q + 15 + w) 7 1 := by
      unfold mvT
      rw [u2_cm (k := 7) (j := 3) (by decide), u2_cm (k := 10) (j := 3) (by decide), u2_cm (k := 9) (j := 3) (by decide), u2_cm (k := 8) (j := 3) (by decide), u2_cm (k := 5) (j := 3) (by decide), u2_cm (k := 4) (j := 3) (by decide)]
    rw [eI] at RB
    refine ⟨_, ?_, RB, fun a ha => by rw [u2_a (by omega), mvT_n (by omega), u2_a (by omega)]⟩
    unfold f_X3_wearOut
    rw [R.w3 hw, pu_so, b1_so, ew, if_neg (by rw [h10]; decide), h_moveTo, b1_so, pu_so, b1_so]
  · rw [if_neg h10] at W ⊢
    have RB := R.wu hw W
    refine ⟨_, ?_, RB, Fr.u (by omega)⟩
    have h9 : ¬ e + 1 = 10 := fun h => h10 (by rw [e1, h]; rfl)
    unfold f_X3_wearOut
    rw [R.w3 hw, pu_so, b1_so, ew, if_pos (by rw [e1]; exact nI_lt (b := 10) (by omega) (by decide))]
theorem RM.du (R : RM I q N np ns nw) {x : Int32} : RM (u2 I q 6 x) q (upd N 1 x) np ns nw := by
  have b1 := R.f.p.2
  have b2 := R.f.s.2
  have b3 := R.f.w.2
  have hn : ∀ j, j ≠ 1 → upd N 1 x j = N j := fun j hj => upd_n hj
  obtain ⟨y, y1, y2⟩ := R.2.1
  refine ⟨R.f.free (Or.inr (Or.inr (Or.inl rfl))), ⟨y, (hn 0 (by decide)).trans y1, y2⟩, ?_, fun p' hp' => ?_, fun s' hs' => ?_, fun w' hw' => ?_⟩
  · have := R.h
    unfold RH at this ⊢
    rw [u2_s, u2_k (by decide), u2_k (by decide), u2_k (by decide), u2_k (by decide), u2_k (by decide), u2_k (by decide), u2_k (by decide), u2_k (by decide), u2_k (by decide), u2_k (by decide), hn 0 (by decide), upd_s, hn 2 (by decide), hn 3 (by decide), hn 4 (by decide), hn 5 (by decide), hn 6 (by decide), hn 7 (by decide), hn 8 (by decide), hn 9 (by decide), hn 10 (by decide)]
    exact ⟨this.1, ⟨rfl, this.2.1.2⟩, this.2.2⟩
  · have := R.p hp'
    unfold RP at this ⊢
    rw [u2_a (by omega), sNm_n (by omega), pN_n (by omega), pN_n (by omega), pN_n (by omega), pN_n (by omega), pN_n (by omega), pN_n (by omega), pN_n (by omega)]
    exact this
  · have := R.s hs'
    unfold RS at this ⊢
    rw [u2_a (by omega), sN_n (by omega), sN_n (by omega), sN_n (by omega), sN_n (by omega)]
    exact this
  · have := R.w hw'
    unfold RW at this ⊢
    rw [u2_a (by omega), sNm_n (by omega), wN_n (by omega), wN_n (by omega), wN_n (by omega), wN_n (by omega), wN_n (by omega), wN_n (by omega), wN_n (by omega), wN_n (by omega)]
    exact this
theorem h_endDay (R : RM I q N np ns nw) : ∃ I', f_X3_endDay I q = some I' ∧ RM I' q (sP6 N nw) np ns nw ∧ Fr I I' q np nw := by
  have b3 := R.f.w.2
  have R1 := R.du (x := N 1 + 1)
  have hd := h_today R1
  unfold sP6 sP7
  by_cases h : sDay (upd N 1 (N 1 + 1)) = 0
  · rw [if_pos h]
    have hX := ex_loop (fun f (z : Mem × Int32) => l_X3_endDay_19 f z.1 q z.2)
      (fun i z => z.2 = nI i ∧ RM z.1 q (sIt (fun w N => sWear N w) i (upd N 1 (N 1 + 1))) np ns nw ∧ Fr I z.1 q np nw) nw
      (fun v => ∃ I', v = some I' ∧ RM I' q (sIt (fun w N => sWear N w) nw (upd N 1 (N 1 + 1))) np ns nw ∧ Fr I I' q np nw)
      (fun i hi z hz => ?_) (fun z hz => ?_) (FU_up (n := nw) (by omega)) (u2 I q 6 (N 1 + 1), 0) ⟨rfl, R1, Fr.u (by omega)⟩
    · obtain ⟨v, ⟨I', rfl, h1, h2⟩, h4⟩ := hX
      have h5 : l_X3_endDay_19 FU (u2 I q 6 (N 1 + 1)) q 0 = some I' := h4
      refine ⟨I', ?_, h1, h2⟩
      simp (disch := omega) only [f_X3_endDay, R.h6, pu_so, hd, h, h5, b1_so, b2_so, b3_so, e1_ok, e1_er, e2_ok, e2_er, e3_ok, e3_er, bI_so, bI_so', bI_0, bI_1, cB_bI, nI_s1, nJ_et, nJ_ef, nJ_lt, nJ_lf, pu_sM, sM_s, if_true, if_false, ite_self, Nat.lt_irrefl, Int32.zero_add, Int32.add_zero, not_true_eq_false, not_false_eq_true, rfw0, rfw1, rfw2, rfw3, rfw4, rfw5, rfw6, rfw7, rfp0, rfp1, rfp2, rfp3, rfp4, rfp5, rfp6, rfs0, rfs1, rfs2, rfs3, rwp0, rwp1, rwp2, rwp3, rwp4, rwp5, rwp6, rwp7, rpp0, rpp1, rpp2, rpp3, rpp4, rpp5, rpp6, rsp0, rsp1, rsp2, rsp3, ixn16, ixn6, ixn5]
    · obtain ⟨J, x2⟩ := z
      obtain ⟨e2, RJ, hf⟩ := hz
      dsimp only at e2 RJ hf
      subst e2
      have eI : sIt (fun w N => sWear N w) (i + 1) (upd N 1 (N 1 + 1)) = sWear (sIt (fun w N => sWear N w) i (upd N 1 (N 1 + 1))) i := rfl
      rw [eI]
      generalize sIt (fun w N => sWear N w) i (upd N 1 (N 1 + 1)) = M at RJ ⊢
      by_cases ht : wN M i 3 = 1 ∨ wN M i 3 = 0
      · obtain ⟨J2, k1, k2, k3⟩ := h_wearOut RJ hi ht
        refine ⟨(J2, nI (i + 1)), ⟨rfl, k2, hf.trans k3⟩, fun f => ?_⟩
        have hb := h_isInTrade RJ hi
        rw [bI_t ht] at hb
        simp (disch := omega) only [l_X3_endDay_19, RJ.h5, hb, i10, k1, b1_so, b2_so, b3_so, e1_ok, e1_er, e2_ok, e2_er, e3_ok, e3_er, bI_so, bI_so', bI_0, bI_1, cB_bI, nI_s1, nJ_et, nJ_ef, nJ_lt, nJ_lf, pu_sM, sM_s, if_true, if_false, ite_self, Nat.lt_irrefl, Int32.zero_add, Int32.add_zero, not_true_eq_false, not_false_eq_true, rfw0, rfw1, rfw2, rfw3, rfw4, rfw5, rfw6, rfw7, rfp0, rfp1, rfp2, rfp3, rfp4, rfp5, rfp6, rfs0, rfs1, rfs2, rfs3, rwp0, rwp1, rwp2, rwp3, rwp4, rwp5, rwp6, rwp7, rpp0, rpp1, rpp2, rpp3, rpp4, rpp5, rpp6, rsp0, rsp1, rsp2, rsp3, ixn16, ixn6, ixn5]
      · have e0 : sWear M i = M := if_neg ht
        rw [e0]
        refine ⟨(J, nI (i + 1)), ⟨rfl, RJ, hf⟩, fun f => ?_⟩
        have hb := h_isInTrade RJ hi
        rw [bI_f ht] at hb
        simp (disch := omega) only [l_X3_endDay_19, RJ.h5, hb, b1_so, b2_so, b3_so, e1_ok, e1_er, e2_ok, e2_er, e3_ok, e3_er, bI_so, bI_so', bI_0, bI_1, cB_bI, nI_s1, nJ_et, nJ_ef, nJ_lt, nJ_lf, pu_sM, sM_s, if_true, if_false, ite_self, Nat.lt_irrefl, Int32.zero_add, Int32.add_zero, not_true_eq_false, not_false_eq_true, rfw0, rfw1, rfw2, rfw3, rfw4, rfw5, rfw6, rfw7, rfp0, rfp1, rfp2, rfp3, rfp4, rfp5, rfp6, rfs0, rfs1, rfs2, rfs3, rwp0, rwp1, rwp2, rwp3, rwp4, rwp5, rwp6, rwp7, rpp0, rpp1, rpp2, rpp3, rpp4, rpp5, rpp6, rsp0, rsp1, rsp2, rsp3, ixn16, ixn6, ixn5]
    · obtain ⟨J, x2⟩ := z
      obtain ⟨e2, RJ, hf⟩ := hz
      dsimp only at e2 RJ hf
      subst e2
      refine ⟨_, ⟨J, rfl, RJ, hf⟩, fun f => ?_⟩
      simp (disch := omega) only [l_X3_endDay_19, RJ.h5, b1_so, b2_so, b3_so, e1_ok, e1_er, e2_ok, e2_er, e3_ok, e3_er, bI_so, bI_so', bI_0, bI_1, cB_bI, nI_s1, nJ_et, nJ_ef, nJ_lt, nJ_lf, pu_sM, sM_s, if_true, if_false, ite_self, Nat.lt_irrefl, Int32.zero_add, Int32.add_zero, not_true_eq_false, not_false_eq_true, rfw0, rfw1, rfw2, rfw3, rfw4, rfw5, rfw6, rfw7, rfp0, rfp1, rfp2, rfp3, rfp4, rfp5, rfp6, rfs0, rfs1, rfs2, rfs3, rwp0, rwp1, rwp2, rwp3, rwp4, rwp5, rwp6, rwp7, rpp0, rpp1, rpp2, rpp3, rpp4, rpp5, rpp6, rsp0, rsp1, rsp2, rsp3, ixn16, ixn6, ixn5]
  · rw [if_neg h]
    refine ⟨_, ?_, R1, Fr.u (by omega)⟩
    simp (disch := omega) only [f_X3_endDay, R.h6, pu_so, hd, h, b1_so, b2_so, b3_so, e1_ok, e1_er, e2_ok, e2_er, e3_ok, e3_er, bI_so, bI_so', bI_0, bI_1, cB_bI, nI_s1, nJ_et, nJ_ef, nJ_lt, nJ_lf, pu_sM, sM_s, if_true, if_false, ite_self, Nat.lt_irrefl, Int32.zero_add, Int32.add_zero, not_true_eq_false, not_false_eq_true, rfw0, rfw1, rfw2, rfw3, rfw4, rfw5, rfw6, rfw7, rfp0, rfp1, rfp2, rfp3, rfp4, rfp5, rfp6, rfs0, rfs1, rfs2, rfs3, rwp0, rwp1, rwp2, rwp3, rwp4, rwp5, rwp6, rwp7, rpp0, rpp1, rpp2, rpp3, rpp4, rpp5, rpp6, rsp0, rsp1, rsp2, rsp3, ixn16, ixn6, ixn5]
end CF
