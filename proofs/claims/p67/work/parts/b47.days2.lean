section RG
variable {I : Mem} {m np ns nw : Nat} {N : Nat → Int32}
/-- a bargain with one wish: whether, and what becomes -/
def sLeast (N : Nat → Int32) (w : Nat) : Int32 := if wN N w 5 = -1 then sVal N w else wN N w 6
def sBarg (N : Nat → Int32) (ns nw w : Nat) : Option (Nat → Int32) := match sBestOff N ns nw w with
  | none => none
  | some s => if sLeast N w < sOff N w s then some (sSell N w s) else none
theorem r_bargains (H : WF N np ns nw) {w : Nat} (hw : w < nw) : (sBarg N ns nw w = none ∧ f_Y_bargains (sM I m N) m (nI w) = some (0, sM I m N)) ∨ ∃ N', sBarg N ns nw w = some N' ∧ f_Y_bargains (sM I m N) m (nI w) = some (1, sM I m N') ∧ WF N' np ns nw := by
  have b1 := H.p.2
  have b2 := H.s.2
  have b3 := H.w.2
  have hg := r_greatestOffer (I := I) (m := m) H hw
  unfold sBarg
  cases hz : sBestOff N ns nw w with
  | none =>
    refine Or.inl ⟨rfl, ?_⟩
    by_cases h5 : wN N w 5 = -1
    · simp (disch := omega) only [f_Y_bargains, hg, hz, h5, oI, r_valueOf, l_Y_bargains_31, b1_so, b2_so, b3_so, e1_ok, e1_er, e2_ok, e2_er, e3_ok, e3_er, bI_so, bI_so', bI_0, bI_1, cB_bI, nI_s1, nJ_et, nJ_ef, nJ_lt, nJ_lf, pu_sM, sM_s, if_true, if_false, ite_self, Nat.lt_irrefl, Int32.zero_add, Int32.add_zero, not_true_eq_false, not_false_eq_true, rfw0, rfw1, rfw2, rfw3, rfw4, rfw5, rfw6, rfw7, rfp0, rfp1, rfp2, rfp3, rfp4, rfp5, rfp6, rfs0, rfs1, rfs2, rfs3, rwp0, rwp1, rwp2, rwp3, rwp4, rwp5, rwp6, rwp7, rpp0, rpp1, rpp2, rpp3, rpp4, rpp5, rpp6, rsp0, rsp1, rsp2, rsp3]
    · simp (disch := omega) only [f_Y_bargains, hg, hz, h5, oI, r_valueOf, l_Y_bargains_31, b1_so, b2_so, b3_so, e1_ok, e1_er, e2_ok, e2_er, e3_ok, e3_er, bI_so, bI_so', bI_0, bI_1, cB_bI, nI_s1, nJ_et, nJ_ef, nJ_lt, nJ_lf, pu_sM, sM_s, if_true, if_false, ite_self, Nat.lt_irrefl, Int32.zero_add, Int32.add_zero, not_true_eq_false, not_false_eq_true, rfw0, rfw1, rfw2, rfw3, rfw4, rfw5, rfw6, rfw7, rfp0, rfp1, rfp2, rfp3, rfp4, rfp5, rfp6, rfs0, rfs1, rfs2, rfs3, rwp0, rwp1, rwp2, rwp3, rwp4, rwp5, rwp6, rwp7, rpp0, rpp1, rpp2, rpp3, rpp4, rpp5, rpp6, rsp0, rsp1, rsp2, rsp3]
  | some s =>
    obtain ⟨g1, g2⟩ := sBest_in hz
    have hr := r_sells (I := I) (m := m) H hw (whySell1 g2) (s := s) (by omega)
    have e : sLeast N w = if wN N w 5 = -1 then sVal N w else wN N w 6 := rfl
    by_cases h : sLeast N w < sOff N w s
    · refine Or.inr ⟨sSell N w s, if_pos h, ?_, H.sell hw g1 g2⟩
      by_cases h5 : wN N w 5 = -1
      · rw [if_pos h5] at e
        rw [e] at h
        simp (disch := omega) only [f_Y_bargains, hg, hz, h5, oI, oI_n, r_valueOf, l_Y_bargains_31, r_offerOf, h, hr, b1_so, b2_so, b3_so, e1_ok, e1_er, e2_ok, e2_er, e3_ok, e3_er, bI_so, bI_so', bI_0, bI_1, cB_bI, nI_s1, nJ_et, nJ_ef, nJ_lt, nJ_lf, pu_sM, sM_s, if_true, if_false, ite_self, Nat.lt_irrefl, Int32.zero_add, Int32.add_zero, not_true_eq_false, not_false_eq_true, rfw0, rfw1, rfw2, rfw3, rfw4, rfw5, rfw6, rfw7, rfp0, rfp1, rfp2, rfp3, rfp4, rfp5, rfp6, rfs0, rfs1, rfs2, rfs3, rwp0, rwp1, rwp2, rwp3, rwp4, rwp5, rwp6, rwp7, rpp0, rpp1, rpp2, rpp3, rpp4, rpp5, rpp6, rsp0, rsp1, rsp2, rsp3]
      · rw [if_neg h5] at e
        rw [e] at h
        simp (disch := omega) only [f_Y_bargains, hg, hz, h5, oI, oI_n, r_valueOf, l_Y_bargains_31, r_offerOf, h, hr, b1_so, b2_so, b3_so, e1_ok, e1_er, e2_ok, e2_er, e3_ok, e3_er, bI_so, bI_so', bI_0, bI_1, cB_bI, nI_s1, nJ_et, nJ_ef, nJ_lt, nJ_lf, pu_sM, sM_s, if_true, if_false, ite_self, Nat.lt_irrefl, Int32.zero_add, Int32.add_zero, not_true_eq_false, not_false_eq_true, rfw0, rfw1, rfw2, rfw3, rfw4, rfw5, rfw6, rfw7, rfp0, rfp1, rfp2, rfp3, rfp4, rfp5, rfp6, rfs0, rfs1, rfs2, rfs3, rwp0, rwp1, rwp2, rwp3, rwp4, rwp5, rwp6, rwp7, rpp0, rpp1, rpp2, rpp3, rpp4, rpp5, rpp6, rsp0, rsp1, rsp2, rsp3]
    · refine Or.inl ⟨if_neg h, ?_⟩
      by_cases h5 : wN N w 5 = -1
      · rw [if_pos h5] at e
        rw [e] at h
        simp (disch := omega) only [f_Y_bargains, hg, hz, h5, oI, oI_n, r_valueOf, l_Y_bargains_31, r_offerOf, h, b1_so, b2_so, b3_so, e1_ok, e1_er, e2_ok, e2_er, e3_ok, e3_er, bI_so, bI_so', bI_0, bI_1, cB_bI, nI_s1, nJ_et, nJ_ef, nJ_lt, nJ_lf, pu_sM, sM_s, if_true, if_false, ite_self, Nat.lt_irrefl, Int32.zero_add, Int32.add_zero, not_true_eq_false, not_false_eq_true, rfw0, rfw1, rfw2, rfw3, rfw4, rfw5, rfw6, rfw7, rfp0, rfp1, rfp2, rfp3, rfp4, rfp5, rfp6, rfs0, rfs1, rfs2, rfs3, rwp0, rwp1, rwp2, rwp3, rwp4, rwp5, rwp6, rwp7, rpp0, rpp1, rpp2, rpp3, rpp4, rpp5, rpp6, rsp0, rsp1, rsp2, rsp3]
      · rw [if_neg h5] at e
        rw [e] at h
        simp (disch := omega) only [f_Y_bargains, hg, hz, h5, oI, oI_n, r_valueOf, l_Y_bargains_31, r_offerOf, h, b1_so, b2_so, b3_so, e1_ok, e1_er, e2_ok, e2_er, e3_ok, e3_er, bI_so, bI_so', bI_0, bI_1, cB_bI, nI_s1, nJ_et, nJ_ef, nJ_lt, nJ_lf, pu_sM, sM_s, if_true, if_false, ite_self, Nat.lt_irrefl, Int32.zero_add, Int32.add_zero, not_true_eq_false, not_false_eq_true, rfw0, rfw1, rfw2, rfw3, rfw4, rfw5, rfw6, rfw7, rfp0, rfp1, rfp2, rfp3, rfp4, rfp5, rfp6, rfs0, rfs1, rfs2, rfs3, rwp0, rwp1, rwp2, rwp3, rwp4, rwp5, rwp6, rwp7, rpp0, rpp1, rpp2, rpp3, rpp4, rpp5, rpp6, rsp0, rsp1, rsp2, rsp3]
/-- the wishes of an owner in their order, till one is sold: from the one that is n before the last -/
def sBgo (N : Nat → Int32) (ns nw p : Nat) : Nat → Nat → Int32
  | 0 => N
  | n + 1 => if wN N (nw - (n + 1)) 3 = 1 ∧ wN N (nw - (n + 1)) 4 = nI p then (match sBarg N ns nw (nw - (n + 1)) with
    | none => sBgo N ns nw p n
    | some N' => N') else sBgo N ns nw p n
def sBgOnce (N : Nat → Int32) (ns nw p : Nat) : Nat → Int32 := if pN N p 6 = 0 then N else sBgo N ns nw p nw
theorem r_bgo1 (hn : nW N nw) {p : Nat} {i : Int32} {f : Nat} (hi : i = nI nw ∨ ∃ k, k < nw ∧ i = nI k) : l_Y_bargainsOnce_18 (f + 1) (sM I m N) m (nI p) 1 i = some (sM I m N) := by
  obtain ⟨h1, h2⟩ := hn
  rcases hi with rfl | ⟨k, hk, rfl⟩
  · simp (disch := omega) only [l_Y_bargainsOnce_18, ix4, h1, b1_so, b2_so, b3_so, e1_ok, e1_er, e2_ok, e2_er, e3_ok, e3_er, bI_so, bI_so', bI_0, bI_1, cB_bI, nI_s1, nJ_et, nJ_ef, nJ_lt, nJ_lf, pu_sM, sM_s, if_true, if_false, ite_self, Nat.lt_irrefl, Int32.zero_add, Int32.add_zero, not_true_eq_false, not_false_eq_true, rfw0, rfw1, rfw2, rfw3, rfw4, rfw5, rfw6, rfw7, rfp0, rfp1, rfp2, rfp3, rfp4, rfp5, rfp6, rfs0, rfs1, rfs2, rfs3, rwp0, rwp1, rwp2, rwp3, rwp4, rwp5, rwp6, rwp7, rpp0, rpp1, rpp2, rpp3, rpp4, rpp5, rpp6, rsp0, rsp1, rsp2, rsp3]
  · simp (disch := omega) only [l_Y_bargainsOnce_18, ix4, h1, i10, b1_so, b2_so, b3_so, e1_ok, e1_er, e2_ok, e2_er, e3_ok, e3_er, bI_so, bI_so', bI_0, bI_1, cB_bI, nI_s1, nJ_et, nJ_ef, nJ_lt, nJ_lf, pu_sM, sM_s, if_true, if_false, ite_self, Nat.lt_irrefl, Int32.zero_add, Int32.add_zero, not_true_eq_false, not_false_eq_true, rfw0, rfw1, rfw2, rfw3, rfw4, rfw5, rfw6, rfw7, rfp0, rfp1, rfp2, rfp3, rfp4, rfp5, rfp6, rfs0, rfs1, rfs2, rfs3, rwp0, rwp1, rwp2, rwp3, rwp4, rwp5, rwp6, rwp7, rpp0, rpp1, rpp2, rpp3, rpp4, rpp5, rpp6, rsp0, rsp1, rsp2, rsp3]
theorem r_bgo (H : WF N np ns nw) {p : Nat} : ∀ n f, n ≤ nw → n + 1 < f → l_Y_bargainsOnce_18 f (sM I m N) m (nI p) 0 (nI (nw - n)) = some (sM I m (sBgo N ns nw p n)) ∧ WF (sBgo N ns nw p n) np ns nw := by
  have b3 := H.w.2
  have h1 := H.w.1
  intro n
  induction n with
  | zero =>
    intro f hn hf
    obtain ⟨g, rfl⟩ : ∃ g, f = g + 1 := ⟨f - 1, by omega⟩
    refine ⟨?_, H⟩
    simp (disch := omega) only [l_Y_bargainsOnce_18, ix4, h1, Nat.sub_zero, sBgo, b1_so, b2_so, b3_so, e1_ok, e1_er, e2_ok, e2_er, e3_ok, e3_er, bI_so, bI_so', bI_0, bI_1, cB_bI, nI_s1, nJ_et, nJ_ef, nJ_lt, nJ_lf, pu_sM, sM_s, if_true, if_false, ite_self, Nat.lt_irrefl, Int32.zero_add, Int32.add_zero, not_true_eq_false, not_false_eq_true, rfw0, rfw1, rfw2, rfw3, rfw4, rfw5, rfw6, rfw7, rfp0, rfp1, rfp2, rfp3, rfp4, rfp5, rfp6, rfs0, rfs1, rfs2, rfs3, rwp0, rwp1, rwp2, rwp3, rwp4, rwp5, rwp6, rwp7, rpp0, rpp1, rpp2, rpp3, rpp4, rpp5, rpp6, rsp0, rsp1, rsp2, rsp3]
  | succ n ih =>
    intro f hn hf
    obtain ⟨g, rfl⟩ : ∃ g, f = g + 1 := ⟨f - 1, by omega⟩
    obtain ⟨j1, j2⟩ := ih g (by omega) (by omega)
    have e9 : nI (nw - (n + 1)) + 1 = nI (nw - n) := by rw [nI_s1, show nw - (n + 1) + 1 = nw - n by omega]
    by_cases hb : wN N (nw - (n + 1)) 3 = 1 ∧ wN N (nw - (n + 1)) 4 = nI p
    · have e : sBgo N ns nw p (n + 1) = (match sBarg N ns nw (nw - (n + 1)) with
        | none => sBgo N ns nw p n
        | some N' => N') := if_pos hb
      rcases r_bargains (I := I) (m := m) H (w := nw - (n + 1)) (by omega) with ⟨g1, g2⟩ | ⟨N', g1, g2, g3⟩
      · rw [g1] at e
        dsimp only at e
        rw [e]
        refine ⟨?_, j2⟩
        simp (disch := omega) only [l_Y_bargainsOnce_18, ix4, h1, r_isOwnedBy, bI_t hb, i10, g2, e9, j1, b1_so, b2_so, b3_so, e1_ok, e1_er, e2_ok, e2_er, e3_ok, e3_er, bI_so, bI_so', bI_0, bI_1, cB_bI, nI_s1, nJ_et, nJ_ef, nJ_lt, nJ_lf, pu_sM, sM_s, if_true, if_false, ite_self, Nat.lt_irrefl, Int32.zero_add, Int32.add_zero, not_true_eq_false, not_false_eq_true, rfw0, rfw1, rfw2, rfw3, rfw4, rfw5, rfw6, rfw7, rfp0, rfp1, rfp2, rfp3, rfp4, rfp5, rfp6, rfs0, rfs1, rfs2, rfs3, rwp0, rwp1, rwp2, rwp3, rwp4, rwp5, rwp6, rwp7, rpp0, rpp1, rpp2, rpp3, rpp4, rpp5, rpp6, rsp0, rsp1, rsp2, rsp3]
      · rw [g1] at e
        dsimp only at e
        rw [e]
        refine ⟨?_, g3⟩
        obtain ⟨g', rfl⟩ : ∃ g', g = g' + 1 := ⟨g - 1, by omega⟩
        have h9 := r_bgo1 (I := I) (m := m) g3.w (p := p) (i := nI (nw - n)) (f := g') (by
          by_cases h0 : n = 0
          · subst h0; exact Or.inl rfl
          · exact Or.inr ⟨nw - n, by omega, rfl⟩)
        rw [l_Y_bargainsOnce_18]
        simp (disch := omega) only [ix4, h1, r_isOwnedBy, bI_t hb, i10, g2, e9, h9, b1_so, b2_so, b3_so, e1_ok, e1_er, e2_ok, e2_er, e3_ok, e3_er, bI_so, bI_so', bI_0, bI_1, cB_bI, nI_s1, nJ_et, nJ_ef, nJ_lt, nJ_lf, pu_sM, sM_s, if_true, if_false, ite_self, Nat.lt_irrefl, Int32.zero_add, Int32.add_zero, not_true_eq_false, not_false_eq_true, rfw0, rfw1, rfw2, rfw3, rfw4, rfw5, rfw6, rfw7, rfp0, rfp1, rfp2, rfp3, rfp4, rfp5, rfp6, rfs0, rfs1, rfs2, rfs3, rwp0, rwp1, rwp2, rwp3, rwp4, rwp5, rwp6, rwp7, rpp0, rpp1, rpp2, rpp3, rpp4, rpp5, rpp6, rsp0, rsp1, rsp2, rsp3]
    · have e : sBgo N ns nw p (n + 1) = sBgo N ns nw p n := if_neg hb
      rw [e]
      refine ⟨?_, j2⟩
      simp (disch := omega) only [l_Y_bargainsOnce_18, ix4, h1, r_isOwnedBy, bI_f hb, e9, j1, b1_so, b2_so, b3_so, e1_ok, e1_er, e2_ok, e2_er, e3_ok, e3_er, bI_so, bI_so', bI_0, bI_1, cB_bI, nI_s1, nJ_et, nJ_ef, nJ_lt, nJ_lf, pu_sM, sM_s, if_true, if_false, ite_self, Nat.lt_irrefl, Int32.zero_add, Int32.add_zero, not_true_eq_false, not_false_eq_true, rfw0, rfw1, rfw2, rfw3, rfw4, rfw5, rfw6, rfw7, rfp0, rfp1, rfp2, rfp3, rfp4, rfp5, rfp6, rfs0, rfs1, rfs2, rfs3, rwp0, rwp1, rwp2, rwp3, rwp4, rwp5, rwp6, rwp7, rpp0, rpp1, rpp2, rpp3, rpp4, rpp5, rpp6, rsp0, rsp1, rsp2, rsp3]
theorem r_bargainsOnce (H : WF N np ns nw) {p : Nat} (hp : p < np) : f_Y_bargainsOnce (sM I m N) m (nI p) = some (sM I m (sBgOnce N ns nw p)) ∧ WF (sBgOnce N ns nw p) np ns nw := by
  have b1 := H.p.2
  have b3 := H.w.2
  unfold sBgOnce
  by_cases h : pN N p 6 = 0
  · rw [if_pos h]
    refine ⟨?_, H⟩
    have h9 := r_bgo1 (I := I) (m := m) H.w (p := p) (i := nI 0) (f := FU - 1) (by
      by_cases h0 : nw = 0
      · subst h0; exact Or.inl rfl
      · exact Or.inr ⟨0, by omega, rfl⟩)
    rw [show FU - 1 + 1 = FU from by have := FU_ge; omega] at h9
    have h8 : l_Y_bargainsOnce_18 FU (sM I m N) m (nI p) 1 0 = some (sM I m N) := h9
    simp (disch := omega) only [f_Y_bargainsOnce, h, h8, b1_so, b2_so, b3_so, e1_ok, e1_er, e2_ok, e2_er, e3_ok, e3_er, bI_so, bI_so', bI_0, bI_1, cB_bI, nI_s1, nJ_et, nJ_ef, nJ_lt, nJ_lf, pu_sM, sM_s, if_true, if_false, ite_self, Nat.lt_irrefl, Int32.zero_add, Int32.add_zero, not_true_eq_false, not_false_eq_true, rfw0, rfw1, rfw2, rfw3, rfw4, rfw5, rfw6, rfw7, rfp0, rfp1, rfp2, rfp3, rfp4, rfp5, rfp6, rfs0, rfs1, rfs2, rfs3, rwp0, rwp1, rwp2, rwp3, rwp4, rwp5, rwp6, rwp7, rpp0, rpp1, rpp2, rpp3, rpp4, rpp5, rpp6, rsp0, rsp1, rsp2, rsp3]
  · rw [if_neg h]
    obtain ⟨j1, j2⟩ := r_bgo (I := I) (m := m) H (p := p) nw FU (Nat.le_refl _) (by have := FU_ge; omega)
    refine ⟨?_, j2⟩
    rw [Nat.sub_self] at j1
    have h8 : l_Y_bargainsOnce_18 FU (sM I m N) m (nI p) 0 0 = some (sM I m (sBgo N ns nw p nw)) := j1
    simp (disch := omega) only [f_Y_bargainsOnce, h, h8, b1_so, b2_so, b3_so, e1_ok, e1_er, e2_ok, e2_er, e3_ok, e3_er, bI_so, bI_so', bI_0, bI_1, cB_bI, nI_s1, nJ_et, nJ_ef, nJ_lt, nJ_lf, pu_sM, sM_s, if_true, if_false, ite_self, Nat.lt_irrefl, Int32.zero_add, Int32.add_zero, not_true_eq_false, not_false_eq_true, rfw0, rfw1, rfw2, rfw3, rfw4, rfw5, rfw6, rfw7, rfp0, rfp1, rfp2, rfp3, rfp4, rfp5, rfp6, rfs0, rfs1, rfs2, rfs3, rwp0, rwp1, rwp2, rwp3, rwp4, rwp5, rwp6, rwp7, rpp0, rpp1, rpp2, rpp3, rpp4, rpp5, rpp6, rsp0, rsp1, rsp2, rsp3]
/-- an auction -/
def sAuc (N : Nat → Int32) (np nw s : Nat) : Nat → Int32 := match sDear N nw s with
  | none => N
  | some w => match sBidder N np nw w with
    | none => N
    | some p => if (if 1 < sVal N w / 2 then sVal N w / 2 else 1) ≤ sBid N p w then sGet N p w (sBid N p w) else N
theorem r_auctions (H : WF N np ns nw) {s : Nat} : f_Y_auctions (sM I m N) m (nI s) = some (sM I m (sAuc N np nw s)) ∧ WF (sAuc N np nw s) np ns nw := by
  have b1 := H.p.2
  have b3 := H.w.2
  have hd := r_dearest (I := I) (m := m) H (s := s)
  unfold sAuc
  cases hz : sDear N nw s with
  | none =>
    refine ⟨?_, H⟩
    simp (disch := omega) only [f_Y_auctions, hd, hz, oI, l_Y_auctions_20, b1_so, b2_so, b3_so, e1_ok, e1_er, e2_ok, e2_er, e3_ok, e3_er, bI_so, bI_so', bI_0, bI_1, cB_bI, nI_s1, nJ_et, nJ_ef, nJ_lt, nJ_lf, pu_sM, sM_s, if_true, if_false, ite_self, Nat.lt_irrefl, Int32.zero_add, Int32.add_zero, not_true_eq_false, not_false_eq_true, rfw0, rfw1, rfw2, rfw3, rfw4, rfw5, rfw6, rfw7, rfp0, rfp1, rfp2, rfp3, rfp4, rfp5, rfp6, rfs0, rfs1, rfs2, rfs3, rwp0, rwp1, rwp2, rwp3, rwp4, rwp5, rwp6, rwp7, rpp0, rpp1, rpp2, rpp3, rpp4, rpp5, rpp6, rsp0, rsp1, rsp2, rsp3]
  | some w =>
    obtain ⟨g1, g2⟩ := sBest_in hz
    have hb := r_bidder (I := I) (m := m) H g1
    dsimp only
    cases hy : sBidder N np nw w with
    | none =>
      refine ⟨?_, H⟩
      simp (disch := omega) only [f_Y_auctions, hd, hz, oI, oI_n, hb, hy, l_Y_auctions_20, b1_so, b2_so, b3_so, e1_ok, e1_er, e2_ok, e2_er, e3_ok, e3_er, bI_so, bI_so', bI_0, bI_1, cB_bI, nI_s1, nJ_et, nJ_ef, nJ_lt, nJ_lf, pu_sM, sM_s, if_true, if_false, ite_self, Nat.lt_irrefl, Int32.zero_add, Int32.add_zero, not_true_eq_false, not_false_eq_true, rfw0, rfw1, rfw2, rfw3, rfw4, rfw5, rfw6, rfw7, rfp0, rfp1, rfp2, rfp3, rfp4, rfp5, rfp6, rfs0, rfs1, rfs2, rfs3, rwp0, rwp1, rwp2, rwp3, rwp4, rwp5, rwp6, rwp7, rpp0, rpp1, rpp2, rpp3, rpp4, rpp5, rpp6, rsp0, rsp1, rsp2, rsp3]
    | some p =>
      obtain ⟨k1, k2⟩ := sBest_in hy
      have ho : sOwns N nw (nI p) < 4 := by
        have := (H.2.2.2.2.2 p k1).1
        have k3 : ¬ sOwns N nw (nI p) = 4 := k2
        omega
      have hr := r_gets (I := I) (m := m) H (p := p) (c := sBid N p w) g1 g2.1 (by omega)
      dsimp only
      by_cases h : (if 1 < sVal N w / 2 then sVal N w / 2 else 1) ≤ sBid N p w
      · rw [if_pos h]
        refine ⟨?_, H.get g1 g2.1 k1 ho⟩
        simp (disch := omega) only [f_Y_auctions, hd, hz, oI, oI_n, hb, hy, l_Y_auctions_20, r_bidOf, r_valueOf, h, hr, b1_so, b2_so, b3_so, e1_ok, e1_er, e2_ok, e2_er, e3_ok, e3_er, bI_so, bI_so', bI_0, bI_1, cB_bI, nI_s1, nJ_et, nJ_ef, nJ_lt, nJ_lf, pu_sM, sM_s, if_true, if_false, ite_self, Nat.lt_irrefl, Int32.zero_add, Int32.add_zero, not_true_eq_false, not_false_eq_true, rfw0, rfw1, rfw2, rfw3, rfw4, rfw5, rfw6, rfw7, rfp0, rfp1, rfp2, rfp3, rfp4, rfp5, rfp6, rfs0, rfs1, rfs2, rfs3, rwp0, rwp1, rwp2, rwp3, rwp4, rwp5, rwp6, rwp7, rpp0, rpp1, rpp2, rpp3, rpp4, rpp5, rpp6, rsp0, rsp1, rsp2, rsp3]
      · rw [if_neg h]
        refine ⟨?_, H⟩
        simp (disch := omega) only [f_Y_auctions, hd, hz, oI, oI_n, hb, hy, l_Y_auctions_20, r_bidOf, r_valueOf, h, b1_so, b2_so, b3_so, e1_ok, e1_er, e2_ok, e2_er, e3_ok, e3_er, bI_so, bI_so', bI_0, bI_1, cB_bI, nI_s1, nJ_et, nJ_ef, nJ_lt, nJ_lf, pu_sM, sM_s, if_true, if_false, ite_self, Nat.lt_irrefl, Int32.zero_add, Int32.add_zero, not_true_eq_false, not_false_eq_true, rfw0, rfw1, rfw2, rfw3, rfw4, rfw5, rfw6, rfw7, rfp0, rfp1, rfp2, rfp3, rfp4, rfp5, rfp6, rfs0, rfs1, rfs2, rfs3, rwp0, rwp1, rwp2, rwp3, rwp4, rwp5, rwp6, rwp7, rpp0, rpp1, rpp2, rpp3, rpp4, rpp5, rpp6, rsp0, rsp1, rsp2, rsp3]
/-- the tax -/
def sTax (N : Nat → Int32) (ns p : Nat) : Nat → Int32 := sPay N (sPoor N (ns - 1)) p (-(pN N p 0 * N 10 / 100))
theorem ix10 : ix 10 355 = some 10 := ixN 355 (a := 10) rfl (by decide) (by decide)
theorem ix9 : ix 9 355 = some 9 := ixN 355 (a := 9) rfl (by decide) (by decide)
theorem ix8 : ix 8 355 = some 8 := ixN 355 (a := 8) rfl (by decide) (by decide)
theorem r_paysTax (H : WF N np ns nw) {p : Nat} (h0 : 0 < ns) (hp : p < np) : f_Y_paysTax (sM I m N) m (nI p) = some (sM I m (sTax N ns p)) ∧ WF (sTax N ns p) np ns nw := by
  have b1 := H.p.2
  have b2 := H.s.2
  have h3 := sPoor_le (N := N) (ns - 1)
  refine ⟨?_, H.pay (by omega) (by omega)⟩
  simp (disch := omega) only [f_Y_paysTax, r_poorest H h0, ix10, r_pays, sTax, b1_so, b2_so, b3_so, e1_ok, e1_er, e2_ok, e2_er, e3_ok, e3_er, bI_so, bI_so', bI_0, bI_1, cB_bI, nI_s1, nJ_et, nJ_ef, nJ_lt, nJ_lf, pu_sM, sM_s, if_true, if_false, ite_self, Nat.lt_irrefl, Int32.zero_add, Int32.add_zero, not_true_eq_false, not_false_eq_true, rfw0, rfw1, rfw2, rfw3, rfw4, rfw5, rfw6, rfw7, rfp0, rfp1, rfp2, rfp3, rfp4, rfp5, rfp6, rfs0, rfs1, rfs2, rfs3, rwp0, rwp1, rwp2, rwp3, rwp4, rwp5, rwp6, rwp7, rpp0, rpp1, rpp2, rpp3, rpp4, rpp5, rpp6, rsp0, rsp1, rsp2, rsp3]
/-- wear -/
def sWear (N : Nat → Int32) (w : Nat) : Nat → Int32 := if wN N w 3 = 1 ∨ wN N w 3 = 0 then (if wN N w 2 + 1 = 10 then sGo (upd N (115 + 15 * w + 2) (wN N w 2 + 1)) w 3 (-1) else upd N (115 + 15 * w + 2) (wN N w 2 + 1)) else N
end RG
