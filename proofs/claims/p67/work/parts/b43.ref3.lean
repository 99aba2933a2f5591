/-- the best of the first n that have P: the first one that no later one beats -/
def sBest (P : Nat → Prop) [DecidablePred P] (B : Nat → Nat → Prop) [DecidableRel B] : Nat → Option Nat
  | 0 => none
  | n + 1 => if P n then (match sBest P B n with
    | none => some n
    | some b => if B n b then some n else some b) else sBest P B n
def oI : Option Nat → Int32
  | none => -1
  | some b => nI b
theorem oI_n {b : Nat} (h : b < 2147483648) : (nI b = -1) = False := by
  refine eq_false fun h9 => ?_
  have h1 : (nI b).toInt = (-1 : Int32).toInt := by rw [h9]
  rw [nI_toInt (by omega), show (-1 : Int32).toInt = -1 from rfl] at h1
  omega
section BE
variable {P : Nat → Prop} {B : Nat → Nat → Prop}
theorem sBest_in [DecidablePred P] [DecidableRel B] : ∀ {n b : Nat}, sBest P B n = some b → b < n ∧ P b := by
  intro n
  induction n with
  | zero => intro b h; cases h
  | succ n ih =>
    intro b h
    unfold sBest at h
    by_cases h1 : P n
    · rw [if_pos h1] at h
      cases h2 : sBest P B n with
      | none => rw [h2] at h; cases h; exact ⟨Nat.lt_succ_self _, h1⟩
      | some c =>
        rw [h2] at h
        dsimp only at h
        by_cases h3 : B n c
        · rw [if_pos h3] at h; cases h; exact ⟨Nat.lt_succ_self _, h1⟩
        · rw [if_neg h3] at h; cases h
          have := ih h2
          exact ⟨by omega, this.2⟩
    · rw [if_neg h1] at h
      have := ih h
      exact ⟨by omega, this.2⟩
theorem sBest_no [DecidablePred P] [DecidableRel B] {n : Nat} (h : ¬ P n) : sBest P B (n + 1) = sBest P B n := by
  show (if P n then _ else _) = _
  rw [if_neg h]
theorem sBest_fi [DecidablePred P] [DecidableRel B] {n : Nat} (h : P n) (h2 : sBest P B n = none) : sBest P B (n + 1) = some n := by
  show (if P n then _ else _) = _
  rw [if_pos h, h2]
theorem sBest_up [DecidablePred P] [DecidableRel B] {n b : Nat} (h : P n) (h2 : sBest P B n = some b) (h3 : B n b) : sBest P B (n + 1) = some n := by
  show (if P n then _ else _) = _
  rw [if_pos h, h2]
  exact if_pos h3
theorem sBest_ke [DecidablePred P] [DecidableRel B] {n b : Nat} (h : P n) (h2 : sBest P B n = some b) (h3 : ¬ B n b) : sBest P B (n + 1) = some b := by
  show (if P n then _ else _) = _
  rw [if_pos h, h2]
  exact if_neg h3
end BE
theorem i10 : ((1 : Int32) = 0) = False := by decide
section RC
variable {I : Mem} {m np ns nw : Nat} {N : Nat → Int32}
/-- the wish that is cheapest for a person, up to a limit -/
abbrev cP (N : Nat → Int32) (nw p : Nat) (lim : Int32) (w : Nat) : Prop := sWhyBuy N nw p w = 0 ∧ sPrice N w ≤ lim
abbrev cB2 (N : Nat → Int32) (w b : Nat) : Prop := ¬ sPrice N b ≤ sPrice N w
def sCheap (N : Nat → Int32) (nw p : Nat) (lim : Int32) : Option Nat := sBest (cP N nw p lim) (cB2 N) nw
theorem whyBuy0 {p w : Nat} (h : sWhyBuy N nw p w = 0) : wN N w 3 = 0 := by
  unfold sWhyBuy at h
  by_cases h3 : wN N w 3 = 0
  · exact h3
  · rw [if_neg h3] at h; exact absurd h (by decide)
theorem r_cheapest (H : WF N np ns nw) {p : Nat} {lim : Int32} (hp : p < 6) : f_Y_cheapest (sM I m N) m (nI p) lim = some (oI (sCheap N nw p lim)) := by
  obtain ⟨h1, h2⟩ := H.w
  refine up_loop (fun f (z : Int32 × Int32) => l_Y_cheapest_5 f (sM I m N) m (nI p) lim z.1 z.2) (fun i => (oI (sBest (cP N nw p lim) (cB2 N) i), nI i)) nw _ (fun i hi f => ?_) (fun f => ?_) (FU_up (by omega))
  · by_cases hb : sWhyBuy N nw p i = 0
    · have h3 := whyBuy0 hb
      by_cases hl : sPrice N i ≤ lim
      · have hP : cP N nw p lim i := ⟨hb, hl⟩
        cases hz : sBest (cP N nw p lim) (cB2 N) i with
        | none =>
          have e := sBest_fi hP hz
          simp (disch := omega) only [l_Y_cheapest_5, ix4, h1, r_whyBuy H hp hi, hb, r_priceOf H hi h3, hl, oI, e, hz, b1_so, b2_so, b3_so, e1_ok, e1_er, e2_ok, e2_er, e3_ok, e3_er, bI_so, bI_so', bI_0, bI_1, cB_bI, nI_s1, nJ_et, nJ_ef, nJ_lt, nJ_lf, pu_sM, sM_s, if_true, if_false, ite_self, Nat.lt_irrefl, Int32.zero_add, Int32.add_zero, not_true_eq_false, not_false_eq_true, rfw0, rfw1, rfw2, rfw3, rfw4, rfw5, rfw6, rfw7, rfp0, rfp1, rfp2, rfp3, rfp4, rfp5, rfp6, rfs0, rfs1, rfs2, rfs3, rwp0, rwp1, rwp2, rwp3, rwp4, rwp5, rwp6, rwp7, rpp0, rpp1, rpp2, rpp3, rpp4, rpp5, rpp6, rsp0, rsp1, rsp2, rsp3]
        | some b =>
          obtain ⟨hb1, hb2⟩ := sBest_in hz
          have h4 := whyBuy0 hb2.1
          by_cases hv : sPrice N b ≤ sPrice N i
          · have e := sBest_ke hP hz (by exact fun h => h hv)
            simp (disch := omega) only [l_Y_cheapest_5, ix4, h1, r_whyBuy H hp hi, hb, r_priceOf H hi h3, hl, oI, oI_n, e, hz, r_priceOf H (show b < nw by omega) h4, hv, b1_so, b2_so, b3_so, e1_ok, e1_er, e2_ok, e2_er, e3_ok, e3_er, bI_so, bI_so', bI_0, bI_1, cB_bI, nI_s1, nJ_et, nJ_ef, nJ_lt, nJ_lf, pu_sM, sM_s, if_true, if_false, ite_self, Nat.lt_irrefl, Int32.zero_add, Int32.add_zero, not_true_eq_false, not_false_eq_true, rfw0, rfw1, rfw2, rfw3, rfw4, rfw5, rfw6, rfw7, rfp0, rfp1, rfp2, rfp3, rfp4, rfp5, rfp6, rfs0, rfs1, rfs2, rfs3, rwp0, rwp1, rwp2, rwp3, rwp4, rwp5, rwp6, rwp7, rpp0, rpp1, rpp2, rpp3, rpp4, rpp5, rpp6, rsp0, rsp1, rsp2, rsp3]
          · have e := sBest_up hP hz hv
            simp (disch := omega) only [l_Y_cheapest_5, ix4, h1, r_whyBuy H hp hi, hb, r_priceOf H hi h3, hl, oI, oI_n, e, hz, r_priceOf H (show b < nw by omega) h4, hv, b1_so, b2_so, b3_so, e1_ok, e1_er, e2_ok, e2_er, e3_ok, e3_er, bI_so, bI_so', bI_0, bI_1, cB_bI, nI_s1, nJ_et, nJ_ef, nJ_lt, nJ_lf, pu_sM, sM_s, if_true, if_false, ite_self, Nat.lt_irrefl, Int32.zero_add, Int32.add_zero, not_true_eq_false, not_false_eq_true, rfw0, rfw1, rfw2, rfw3, rfw4, rfw5, rfw6, rfw7, rfp0, rfp1, rfp2, rfp3, rfp4, rfp5, rfp6, rfs0, rfs1, rfs2, rfs3, rwp0, rwp1, rwp2, rwp3, rwp4, rwp5, rwp6, rwp7, rpp0, rpp1, rpp2, rpp3, rpp4, rpp5, rpp6, rsp0, rsp1, rsp2, rsp3]
      · have e := sBest_no (P := cP N nw p lim) (B := cB2 N) (n := i) (fun h => hl h.2)
        simp (disch := omega) only [l_Y_cheapest_5, ix4, h1, r_whyBuy H hp hi, hb, r_priceOf H hi h3, hl, e, b1_so, b2_so, b3_so, e1_ok, e1_er, e2_ok, e2_er, e3_ok, e3_er, bI_so, bI_so', bI_0, bI_1, cB_bI, nI_s1, nJ_et, nJ_ef, nJ_lt, nJ_lf, pu_sM, sM_s, if_true, if_false, ite_self, Nat.lt_irrefl, Int32.zero_add, Int32.add_zero, not_true_eq_false, not_false_eq_true, rfw0, rfw1, rfw2, rfw3, rfw4, rfw5, rfw6, rfw7, rfp0, rfp1, rfp2, rfp3, rfp4, rfp5, rfp6, rfs0, rfs1, rfs2, rfs3, rwp0, rwp1, rwp2, rwp3, rwp4, rwp5, rwp6, rwp7, rpp0, rpp1, rpp2, rpp3, rpp4, rpp5, rpp6, rsp0, rsp1, rsp2, rsp3]
    · have e := sBest_no (P := cP N nw p lim) (B := cB2 N) (n := i) (fun h => hb h.1)
      simp (disch := omega) only [l_Y_cheapest_5, ix4, h1, r_whyBuy H hp hi, hb, e, b1_so, b2_so, b3_so, e1_ok, e1_er, e2_ok, e2_er, e3_ok, e3_er, bI_so, bI_so', bI_0, bI_1, cB_bI, nI_s1, nJ_et, nJ_ef, nJ_lt, nJ_lf, pu_sM, sM_s, if_true, if_false, ite_self, Nat.lt_irrefl, Int32.zero_add, Int32.add_zero, not_true_eq_false, not_false_eq_true, rfw0, rfw1, rfw2, rfw3, rfw4, rfw5, rfw6, rfw7, rfp0, rfp1, rfp2, rfp3, rfp4, rfp5, rfp6, rfs0, rfs1, rfs2, rfs3, rwp0, rwp1, rwp2, rwp3, rwp4, rwp5, rwp6, rwp7, rpp0, rpp1, rpp2, rpp3, rpp4, rpp5, rpp6, rsp0, rsp1, rsp2, rsp3]
  · simp (disch := omega) only [l_Y_cheapest_5, ix4, h1, b1_so, b2_so, b3_so, e1_ok, e1_er, e2_ok, e2_er, e3_ok, e3_er, bI_so, bI_so', bI_0, bI_1, cB_bI, nI_s1, nJ_et, nJ_ef, nJ_lt, nJ_lf, pu_sM, sM_s, if_true, if_false, ite_self, Nat.lt_irrefl, Int32.zero_add, Int32.add_zero, not_true_eq_false, not_false_eq_true, rfw0, rfw1, rfw2, rfw3, rfw4, rfw5, rfw6, rfw7, rfp0, rfp1, rfp2, rfp3, rfp4, rfp5, rfp6, rfs0, rfs1, rfs2, rfs3, rwp0, rwp1, rwp2, rwp3, rwp4, rwp5, rwp6, rwp7, rpp0, rpp1, rpp2, rpp3, rpp4, rpp5, rpp6, rsp0, rsp1, rsp2, rsp3]
    rfl
/-- the most valuable wish of an owner that can be granted -/
abbrev gP (N : Nat → Int32) (p w : Nat) : Prop := (wN N w 3 = 1 ∧ wN N w 4 = nI p) ∧ sWhyGr N w = 0
abbrev vB (N : Nat → Int32) (w b : Nat) : Prop := ¬ sVal N w ≤ sVal N b
def sGreat (N : Nat → Int32) (nw p : Nat) : Option Nat := sBest (gP N p) (vB N) nw
theorem r_greatestGrant (H : WF N np ns nw) {p : Nat} : f_Y_greatestGrant (sM I m N) m (nI p) = some (oI (sGreat N nw p)) := by
  obtain ⟨h1, h2⟩ := H.w
  refine up_loop (fun f (z : Int32 × Int32) => l_Y_greatestGrant_4 f (sM I m N) m (nI p) z.1 z.2) (fun i => (oI (sBest (gP N p) (vB N) i), nI i)) nw _ (fun i hi f => ?_) (fun f => ?_) (FU_up (by omega))
  · by_cases hb : wN N i 3 = 1 ∧ wN N i 4 = nI p
    · by_cases hl : sWhyGr N i = 0
      · have hP : gP N p i := ⟨hb, hl⟩
        cases hz : sBest (gP N p) (vB N) i with
        | none =>
          have e := sBest_fi hP hz
          simp (disch := omega) only [l_Y_greatestGrant_4, ix4, h1, r_isOwnedBy, bI_t hb, i10, r_whyGr H hi, hl, oI, e, hz, b1_so, b2_so, b3_so, e1_ok, e1_er, e2_ok, e2_er, e3_ok, e3_er, bI_so, bI_so', bI_0, bI_1, cB_bI, nI_s1, nJ_et, nJ_ef, nJ_lt, nJ_lf, pu_sM, sM_s, if_true, if_false, ite_self, Nat.lt_irrefl, Int32.zero_add, Int32.add_zero, not_true_eq_false, not_false_eq_true, rfw0, rfw1, rfw2, rfw3, rfw4, rfw5, rfw6, rfw7, rfp0, rfp1, rfp2, rfp3, rfp4, rfp5, rfp6, rfs0, rfs1, rfs2, rfs3, rwp0, rwp1, rwp2, rwp3, rwp4, rwp5, rwp6, rwp7, rpp0, rpp1, rpp2, rpp3, rpp4, rpp5, rpp6, rsp0, rsp1, rsp2, rsp3]
        | some b =>
          obtain ⟨hb1, hb2⟩ := sBest_in hz
          by_cases hv : sVal N i ≤ sVal N b
          · have e := sBest_ke hP hz (by exact fun h => h hv)
            simp (disch := omega) only [l_Y_greatestGrant_4, ix4, h1, r_isOwnedBy, bI_t hb, i10, r_whyGr H hi, hl, oI, oI_n, e, hz, r_valueOf, hv, b1_so, b2_so, b3_so, e1_ok, e1_er, e2_ok, e2_er, e3_ok, e3_er, bI_so, bI_so', bI_0, bI_1, cB_bI, nI_s1, nJ_et, nJ_ef, nJ_lt, nJ_lf, pu_sM, sM_s, if_true, if_false, ite_self, Nat.lt_irrefl, Int32.zero_add, Int32.add_zero, not_true_eq_false, not_false_eq_true, rfw0, rfw1, rfw2, rfw3, rfw4, rfw5, rfw6, rfw7, rfp0, rfp1, rfp2, rfp3, rfp4, rfp5, rfp6, rfs0, rfs1, rfs2, rfs3, rwp0, rwp1, rwp2, rwp3, rwp4, rwp5, rwp6, rwp7, rpp0, rpp1, rpp2, rpp3, rpp4, rpp5, rpp6, rsp0, rsp1, rsp2, rsp3]
          · have e := sBest_up hP hz hv
            simp (disch := omega) only [l_Y_greatestGrant_4, ix4, h1, r_isOwnedBy, bI_t hb, i10, r_whyGr H hi, hl, oI, oI_n, e, hz, r_valueOf, hv, b1_so, b2_so, b3_so, e1_ok, e1_er, e2_ok, e2_er, e3_ok, e3_er, bI_so, bI_so', bI_0, bI_1, cB_bI, nI_s1, nJ_et, nJ_ef, nJ_lt, nJ_lf, pu_sM, sM_s, if_true, if_false, ite_self, Nat.lt_irrefl, Int32.zero_add, Int32.add_zero, not_true_eq_false, not_false_eq_true, rfw0, rfw1, rfw2, rfw3, rfw4, rfw5, rfw6, rfw7, rfp0, rfp1, rfp2, rfp3, rfp4, rfp5, rfp6, rfs0, rfs1, rfs2, rfs3, rwp0, rwp1, rwp2, rwp3, rwp4, rwp5, rwp6, rwp7, rpp0, rpp1, rpp2, rpp3, rpp4, rpp5, rpp6, rsp0, rsp1, rsp2, rsp3]
      · have e := sBest_no (P := gP N p) (B := vB N) (n := i) (fun h => hl h.2)
        simp (disch := omega) only [l_Y_greatestGrant_4, ix4, h1, r_isOwnedBy, bI_t hb, i10, r_whyGr H hi, hl, e, b1_so, b2_so, b3_so, e1_ok, e1_er, e2_ok, e2_er, e3_ok, e3_er, bI_so, bI_so', bI_0, bI_1, cB_bI, nI_s1, nJ_et, nJ_ef, nJ_lt, nJ_lf, pu_sM, sM_s, if_true, if_false, ite_self, Nat.lt_irrefl, Int32.zero_add, Int32.add_zero, not_true_eq_false, not_false_eq_true, rfw0, rfw1, rfw2, rfw3, rfw4, rfw5, rfw6, rfw7, rfp0, rfp1, rfp2, rfp3, rfp4, rfp5, rfp6, rfs0, rfs1, rfs2, rfs3, rwp0, rwp1, rwp2, rwp3, rwp4, rwp5, rwp6, rwp7, rpp0, rpp1, rpp2, rpp3, rpp4, rpp5, rpp6, rsp0, rsp1, rsp2, rsp3]
    · have e := sBest_no (P := gP N p) (B := vB N) (n := i) (fun h => hb h.1)
      simp (disch := omega) only [l_Y_greatestGrant_4, ix4, h1, r_isOwnedBy, bI_f hb, e, b1_so, b2_so, b3_so, e1_ok, e1_er, e2_ok, e2_er, e3_ok, e3_er, bI_so, bI_so', bI_0, bI_1, cB_bI, nI_s1, nJ_et, nJ_ef, nJ_lt, nJ_lf, pu_sM, sM_s, if_true, if_false, ite_self, Nat.lt_irrefl, Int32.zero_add, Int32.add_zero, not_true_eq_false, not_false_eq_true, rfw0, rfw1, rfw2, rfw3, rfw4, rfw5, rfw6, rfw7, rfp0, rfp1, rfp2, rfp3, rfp4, rfp5, rfp6, rfs0, rfs1, rfs2, rfs3, rwp0, rwp1, rwp2, rwp3, rwp4, rwp5, rwp6, rwp7, rpp0, rpp1, rpp2, rpp3, rpp4, rpp5, rpp6, rsp0, rsp1, rsp2, rsp3]
  · simp (disch := omega) only [l_Y_greatestGrant_4, ix4, h1, b1_so, b2_so, b3_so, e1_ok, e1_er, e2_ok, e2_er, e3_ok, e3_er, bI_so, bI_so', bI_0, bI_1, cB_bI, nI_s1, nJ_et, nJ_ef, nJ_lt, nJ_lf, pu_sM, sM_s, if_true, if_false, ite_self, Nat.lt_irrefl, Int32.zero_add, Int32.add_zero, not_true_eq_false, not_false_eq_true, rfw0, rfw1, rfw2, rfw3, rfw4, rfw5, rfw6, rfw7, rfp0, rfp1, rfp2, rfp3, rfp4, rfp5, rfp6, rfs0, rfs1, rfs2, rfs3, rwp0, rwp1, rwp2, rwp3, rwp4, rwp5, rwp6, rwp7, rpp0, rpp1, rpp2, rpp3, rpp4, rpp5, rpp6, rsp0, rsp1, rsp2, rsp3]
    rfl
/-- the stall that offers most -/
abbrev oP (N : Nat → Int32) (nw w s : Nat) : Prop := sWhySell N nw w s = 0
abbrev oB (N : Nat → Int32) (w s b : Nat) : Prop := ¬ sOff N w s ≤ sOff N w b
def sBestOff (N : Nat → Int32) (ns nw w : Nat) : Option Nat := sBest (oP N nw w) (oB N w) ns
theorem r_greatestOffer (H : WF N np ns nw) {w : Nat} (hw : w < nw) : f_Y_greatestOffer (sM I m N) m (nI w) = some (oI (sBestOff N ns nw w)) := by
  obtain ⟨h1, h2⟩ := H.s
  have h9 := H.w.2
  refine up_loop (fun f (z : Int32 × Int32) => l_Y_greatestOffer_4 f (sM I m N) m (nI w) z.1 z.2) (fun i => (oI (sBest (oP N nw w) (oB N w) i), nI i)) ns _ (fun i hi f => ?_) (fun f => ?_) (FU_up (by omega))
  · have hs := r_whySell (I := I) (m := m) H (show i < 5 by omega) hw
    by_cases hl : sWhySell N nw w i = 0
    · cases hz : sBest (oP N nw w) (oB N w) i with
      | none =>
        have e := sBest_fi hl hz
        simp (disch := omega) only [l_Y_greatestOffer_4, ix3, h1, hs, hl, oI, e, hz, b1_so, b2_so, b3_so, e1_ok, e1_er, e2_ok, e2_er, e3_ok, e3_er, bI_so, bI_so', bI_0, bI_1, cB_bI, nI_s1, nJ_et, nJ_ef, nJ_lt, nJ_lf, pu_sM, sM_s, if_true, if_false, ite_self, Nat.lt_irrefl, Int32.zero_add, Int32.add_zero, not_true_eq_false, not_false_eq_true, rfw0, rfw1, rfw2, rfw3, rfw4, rfw5, rfw6, rfw7, rfp0, rfp1, rfp2, rfp3, rfp4, rfp5, rfp6, rfs0, rfs1, rfs2, rfs3, rwp0, rwp1, rwp2, rwp3, rwp4, rwp5, rwp6, rwp7, rpp0, rpp1, rpp2, rpp3, rpp4, rpp5, rpp6, rsp0, rsp1, rsp2, rsp3]
      | some b =>
        obtain ⟨hb1, hb2⟩ := sBest_in hz
        by_cases hv : sOff N w i ≤ sOff N w b
        · have e := sBest_ke hl hz (by exact fun h => h hv)
          simp (disch := omega) only [l_Y_greatestOffer_4, ix3, h1, hs, hl, oI, oI_n, e, hz, r_offerOf, hv, b1_so, b2_so, b3_so, e1_ok, e1_er, e2_ok, e2_er, e3_ok, e3_er, bI_so, bI_so', bI_0, bI_1, cB_bI, nI_s1, nJ_et, nJ_ef, nJ_lt, nJ_lf, pu_sM, sM_s, if_true, if_false, ite_self, Nat.lt_irrefl, Int32.zero_add, Int32.add_zero, not_true_eq_false, not_false_eq_true, rfw0, rfw1, rfw2, rfw3, rfw4, rfw5, rfw6, rfw7, rfp0, rfp1, rfp2, rfp3, rfp4, rfp5, rfp6, rfs0, rfs1, rfs2, rfs3, rwp0, rwp1, rwp2, rwp3, rwp4, rwp5, rwp6, rwp7, rpp0, rpp1, rpp2, rpp3, rpp4, rpp5, rpp6, rsp0, rsp1, rsp2, rsp3]
        · have e := sBest_up hl hz hv
          simp (disch := omega) only [l_Y_greatestOffer_4, ix3, h1, hs, hl, oI, oI_n, e, hz, r_offerOf, hv, b1_so, b2_so, b3_so, e1_ok, e1_er, e2_ok, e2_er, e3_ok, e3_er, bI_so, bI_so', bI_0, bI_1, cB_bI, nI_s1, nJ_et, nJ_ef, nJ_lt, nJ_lf, pu_sM, sM_s, if_true, if_false, ite_self, Nat.lt_irrefl, Int32.zero_add, Int32.add_zero, not_true_eq_false, not_false_eq_true, rfw0, rfw1, rfw2, rfw3, rfw4, rfw5, rfw6, rfw7, rfp0, rfp1, rfp2, rfp3, rfp4, rfp5, rfp6, rfs0, rfs1, rfs2, rfs3, rwp0, rwp1, rwp2, rwp3, rwp4, rwp5, rwp6, rwp7, rpp0, rpp1, rpp2, rpp3, rpp4, rpp5, rpp6, rsp0, rsp1, rsp2, rsp3]
    · have e := sBest_no (P := oP N nw w) (B := oB N w) (n := i) hl
      simp (disch := omega) only [l_Y_greatestOffer_4, ix3, h1, hs, hl, e, b1_so, b2_so, b3_so, e1_ok, e1_er, e2_ok, e2_er, e3_ok, e3_er, bI_so, bI_so', bI_0, bI_1, cB_bI, nI_s1, nJ_et, nJ_ef, nJ_lt, nJ_lf, pu_sM, sM_s, if_true, if_false, ite_self, Nat.lt_irrefl, Int32.zero_add, Int32.add_zero, not_true_eq_false, not_false_eq_true, rfw0, rfw1, rfw2, rfw3, rfw4, rfw5, rfw6, rfw7, rfp0, rfp1, rfp2, rfp3, rfp4, rfp5, rfp6, rfs0, rfs1, rfs2, rfs3, rwp0, rwp1, rwp2, rwp3, rwp4, rwp5, rwp6, rwp7, rpp0, rpp1, rpp2, rpp3, rpp4, rpp5, rpp6, rsp0, rsp1, rsp2, rsp3]
  · simp (disch := omega) only [l_Y_greatestOffer_4, ix3, h1, b1_so, b2_so, b3_so, e1_ok, e1_er, e2_ok, e2_er, e3_ok, e3_er, bI_so, bI_so', bI_0, bI_1, cB_bI, nI_s1, nJ_et, nJ_ef, nJ_lt, nJ_lf, pu_sM, sM_s, if_true, if_false, ite_self, Nat.lt_irrefl, Int32.zero_add, Int32.add_zero, not_true_eq_false, not_false_eq_true, rfw0, rfw1, rfw2, rfw3, rfw4, rfw5, rfw6, rfw7, rfp0, rfp1, rfp2, rfp3, rfp4, rfp5, rfp6, rfs0, rfs1, rfs2, rfs3, rwp0, rwp1, rwp2, rwp3, rwp4, rwp5, rwp6, rwp7, rpp0, rpp1, rpp2, rpp3, rpp4, rpp5, rpp6, rsp0, rsp1, rsp2, rsp3]
    rfl
end RC
