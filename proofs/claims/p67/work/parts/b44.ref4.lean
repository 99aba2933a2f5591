section RD
variable {I : Mem} {m np ns nw : Nat} {N : Nat → Int32}
/-- the most valuable wish in a stall -/
abbrev dP (N : Nat → Int32) (s w : Nat) : Prop := wN N w 3 = 0 ∧ wN N w 4 = nI s
def sDear (N : Nat → Int32) (nw s : Nat) : Option Nat := sBest (dP N s) (vB N) nw
theorem r_dearest (H : WF N np ns nw) {s : Nat} : f_Y_dearest (sM I m N) m (nI s) = some (oI (sDear N nw s)) := by
  obtain ⟨h1, h2⟩ := H.w
  refine up_loop (fun f (z : Int32 × Int32) => l_Y_dearest_4 f (sM I m N) m (nI s) z.1 z.2) (fun i => (oI (sBest (dP N s) (vB N) i), nI i)) nw _ (fun i hi f => ?_) (fun f => ?_) (FU_up (by omega))
  · by_cases hb : wN N i 3 = 0
    · by_cases hl : wN N i 4 = nI s
      · have hP : dP N s i := ⟨hb, hl⟩
        cases hz : sBest (dP N s) (vB N) i with
        | none =>
          have e := sBest_fi hP hz
          simp (disch := omega) only [l_Y_dearest_4, ix4, h1, r_isInStall, hb, hl, oI, e, hz, b1_so, b2_so, b3_so, e1_ok, e1_er, e2_ok, e2_er, e3_ok, e3_er, bI_so, bI_so', bI_0, bI_1, cB_bI, nI_s1, nJ_et, nJ_ef, nJ_lt, nJ_lf, pu_sM, sM_s, if_true, if_false, ite_self, Nat.lt_irrefl, Int32.zero_add, Int32.add_zero, not_true_eq_false, not_false_eq_true, rfw0, rfw1, rfw2, rfw3, rfw4, rfw5, rfw6, rfw7, rfp0, rfp1, rfp2, rfp3, rfp4, rfp5, rfp6, rfs0, rfs1, rfs2, rfs3, rwp0, rwp1, rwp2, rwp3, rwp4, rwp5, rwp6, rwp7, rpp0, rpp1, rpp2, rpp3, rpp4, rpp5, rpp6, rsp0, rsp1, rsp2, rsp3]
        | some b =>
          obtain ⟨hb1, hb2⟩ := sBest_in hz
          by_cases hv : sVal N i ≤ sVal N b
          · have e := sBest_ke hP hz (by exact fun h => h hv)
            simp (disch := omega) only [l_Y_dearest_4, ix4, h1, r_isInStall, hb, hl, oI, oI_n, e, hz, r_valueOf, hv, b1_so, b2_so, b3_so, e1_ok, e1_er, e2_ok, e2_er, e3_ok, e3_er, bI_so, bI_so', bI_0, bI_1, cB_bI, nI_s1, nJ_et, nJ_ef, nJ_lt, nJ_lf, pu_sM, sM_s, if_true, if_false, ite_self, Nat.lt_irrefl, Int32.zero_add, Int32.add_zero, not_true_eq_false, not_false_eq_true, rfw0, rfw1, rfw2, rfw3, rfw4, rfw5, rfw6, rfw7, rfp0, rfp1, rfp2, rfp3, rfp4, rfp5, rfp6, rfs0, rfs1, rfs2, rfs3, rwp0, rwp1, rwp2, rwp3, rwp4, rwp5, rwp6, rwp7, rpp0, rpp1, rpp2, rpp3, rpp4, rpp5, rpp6, rsp0, rsp1, rsp2, rsp3]
          · have e := sBest_up hP hz hv
            simp (disch := omega) only [l_Y_dearest_4, ix4, h1, r_isInStall, hb, hl, oI, oI_n, e, hz, r_valueOf, hv, b1_so, b2_so, b3_so, e1_ok, e1_er, e2_ok, e2_er, e3_ok, e3_er, bI_so, bI_so', bI_0, bI_1, cB_bI, nI_s1, nJ_et, nJ_ef, nJ_lt, nJ_lf, pu_sM, sM_s, if_true, if_false, ite_self, Nat.lt_irrefl, Int32.zero_add, Int32.add_zero, not_true_eq_false, not_false_eq_true, rfw0, rfw1, rfw2, rfw3, rfw4, rfw5, rfw6, rfw7, rfp0, rfp1, rfp2, rfp3, rfp4, rfp5, rfp6, rfs0, rfs1, rfs2, rfs3, rwp0, rwp1, rwp2, rwp3, rwp4, rwp5, rwp6, rwp7, rpp0, rpp1, rpp2, rpp3, rpp4, rpp5, rpp6, rsp0, rsp1, rsp2, rsp3]
      · have e := sBest_no (P := dP N s) (B := vB N) (n := i) (fun h => hl h.2)
        simp (disch := omega) only [l_Y_dearest_4, ix4, h1, r_isInStall, hb, hl, e, b1_so, b2_so, b3_so, e1_ok, e1_er, e2_ok, e2_er, e3_ok, e3_er, bI_so, bI_so', bI_0, bI_1, cB_bI, nI_s1, nJ_et, nJ_ef, nJ_lt, nJ_lf, pu_sM, sM_s, if_true, if_false, ite_self, Nat.lt_irrefl, Int32.zero_add, Int32.add_zero, not_true_eq_false, not_false_eq_true, rfw0, rfw1, rfw2, rfw3, rfw4, rfw5, rfw6, rfw7, rfp0, rfp1, rfp2, rfp3, rfp4, rfp5, rfp6, rfs0, rfs1, rfs2, rfs3, rwp0, rwp1, rwp2, rwp3, rwp4, rwp5, rwp6, rwp7, rpp0, rpp1, rpp2, rpp3, rpp4, rpp5, rpp6, rsp0, rsp1, rsp2, rsp3]
    · have e := sBest_no (P := dP N s) (B := vB N) (n := i) (fun h => hb h.1)
      simp (disch := omega) only [l_Y_dearest_4, ix4, h1, r_isInStall, hb, e, b1_so, b2_so, b3_so, e1_ok, e1_er, e2_ok, e2_er, e3_ok, e3_er, bI_so, bI_so', bI_0, bI_1, cB_bI, nI_s1, nJ_et, nJ_ef, nJ_lt, nJ_lf, pu_sM, sM_s, if_true, if_false, ite_self, Nat.lt_irrefl, Int32.zero_add, Int32.add_zero, not_true_eq_false, not_false_eq_true, rfw0, rfw1, rfw2, rfw3, rfw4, rfw5, rfw6, rfw7, rfp0, rfp1, rfp2, rfp3, rfp4, rfp5, rfp6, rfs0, rfs1, rfs2, rfs3, rwp0, rwp1, rwp2, rwp3, rwp4, rwp5, rwp6, rwp7, rpp0, rpp1, rpp2, rpp3, rpp4, rpp5, rpp6, rsp0, rsp1, rsp2, rsp3]
  · simp (disch := omega) only [l_Y_dearest_4, ix4, h1, b1_so, b2_so, b3_so, e1_ok, e1_er, e2_ok, e2_er, e3_ok, e3_er, bI_so, bI_so', bI_0, bI_1, cB_bI, nI_s1, nJ_et, nJ_ef, nJ_lt, nJ_lf, pu_sM, sM_s, if_true, if_false, ite_self, Nat.lt_irrefl, Int32.zero_add, Int32.add_zero, not_true_eq_false, not_false_eq_true, rfw0, rfw1, rfw2, rfw3, rfw4, rfw5, rfw6, rfw7, rfp0, rfp1, rfp2, rfp3, rfp4, rfp5, rfp6, rfs0, rfs1, rfs2, rfs3, rwp0, rwp1, rwp2, rwp3, rwp4, rwp5, rwp6, rwp7, rpp0, rpp1, rpp2, rpp3, rpp4, rpp5, rpp6, rsp0, rsp1, rsp2, rsp3]
    rfl
/-- a bid, and who bids most -/
def sBid (N : Nat → Int32) (p w : Nat) : Int32 := if sVal N w < pN N p 0 / 2 then sVal N w else pN N p 0 / 2
theorem r_bidOf {p w : Nat} (hp : p < 6) (hw : w < 16) : f_Y_bidOf (sM I m N) m (nI p) (nI w) = some (sBid N p w) := by
  simp (disch := omega) only [f_Y_bidOf, r_valueOf, sBid, b1_so, b2_so, b3_so, e1_ok, e1_er, e2_ok, e2_er, e3_ok, e3_er, bI_so, bI_so', bI_0, bI_1, cB_bI, nI_s1, nJ_et, nJ_ef, nJ_lt, nJ_lf, pu_sM, sM_s, if_true, if_false, ite_self, Nat.lt_irrefl, Int32.zero_add, Int32.add_zero, not_true_eq_false, not_false_eq_true, rfw0, rfw1, rfw2, rfw3, rfw4, rfw5, rfw6, rfw7, rfp0, rfp1, rfp2, rfp3, rfp4, rfp5, rfp6, rfs0, rfs1, rfs2, rfs3, rwp0, rwp1, rwp2, rwp3, rwp4, rwp5, rwp6, rwp7, rpp0, rpp1, rpp2, rpp3, rpp4, rpp5, rpp6, rsp0, rsp1, rsp2, rsp3]
abbrev bP (N : Nat → Int32) (nw p : Nat) : Prop := ¬ sOwns N nw (nI p) = 4
abbrev bB (N : Nat → Int32) (w p b : Nat) : Prop := ¬ sBid N p w ≤ sBid N b w
def sBidder (N : Nat → Int32) (np nw w : Nat) : Option Nat := sBest (bP N nw) (bB N w) np
theorem r_bidder (H : WF N np ns nw) {w : Nat} (hw : w < nw) : f_Y_bidder (sM I m N) m (nI w) = some (oI (sBidder N np nw w)) := by
  obtain ⟨h1, h2⟩ := H.p
  have h9 := H.w.2
  refine up_loop (fun f (z : Int32 × Int32) => l_Y_bidder_4 f (sM I m N) m (nI w) z.1 z.2) (fun i => (oI (sBest (bP N nw) (bB N w) i), nI i)) np _ (fun i hi f => ?_) (fun f => ?_) (FU_up (by omega))
  · have ho : f_Y_owns (sM I m N) m (nI i) = some (nI (sOwns N nw (nI i))) := r_owns H.w
    have h4 : (nI (sOwns N nw (nI i)) = 4) = (sOwns N nw (nI i) = 4) := cnt4 h9
    by_cases hl : sOwns N nw (nI i) = 4
    · have e := sBest_no (P := bP N nw) (B := bB N w) (n := i) (fun h => h hl)
      simp (disch := omega) only [l_Y_bidder_4, ix2, h1, ho, h4, hl, e, b1_so, b2_so, b3_so, e1_ok, e1_er, e2_ok, e2_er, e3_ok, e3_er, bI_so, bI_so', bI_0, bI_1, cB_bI, nI_s1, nJ_et, nJ_ef, nJ_lt, nJ_lf, pu_sM, sM_s, if_true, if_false, ite_self, Nat.lt_irrefl, Int32.zero_add, Int32.add_zero, not_true_eq_false, not_false_eq_true, rfw0, rfw1, rfw2, rfw3, rfw4, rfw5, rfw6, rfw7, rfp0, rfp1, rfp2, rfp3, rfp4, rfp5, rfp6, rfs0, rfs1, rfs2, rfs3, rwp0, rwp1, rwp2, rwp3, rwp4, rwp5, rwp6, rwp7, rpp0, rpp1, rpp2, rpp3, rpp4, rpp5, rpp6, rsp0, rsp1, rsp2, rsp3]
      simp only [show (nI 4 = 4) = True from eq_true rfl, if_true]
    · cases hz : sBest (bP N nw) (bB N w) i with
      | none =>
        have e := sBest_fi hl hz
        simp (disch := omega) only [l_Y_bidder_4, ix2, h1, ho, h4, hl, oI, e, hz, b1_so, b2_so, b3_so, e1_ok, e1_er, e2_ok, e2_er, e3_ok, e3_er, bI_so, bI_so', bI_0, bI_1, cB_bI, nI_s1, nJ_et, nJ_ef, nJ_lt, nJ_lf, pu_sM, sM_s, if_true, if_false, ite_self, Nat.lt_irrefl, Int32.zero_add, Int32.add_zero, not_true_eq_false, not_false_eq_true, rfw0, rfw1, rfw2, rfw3, rfw4, rfw5, rfw6, rfw7, rfp0, rfp1, rfp2, rfp3, rfp4, rfp5, rfp6, rfs0, rfs1, rfs2, rfs3, rwp0, rwp1, rwp2, rwp3, rwp4, rwp5, rwp6, rwp7, rpp0, rpp1, rpp2, rpp3, rpp4, rpp5, rpp6, rsp0, rsp1, rsp2, rsp3]
      | some b =>
        obtain ⟨hb1, hb2⟩ := sBest_in hz
        by_cases hv : sBid N i w ≤ sBid N b w
        · have e := sBest_ke (P := bP N nw) hl hz (by exact fun h => h hv)
          simp (disch := omega) only [l_Y_bidder_4, ix2, h1, ho, h4, hl, oI, oI_n, e, hz, r_bidOf, hv, b1_so, b2_so, b3_so, e1_ok, e1_er, e2_ok, e2_er, e3_ok, e3_er, bI_so, bI_so', bI_0, bI_1, cB_bI, nI_s1, nJ_et, nJ_ef, nJ_lt, nJ_lf, pu_sM, sM_s, if_true, if_false, ite_self, Nat.lt_irrefl, Int32.zero_add, Int32.add_zero, not_true_eq_false, not_false_eq_true, rfw0, rfw1, rfw2, rfw3, rfw4, rfw5, rfw6, rfw7, rfp0, rfp1, rfp2, rfp3, rfp4, rfp5, rfp6, rfs0, rfs1, rfs2, rfs3, rwp0, rwp1, rwp2, rwp3, rwp4, rwp5, rwp6, rwp7, rpp0, rpp1, rpp2, rpp3, rpp4, rpp5, rpp6, rsp0, rsp1, rsp2, rsp3]
        · have e := sBest_up (P := bP N nw) hl hz hv
          simp (disch := omega) only [l_Y_bidder_4, ix2, h1, ho, h4, hl, oI, oI_n, e, hz, r_bidOf, hv, b1_so, b2_so, b3_so, e1_ok, e1_er, e2_ok, e2_er, e3_ok, e3_er, bI_so, bI_so', bI_0, bI_1, cB_bI, nI_s1, nJ_et, nJ_ef, nJ_lt, nJ_lf, pu_sM, sM_s, if_true, if_false, ite_self, Nat.lt_irrefl, Int32.zero_add, Int32.add_zero, not_true_eq_false, not_false_eq_true, rfw0, rfw1, rfw2, rfw3, rfw4, rfw5, rfw6, rfw7, rfp0, rfp1, rfp2, rfp3, rfp4, rfp5, rfp6, rfs0, rfs1, rfs2, rfs3, rwp0, rwp1, rwp2, rwp3, rwp4, rwp5, rwp6, rwp7, rpp0, rpp1, rpp2, rpp3, rpp4, rpp5, rpp6, rsp0, rsp1, rsp2, rsp3]
  · simp (disch := omega) only [l_Y_bidder_4, ix2, h1, b1_so, b2_so, b3_so, e1_ok, e1_er, e2_ok, e2_er, e3_ok, e3_er, bI_so, bI_so', bI_0, bI_1, cB_bI, nI_s1, nJ_et, nJ_ef, nJ_lt, nJ_lf, pu_sM, sM_s, if_true, if_false, ite_self, Nat.lt_irrefl, Int32.zero_add, Int32.add_zero, not_true_eq_false, not_false_eq_true, rfw0, rfw1, rfw2, rfw3, rfw4, rfw5, rfw6, rfw7, rfp0, rfp1, rfp2, rfp3, rfp4, rfp5, rfp6, rfs0, rfs1, rfs2, rfs3, rwp0, rwp1, rwp2, rwp3, rwp4, rwp5, rwp6, rwp7, rpp0, rpp1, rpp2, rpp3, rpp4, rpp5, rpp6, rsp0, rsp1, rsp2, rsp3]
    rfl
/-- the poorest stall -/
def sPoor (N : Nat → Int32) : Nat → Nat
  | 0 => 0
  | n + 1 => if sN N (sPoor N n) 1 ≤ sN N (n + 1) 1 then sPoor N n else n + 1
theorem sPoor_le : ∀ n, sPoor N n ≤ n
  | 0 => Nat.le_refl 0
  | n + 1 => by
    have := sPoor_le n
    unfold sPoor
    split <;> omega
theorem r_poorest (H : WF N np ns nw) (h0 : 0 < ns) : f_Y_poorest (sM I m N) m = some (nI (sPoor N (ns - 1))) := by
  obtain ⟨h1, h2⟩ := H.s
  refine up_loop (fun f (z : Int32 × Int32) => l_Y_poorest_4 f (sM I m N) m z.1 z.2) (fun i => (nI (sPoor N i), nI (i + 1))) (ns - 1) _ (fun i hi f => ?_) (fun f => ?_) (FU_up (by omega))
  · have h3 := sPoor_le (N := N) i
    have e : sPoor N (i + 1) = if sN N (sPoor N i) 1 ≤ sN N (i + 1) 1 then sPoor N i else i + 1 := rfl
    by_cases hv : sN N (sPoor N i) 1 ≤ sN N (i + 1) 1
    · simp (disch := omega) only [l_Y_poorest_4, ix3, h1, hv, e, b1_so, b2_so, b3_so, e1_ok, e1_er, e2_ok, e2_er, e3_ok, e3_er, bI_so, bI_so', bI_0, bI_1, cB_bI, nI_s1, nJ_et, nJ_ef, nJ_lt, nJ_lf, pu_sM, sM_s, if_true, if_false, ite_self, Nat.lt_irrefl, Int32.zero_add, Int32.add_zero, not_true_eq_false, not_false_eq_true, rfw0, rfw1, rfw2, rfw3, rfw4, rfw5, rfw6, rfw7, rfp0, rfp1, rfp2, rfp3, rfp4, rfp5, rfp6, rfs0, rfs1, rfs2, rfs3, rwp0, rwp1, rwp2, rwp3, rwp4, rwp5, rwp6, rwp7, rpp0, rpp1, rpp2, rpp3, rpp4, rpp5, rpp6, rsp0, rsp1, rsp2, rsp3]
    · simp (disch := omega) only [l_Y_poorest_4, ix3, h1, hv, e, b1_so, b2_so, b3_so, e1_ok, e1_er, e2_ok, e2_er, e3_ok, e3_er, bI_so, bI_so', bI_0, bI_1, cB_bI, nI_s1, nJ_et, nJ_ef, nJ_lt, nJ_lf, pu_sM, sM_s, if_true, if_false, ite_self, Nat.lt_irrefl, Int32.zero_add, Int32.add_zero, not_true_eq_false, not_false_eq_true, rfw0, rfw1, rfw2, rfw3, rfw4, rfw5, rfw6, rfw7, rfp0, rfp1, rfp2, rfp3, rfp4, rfp5, rfp6, rfs0, rfs1, rfs2, rfs3, rwp0, rwp1, rwp2, rwp3, rwp4, rwp5, rwp6, rwp7, rpp0, rpp1, rpp2, rpp3, rpp4, rpp5, rpp6, rsp0, rsp1, rsp2, rsp3]
  · simp (disch := omega) only [l_Y_poorest_4, ix3, h1, b1_so, b2_so, b3_so, e1_ok, e1_er, e2_ok, e2_er, e3_ok, e3_er, bI_so, bI_so', bI_0, bI_1, cB_bI, nI_s1, nJ_et, nJ_ef, nJ_lt, nJ_lf, pu_sM, sM_s, if_true, if_false, ite_self, Nat.lt_irrefl, Int32.zero_add, Int32.add_zero, not_true_eq_false, not_false_eq_true, rfw0, rfw1, rfw2, rfw3, rfw4, rfw5, rfw6, rfw7, rfp0, rfp1, rfp2, rfp3, rfp4, rfp5, rfp6, rfs0, rfs1, rfs2, rfs3, rwp0, rwp1, rwp2, rwp3, rwp4, rwp5, rwp6, rwp7, rpp0, rpp1, rpp2, rpp3, rpp4, rpp5, rpp6, rsp0, rsp1, rsp2, rsp3]
/-! what changes -/
theorem upd_s {f : Nat → Int32} {k : Nat} {x : Int32} : upd f k x k = x := pk_us
theorem upd_n {f : Nat → Int32} {k j : Nat} {x : Int32} (h : j ≠ k) : upd f k x j = f j := pk_un h
theorem wN_w {w k : Nat} {x : Int32} : wN (upd N (115 + 15 * w + k) x) w k = x := upd_s
theorem pN_p {w k : Nat} {x : Int32} : pN (upd N (11 + 14 * w + k) x) w k = x := upd_s
theorem sN_s {w k : Nat} {x : Int32} : sN (upd N (95 + 4 * w + k) x) w k = x := upd_s
theorem wN_n {w k j : Nat} {x : Int32} (h : 115 + 15 * w + k ≠ j) : wN (upd N j x) w k = wN N w k := upd_n h
theorem pN_n {w k j : Nat} {x : Int32} (h : 11 + 14 * w + k ≠ j) : pN (upd N j x) w k = pN N w k := upd_n h
theorem sN_n {w k j : Nat} {x : Int32} (h : 95 + 4 * w + k ≠ j) : sN (upd N j x) w k = sN N w k := upd_n h
def sFg (N : Nat → Int32) (w : Nat) : Nat → Int32 := upd (upd (upd N (115 + 15 * w + 5) (-1)) (115 + 15 * w + 6) (-1)) (115 + 15 * w + 7) (-1)
def sGo (N : Nat → Int32) (w : Nat) (h a : Int32) : Nat → Int32 := sFg (upd (upd N (115 + 15 * w + 3) h) (115 + 15 * w + 4) a) w
def sPay (N : Nat → Int32) (s p : Nat) (c : Int32) : Nat → Int32 := upd (upd N (95 + 4 * s + 1) (sN N s 1 - c)) (11 + 14 * p + 0) (pN N p 0 + c)
def sGet (N : Nat → Int32) (p w : Nat) (c : Int32) : Nat → Int32 := upd (upd (upd (sGo (sPay N (aT N w) p (-c)) w 1 (nI p)) (115 + 15 * w + 5) (N 1)) (115 + 15 * w + 6) c) (115 + 15 * w + 7) (nI (aT N w))
def sBuy (N : Nat → Int32) (p w : Nat) : Nat → Int32 := upd (sGet N p w (sPrice N w)) (95 + 4 * aT N w + 2) (if sN N (aT N w) 2 + 1 < 50 then sN N (aT N w) 2 + 1 else 50)
def sSell (N : Nat → Int32) (w s : Nat) : Nat → Int32 := sGo (sPay N s (aT N w) (sOff N w s)) w 0 (nI s)
def sRet (N : Nat → Int32) (w : Nat) : Nat → Int32 := upd (sGo (sPay N (sE N w) (aT N w) (sRef N w)) w 0 (nI (sE N w))) (95 + 4 * sE N w + 2) (if 0 < sN N (sE N w) 2 - 2 then sN N (sE N w) 2 - 2 else 0)
def sGr (N : Nat → Int32) (w : Nat) : Nat → Int32 := sGo (upd N (11 + 14 * aT N w + 3) (pN N (aT N w) 3 + sVal N w)) w 2 (-1)
theorem r_forgets {w : Nat} (hw : w < 16) : f_Y_forgets (sM I m N) m (nI w) = some (sM I m (sFg N w)) := by
  simp (disch := omega) only [f_Y_forgets, sFg, b1_so, b2_so, b3_so, e1_ok, e1_er, e2_ok, e2_er, e3_ok, e3_er, bI_so, bI_so', bI_0, bI_1, cB_bI, nI_s1, nJ_et, nJ_ef, nJ_lt, nJ_lf, pu_sM, sM_s, if_true, if_false, ite_self, Nat.lt_irrefl, Int32.zero_add, Int32.add_zero, not_true_eq_false, not_false_eq_true, rfw0, rfw1, rfw2, rfw3, rfw4, rfw5, rfw6, rfw7, rfp0, rfp1, rfp2, rfp3, rfp4, rfp5, rfp6, rfs0, rfs1, rfs2, rfs3, rwp0, rwp1, rwp2, rwp3, rwp4, rwp5, rwp6, rwp7, rpp0, rpp1, rpp2, rpp3, rpp4, rpp5, rpp6, rsp0, rsp1, rsp2, rsp3, wN_w, wN_n, pN_p, pN_n, sN_s, sN_n, upd_s, upd_n]
theorem r_goesTo {w : Nat} {h a : Int32} (hw : w < 16) : f_Y_goesTo (sM I m N) m (nI w) h a = some (sM I m (sGo N w h a)) := by
  simp (disch := omega) only [f_Y_goesTo, r_forgets, sGo, b1_so, b2_so, b3_so, e1_ok, e1_er, e2_ok, e2_er, e3_ok, e3_er, bI_so, bI_so', bI_0, bI_1, cB_bI, nI_s1, nJ_et, nJ_ef, nJ_lt, nJ_lf, pu_sM, sM_s, if_true, if_false, ite_self, Nat.lt_irrefl, Int32.zero_add, Int32.add_zero, not_true_eq_false, not_false_eq_true, rfw0, rfw1, rfw2, rfw3, rfw4, rfw5, rfw6, rfw7, rfp0, rfp1, rfp2, rfp3, rfp4, rfp5, rfp6, rfs0, rfs1, rfs2, rfs3, rwp0, rwp1, rwp2, rwp3, rwp4, rwp5, rwp6, rwp7, rpp0, rpp1, rpp2, rpp3, rpp4, rpp5, rpp6, rsp0, rsp1, rsp2, rsp3, wN_w, wN_n, pN_p, pN_n, sN_s, sN_n, upd_s, upd_n]
theorem r_pays {s p : Nat} {c : Int32} (hs : s < 5) (hp : p < 6) : f_Y_pays (sM I m N) m (nI s) (nI p) c = some (sM I m (sPay N s p c)) := by
  simp (disch := omega) only [f_Y_pays, sPay, b1_so, b2_so, b3_so, e1_ok, e1_er, e2_ok, e2_er, e3_ok, e3_er, bI_so, bI_so', bI_0, bI_1, cB_bI, nI_s1, nJ_et, nJ_ef, nJ_lt, nJ_lf, pu_sM, sM_s, if_true, if_false, ite_self, Nat.lt_irrefl, Int32.zero_add, Int32.add_zero, not_true_eq_false, not_false_eq_true, rfw0, rfw1, rfw2, rfw3, rfw4, rfw5, rfw6, rfw7, rfp0, rfp1, rfp2, rfp3, rfp4, rfp5, rfp6, rfs0, rfs1, rfs2, rfs3, rwp0, rwp1, rwp2, rwp3, rwp4, rwp5, rwp6, rwp7, rpp0, rpp1, rpp2, rpp3, rpp4, rpp5, rpp6, rsp0, rsp1, rsp2, rsp3, wN_w, wN_n, pN_p, pN_n, sN_s, sN_n, upd_s, upd_n]
theorem r_gets (H : WF N np ns nw) {p w : Nat} {c : Int32} (hw : w < nw) (h3 : wN N w 3 = 0) (hp : p < 6) : f_Y_gets (sM I m N) m (nI p) (nI w) c = some (sM I m (sGet N p w c)) := by
  obtain ⟨h1, h2⟩ := H.a0 hw h3
  have h9 := H.w.2
  have h8 := H.s.2
  simp (disch := omega) only [f_Y_gets, h1, r_pays, r_goesTo, ix1, b1_so, b2_so, b3_so, e1_ok, e1_er, e2_ok, e2_er, e3_ok, e3_er, bI_so, bI_so', bI_0, bI_1, cB_bI, nI_s1, nJ_et, nJ_ef, nJ_lt, nJ_lf, pu_sM, sM_s, if_true, if_false, ite_self, Nat.lt_irrefl, Int32.zero_add, Int32.add_zero, not_true_eq_false, not_false_eq_true, rfw0, rfw1, rfw2, rfw3, rfw4, rfw5, rfw6, rfw7, rfp0, rfp1, rfp2, rfp3, rfp4, rfp5, rfp6, rfs0, rfs1, rfs2, rfs3, rwp0, rwp1, rwp2, rwp3, rwp4, rwp5, rwp6, rwp7, rpp0, rpp1, rpp2, rpp3, rpp4, rpp5, rpp6, rsp0, rsp1, rsp2, rsp3, wN_w, wN_n, pN_p, pN_n, sN_s, sN_n, upd_s, upd_n]
  simp (disch := omega) only [sGet, sGo, sFg, sPay, b1_so, b2_so, b3_so, e1_ok, e1_er, e2_ok, e2_er, e3_ok, e3_er, bI_so, bI_so', bI_0, bI_1, cB_bI, nI_s1, nJ_et, nJ_ef, nJ_lt, nJ_lf, pu_sM, sM_s, if_true, if_false, ite_self, Nat.lt_irrefl, Int32.zero_add, Int32.add_zero, not_true_eq_false, not_false_eq_true, rfw0, rfw1, rfw2, rfw3, rfw4, rfw5, rfw6, rfw7, rfp0, rfp1, rfp2, rfp3, rfp4, rfp5, rfp6, rfs0, rfs1, rfs2, rfs3, rwp0, rwp1, rwp2, rwp3, rwp4, rwp5, rwp6, rwp7, rpp0, rpp1, rpp2, rpp3, rpp4, rpp5, rpp6, rsp0, rsp1, rsp2, rsp3, wN_w, wN_n, pN_p, pN_n, sN_s, sN_n, upd_s, upd_n]
theorem r_buys (H : WF N np ns nw) {p w : Nat} (hw : w < nw) (h3 : wN N w 3 = 0) (hp : p < 6) : f_Y_buys (sM I m N) m (nI p) (nI w) = some (sPrice N w, sM I m (sBuy N p w)) := by
  obtain ⟨h1, h2⟩ := H.a0 hw h3
  have h9 := H.w.2
  have h8 := H.s.2
  have e : sN (sGet N p w (sPrice N w)) (aT N w) 2 = sN N (aT N w) 2 := by
    simp (disch := omega) only [sGet, sGo, sFg, sPay, b1_so, b2_so, b3_so, e1_ok, e1_er, e2_ok, e2_er, e3_ok, e3_er, bI_so, bI_so', bI_0, bI_1, cB_bI, nI_s1, nJ_et, nJ_ef, nJ_lt, nJ_lf, pu_sM, sM_s, if_true, if_false, ite_self, Nat.lt_irrefl, Int32.zero_add, Int32.add_zero, not_true_eq_false, not_false_eq_true, rfw0, rfw1, rfw2, rfw3, rfw4, rfw5, rfw6, rfw7, rfp0, rfp1, rfp2, rfp3, rfp4, rfp5, rfp6, rfs0, rfs1, rfs2, rfs3, rwp0, rwp1, rwp2, rwp3, rwp4, rwp5, rwp6, rwp7, rpp0, rpp1, rpp2, rpp3, rpp4, rpp5, rpp6, rsp0, rsp1, rsp2, rsp3, wN_w, wN_n, pN_p, pN_n, sN_s, sN_n, upd_s, upd_n]
  simp (disch := omega) only [f_Y_buys, h1, r_priceOf H hw h3, r_gets H hw h3 hp, e, b1_so, b2_so, b3_so, e1_ok, e1_er, e2_ok, e2_er, e3_ok, e3_er, bI_so, bI_so', bI_0, bI_1, cB_bI, nI_s1, nJ_et, nJ_ef, nJ_lt, nJ_lf, pu_sM, sM_s, if_true, if_false, ite_self, Nat.lt_irrefl, Int32.zero_add, Int32.add_zero, not_true_eq_false, not_false_eq_true, rfw0, rfw1, rfw2, rfw3, rfw4, rfw5, rfw6, rfw7, rfp0, rfp1, rfp2, rfp3, rfp4, rfp5, rfp6, rfs0, rfs1, rfs2, rfs3, rwp0, rwp1, rwp2, rwp3, rwp4, rwp5, rwp6, rwp7, rpp0, rpp1, rpp2, rpp3, rpp4, rpp5, rpp6, rsp0, rsp1, rsp2, rsp3, wN_w, wN_n, pN_p, pN_n, sN_s, sN_n, upd_s, upd_n]
  rfl
theorem r_sells (H : WF N np ns nw) {w s : Nat} (hw : w < nw) (h3 : wN N w 3 = 1) (hs : s < 5) : f_Y_sells (sM I m N) m (nI w) (nI s) = some (sOff N w s, sM I m (sSell N w s)) := by
  obtain ⟨h1, h2⟩ := H.a1 hw h3
  have h9 := H.w.2
  have h8 := H.p.2
  simp (disch := omega) only [f_Y_sells, r_offerOf, h1, r_pays, r_goesTo, sSell, b1_so, b2_so, b3_so, e1_ok, e1_er, e2_ok, e2_er, e3_ok, e3_er, bI_so, bI_so', bI_0, bI_1, cB_bI, nI_s1, nJ_et, nJ_ef, nJ_lt, nJ_lf, pu_sM, sM_s, if_true, if_false, ite_self, Nat.lt_irrefl, Int32.zero_add, Int32.add_zero, not_true_eq_false, not_false_eq_true, rfw0, rfw1, rfw2, rfw3, rfw4, rfw5, rfw6, rfw7, rfp0, rfp1, rfp2, rfp3, rfp4, rfp5, rfp6, rfs0, rfs1, rfs2, rfs3, rwp0, rwp1, rwp2, rwp3, rwp4, rwp5, rwp6, rwp7, rpp0, rpp1, rpp2, rpp3, rpp4, rpp5, rpp6, rsp0, rsp1, rsp2, rsp3, wN_w, wN_n, pN_p, pN_n, sN_s, sN_n, upd_s, upd_n]
theorem r_returns (H : WF N np ns nw) {w : Nat} (hw : w < nw) (h3 : wN N w 3 = 1) (h5 : ¬ wN N w 5 = -1) : f_Y_returns (sM I m N) m (nI w) = some (sRef N w, sM I m (sRet N w)) := by
  obtain ⟨h1, h2⟩ := H.a1 hw h3
  obtain ⟨h6, h7⟩ := H.a7 hw h3 h5
  have h9 := H.w.2
  have h8 := H.p.2
  have h10 := H.s.2
  have e : sN (sGo (sPay N (sE N w) (aT N w) (sRef N w)) w 0 (nI (sE N w))) (sE N w) 2 = sN N (sE N w) 2 := by
    simp (disch := omega) only [sGo, sFg, sPay, b1_so, b2_so, b3_so, e1_ok, e1_er, e2_ok, e2_er, e3_ok, e3_er, bI_so, bI_so', bI_0, bI_1, cB_bI, nI_s1, nJ_et, nJ_ef, nJ_lt, nJ_lf, pu_sM, sM_s, if_true, if_false, ite_self, Nat.lt_irrefl, Int32.zero_add, Int32.add_zero, not_true_eq_false, not_false_eq_true, rfw0, rfw1, rfw2, rfw3, rfw4, rfw5, rfw6, rfw7, rfp0, rfp1, rfp2, rfp3, rfp4, rfp5, rfp6, rfs0, rfs1, rfs2, rfs3, rwp0, rwp1, rwp2, rwp3, rwp4, rwp5, rwp6, rwp7, rpp0, rpp1, rpp2, rpp3, rpp4, rpp5, rpp6, rsp0, rsp1, rsp2, rsp3, wN_w, wN_n, pN_p, pN_n, sN_s, sN_n, upd_s, upd_n]
  simp (disch := omega) only [f_Y_returns, h6, h1, r_refundOf, r_pays, r_goesTo, e, sRet, b1_so, b2_so, b3_so, e1_ok, e1_er, e2_ok, e2_er, e3_ok, e3_er, bI_so, bI_so', bI_0, bI_1, cB_bI, nI_s1, nJ_et, nJ_ef, nJ_lt, nJ_lf, pu_sM, sM_s, if_true, if_false, ite_self, Nat.lt_irrefl, Int32.zero_add, Int32.add_zero, not_true_eq_false, not_false_eq_true, rfw0, rfw1, rfw2, rfw3, rfw4, rfw5, rfw6, rfw7, rfp0, rfp1, rfp2, rfp3, rfp4, rfp5, rfp6, rfs0, rfs1, rfs2, rfs3, rwp0, rwp1, rwp2, rwp3, rwp4, rwp5, rwp6, rwp7, rpp0, rpp1, rpp2, rpp3, rpp4, rpp5, rpp6, rsp0, rsp1, rsp2, rsp3, wN_w, wN_n, pN_p, pN_n, sN_s, sN_n, upd_s, upd_n]
theorem r_grants (H : WF N np ns nw) {w : Nat} (hw : w < nw) (h3 : wN N w 3 = 1) : f_Y_grants (sM I m N) m (nI w) = some (pN N (aT N w) 3 + sVal N w, sM I m (sGr N w)) := by
  obtain ⟨h1, h2⟩ := H.a1 hw h3
  have h9 := H.w.2
  have h8 := H.p.2
  have e : pN (sGo (upd N (11 + 14 * aT N w + 3) (pN N (aT N w) 3 + sVal N w)) w 2 (-1)) (aT N w) 3 = pN N (aT N w) 3 + sVal N w := by
    simp (disch := omega) only [sGo, sFg, b1_so, b2_so, b3_so, e1_ok, e1_er, e2_ok, e2_er, e3_ok, e3_er, bI_so, bI_so', bI_0, bI_1, cB_bI, nI_s1, nJ_et, nJ_ef, nJ_lt, nJ_lf, pu_sM, sM_s, if_true, if_false, ite_self, Nat.lt_irrefl, Int32.zero_add, Int32.add_zero, not_true_eq_false, not_false_eq_true, rfw0, rfw1, rfw2, rfw3, rfw4, rfw5, rfw6, rfw7, rfp0, rfp1, rfp2, rfp3, rfp4, rfp5, rfp6, rfs0, rfs1, rfs2, rfs3, rwp0, rwp1, rwp2, rwp3, rwp4, rwp5, rwp6, rwp7, rpp0, rpp1, rpp2, rpp3, rpp4, rpp5, rpp6, rsp0, rsp1, rsp2, rsp3, wN_w, wN_n, pN_p, pN_n, sN_s, sN_n, upd_s, upd_n]
  simp (disch := omega) only [f_Y_grants, h1, r_valueOf, r_goesTo, e, sGr, b1_so, b2_so, b3_so, e1_ok, e1_er, e2_ok, e2_er, e3_ok, e3_er, bI_so, bI_so', bI_0, bI_1, cB_bI, nI_s1, nJ_et, nJ_ef, nJ_lt, nJ_lf, pu_sM, sM_s, if_true, if_false, ite_self, Nat.lt_irrefl, Int32.zero_add, Int32.add_zero, not_true_eq_false, not_false_eq_true, rfw0, rfw1, rfw2, rfw3, rfw4, rfw5, rfw6, rfw7, rfp0, rfp1, rfp2, rfp3, rfp4, rfp5, rfp6, rfs0, rfs1, rfs2, rfs3, rwp0, rwp1, rwp2, rwp3, rwp4, rwp5, rwp6, rwp7, rpp0, rpp1, rpp2, rpp3, rpp4, rpp5, rpp6, rsp0, rsp1, rsp2, rsp3, wN_w, wN_n, pN_p, pN_n, sN_s, sN_n, upd_s, upd_n]
end RD
