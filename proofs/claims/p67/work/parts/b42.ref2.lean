/-- where a wish is: the number of its stall or of its owner; its seller -/
def aT (N : Nat → Int32) (w : Nat) : Nat := (wN N w 4).toInt.toNat
def sE (N : Nat → Int32) (w : Nat) : Nat := (wN N w 7).toInt.toNat
theorem idx_of {x : Int32} {s n : Nat} (h : x = nI s) (hs : s < n) (hn : n < 2147483648) : x = nI x.toInt.toNat ∧ x.toInt.toNat < n := by
  subst h
  have e : (nI s).toInt = (s : Int) := nI_toInt (by omega)
  rw [e, Int.toNat_natCast]
  exact ⟨rfl, hs⟩
/-- the price, the offer, the refund -/
def sPr (N : Nat → Int32) (w : Nat) : Int32 := (wN N w 0 * (10 - wN N w 2)) * (100 + sN N (aT N w) 3) * (50 + sN N (aT N w) 2) / 100000
def sPrice (N : Nat → Int32) (w : Nat) : Int32 := if 1 < sPr N w then sPr N w else 1
def sOff (N : Nat → Int32) (w s : Nat) : Int32 := wN N w 0 * (10 - wN N w 2) * (50 + sN N s 2) / 1000
def sRef (N : Nat → Int32) (w : Nat) : Int32 := wN N w 6 * (100 - N 6) / 100
def sDay (N : Nat → Int32) : Int32 := N 1 - N 1 / N 0 * N 0
def sOwns (N : Nat → Int32) (nw : Nat) (p : Int32) : Nat := sCnt (fun w => wN N w 3 = 1 ∧ wN N w 4 = p) nw
def sStock (N : Nat → Int32) (nw : Nat) (s : Int32) : Nat := sCnt (fun w => wN N w 3 = 0 ∧ wN N w 4 = s) nw
/-- the obstacles -/
def sWhyBuy (N : Nat → Int32) (nw p w : Nat) : Int32 := if wN N w 3 = 0 then (if sPrice N w ≤ pN N p 0 then (if sOwns N nw (nI p) = 4 then 3 else 0) else 2) else 1
def sFull (N : Nat → Int32) (nw s : Nat) : Prop := nI (sStock N nw (nI s)) = sN N s 0
def sWhySell (N : Nat → Int32) (nw w s : Nat) : Int32 := if wN N w 3 = 1 then (if nI (sStock N nw (nI s)) = sN N s 0 then 2 else if sOff N w s ≤ sN N s 1 then 0 else 3) else 1
def sWhyRet (N : Nat → Int32) (nw w : Nat) : Int32 := if wN N w 3 = 1 then (if wN N w 5 = -1 then 1 else if N 1 - wN N w 5 ≤ N 5 then (if nI (sStock N nw (nI (sE N w))) = sN N (sE N w) 0 then 3 else if sRef N w ≤ sN N (sE N w) 1 then 0 else 4) else 2) else 1
def sWhyGr (N : Nat → Int32) (w : Nat) : Int32 := if wN N w 3 = 1 then (if pN N (aT N w) 1 = sDay N then (if wN N w 1 ≤ pN N (aT N w) 2 then 0 else 3) else 2) else 1
/-- what is always so -/
def WX (N : Nat → Int32) (np ns nw : Nat) : Prop :=
  (∀ w, w < nw → (wN N w 3 = 0 ∨ wN N w 3 = 1 ∨ wN N w 3 = 2 ∨ wN N w 3 = 3) ∧ ∃ b e, (wN N w 0 = nI b ∧ 1 ≤ b ∧ b ≤ 99) ∧ (wN N w 2 = nI e ∧ e ≤ 10) ∧ ((wN N w 3 = 0 ∨ wN N w 3 = 1) → e ≤ 9)) ∧
  (∀ s, s < ns → ∃ c t g, (sN N s 0 = nI c ∧ c ≤ 8) ∧ (sN N s 2 = nI t ∧ t ≤ 50) ∧ (sN N s 3 = nI g ∧ g ≤ 100) ∧ sStock N nw (nI s) ≤ c) ∧
  (∀ p, p < np → sOwns N nw (nI p) ≤ 4 ∧ (pN N p 5 = 0 ∨ pN N p 5 = 1) ∧ (pN N p 6 = 0 ∨ pN N p 6 = 1))
def WY (N : Nat → Int32) (np ns w : Nat) : Prop := (wN N w 3 = 0 → wN N w 4 = nI (aT N w) ∧ aT N w < ns) ∧ (wN N w 3 = 1 → wN N w 4 = nI (aT N w) ∧ aT N w < np) ∧ (wN N w 3 = 1 → ¬ wN N w 5 = -1 → wN N w 7 = nI (sE N w) ∧ sE N w < ns)
def WF (N : Nat → Int32) (np ns nw : Nat) : Prop := (nP N np ∧ nS N ns ∧ nW N nw) ∧ ¬ N 0 = 0 ∧ (∀ w, w < nw → WY N np ns w) ∧ WX N np ns nw
section WFs
variable {N : Nat → Int32} {np ns nw : Nat}
theorem WF.p (H : WF N np ns nw) : nP N np := H.1.1
theorem WF.s (H : WF N np ns nw) : nS N ns := H.1.2.1
theorem WF.w (H : WF N np ns nw) : nW N nw := H.1.2.2
theorem WF.y (H : WF N np ns nw) : ¬ N 0 = 0 := H.2.1
theorem WF.a0 (H : WF N np ns nw) {w : Nat} (hw : w < nw) (h : wN N w 3 = 0) : wN N w 4 = nI (aT N w) ∧ aT N w < ns := (H.2.2.1 w hw).1 h
theorem WF.a1 (H : WF N np ns nw) {w : Nat} (hw : w < nw) (h : wN N w 3 = 1) : wN N w 4 = nI (aT N w) ∧ aT N w < np := (H.2.2.1 w hw).2.1 h
theorem WF.a7 (H : WF N np ns nw) {w : Nat} (hw : w < nw) (h : wN N w 3 = 1) (h5 : ¬ wN N w 5 = -1) : wN N w 7 = nI (sE N w) ∧ sE N w < ns := (H.2.2.1 w hw).2.2 h h5
end WFs
section RB
variable {I : Mem} {m np ns nw : Nat} {N : Nat → Int32}
theorem nz_so {x : Int32} (h : ¬ x = 0) : nz x = some () := if_neg h
theorem r_today (H : WF N np ns nw) : f_Y_today (sM I m N) m = some (sDay N) := by
  simp (disch := omega) only [f_Y_today, ix0, ix1, nz_so H.y, sDay, b1_so, b2_so, b3_so, e1_ok, e1_er, e2_ok, e2_er, e3_ok, e3_er, bI_so, bI_so', bI_0, bI_1, cB_bI, nI_s1, nJ_et, nJ_ef, nJ_lt, nJ_lf, pu_sM, sM_s, if_true, if_false, ite_self, Nat.lt_irrefl, Int32.zero_add, Int32.add_zero, not_true_eq_false, not_false_eq_true, rfw0, rfw1, rfw2, rfw3, rfw4, rfw5, rfw6, rfw7, rfp0, rfp1, rfp2, rfp3, rfp4, rfp5, rfp6, rfs0, rfs1, rfs2, rfs3, rwp0, rwp1, rwp2, rwp3, rwp4, rwp5, rwp6, rwp7, rpp0, rpp1, rpp2, rpp3, rpp4, rpp5, rpp6, rsp0, rsp1, rsp2, rsp3]
theorem r_offerOf {w s : Nat} (hw : w < 16) (hs : s < 5) : f_Y_offerOf (sM I m N) m (nI w) (nI s) = some (sOff N w s) := by
  simp (disch := omega) only [f_Y_offerOf, r_left, sOff, b1_so, b2_so, b3_so, e1_ok, e1_er, e2_ok, e2_er, e3_ok, e3_er, bI_so, bI_so', bI_0, bI_1, cB_bI, nI_s1, nJ_et, nJ_ef, nJ_lt, nJ_lf, pu_sM, sM_s, if_true, if_false, ite_self, Nat.lt_irrefl, Int32.zero_add, Int32.add_zero, not_true_eq_false, not_false_eq_true, rfw0, rfw1, rfw2, rfw3, rfw4, rfw5, rfw6, rfw7, rfp0, rfp1, rfp2, rfp3, rfp4, rfp5, rfp6, rfs0, rfs1, rfs2, rfs3, rwp0, rwp1, rwp2, rwp3, rwp4, rwp5, rwp6, rwp7, rpp0, rpp1, rpp2, rpp3, rpp4, rpp5, rpp6, rsp0, rsp1, rsp2, rsp3]
theorem r_refundOf {w : Nat} (hw : w < 16) : f_Y_refundOf (sM I m N) m (nI w) = some (sRef N w) := by
  simp (disch := omega) only [f_Y_refundOf, ix6, sRef, b1_so, b2_so, b3_so, e1_ok, e1_er, e2_ok, e2_er, e3_ok, e3_er, bI_so, bI_so', bI_0, bI_1, cB_bI, nI_s1, nJ_et, nJ_ef, nJ_lt, nJ_lf, pu_sM, sM_s, if_true, if_false, ite_self, Nat.lt_irrefl, Int32.zero_add, Int32.add_zero, not_true_eq_false, not_false_eq_true, rfw0, rfw1, rfw2, rfw3, rfw4, rfw5, rfw6, rfw7, rfp0, rfp1, rfp2, rfp3, rfp4, rfp5, rfp6, rfs0, rfs1, rfs2, rfs3, rwp0, rwp1, rwp2, rwp3, rwp4, rwp5, rwp6, rwp7, rpp0, rpp1, rpp2, rpp3, rpp4, rpp5, rpp6, rsp0, rsp1, rsp2, rsp3]
theorem r_priceOf (H : WF N np ns nw) {w : Nat} (hw : w < nw) (h3 : wN N w 3 = 0) : f_Y_priceOf (sM I m N) m (nI w) = some (sPrice N w) := by
  obtain ⟨h1, h2⟩ := H.a0 hw h3
  have h9 := H.w.2
  have h8 := H.s.2
  simp (disch := omega) only [f_Y_priceOf, r_left, h1, sPrice, sPr, b1_so, b2_so, b3_so, e1_ok, e1_er, e2_ok, e2_er, e3_ok, e3_er, bI_so, bI_so', bI_0, bI_1, cB_bI, nI_s1, nJ_et, nJ_ef, nJ_lt, nJ_lf, pu_sM, sM_s, if_true, if_false, ite_self, Nat.lt_irrefl, Int32.zero_add, Int32.add_zero, not_true_eq_false, not_false_eq_true, rfw0, rfw1, rfw2, rfw3, rfw4, rfw5, rfw6, rfw7, rfp0, rfp1, rfp2, rfp3, rfp4, rfp5, rfp6, rfs0, rfs1, rfs2, rfs3, rwp0, rwp1, rwp2, rwp3, rwp4, rwp5, rwp6, rwp7, rpp0, rpp1, rpp2, rpp3, rpp4, rpp5, rpp6, rsp0, rsp1, rsp2, rsp3]
  rfl
theorem r_isFull (H : WF N np ns nw) {s : Nat} (hs : s < 5) : f_Y_isFull (sM I m N) m (nI s) = some (bI (nI (sStock N nw (nI s)) = sN N s 0)) := by
  simp (disch := omega) only [f_Y_isFull, r_stock H.w, sStock, b1_so, b2_so, b3_so, e1_ok, e1_er, e2_ok, e2_er, e3_ok, e3_er, bI_so, bI_so', bI_0, bI_1, cB_bI, nI_s1, nJ_et, nJ_ef, nJ_lt, nJ_lf, pu_sM, sM_s, if_true, if_false, ite_self, Nat.lt_irrefl, Int32.zero_add, Int32.add_zero, not_true_eq_false, not_false_eq_true, rfw0, rfw1, rfw2, rfw3, rfw4, rfw5, rfw6, rfw7, rfp0, rfp1, rfp2, rfp3, rfp4, rfp5, rfp6, rfs0, rfs1, rfs2, rfs3, rwp0, rwp1, rwp2, rwp3, rwp4, rwp5, rwp6, rwp7, rpp0, rpp1, rpp2, rpp3, rpp4, rpp5, rpp6, rsp0, rsp1, rsp2, rsp3]
  rfl
theorem cnt4 {P : Nat → Prop} [DecidablePred P] {n : Nat} (h : n ≤ 16) : (nI (sCnt P n) = 4) = (sCnt P n = 4) := by
  have := sCnt_le (P := P) n
  exact nJ_i (b := 4) (by omega) (by decide)
theorem ite3 {α : Type} {c : Prop} [Decidable c] {a b : α} : (if c then some a else some b) = some (if c then a else b) := by split <;> rfl
theorem r_whyBuy (H : WF N np ns nw) {p w : Nat} (hp : p < 6) (hw : w < nw) : f_Y_whyBuy (sM I m N) m (nI p) (nI w) = some (sWhyBuy N nw p w) := by
  have h9 := H.w.2
  unfold sWhyBuy sOwns
  by_cases h3 : wN N w 3 = 0
  · simp (disch := omega) only [f_Y_whyBuy, r_isInStall, h3, r_priceOf H hw h3, r_owns H.w, cnt4 h9, ite3, b1_so, b2_so, b3_so, e1_ok, e1_er, e2_ok, e2_er, e3_ok, e3_er, bI_so, bI_so', bI_0, bI_1, cB_bI, nI_s1, nJ_et, nJ_ef, nJ_lt, nJ_lf, pu_sM, sM_s, if_true, if_false, ite_self, Nat.lt_irrefl, Int32.zero_add, Int32.add_zero, not_true_eq_false, not_false_eq_true, rfw0, rfw1, rfw2, rfw3, rfw4, rfw5, rfw6, rfw7, rfp0, rfp1, rfp2, rfp3, rfp4, rfp5, rfp6, rfs0, rfs1, rfs2, rfs3, rwp0, rwp1, rwp2, rwp3, rwp4, rwp5, rwp6, rwp7, rpp0, rpp1, rpp2, rpp3, rpp4, rpp5, rpp6, rsp0, rsp1, rsp2, rsp3]
  · simp (disch := omega) only [f_Y_whyBuy, r_isInStall, h3, b1_so, b2_so, b3_so, e1_ok, e1_er, e2_ok, e2_er, e3_ok, e3_er, bI_so, bI_so', bI_0, bI_1, cB_bI, nI_s1, nJ_et, nJ_ef, nJ_lt, nJ_lf, pu_sM, sM_s, if_true, if_false, ite_self, Nat.lt_irrefl, Int32.zero_add, Int32.add_zero, not_true_eq_false, not_false_eq_true, rfw0, rfw1, rfw2, rfw3, rfw4, rfw5, rfw6, rfw7, rfp0, rfp1, rfp2, rfp3, rfp4, rfp5, rfp6, rfs0, rfs1, rfs2, rfs3, rwp0, rwp1, rwp2, rwp3, rwp4, rwp5, rwp6, rwp7, rpp0, rpp1, rpp2, rpp3, rpp4, rpp5, rpp6, rsp0, rsp1, rsp2, rsp3]
theorem r_whySell (H : WF N np ns nw) {s w : Nat} (hs : s < 5) (hw : w < nw) : f_Y_whySell (sM I m N) m (nI w) (nI s) = some (sWhySell N nw w s) := by
  have h9 := H.w.2
  unfold sWhySell
  by_cases h3 : wN N w 3 = 1
  · by_cases h4 : nI (sStock N nw (nI s)) = sN N s 0
    · simp (disch := omega) only [f_Y_whySell, r_isOwned, h3, r_isFull H hs, h4, b1_so, b2_so, b3_so, e1_ok, e1_er, e2_ok, e2_er, e3_ok, e3_er, bI_so, bI_so', bI_0, bI_1, cB_bI, nI_s1, nJ_et, nJ_ef, nJ_lt, nJ_lf, pu_sM, sM_s, if_true, if_false, ite_self, Nat.lt_irrefl, Int32.zero_add, Int32.add_zero, not_true_eq_false, not_false_eq_true, rfw0, rfw1, rfw2, rfw3, rfw4, rfw5, rfw6, rfw7, rfp0, rfp1, rfp2, rfp3, rfp4, rfp5, rfp6, rfs0, rfs1, rfs2, rfs3, rwp0, rwp1, rwp2, rwp3, rwp4, rwp5, rwp6, rwp7, rpp0, rpp1, rpp2, rpp3, rpp4, rpp5, rpp6, rsp0, rsp1, rsp2, rsp3]
    · simp (disch := omega) only [f_Y_whySell, r_isOwned, h3, r_isFull H hs, h4, r_offerOf, ite3, b1_so, b2_so, b3_so, e1_ok, e1_er, e2_ok, e2_er, e3_ok, e3_er, bI_so, bI_so', bI_0, bI_1, cB_bI, nI_s1, nJ_et, nJ_ef, nJ_lt, nJ_lf, pu_sM, sM_s, if_true, if_false, ite_self, Nat.lt_irrefl, Int32.zero_add, Int32.add_zero, not_true_eq_false, not_false_eq_true, rfw0, rfw1, rfw2, rfw3, rfw4, rfw5, rfw6, rfw7, rfp0, rfp1, rfp2, rfp3, rfp4, rfp5, rfp6, rfs0, rfs1, rfs2, rfs3, rwp0, rwp1, rwp2, rwp3, rwp4, rwp5, rwp6, rwp7, rpp0, rpp1, rpp2, rpp3, rpp4, rpp5, rpp6, rsp0, rsp1, rsp2, rsp3]
  · simp (disch := omega) only [f_Y_whySell, r_isOwned, h3, b1_so, b2_so, b3_so, e1_ok, e1_er, e2_ok, e2_er, e3_ok, e3_er, bI_so, bI_so', bI_0, bI_1, cB_bI, nI_s1, nJ_et, nJ_ef, nJ_lt, nJ_lf, pu_sM, sM_s, if_true, if_false, ite_self, Nat.lt_irrefl, Int32.zero_add, Int32.add_zero, not_true_eq_false, not_false_eq_true, rfw0, rfw1, rfw2, rfw3, rfw4, rfw5, rfw6, rfw7, rfp0, rfp1, rfp2, rfp3, rfp4, rfp5, rfp6, rfs0, rfs1, rfs2, rfs3, rwp0, rwp1, rwp2, rwp3, rwp4, rwp5, rwp6, rwp7, rpp0, rpp1, rpp2, rpp3, rpp4, rpp5, rpp6, rsp0, rsp1, rsp2, rsp3]
theorem r_whyRet (H : WF N np ns nw) {w : Nat} (hw : w < nw) : f_Y_whyReturn (sM I m N) m (nI w) = some (sWhyRet N nw w) := by
  have h9 := H.w.2
  have h8 := H.s.2
  unfold sWhyRet
  by_cases h3 : wN N w 3 = 1
  · by_cases h5 : wN N w 5 = -1
    · simp (disch := omega) only [f_Y_whyReturn, r_isOwned, h3, h5, b1_so, b2_so, b3_so, e1_ok, e1_er, e2_ok, e2_er, e3_ok, e3_er, bI_so, bI_so', bI_0, bI_1, cB_bI, nI_s1, nJ_et, nJ_ef, nJ_lt, nJ_lf, pu_sM, sM_s, if_true, if_false, ite_self, Nat.lt_irrefl, Int32.zero_add, Int32.add_zero, not_true_eq_false, not_false_eq_true, rfw0, rfw1, rfw2, rfw3, rfw4, rfw5, rfw6, rfw7, rfp0, rfp1, rfp2, rfp3, rfp4, rfp5, rfp6, rfs0, rfs1, rfs2, rfs3, rwp0, rwp1, rwp2, rwp3, rwp4, rwp5, rwp6, rwp7, rpp0, rpp1, rpp2, rpp3, rpp4, rpp5, rpp6, rsp0, rsp1, rsp2, rsp3]
    · obtain ⟨h7, h6⟩ := H.a7 hw h3 h5
      by_cases h4 : N 1 - wN N w 5 ≤ N 5
      · have hf := r_isFull (I := I) (m := m) H (s := sE N w) (by omega)
        by_cases h2 : nI (sStock N nw (nI (sE N w))) = sN N (sE N w) 0
        · simp (disch := omega) only [f_Y_whyReturn, r_isOwned, h3, h5, ix1, ix5, h4, h7, hf, h2, b1_so, b2_so, b3_so, e1_ok, e1_er, e2_ok, e2_er, e3_ok, e3_er, bI_so, bI_so', bI_0, bI_1, cB_bI, nI_s1, nJ_et, nJ_ef, nJ_lt, nJ_lf, pu_sM, sM_s, if_true, if_false, ite_self, Nat.lt_irrefl, Int32.zero_add, Int32.add_zero, not_true_eq_false, not_false_eq_true, rfw0, rfw1, rfw2, rfw3, rfw4, rfw5, rfw6, rfw7, rfp0, rfp1, rfp2, rfp3, rfp4, rfp5, rfp6, rfs0, rfs1, rfs2, rfs3, rwp0, rwp1, rwp2, rwp3, rwp4, rwp5, rwp6, rwp7, rpp0, rpp1, rpp2, rpp3, rpp4, rpp5, rpp6, rsp0, rsp1, rsp2, rsp3]
        · simp (disch := omega) only [f_Y_whyReturn, r_isOwned, h3, h5, ix1, ix5, h4, h7, hf, h2, r_refundOf, ite3, b1_so, b2_so, b3_so, e1_ok, e1_er, e2_ok, e2_er, e3_ok, e3_er, bI_so, bI_so', bI_0, bI_1, cB_bI, nI_s1, nJ_et, nJ_ef, nJ_lt, nJ_lf, pu_sM, sM_s, if_true, if_false, ite_self, Nat.lt_irrefl, Int32.zero_add, Int32.add_zero, not_true_eq_false, not_false_eq_true, rfw0, rfw1, rfw2, rfw3, rfw4, rfw5, rfw6, rfw7, rfp0, rfp1, rfp2, rfp3, rfp4, rfp5, rfp6, rfs0, rfs1, rfs2, rfs3, rwp0, rwp1, rwp2, rwp3, rwp4, rwp5, rwp6, rwp7, rpp0, rpp1, rpp2, rpp3, rpp4, rpp5, rpp6, rsp0, rsp1, rsp2, rsp3]
      · simp (disch := omega) only [f_Y_whyReturn, r_isOwned, h3, h5, ix1, ix5, h4, b1_so, b2_so, b3_so, e1_ok, e1_er, e2_ok, e2_er, e3_ok, e3_er, bI_so, bI_so', bI_0, bI_1, cB_bI, nI_s1, nJ_et, nJ_ef, nJ_lt, nJ_lf, pu_sM, sM_s, if_true, if_false, ite_self, Nat.lt_irrefl, Int32.zero_add, Int32.add_zero, not_true_eq_false, not_false_eq_true, rfw0, rfw1, rfw2, rfw3, rfw4, rfw5, rfw6, rfw7, rfp0, rfp1, rfp2, rfp3, rfp4, rfp5, rfp6, rfs0, rfs1, rfs2, rfs3, rwp0, rwp1, rwp2, rwp3, rwp4, rwp5, rwp6, rwp7, rpp0, rpp1, rpp2, rpp3, rpp4, rpp5, rpp6, rsp0, rsp1, rsp2, rsp3]
  · simp (disch := omega) only [f_Y_whyReturn, r_isOwned, h3, b1_so, b2_so, b3_so, e1_ok, e1_er, e2_ok, e2_er, e3_ok, e3_er, bI_so, bI_so', bI_0, bI_1, cB_bI, nI_s1, nJ_et, nJ_ef, nJ_lt, nJ_lf, pu_sM, sM_s, if_true, if_false, ite_self, Nat.lt_irrefl, Int32.zero_add, Int32.add_zero, not_true_eq_false, not_false_eq_true, rfw0, rfw1, rfw2, rfw3, rfw4, rfw5, rfw6, rfw7, rfp0, rfp1, rfp2, rfp3, rfp4, rfp5, rfp6, rfs0, rfs1, rfs2, rfs3, rwp0, rwp1, rwp2, rwp3, rwp4, rwp5, rwp6, rwp7, rpp0, rpp1, rpp2, rpp3, rpp4, rpp5, rpp6, rsp0, rsp1, rsp2, rsp3]
theorem r_whyGr (H : WF N np ns nw) {w : Nat} (hw : w < nw) : f_Y_whyGrant (sM I m N) m (nI w) = some (sWhyGr N w) := by
  have h9 := H.w.2
  have h8 := H.p.2
  unfold sWhyGr
  by_cases h3 : wN N w 3 = 1
  · obtain ⟨h7, h6⟩ := H.a1 hw h3
    by_cases h4 : pN N (aT N w) 1 = sDay N
    · simp (disch := omega) only [f_Y_whyGrant, r_isOwned, h3, h7, r_today H, h4, ite3, b1_so, b2_so, b3_so, e1_ok, e1_er, e2_ok, e2_er, e3_ok, e3_er, bI_so, bI_so', bI_0, bI_1, cB_bI, nI_s1, nJ_et, nJ_ef, nJ_lt, nJ_lf, pu_sM, sM_s, if_true, if_false, ite_self, Nat.lt_irrefl, Int32.zero_add, Int32.add_zero, not_true_eq_false, not_false_eq_true, rfw0, rfw1, rfw2, rfw3, rfw4, rfw5, rfw6, rfw7, rfp0, rfp1, rfp2, rfp3, rfp4, rfp5, rfp6, rfs0, rfs1, rfs2, rfs3, rwp0, rwp1, rwp2, rwp3, rwp4, rwp5, rwp6, rwp7, rpp0, rpp1, rpp2, rpp3, rpp4, rpp5, rpp6, rsp0, rsp1, rsp2, rsp3]
    · simp (disch := omega) only [f_Y_whyGrant, r_isOwned, h3, h7, r_today H, h4, b1_so, b2_so, b3_so, e1_ok, e1_er, e2_ok, e2_er, e3_ok, e3_er, bI_so, bI_so', bI_0, bI_1, cB_bI, nI_s1, nJ_et, nJ_ef, nJ_lt, nJ_lf, pu_sM, sM_s, if_true, if_false, ite_self, Nat.lt_irrefl, Int32.zero_add, Int32.add_zero, not_true_eq_false, not_false_eq_true, rfw0, rfw1, rfw2, rfw3, rfw4, rfw5, rfw6, rfw7, rfp0, rfp1, rfp2, rfp3, rfp4, rfp5, rfp6, rfs0, rfs1, rfs2, rfs3, rwp0, rwp1, rwp2, rwp3, rwp4, rwp5, rwp6, rwp7, rpp0, rpp1, rpp2, rpp3, rpp4, rpp5, rpp6, rsp0, rsp1, rsp2, rsp3]
  · simp (disch := omega) only [f_Y_whyGrant, r_isOwned, h3, b1_so, b2_so, b3_so, e1_ok, e1_er, e2_ok, e2_er, e3_ok, e3_er, bI_so, bI_so', bI_0, bI_1, cB_bI, nI_s1, nJ_et, nJ_ef, nJ_lt, nJ_lf, pu_sM, sM_s, if_true, if_false, ite_self, Nat.lt_irrefl, Int32.zero_add, Int32.add_zero, not_true_eq_false, not_false_eq_true, rfw0, rfw1, rfw2, rfw3, rfw4, rfw5, rfw6, rfw7, rfp0, rfp1, rfp2, rfp3, rfp4, rfp5, rfp6, rfs0, rfs1, rfs2, rfs3, rwp0, rwp1, rwp2, rwp3, rwp4, rwp5, rwp6, rwp7, rpp0, rpp1, rpp2, rpp3, rpp4, rpp5, rpp6, rsp0, rsp1, rsp2, rsp3]
end RB
