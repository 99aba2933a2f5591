/-! THE REFERENCE, method by method -/
section RA
variable {I : Mem} {m : Nat} {N : Nat → Int32}
theorem r_isOwned {w : Nat} (hw : w < 16) : f_Y_isOwned (sM I m N) m (nI w) = some (bI (wN N w 3 = 1)) := by
  simp (disch := omega) only [f_Y_isOwned, b1_so, b2_so, b3_so, e1_ok, e1_er, e2_ok, e2_er, e3_ok, e3_er, bI_so, bI_so', bI_0, bI_1, cB_bI, nI_s1, nJ_et, nJ_ef, nJ_lt, nJ_lf, pu_sM, sM_s, if_true, if_false, ite_self, Nat.lt_irrefl, Int32.zero_add, Int32.add_zero, not_true_eq_false, not_false_eq_true, rfw0, rfw1, rfw2, rfw3, rfw4, rfw5, rfw6, rfw7, rfp0, rfp1, rfp2, rfp3, rfp4, rfp5, rfp6, rfs0, rfs1, rfs2, rfs3, rwp0, rwp1, rwp2, rwp3, rwp4, rwp5, rwp6, rwp7, rpp0, rpp1, rpp2, rpp3, rpp4, rpp5, rpp6, rsp0, rsp1, rsp2, rsp3]
theorem r_isInStall {w : Nat} (hw : w < 16) : f_Y_isInStall (sM I m N) m (nI w) = some (bI (wN N w 3 = 0)) := by
  simp (disch := omega) only [f_Y_isInStall, b1_so, b2_so, b3_so, e1_ok, e1_er, e2_ok, e2_er, e3_ok, e3_er, bI_so, bI_so', bI_0, bI_1, cB_bI, nI_s1, nJ_et, nJ_ef, nJ_lt, nJ_lf, pu_sM, sM_s, if_true, if_false, ite_self, Nat.lt_irrefl, Int32.zero_add, Int32.add_zero, not_true_eq_false, not_false_eq_true, rfw0, rfw1, rfw2, rfw3, rfw4, rfw5, rfw6, rfw7, rfp0, rfp1, rfp2, rfp3, rfp4, rfp5, rfp6, rfs0, rfs1, rfs2, rfs3, rwp0, rwp1, rwp2, rwp3, rwp4, rwp5, rwp6, rwp7, rpp0, rpp1, rpp2, rpp3, rpp4, rpp5, rpp6, rsp0, rsp1, rsp2, rsp3]
theorem bI_and {a b : Prop} [Decidable a] [Decidable b] : (if ¬ a then some (0 : Int32) else some (bI b)) = some (bI (a ∧ b)) := by
  by_cases ha : a <;> by_cases hb : b <;> simp [ha, hb, bI]
theorem r_isOwnedBy {w : Nat} {p : Int32} (hw : w < 16) : f_Y_isOwnedBy (sM I m N) m (nI w) p = some (bI (wN N w 3 = 1 ∧ wN N w 4 = p)) := by
  simp (disch := omega) only [f_Y_isOwnedBy, r_isOwned, bI_and, b1_so, b2_so, b3_so, e1_ok, e1_er, e2_ok, e2_er, e3_ok, e3_er, bI_so, bI_so', bI_0, bI_1, cB_bI, nI_s1, nJ_et, nJ_ef, nJ_lt, nJ_lf, pu_sM, sM_s, if_true, if_false, ite_self, Nat.lt_irrefl, Int32.zero_add, Int32.add_zero, not_true_eq_false, not_false_eq_true, rfw0, rfw1, rfw2, rfw3, rfw4, rfw5, rfw6, rfw7, rfp0, rfp1, rfp2, rfp3, rfp4, rfp5, rfp6, rfs0, rfs1, rfs2, rfs3, rwp0, rwp1, rwp2, rwp3, rwp4, rwp5, rwp6, rwp7, rpp0, rpp1, rpp2, rpp3, rpp4, rpp5, rpp6, rsp0, rsp1, rsp2, rsp3]
theorem r_one {c : Prop} [Decidable c] : f_Y_one (bI c) = some (bI c) := by
  simp (disch := omega) only [f_Y_one, Classical.not_not, b1_so, b2_so, b3_so, e1_ok, e1_er, e2_ok, e2_er, e3_ok, e3_er, bI_so, bI_so', bI_0, bI_1, cB_bI, nI_s1, nJ_et, nJ_ef, nJ_lt, nJ_lf, pu_sM, sM_s, if_true, if_false, ite_self, Nat.lt_irrefl, Int32.zero_add, Int32.add_zero, not_true_eq_false, not_false_eq_true, rfw0, rfw1, rfw2, rfw3, rfw4, rfw5, rfw6, rfw7, rfp0, rfp1, rfp2, rfp3, rfp4, rfp5, rfp6, rfs0, rfs1, rfs2, rfs3, rwp0, rwp1, rwp2, rwp3, rwp4, rwp5, rwp6, rwp7, rpp0, rpp1, rpp2, rpp3, rpp4, rpp5, rpp6, rsp0, rsp1, rsp2, rsp3]
theorem r_left {w : Nat} (hw : w < 16) : f_Y_left (sM I m N) m (nI w) = some (wN N w 0 * (10 - wN N w 2)) := by
  simp (disch := omega) only [f_Y_left, b1_so, b2_so, b3_so, e1_ok, e1_er, e2_ok, e2_er, e3_ok, e3_er, bI_so, bI_so', bI_0, bI_1, cB_bI, nI_s1, nJ_et, nJ_ef, nJ_lt, nJ_lf, pu_sM, sM_s, if_true, if_false, ite_self, Nat.lt_irrefl, Int32.zero_add, Int32.add_zero, not_true_eq_false, not_false_eq_true, rfw0, rfw1, rfw2, rfw3, rfw4, rfw5, rfw6, rfw7, rfp0, rfp1, rfp2, rfp3, rfp4, rfp5, rfp6, rfs0, rfs1, rfs2, rfs3, rwp0, rwp1, rwp2, rwp3, rwp4, rwp5, rwp6, rwp7, rpp0, rpp1, rpp2, rpp3, rpp4, rpp5, rpp6, rsp0, rsp1, rsp2, rsp3]
/-- the worth of a wish -/
def sVal (N : Nat → Int32) (w : Nat) : Int32 := wN N w 0 * (10 - wN N w 2) / 10
theorem r_valueOf {w : Nat} (hw : w < 16) : f_Y_valueOf (sM I m N) m (nI w) = some (sVal N w) := by
  simp (disch := omega) only [f_Y_valueOf, r_left, sVal, b1_so, b2_so, b3_so, e1_ok, e1_er, e2_ok, e2_er, e3_ok, e3_er, bI_so, bI_so', bI_0, bI_1, cB_bI, nI_s1, nJ_et, nJ_ef, nJ_lt, nJ_lf, pu_sM, sM_s, if_true, if_false, ite_self, Nat.lt_irrefl, Int32.zero_add, Int32.add_zero, not_true_eq_false, not_false_eq_true, rfw0, rfw1, rfw2, rfw3, rfw4, rfw5, rfw6, rfw7, rfp0, rfp1, rfp2, rfp3, rfp4, rfp5, rfp6, rfs0, rfs1, rfs2, rfs3, rwp0, rwp1, rwp2, rwp3, rwp4, rwp5, rwp6, rwp7, rpp0, rpp1, rpp2, rpp3, rpp4, rpp5, rpp6, rsp0, rsp1, rsp2, rsp3]
/-- how many of the first n have P -/
def sCnt (P : Nat → Prop) [DecidablePred P] : Nat → Nat
  | 0 => 0
  | n + 1 => sCnt P n + (if P n then 1 else 0)
theorem sCnt_le {P : Nat → Prop} [DecidablePred P] : ∀ n, sCnt P n ≤ n
  | 0 => Nat.le_refl 0
  | n + 1 => by
    have := sCnt_le (P := P) n
    unfold sCnt
    split <;> omega
theorem nI_bI {P : Nat → Prop} [DecidablePred P] {i : Nat} : nI (sCnt P i) + bI (P i) = nI (sCnt P (i + 1)) := by
  show _ = nI (sCnt P i + (if P i then 1 else 0))
  by_cases h : P i
  · rw [bI_t h, if_pos h]; exact (nI_succ _).symm
  · rw [bI_f h, if_neg h]; exact Int32.add_zero _
/-- the three numbers that count -/
def nP (N : Nat → Int32) (n : Nat) : Prop := N 2 = nI n ∧ n ≤ 6
def nS (N : Nat → Int32) (n : Nat) : Prop := N 3 = nI n ∧ n ≤ 5
def nW (N : Nat → Int32) (n : Nat) : Prop := N 4 = nI n ∧ n ≤ 16
theorem ix4 : ix 4 355 = some 4 := ixN 355 (a := 4) rfl (by decide) (by decide)
theorem ix3 : ix 3 355 = some 3 := ixN 355 (a := 3) rfl (by decide) (by decide)
theorem ix2 : ix 2 355 = some 2 := ixN 355 (a := 2) rfl (by decide) (by decide)
theorem ix1 : ix 1 355 = some 1 := ixN 355 (a := 1) rfl (by decide) (by decide)
theorem ix0 : ix 0 355 = some 0 := ixN 355 (a := 0) rfl (by decide) (by decide)
theorem ix5 : ix 5 355 = some 5 := ixN 355 (a := 5) rfl (by decide) (by decide)
theorem ix6 : ix 6 355 = some 6 := ixN 355 (a := 6) rfl (by decide) (by decide)
theorem r_owns {p : Int32} {nw : Nat} (hn : nW N nw) : f_Y_owns (sM I m N) m p = some (nI (sCnt (fun w => wN N w 3 = 1 ∧ wN N w 4 = p) nw)) := by
  obtain ⟨h1, h2⟩ := hn
  refine up_loop (fun f (s : Int32 × Int32) => l_Y_owns_4 f (sM I m N) m p s.1 s.2) (fun i => (nI (sCnt (fun w => wN N w 3 = 1 ∧ wN N w 4 = p) i), nI i)) nw _ (fun i hi f => ?_) (fun f => ?_) (FU_up (by omega))
  · have e := nI_bI (P := fun w => wN N w 3 = 1 ∧ wN N w 4 = p) (i := i)
    simp (disch := omega) only [l_Y_owns_4, ix4, h1, r_isOwnedBy, r_one, e, b1_so, b2_so, b3_so, e1_ok, e1_er, e2_ok, e2_er, e3_ok, e3_er, bI_so, bI_so', bI_0, bI_1, cB_bI, nI_s1, nJ_et, nJ_ef, nJ_lt, nJ_lf, pu_sM, sM_s, if_true, if_false, ite_self, Nat.lt_irrefl, Int32.zero_add, Int32.add_zero, not_true_eq_false, not_false_eq_true, rfw0, rfw1, rfw2, rfw3, rfw4, rfw5, rfw6, rfw7, rfp0, rfp1, rfp2, rfp3, rfp4, rfp5, rfp6, rfs0, rfs1, rfs2, rfs3, rwp0, rwp1, rwp2, rwp3, rwp4, rwp5, rwp6, rwp7, rpp0, rpp1, rpp2, rpp3, rpp4, rpp5, rpp6, rsp0, rsp1, rsp2, rsp3]
  · simp (disch := omega) only [l_Y_owns_4, ix4, h1, b1_so, b2_so, b3_so, e1_ok, e1_er, e2_ok, e2_er, e3_ok, e3_er, bI_so, bI_so', bI_0, bI_1, cB_bI, nI_s1, nJ_et, nJ_ef, nJ_lt, nJ_lf, pu_sM, sM_s, if_true, if_false, ite_self, Nat.lt_irrefl, Int32.zero_add, Int32.add_zero, not_true_eq_false, not_false_eq_true, rfw0, rfw1, rfw2, rfw3, rfw4, rfw5, rfw6, rfw7, rfp0, rfp1, rfp2, rfp3, rfp4, rfp5, rfp6, rfs0, rfs1, rfs2, rfs3, rwp0, rwp1, rwp2, rwp3, rwp4, rwp5, rwp6, rwp7, rpp0, rpp1, rpp2, rpp3, rpp4, rpp5, rpp6, rsp0, rsp1, rsp2, rsp3]
theorem r_stock {s : Int32} {nw : Nat} (hn : nW N nw) : f_Y_stock (sM I m N) m s = some (nI (sCnt (fun w => wN N w 3 = 0 ∧ wN N w 4 = s) nw)) := by
  obtain ⟨h1, h2⟩ := hn
  refine up_loop (fun f (z : Int32 × Int32) => l_Y_stock_4 f (sM I m N) m s z.1 z.2) (fun i => (nI (sCnt (fun w => wN N w 3 = 0 ∧ wN N w 4 = s) i), nI i)) nw _ (fun i hi f => ?_) (fun f => ?_) (FU_up (by omega))
  · have e := nI_bI (P := fun w => wN N w 3 = 0 ∧ wN N w 4 = s) (i := i)
    simp (disch := omega) only [l_Y_stock_4, ix4, h1, r_isInStall, b1_so, b2_so, b3_so, e1_ok, e1_er, e2_ok, e2_er, e3_ok, e3_er, bI_so, bI_so', bI_0, bI_1, cB_bI, nI_s1, nJ_et, nJ_ef, nJ_lt, nJ_lf, pu_sM, sM_s, if_true, if_false, ite_self, Nat.lt_irrefl, Int32.zero_add, Int32.add_zero, not_true_eq_false, not_false_eq_true, rfw0, rfw1, rfw2, rfw3, rfw4, rfw5, rfw6, rfw7, rfp0, rfp1, rfp2, rfp3, rfp4, rfp5, rfp6, rfs0, rfs1, rfs2, rfs3, rwp0, rwp1, rwp2, rwp3, rwp4, rwp5, rwp6, rwp7, rpp0, rpp1, rpp2, rpp3, rpp4, rpp5, rpp6, rsp0, rsp1, rsp2, rsp3]
    by_cases h3 : wN N i 3 = 0 <;> by_cases h4 : wN N i 4 = s <;> simp [h3, h4, bI, l_Y_stock_37, l_Y_stock_38, f_Y_one, b1_so] at e ⊢ <;> simp [e, nI_s1]
  · simp (disch := omega) only [l_Y_stock_4, ix4, h1, b1_so, b2_so, b3_so, e1_ok, e1_er, e2_ok, e2_er, e3_ok, e3_er, bI_so, bI_so', bI_0, bI_1, cB_bI, nI_s1, nJ_et, nJ_ef, nJ_lt, nJ_lf, pu_sM, sM_s, if_true, if_false, ite_self, Nat.lt_irrefl, Int32.zero_add, Int32.add_zero, not_true_eq_false, not_false_eq_true, rfw0, rfw1, rfw2, rfw3, rfw4, rfw5, rfw6, rfw7, rfp0, rfp1, rfp2, rfp3, rfp4, rfp5, rfp6, rfs0, rfs1, rfs2, rfs3, rwp0, rwp1, rwp2, rwp3, rwp4, rwp5, rwp6, rwp7, rpp0, rpp1, rpp2, rpp3, rpp4, rpp5, rpp6, rsp0, rsp1, rsp2, rsp3]
end RA
