section
variable {I : Mem} {w m np ns nw : Nat}
def EqN (N N' : Nat → Int32) : Prop := ∀ k, k < 355 → N' k = N k
theorem WF.eqN {N N' : Nat → Int32} {np ns nw : Nat} (H : WF N np ns nw) (E : EqN N N') : WF N' np ns nw := by
  have b1 := H.p.2
  have b2 := H.s.2
  have b3 := H.w.2
  refine H.congr (E _ (by decide)) (E _ (by decide)) (E _ (by decide)) (E _ (by decide)) (fun w hw => E _ (by omega)) (fun w hw => E _ (by omega)) (fun w hw => E _ (by omega)) (fun w hw => E _ (by omega)) (fun w hw => E _ (by omega)) (fun w hw => E _ (by omega)) (fun s h => E _ (by omega)) (fun s h => ?_) (fun s h => ?_) (fun p h => E _ (by omega)) (fun p h => E _ (by omega))
  · obtain ⟨t, t1, t2⟩ := H.st h
    exact ⟨t, (E _ (by omega)).trans t1, t2⟩
  · obtain ⟨t, t1, t2⟩ := H.mg h
    exact ⟨t, (E _ (by omega)).trans t1, t2⟩
theorem RM.eqN {I : Mem} {q np ns nw : Nat} {N N' : Nat → Int32} (R : RM I q N np ns nw) (E : EqN N N') : RM I q N' np ns nw := by
  have b1 := R.f.p.2
  have b2 := R.f.s.2
  have b3 := R.f.w.2
  obtain ⟨y, y1, y2⟩ := R.2.1
  have en : ∀ a, a + 6 < 355 → sNm N' a = sNm N a := fun a ha => by
    unfold sNm
    rw [E a (by omega), E (a + 1) (by omega), E (a + 2) (by omega), E (a + 3) (by omega), E (a + 4) (by omega), E (a + 5) (by omega), E (a + 6) (by omega)]
  have ep : ∀ p k, p < 6 → k < 14 → pN N' p k = pN N p k := fun p k a b => E _ (by omega)
  have es : ∀ p k, p < 5 → k < 4 → sN N' p k = sN N p k := fun p k a b => E _ (by omega)
  have ew : ∀ p k, p < 16 → k < 15 → wN N' p k = wN N p k := fun p k a b => E _ (by omega)
  refine ⟨R.f.eqN E, ⟨y, (E 0 (by decide)).trans y1, y2⟩, ?_, fun p hp => ?_, fun s hs => ?_, fun w hw => ?_⟩
  · have := R.h
    unfold RH at this ⊢
    rw [E 0 (by decide), E 1 (by decide), E 2 (by decide), E 3 (by decide), E 4 (by decide), E 5 (by decide), E 6 (by decide), E 7 (by decide), E 8 (by decide), E 9 (by decide), E 10 (by decide)]
    exact this
  · have := R.p hp
    unfold RP at this ⊢
    rw [en _ (by omega), ep p 0 (by omega) (by decide), ep p 1 (by omega) (by decide), ep p 2 (by omega) (by decide), ep p 3 (by omega) (by decide), ep p 4 (by omega) (by decide), ep p 5 (by omega) (by decide), ep p 6 (by omega) (by decide)]
    exact this
  · have := R.s hs
    unfold RS at this ⊢
    rw [es s 0 (by omega) (by decide), es s 1 (by omega) (by decide), es s 2 (by omega) (by decide), es s 3 (by omega) (by decide)]
    exact this
  · have := R.w hw
    unfold RW at this ⊢
    rw [en _ (by omega), ew w 0 (by omega) (by decide), ew w 1 (by omega) (by decide), ew w 2 (by omega) (by decide), ew w 3 (by omega) (by decide), ew w 4 (by omega) (by decide), ew w 5 (by omega) (by decide), ew w 6 (by omega) (by decide), ew w 7 (by omega) (by decide)]
    exact this
abbrev eIS : String := "java/lang/IllegalStateException"
abbrev eIX : String := "java/lang/IndexOutOfBoundsException"
abbrev eIA : String := "java/lang/IllegalArgumentException"
end
section
variable {I : Mem} {w m q np ns nw : Nat} {N : Nat → Int32}
theorem h_countGranted (R : RM I q N np ns nw) : f_X3_countGranted I q = some (nI (sCnt (fun w => wN N w 3 = 2) nw)) := by
  have b3 := R.f.w.2
  refine up_loop (fun f (s : Int32 × Int32) => l_X3_countGranted_4 f I q s.1 s.2) (fun i => (nI (sCnt (fun w => wN N w 3 = 2) i), nI i)) nw _ (fun i hi f => ?_) (fun f => ?_) (FU_up (by omega))
  · by_cases h : wN N i 3 = 2
    · have e := sCnt_ye (P := fun w => wN N w 3 = 2) h
      simp (disch := omega) only [l_X3_countGranted_4, R.h5, R.w6 hi, h, e, b1_so, b2_so, b3_so, e1_ok, e1_er, e2_ok, e2_er, e3_ok, e3_er, bI_so, bI_so', bI_0, bI_1, cB_bI, nI_s1, nJ_et, nJ_ef, nJ_lt, nJ_lf, pu_sM, sM_s, if_true, if_false, ite_self, Nat.lt_irrefl, Int32.zero_add, Int32.add_zero, not_true_eq_false, not_false_eq_true, rfw0, rfw1, rfw2, rfw3, rfw4, rfw5, rfw6, rfw7, rfp0, rfp1, rfp2, rfp3, rfp4, rfp5, rfp6, rfs0, rfs1, rfs2, rfs3, rwp0, rwp1, rwp2, rwp3, rwp4, rwp5, rwp6, rwp7, rpp0, rpp1, rpp2, rpp3, rpp4, rpp5, rpp6, rsp0, rsp1, rsp2, rsp3, ixn16, ixn6, ixn5]
    · have e := sCnt_no (P := fun w => wN N w 3 = 2) h
      simp (disch := omega) only [l_X3_countGranted_4, R.h5, R.w6 hi, h, e, b1_so, b2_so, b3_so, e1_ok, e1_er, e2_ok, e2_er, e3_ok, e3_er, bI_so, bI_so', bI_0, bI_1, cB_bI, nI_s1, nJ_et, nJ_ef, nJ_lt, nJ_lf, pu_sM, sM_s, if_true, if_false, ite_self, Nat.lt_irrefl, Int32.zero_add, Int32.add_zero, not_true_eq_false, not_false_eq_true, rfw0, rfw1, rfw2, rfw3, rfw4, rfw5, rfw6, rfw7, rfp0, rfp1, rfp2, rfp3, rfp4, rfp5, rfp6, rfs0, rfs1, rfs2, rfs3, rwp0, rwp1, rwp2, rwp3, rwp4, rwp5, rwp6, rwp7, rpp0, rpp1, rpp2, rpp3, rpp4, rpp5, rpp6, rsp0, rsp1, rsp2, rsp3, ixn16, ixn6, ixn5]
  · simp (disch := omega) only [l_X3_countGranted_4, R.h5, b1_so, b2_so, b3_so, e1_ok, e1_er, e2_ok, e2_er, e3_ok, e3_er, bI_so, bI_so', bI_0, bI_1, cB_bI, nI_s1, nJ_et, nJ_ef, nJ_lt, nJ_lf, pu_sM, sM_s, if_true, if_false, ite_self, Nat.lt_irrefl, Int32.zero_add, Int32.add_zero, not_true_eq_false, not_false_eq_true, rfw0, rfw1, rfw2, rfw3, rfw4, rfw5, rfw6, rfw7, rfp0, rfp1, rfp2, rfp3, rfp4, rfp5, rfp6, rfs0, rfs1, rfs2, rfs3, rwp0, rwp1, rwp2, rwp3, rwp4, rwp5, rwp6, rwp7, rpp0, rpp1, rpp2, rpp3, rpp4, rpp5, rpp6, rsp0, rsp1, rsp2, rsp3, ixn16, ixn6, ixn5]
theorem h_countFaded (R : RM I q N np ns nw) : f_X3_countFaded I q = some (nI (sCnt (fun w => wN N w 3 = 3) nw)) := by
  have b3 := R.f.w.2
  refine up_loop (fun f (s : Int32 × Int32) => l_X3_countFaded_4 f I q s.1 s.2) (fun i => (nI (sCnt (fun w => wN N w 3 = 3) i), nI i)) nw _ (fun i hi f => ?_) (fun f => ?_) (FU_up (by omega))
  · by_cases h : wN N i 3 = 3
    · have e := sCnt_ye (P := fun w => wN N w 3 = 3) h
      simp (disch := omega) only [l_X3_countFaded_4, R.h5, R.w7 hi, h, e, b1_so, b2_so, b3_so, e1_ok, e1_er, e2_ok, e2_er, e3_ok, e3_er, bI_so, bI_so', bI_0, bI_1, cB_bI, nI_s1, nJ_et, nJ_ef, nJ_lt, nJ_lf, pu_sM, sM_s, if_true, if_false, ite_self, Nat.lt_irrefl, Int32.zero_add, Int32.add_zero, not_true_eq_false, not_false_eq_true, rfw0, rfw1, rfw2, rfw3, rfw4, rfw5, rfw6, rfw7, rfp0, rfp1, rfp2, rfp3, rfp4, rfp5, rfp6, rfs0, rfs1, rfs2, rfs3, rwp0, rwp1, rwp2, rwp3, rwp4, rwp5, rwp6, rwp7, rpp0, rpp1, rpp2, rpp3, rpp4, rpp5, rpp6, rsp0, rsp1, rsp2, rsp3, ixn16, ixn6, ixn5]
    · have e := sCnt_no (P := fun w => wN N w 3 = 3) h
      simp (disch := omega) only [l_X3_countFaded_4, R.h5, R.w7 hi, h, e, b1_so, b2_so, b3_so, e1_ok, e1_er, e2_ok, e2_er, e3_ok, e3_er, bI_so, bI_so', bI_0, bI_1, cB_bI, nI_s1, nJ_et, nJ_ef, nJ_lt, nJ_lf, pu_sM, sM_s, if_true, if_false, ite_self, Nat.lt_irrefl, Int32.zero_add, Int32.add_zero, not_true_eq_false, not_false_eq_true, rfw0, rfw1, rfw2, rfw3, rfw4, rfw5, rfw6, rfw7, rfp0, rfp1, rfp2, rfp3, rfp4, rfp5, rfp6, rfs0, rfs1, rfs2, rfs3, rwp0, rwp1, rwp2, rwp3, rwp4, rwp5, rwp6, rwp7, rpp0, rpp1, rpp2, rpp3, rpp4, rpp5, rpp6, rsp0, rsp1, rsp2, rsp3, ixn16, ixn6, ixn5]
  · simp (disch := omega) only [l_X3_countFaded_4, R.h5, b1_so, b2_so, b3_so, e1_ok, e1_er, e2_ok, e2_er, e3_ok, e3_er, bI_so, bI_so', bI_0, bI_1, cB_bI, nI_s1, nJ_et, nJ_ef, nJ_lt, nJ_lf, pu_sM, sM_s, if_true, if_false, ite_self, Nat.lt_irrefl, Int32.zero_add, Int32.add_zero, not_true_eq_false, not_false_eq_true, rfw0, rfw1, rfw2, rfw3, rfw4, rfw5, rfw6, rfw7, rfp0, rfp1, rfp2, rfp3, rfp4, rfp5, rfp6, rfs0, rfs1, rfs2, rfs3, rwp0, rwp1, rwp2, rwp3, rwp4, rwp5, rwp6, rwp7, rpp0, rpp1, rpp2, rpp3, rpp4, rpp5, rpp6, rsp0, rsp1, rsp2, rsp3, ixn16, ixn6, ixn5]
end
section
variable {I : Mem} {w m q np ns nw : Nat} {N : Nat → Int32}
/-- sums of coins and of cash -/
def sSum (f : Nat → Int32) : Nat → Int32 → Int32
  | 0, x => x
  | n + 1, x => sSum f n x + f n
theorem h_money (R : RM I q N np ns nw) : f_X3_money I q = some (sSum (fun s => sN N s 1) ns (sSum (fun p => pN N p 0) np 0)) := by
  have b1 := R.f.p.2
  have b2 := R.f.s.2
  have h2 : ∀ x, l_X3_money_32 FU I q x 0 = some (sSum (fun s => sN N s 1) ns x) := fun x => by
    refine up_loop (fun f (z : Int32 × Int32) => l_X3_money_32 f I q z.1 z.2) (fun i => (sSum (fun s => sN N s 1) i x, nI i)) ns _ (fun i hi f => ?_) (fun f => ?_) (FU_up (by omega))
    · simp (disch := omega) only [l_X3_money_32, R.h4, R.s1 hi, sSum, b1_so, b2_so, b3_so, e1_ok, e1_er, e2_ok, e2_er, e3_ok, e3_er, bI_so, bI_so', bI_0, bI_1, cB_bI, nI_s1, nJ_et, nJ_ef, nJ_lt, nJ_lf, pu_sM, sM_s, if_true, if_false, ite_self, Nat.lt_irrefl, Int32.zero_add, Int32.add_zero, not_true_eq_false, not_false_eq_true, rfw0, rfw1, rfw2, rfw3, rfw4, rfw5, rfw6, rfw7, rfp0, rfp1, rfp2, rfp3, rfp4, rfp5, rfp6, rfs0, rfs1, rfs2, rfs3, rwp0, rwp1, rwp2, rwp3, rwp4, rwp5, rwp6, rwp7, rpp0, rpp1, rpp2, rpp3, rpp4, rpp5, rpp6, rsp0, rsp1, rsp2, rsp3, ixn16, ixn6, ixn5]
    · simp (disch := omega) only [l_X3_money_32, R.h4, b1_so, b2_so, b3_so, e1_ok, e1_er, e2_ok, e2_er, e3_ok, e3_er, bI_so, bI_so', bI_0, bI_1, cB_bI, nI_s1, nJ_et, nJ_ef, nJ_lt, nJ_lf, pu_sM, sM_s, if_true, if_false, ite_self, Nat.lt_irrefl, Int32.zero_add, Int32.add_zero, not_true_eq_false, not_false_eq_true, rfw0, rfw1, rfw2, rfw3, rfw4, rfw5, rfw6, rfw7, rfp0, rfp1, rfp2, rfp3, rfp4, rfp5, rfp6, rfs0, rfs1, rfs2, rfs3, rwp0, rwp1, rwp2, rwp3, rwp4, rwp5, rwp6, rwp7, rpp0, rpp1, rpp2, rpp3, rpp4, rpp5, rpp6, rsp0, rsp1, rsp2, rsp3, ixn16, ixn6, ixn5]
  refine up_loop (fun f (z : Int32 × Int32) => l_X3_money_4 f I q z.1 z.2) (fun i => (sSum (fun p => pN N p 0) i 0, nI i)) np _ (fun i hi f => ?_) (fun f => ?_) (FU_up (by omega))
  · simp (disch := omega) only [l_X3_money_4, R.h3, R.p1 hi, sSum, b1_so, b2_so, b3_so, e1_ok, e1_er, e2_ok, e2_er, e3_ok, e3_er, bI_so, bI_so', bI_0, bI_1, cB_bI, nI_s1, nJ_et, nJ_ef, nJ_lt, nJ_lf, pu_sM, sM_s, if_true, if_false, ite_self, Nat.lt_irrefl, Int32.zero_add, Int32.add_zero, not_true_eq_false, not_false_eq_true, rfw0, rfw1, rfw2, rfw3, rfw4, rfw5, rfw6, rfw7, rfp0, rfp1, rfp2, rfp3, rfp4, rfp5, rfp6, rfs0, rfs1, rfs2, rfs3, rwp0, rwp1, rwp2, rwp3, rwp4, rwp5, rwp6, rwp7, rpp0, rpp1, rpp2, rpp3, rpp4, rpp5, rpp6, rsp0, rsp1, rsp2, rsp3, ixn16, ixn6, ixn5]
  · simp (disch := omega) only [l_X3_money_4, R.h3, h2, b1_so, b2_so, b3_so, e1_ok, e1_er, e2_ok, e2_er, e3_ok, e3_er, bI_so, bI_so', bI_0, bI_1, cB_bI, nI_s1, nJ_et, nJ_ef, nJ_lt, nJ_lf, pu_sM, sM_s, if_true, if_false, ite_self, Nat.lt_irrefl, Int32.zero_add, Int32.add_zero, not_true_eq_false, not_false_eq_true, rfw0, rfw1, rfw2, rfw3, rfw4, rfw5, rfw6, rfw7, rfp0, rfp1, rfp2, rfp3, rfp4, rfp5, rfp6, rfs0, rfs1, rfs2, rfs3, rwp0, rwp1, rwp2, rwp3, rwp4, rwp5, rwp6, rwp7, rpp0, rpp1, rpp2, rpp3, rpp4, rpp5, rpp6, rsp0, rsp1, rsp2, rsp3, ixn16, ixn6, ixn5]
theorem h_misplaced (R : RM I q N np ns nw) : f_X3_countMisplaced I q = some 0 := by
  have b3 := R.f.w.2
  refine up_loop (fun f (z : Int32 × Int32) => l_X3_countMisplaced_4 f I q z.1 z.2) (fun i => (0, nI i)) nw _ (fun i hi f => ?_) (fun f => ?_) (FU_up (by omega))
  · obtain ⟨q0, -⟩ := R.f.2.2.2.1 i hi
    have e4 := R.w4n hi
    have e5 := R.w5n hi
    have e6 := R.w6 hi
    have e7 := R.w7 hi
    rcases q0 with h | h | h | h <;> simp only [h] at e4 e5 e6 e7 <;> simp (disch := omega) only [l_X3_countMisplaced_4, R.h5, e4, e5, e6, e7, l_X3_countMisplaced_32, l_X3_countMisplaced_45, l_X3_countMisplaced_58, l_X3_countMisplaced_71, b1_so, b2_so, b3_so, e1_ok, e1_er, e2_ok, e2_er, e3_ok, e3_er, bI_so, bI_so', bI_0, bI_1, cB_bI, nI_s1, nJ_et, nJ_ef, nJ_lt, nJ_lf, pu_sM, sM_s, if_true, if_false, ite_self, Nat.lt_irrefl, Int32.zero_add, Int32.add_zero, not_true_eq_false, not_false_eq_true, rfw0, rfw1, rfw2, rfw3, rfw4, rfw5, rfw6, rfw7, rfp0, rfp1, rfp2, rfp3, rfp4, rfp5, rfp6, rfs0, rfs1, rfs2, rfs3, rwp0, rwp1, rwp2, rwp3, rwp4, rwp5, rwp6, rwp7, rpp0, rpp1, rpp2, rpp3, rpp4, rpp5, rpp6, rsp0, rsp1, rsp2, rsp3, ixn16, ixn6, ixn5] <;> rfl
  · simp (disch := omega) only [l_X3_countMisplaced_4, R.h5, b1_so, b2_so, b3_so, e1_ok, e1_er, e2_ok, e2_er, e3_ok, e3_er, bI_so, bI_so', bI_0, bI_1, cB_bI, nI_s1, nJ_et, nJ_ef, nJ_lt, nJ_lf, pu_sM, sM_s, if_true, if_false, ite_self, Nat.lt_irrefl, Int32.zero_add, Int32.add_zero, not_true_eq_false, not_false_eq_true, rfw0, rfw1, rfw2, rfw3, rfw4, rfw5, rfw6, rfw7, rfp0, rfp1, rfp2, rfp3, rfp4, rfp5, rfp6, rfs0, rfs1, rfs2, rfs3, rwp0, rwp1, rwp2, rwp3, rwp4, rwp5, rwp6, rwp7, rpp0, rpp1, rpp2, rpp3, rpp4, rpp5, rpp6, rsp0, rsp1, rsp2, rsp3, ixn16, ixn6, ixn5]
end
section
variable {I : Mem} {w m np ns nw : Nat} {N : Nat → Int32}
theorem sDay_n {d y : Nat} (hd : N 1 = nI d) (hy : N 0 = nI y) (h0 : 0 < y) (h1 : y < 1000) (h2 : d < 2147483648) : sDay N = nI (d % y) := by
  unfold sDay
  have h3 : d / y * y ≤ d := Nat.div_mul_le_self d y
  rw [hd, hy, pk_div (by omega) h0 (by omega), pk_mul, pk_sub h3]
  congr 1
  have := Nat.div_add_mod d y
  rw [Nat.mul_comm] at this
  omega
theorem wait_eq {b t y : Nat} (hb : b < y) (ht : t < y) (hy : y ≤ 60) : ((nI b + nI y) - nI t) - ((nI b + nI y) - nI t) / nI y * nI y = (if 0 ≤ nI b - nI t then nI b - nI t else nI b - nI t + nI y) := by
  have e1 : (nI b + nI y) - nI t = nI (b + y - t) := by rw [nI_add, pk_sub (by omega)]
  rw [e1, pk_div (by omega) (by omega) (by omega), pk_mul, pk_sub (Nat.div_mul_le_self _ _)]
  by_cases h : t ≤ b
  · rw [pk_sub h, if_pos (nI_pos' (by omega))]
    congr 1
    have h1 : (b + y - t) / y = 1 := by
      rw [show b + y - t = (b - t) + y by omega, Nat.add_div_right _ (by omega), Nat.div_eq_of_lt (by omega)]
    rw [h1]
    omega
  · have h1 : (b + y - t) / y = 0 := Nat.div_eq_of_lt (by omega)
    have h2 : ¬ (0 : Int32) ≤ nI b - nI t := by
      rw [Int32.le_iff_toInt_le, pk_sub_toInt (by omega) (by omega)]
      have : (0 : Int32).toInt = 0 := rfl
      omega
    rw [if_neg h2, h1, Nat.zero_mul, Nat.sub_zero, ← e1, Int32.sub_eq_add_neg, Int32.sub_eq_add_neg, Int32.add_assoc, Int32.add_comm (nI y), Int32.add_assoc]
end
section
variable {I I' J J' : Mem} {K : Kt} {w m kb gb D D' : Nat}
theorem nx8 {v : Nat} (hv : v < 8) : (nI v + 1) - (nI v + 1) / 8 * 8 = nI ((v + 1) % 8) := by
  rcases (show v = 0 ∨ v = 1 ∨ v = 2 ∨ v = 3 ∨ v = 4 ∨ v = 5 ∨ v = 6 ∨ v = 7 by omega) with rfl | rfl | rfl | rfl | rfl | rfl | rfl | rfl <;> decide
theorem mn8 {u : Nat} (hu : u ≤ 8) : (if (8 : Int32) < (nI u + 1) then (8 : Int32) else (nI u + 1)) = nI (if u = 8 then 8 else u + 1) := by
  rcases (show u = 0 ∨ u = 1 ∨ u = 2 ∨ u = 3 ∨ u = 4 ∨ u = 5 ∨ u = 6 ∨ u = 7 ∨ u = 8 by omega) with rfl | rfl | rfl | rfl | rfl | rfl | rfl | rfl | rfl <;> decide
end
section
variable {I J I' J' : Mem} {K : Kt} {w m kb gb D D' np ns nw : Nat} {N N' : Nat → Int32}
theorem h_rng {x a b : Int32} : f_X9_checkRange x a b = if ¬ x < a ∧ ¬ b < x then some (.ok ()) else some (.error eIA) := by
  unfold f_X9_checkRange l_X9_checkRange_10
  by_cases h : x < a
  · rw [if_pos h, if_neg (fun z => z.1 h)]
  · rw [if_neg h]
    by_cases h2 : b < x
    · rw [if_neg (fun z => absurd h2 (Int32.not_lt.mpr z)), if_neg (fun z => z.2 h2)]
    · rw [if_pos (Int32.not_lt.mp h2), if_pos ⟨h, h2⟩]
theorem rng_of {x : Int32} {a b : Nat} (h : ¬ x < nI a ∧ ¬ nI b < x) (hb : a ≤ b ∧ b < 1000) : ∃ t, x = nI t ∧ t ≤ b := by
  have h1 := h.1
  have h2 := h.2
  rw [Int32.lt_iff_toInt_lt, nI_toInt (by omega)] at h1 h2
  refine ⟨x.toInt.toNat, ?_, by omega⟩
  apply Int32.toInt_inj.mp
  rw [nI_toInt (by omega)]
  omega
end
section
variable {I : Mem} {K : Kt} {w m kb gb D : Nat}
theorem h_obs {x : Int32} : f_X9_checkObstacle x = if x = 0 then some (.ok ()) else some (.error eIA) := rfl
end
section
variable {I I' : Mem} {q D D' np ns nw : Nat} {N N' : Nat → Int32}
variable {I I' : Mem} {K : Kt} {w m kb gb D D' : Nat}
theorem RM.fr (R : RM I q N np ns nw) (h : ∀ a, q ≤ a → a ≤ q + 30 → I' a = I a) : RM I' q N np ns nw := by
  have b1 := R.f.p.2
  have b2 := R.f.s.2
  have b3 := R.f.w.2
  refine ⟨R.1, R.2.1, ?_, fun p hp => ?_, fun s hs => ?_, fun w hw => ?_⟩
  · rw [h q (by omega) (by omega)]; exact R.h
  · rw [h _ (by omega) (by omega)]; exact R.p hp
  · rw [h _ (by omega) (by omega)]; exact R.s hs
  · rw [h _ (by omega) (by omega)]; exact R.w hw
theorem BM.fr (B : BM I q) (h : ∀ a, q ≤ a → a ≤ q + 30 → I' a = I a) : BM I' q :=
  ⟨fun i hi => by rw [h _ (by omega) (by omega)]; exact B.1 i hi, fun i hi => by rw [h _ (by omega) (by omega)]; exact B.2 i hi⟩
end
