section CD
variable {I : Mem} {q np ns nw : Nat} {N : Nat → Int32}
def mvT (I : Mem) (a : Nat) (x y : Int32) : Mem := u2 (u2 (u2 (u2 (u2 I a 4 x) a 5 y) a 8 (-1)) a 9 (-1)) a 10 (-1)
theorem h_moveTo {a : Nat} {x y : Int32} : f_X8_moveTo I a x y = some (mvT I a x y) := rfl
theorem mvT_n {a b : Nat} {x y : Int32} (h : b ≠ a) : mvT I a x y b = I b := by
  unfold mvT
  rw [u2_a h, u2_a h, u2_a h, u2_a h, u2_a h]
theorem mvT_4 {a : Nat} {x y : Int32} : mvT I a x y a 4 = x := by
  unfold mvT
  simp (disch := omega) only [u2_s, u2_k]
theorem mvT_5 {a : Nat} {x y : Int32} : mvT I a x y a 5 = y := by
  unfold mvT
  simp (disch := omega) only [u2_s, u2_k]
theorem mvT_8 {a : Nat} {x y : Int32} : mvT I a x y a 8 = -1 := by
  unfold mvT
  simp (disch := omega) only [u2_s, u2_k]
theorem mvT_9 {a : Nat} {x y : Int32} : mvT I a x y a 9 = -1 := by
  unfold mvT
  simp (disch := omega) only [u2_s, u2_k]
theorem mvT_10 {a : Nat} {x y : Int32} : mvT I a x y a 10 = -1 := by
  unfold mvT
  simp (disch := omega) only [u2_s, u2_k]
theorem mvT_k {a k : Nat} {x y : Int32} (h : k < 4 ∨ k = 6 ∨ k = 7) : mvT I a x y a k = I a k := by
  unfold mvT
  rw [u2_k (by omega), u2_k (by omega), u2_k (by omega), u2_k (by omega), u2_k (by omega)]
theorem RM.w67 (R : RM I q N np ns nw) {w : Nat} (hw : w < nw) (ht : wN N w 3 = 0 ∨ wN N w 3 = 1) : I (q + 15 + w) 6 = 0 ∧ I (q + 15 + w) 7 = 0 := by
  rw [R.w6 hw, R.w7 hw]
  rcases ht with h | h <;> rw [h] <;> exact ⟨rfl, rfl⟩
theorem i_sn {x c : Int32} : x - -c = x + c := by rw [Int32.sub_eq_add_neg, Int32.neg_neg]
theorem i_an {x c : Int32} : x + -c = x - c := by rw [Int32.sub_eq_add_neg]
theorem pay_cm {s p : Nat} {c : Int32} (hs : s < 5) (hp : p < 6) : upd (upd N (11 + 14 * p + 0) (pN N p 0 - c)) (95 + 4 * s + 1) (sN N s 1 + c) = sPay N s p (-c) := by
  unfold sPay
  rw [upd_cm (by omega), i_sn, i_an]
theorem h_handOver (R : RM I q N np ns nw) {p w : Nat} {c : Int32} (hp : p < np) (hw : w < nw) (h3 : wN N w 3 = 0) (ho : sOwns N nw (nI p) < 4) : ∃ I', f_X3_handOver I q (nI p) (nI w) c = some I' ∧ RM I' q (sGet N p w c) np ns nw ∧ Fr I I' q np nw := by
  obtain ⟨h1, h2⟩ := R.f.a0 hw h3
  have b1 := R.f.p.2
  have b2 := R.f.s.2
  have b3 := R.f.w.2
  have e4 : I (q + 15 + w) 4 = nI (aT N w) := by rw [R.w4 hw, if_pos h3, h1]
  have RA := R.pu (k := 0) (x := pN N p 0 - c) hp (by decide)
  have s1 : sN (upd N (11 + 14 * p + 0) (pN N p 0 - c)) (aT N w) 1 = sN N (aT N w) 1 := sN_n (by omega)
  have RB := RA.su (k := 1) (x := sN N (aT N w) 1 + c) h2 (Or.inl rfl) (RA.f.free (Or.inr (Or.inl ⟨aT N w, by omega, rfl⟩)))
  rw [pay_cm (by omega) (by omega)] at RB
  have x1 : u2 I (q + 4 + p) (0 + 1) (pN N p 0 - c) (q + 15 + w) 4 = nI (aT N w) := by rw [u2_a (by omega)]; exact e4
  have x2 : u2 I (q + 4 + p) (0 + 1) (pN N p 0 - c) (q + 10 + aT N w) 1 = sN N (aT N w) 1 := by rw [u2_a (by omega)]; exact R.s1 h2
  have x6 : mvT (u2 (u2 I (q + 4 + p) (0 + 1) (pN N p 0 - c)) (q + 10 + aT N w) 1 (sN N (aT N w) 1 + c)) (q + 15 + w) (-1) (nI p) q 6 = N 1 := by
    rw [mvT_n (by omega), u2_a (by omega), u2_a (by omega)]
    exact R.h6
  have w67 := R.w67 hw (Or.inl h3)
  have W : WF (sGet N p w c) np ns nw := R.f.get hw h3 hp ho
  refine ⟨u2 (u2 (u2 (mvT (u2 (u2 I (q + 4 + p) (0 + 1) (pN N p 0 - c)) (q + 10 + aT N w) 1 (sN N (aT N w) 1 + c)) (q + 15 + w) (-1) (nI p)) (q + 15 + w) 8 (N 1)) (q + 15 + w) 9 c) (q + 15 + w) 10 (nI (aT N w)), ?_, ?_, ?_⟩
  · unfold f_X3_handOver
    rw [ixn16 (by omega), b1_so, ixn6 (by omega), b1_so, R.p1 hp, pu_so, b1_so, e4, ixn5 (by omega), b1_so, show u2 I (q + 4 + p) 1 (pN N p 0 - c) (q + 10 + aT N w) 1 = sN N (aT N w) 1 from x2, pu_so, b1_so, h_moveTo, b1_so, show mvT (u2 (u2 I (q + 4 + p) 1 (pN N p 0 - c)) (q + 10 + aT N w) 1 (sN N (aT N w) 1 + c)) (q + 15 + w) (-1) (nI p) q 6 = N 1 from x6, pu_so, b1_so, pu_so, b1_so, pu_so, b1_so]
  · rw [sGet_mv] at W ⊢
    refine RB.mv hw (fun b hb => ?_) (fun k hk => ?_) ?_ ?_ ?_ ?_ ?_ ?_ ?_ W
    · rw [u2_a hb, u2_a hb, u2_a hb, mvT_n hb]
    · rw [u2_k (by omega), u2_k (by omega), u2_k (by omega), mvT_k (by omega)]
    · rw [u2_k (by omega), u2_k (by omega), u2_k (by omega), mvT_4]; rfl
    · rw [u2_k (by omega), u2_k (by omega), u2_k (by omega), mvT_5]; rfl
    · rw [u2_k (by omega), u2_k (by omega), u2_k (by omega), mvT_k (by omega), u2_a (by omega), u2_a (by omega), w67.1]; rfl
    · rw [u2_k (by omega), u2_k (by omega), u2_k (by omega), mvT_k (by omega), u2_a (by omega), u2_a (by omega), w67.2]; rfl
    · rw [u2_k (by omega), u2_k (by omega), u2_s]
    · rw [u2_k (by omega), u2_s]
    · rw [u2_s]
  · intro a ha
    rw [u2_a (by omega), u2_a (by omega), u2_a (by omega), mvT_n (by omega), u2_a (by omega), u2_a (by omega)]
theorem min50 {t : Nat} (h : t ≤ 50) : (if (50 : Int32) < nI t + 1 then 50 else nI t + 1) = (if nI t + 1 < 50 then nI t + 1 else 50) := by
  rw [nI_s1]
  by_cases h1 : t + 1 < 50
  · rw [if_neg (show ¬ (50 : Int32) < nI (t + 1) from nI_nlt (a := 50) (b := t + 1) (by omega) (by omega)), if_pos (show nI (t + 1) < (50 : Int32) from nI_lt (b := 50) h1 (by omega))]
  · rcases (show t = 49 ∨ t = 50 by omega) with rfl | rfl <;> rfl
theorem max0 {t : Nat} (h : t ≤ 50) : (if nI t - 2 < 0 then 0 else nI t - 2) = (if 0 < nI t - 2 then nI t - 2 else 0) := by
  by_cases h1 : 2 < t
  · rw [show nI t - 2 = nI (t - 2) from pk_sub (b := 2) (by omega)]
    rw [if_neg (nI_pos (by omega)), if_pos (show (0 : Int32) < nI (t - 2) from nI_lt (a := 0) (by omega) (by omega))]
  · rcases (show t = 0 ∨ t = 1 ∨ t = 2 by omega) with rfl | rfl | rfl <;> rfl
theorem h_buys (R : RM I q N np ns nw) {p w : Nat} (hp : p < np) (hw : w < nw) (h : sWhyBuy N nw p w = 0) : ∃ I', f_X3_carryOutPurchase I q (nI p) (nI w) = some (sPrice N w, I') ∧ RM I' q (sBuy N p w) np ns nw ∧ Fr I I' q np nw := by
  have h3 := whyBuy0 h
  obtain ⟨h1, h2⟩ := R.f.a0 hw h3
  have b2 := R.f.s.2
  have b3 := R.f.w.2
  obtain ⟨t, t1, t2⟩ := R.f.st h2
  have e4 : I (q + 15 + w) 4 = nI (aT N w) := by rw [R.w4 hw, if_pos h3, h1]
  obtain ⟨I1, g1, g2, g3⟩ := h_handOver R (c := sPrice N w) hp hw h3 (whyBuy4 R.f hp h)
  have e : sN (sGet N p w (sPrice N w)) (aT N w) 2 = sN N (aT N w) 2 := by
    have b1 := R.f.p.2
    simp (disch := omega) only [sGet, sGo, sFg, sPay, b1_so, b2_so, b3_so, e1_ok, e1_er, e2_ok, e2_er, e3_ok, e3_er, bI_so, bI_so', bI_0, bI_1, cB_bI, nI_s1, nJ_et, nJ_ef, nJ_lt, nJ_lf, pu_sM, sM_s, if_true, if_false, ite_self, Nat.lt_irrefl, Int32.zero_add, Int32.add_zero, not_true_eq_false, not_false_eq_true, rfw0, rfw1, rfw2, rfw3, rfw4, rfw5, rfw6, rfw7, rfp0, rfp1, rfp2, rfp3, rfp4, rfp5, rfp6, rfs0, rfs1, rfs2, rfs3, rwp0, rwp1, rwp2, rwp3, rwp4, rwp5, rwp6, rwp7, rpp0, rpp1, rpp2, rpp3, rpp4, rpp5, rpp6, rsp0, rsp1, rsp2, rsp3, ixn16, ixn6, ixn5, wN_w, wN_n, pN_p, pN_n, sN_s, sN_n, upd_s, upd_n]
  have e2 : I1 (q + 10 + aT N w) 2 = nI t := by rw [g2.s2 h2, e, t1]
  have W := R.f.buy hw hp h
  have G := g2.su (s := aT N w) (k := 2) (x := if sN N (aT N w) 2 + 1 < 50 then sN N (aT N w) 2 + 1 else 50) h2 (Or.inr (Or.inl rfl)) W
  refine ⟨_, ?_, G, g3.trans (Fr.u (by omega))⟩
  unfold f_X3_carryOutPurchase
  rw [h_priceOf R hw h3, b1_so, ixn16 (by omega), b1_so, g1, b1_so, e4, ixn5 (by omega), b1_so, b1_so, e2, min50 t2, pu_so, b1_so, t1]
theorem h_takeBack (R : RM I q N np ns nw) {w s : Nat} {c : Int32} (hw : w < nw) (hs : s < ns) (h3 : wN N w 3 = 1) (W : WF (sGo (sPay N s (aT N w) c) w 0 (nI s)) np ns nw) : ∃ I', f_X3_takeBack I q (nI w) (nI s) c = some I' ∧ RM I' q (sGo (sPay N s (aT N w) c) w 0 (nI s)) np ns nw ∧ Fr I I' q np nw := by
  obtain ⟨h1, h2⟩ := R.f.a1 hw h3
  have b1 := R.f.p.2
  have b2 := R.f.s.2
  have b3 := R.f.w.2
  have e5 : I (q + 15 + w) 5 = nI (aT N w) := by rw [R.w5 hw, if_pos h3, h1]
  have RA := R.su (k := 1) (x := sN N s 1 - c) hs (Or.inl rfl) (R.f.free (Or.inr (Or.inl ⟨s, by omega, rfl⟩)))
  have RB := RA.pu (k := 0) (x := pN N (aT N w) 0 + c) h2 (by decide)
  have x1 : u2 I (q + 10 + s) 1 (sN N s 1 - c) (q + 15 + w) 5 = nI (aT N w) := by rw [u2_a (by omega)]; exact e5
  have x2 : u2 I (q + 10 + s) 1 (sN N s 1 - c) (q + 4 + aT N w) 1 = pN N (aT N w) 0 := by rw [u2_a (by omega)]; exact R.p1 h2
  have w67 := R.w67 hw (Or.inr h3)
  refine ⟨mvT (u2 (u2 I (q + 10 + s) 1 (sN N s 1 - c)) (q + 4 + aT N w) (0 + 1) (pN N (aT N w) 0 + c)) (q + 15 + w) (nI s) (-1), ?_, ?_, ?_⟩
  · unfold f_X3_takeBack
    rw [ixn5 (by omega), b1_so, R.s1 hs, pu_so, b1_so, ixn16 (by omega), b1_so, x1, ixn6 (by omega), b1_so, x2, pu_so, b1_so, b1_so, h_moveTo, b1_so]
  · rw [sGo_mv] at W ⊢
    refine RM.mv RB hw (fun b hb => mvT_n hb) (fun k hk => mvT_k (by omega)) ?_ ?_ ?_ ?_ ?_ ?_ ?_ W
    · rw [mvT_4]; rfl
    · rw [mvT_5]; rfl
    · rw [mvT_k (by omega), u2_a (by omega), u2_a (by omega), w67.1]; rfl
    · rw [mvT_k (by omega), u2_a (by omega), u2_a (by omega), w67.2]; rfl
    · rw [mvT_8]
    · rw [mvT_9]
    · rw [mvT_10]
  · intro a ha
    rw [mvT_n (by omega), u2_a (by omega), u2_a (by omega)]
theorem h_sells (R : RM I q N np ns nw) {w s : Nat} (hw : w < nw) (hs : s < ns) (h : sWhySell N nw w s = 0) : ∃ I', f_X3_carryOutSale I q (nI w) (nI s) = some (sOff N w s, I') ∧ RM I' q (sSell N w s) np ns nw ∧ Fr I I' q np nw := by
  obtain ⟨I1, g1, g2, g3⟩ := h_takeBack R (c := sOff N w s) hw hs (whySell1 h) (R.f.sell hw hs h)
  refine ⟨I1, ?_, g2, g3⟩
  unfold f_X3_carryOutSale
  rw [h_offerFor R hw hs, b1_so, g1, b1_so]
theorem h_returns (R : RM I q N np ns nw) {w : Nat} (hw : w < nw) (h : sWhyRet N nw w = 0) : ∃ I', f_X3_carryOutReturn I q (nI w) = some (sRef N w, I') ∧ RM I' q (sRet N w) np ns nw ∧ Fr I I' q np nw := by
  obtain ⟨h3, h5, hF⟩ := whyRet1 h
  obtain ⟨h1, h2⟩ := R.f.a1 hw h3
  obtain ⟨h6, h7⟩ := R.f.a7 hw h3 h5
  have b1 := R.f.p.2
  have b2 := R.f.s.2
  have b3 := R.f.w.2
  obtain ⟨c, c1, c2, c3⟩ := notFull R.f h7 hF
  obtain ⟨t, t1, t2⟩ := R.f.st h7
  have W0 : WF (sGo (sPay N (sE N w) (aT N w) (sRef N w)) w 0 (nI (sE N w))) np ns nw := by
    rw [sGo_mv]
    refine (R.f.pay (s := sE N w) (p := aT N w) (by omega) (by omega)).mv hw (Or.inr (by rw [wN_pay (by omega) (by omega)]; exact h3)) (Or.inl ⟨rfl, sE N w, c, h7, rfl, ?_, c2, ?_⟩)
    · rw [cap_pay (by omega) (by omega) (by omega)]; exact c1
    · rw [sto_pay (by omega) (by omega)]; exact c3
  obtain ⟨I1, g1, g2, g3⟩ := h_takeBack R (c := sRef N w) hw h7 h3 W0
  have e : sN (sGo (sPay N (sE N w) (aT N w) (sRef N w)) w 0 (nI (sE N w))) (sE N w) 2 = sN N (sE N w) 2 := by
    simp (disch := omega) only [sGo, sFg, sPay, b1_so, b2_so, b3_so, e1_ok, e1_er, e2_ok, e2_er, e3_ok, e3_er, bI_so, bI_so', bI_0, bI_1, cB_bI, nI_s1, nJ_et, nJ_ef, nJ_lt, nJ_lf, pu_sM, sM_s, if_true, if_false, ite_self, Nat.lt_irrefl, Int32.zero_add, Int32.add_zero, not_true_eq_false, not_false_eq_true, rfw0, rfw1, rfw2, rfw3, rfw4, rfw5, rfw6, rfw7, rfp0, rfp1, rfp2, rfp3, rfp4, rfp5, rfp6, rfs0, rfs1, rfs2, rfs3, rwp0, rwp1, rwp2, rwp3, rwp4, rwp5, rwp6, rwp7, rpp0, rpp1, rpp2, rpp3, rpp4, rpp5, rpp6, rsp0, rsp1, rsp2, rsp3, ixn16, ixn6, ixn5, wN_w, wN_n, pN_p, pN_n, sN_s, sN_n, upd_s, upd_n]
  have e2 : I1 (q + 10 + sE N w) 2 = nI t := by rw [g2.s2 h7, e, t1]
  have e10 : I (q + 15 + w) 10 = nI (sE N w) := by rw [R.w10 hw, h6]
  have W := R.f.ret hw h
  have G := g2.su (s := sE N w) (k := 2) (x := if 0 < sN N (sE N w) 2 - 2 then sN N (sE N w) 2 - 2 else 0) h7 (Or.inr (Or.inl rfl)) W
  refine ⟨_, ?_, G, g3.trans (Fr.u (by omega))⟩
  unfold f_X3_carryOutReturn
  rw [h_refundFor R hw, if_neg h5, b1_so, ixn16 (by omega), b1_so, e10, g1, b1_so, ixn5 (by omega), b1_so, b1_so, e2, max0 t2, pu_so, b1_so, t1]
theorem h_grants (R : RM I q N np ns nw) {w : Nat} (hw : w < nw) (h3 : wN N w 3 = 1) : ∃ I', f_X3_carryOutGrant I q (nI w) = some (pN N (aT N w) 3 + sVal N w, I') ∧ RM I' q (sGr N w) np ns nw ∧ Fr I I' q np nw := by
  obtain ⟨h1, h2⟩ := R.f.a1 hw h3
  have b1 := R.f.p.2
  have b3 := R.f.w.2
  have e5 : I (q + 15 + w) 5 = nI (aT N w) := by rw [R.w5 hw, if_pos h3, h1]
  have RA := R.pu (k := 3) (x := pN N (aT N w) 3 + sVal N w) h2 (by decide)
  have W := R.f.gr hw h3
  have w67 := R.w67 hw (Or.inr h3)
  refine ⟨u2 (mvT (u2 I (q + 4 + aT N w) (3 + 1) (pN N (aT N w) 3 + sVal N w)) (q + 15 + w) (-1) (-1)) (q + 15 + w) 6 1, ?_, ?_, ?_⟩
  · unfold f_X3_carryOutGrant
    rw [ixn16 (by omega), b1_so, e5, ixn6 (by omega), b1_so, b1_so, h_worth R hw, b1_so, R.p4 h2, pu_so, b1_so, b1_so, h_moveTo, b1_so, b1_so, pu_so, b1_so, u2_a (by omega), mvT_n (by omega), u2_s]
  · unfold sGr at W ⊢
    rw [sGo_mv] at W ⊢
    refine RM.mv RA hw (fun b hb => by rw [u2_a hb, mvT_n hb]) (fun k hk => by rw [u2_k (by omega), mvT_k (by omega)]) ?_ ?_ ?_ ?_ ?_ ?_ ?_ W
    · rw [u2_k (by omega), mvT_4]; rfl
    · rw [u2_k (by omega), mvT_5]; rfl
    · rw [u2_s]; rfl
    · rw [u2_k (by omega), mvT_k (by omega), u2_a (by omega), w67.2]; rfl
    · rw [u2_k (by omega), mvT_8]
    · rw [u2_k (by omega), mvT_9]
    · rw [u2_k (by omega), mvT_10]
  · intro a ha
    rw [u2_a (by omega), mvT_n (by omega), u2_a (by omega)]
end CD
