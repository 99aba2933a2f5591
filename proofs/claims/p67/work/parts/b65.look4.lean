section LK4
variable {I : Mem} {w m q np ns nw : Nat} {N : Nat → Int32}
theorem faded_eq {e y t : Int32} {k : Nat} (he : e = nI k) (hk : k ≤ 9) : (10 - e) * y - t = (y - t) + (9 - e) * y := by
  have h1 : (10 : Int32) - e = (9 - e) + 1 := by
    subst he
    rw [show (10 : Int32) = nI 10 from rfl, show (9 : Int32) = nI 9 from rfl, pk_sub (by omega), pk_sub (by omega), nI_s1, show 9 - k + 1 = 10 - k by omega]
  rw [h1, Int32.add_mul, Int32.one_mul]
  generalize (9 - e) * y = a
  simp only [Int32.sub_eq_add_neg]
  ac_rfl
theorem u_daysUntilFaded {L : Prop} [Decidable L] (B : BR I w m L np ns nw) {x : Int32} : ∃ r t b, f_X9_daysUntilFaded I w x = some r ∧ f_Y_daysUntilFaded I m x = some (b, u2 I m 0 t) ∧ Oc [eIS, eIX] r t b := by
  by_cases hL : L
  · have R := B.2 hL
    have b1 := R.f.p.2
    have b2 := R.f.s.2
    have b3 := R.f.w.2
    by_cases hx : ¬ x < 0 ∧ x < nI nw
    · obtain ⟨p, rfl, hp⟩ := okI_of hx (by omega)
      have g3 := rfw3 (I := u2 I m 0 0) (m := m) (N := (I (m + 1))) (w := p) (by omega)
      have g2 := rfw2 (I := u2 I m 0 0) (m := m) (N := (I (m + 1))) (w := p) (by omega)
      have gt := r_today (I := u2 I m 0 0) (m := m) R.f
      rw [sMt] at g3 g2 gt
      have em : u2 I m 0 0 (m + 1) = I (m + 1) := u2_a (by omega)
      by_cases h2 : wN (I (m + 1)) p 3 = 2
      · refine ⟨.ok (-1), 0, -1, ?_, ?_, rfl, rfl⟩
        · unfold f_X9_daysUntilFaded
          rw [h_wishAt B, if_pos hL, if_pos hx, ixn16 (by omega), b1_so, e1_ok, ckA_n (by omega), b1_so, R.w6 hp, bI_t h2, if_neg (by decide)]
        · unfold f_Y_daysUntilFaded
          rw [r_mayWish B, b2_so, bI_t ⟨hL, hL, hx⟩, if_neg (by decide), th_0 hL ⟨hL, hx⟩, g3, b1_so, if_neg (by rw [h2]; decide), b1_so, if_pos h2]
      · by_cases h3 : wN (I (m + 1)) p 3 = 3
        · refine ⟨.ok 0, 0, 0, ?_, ?_, rfl, rfl⟩
          · unfold f_X9_daysUntilFaded
            rw [h_wishAt B, if_pos hL, if_pos hx, ixn16 (by omega), b1_so, e1_ok, ckA_n (by omega), b1_so, R.w6 hp, bI_f h2, if_pos rfl, R.w7 hp, bI_t h3, if_neg (by decide)]
          · unfold f_Y_daysUntilFaded
            rw [r_mayWish B, b2_so, bI_t ⟨hL, hL, hx⟩, if_neg (by decide), th_0 hL ⟨hL, hx⟩, g3, b1_so, if_pos h3]
        · obtain ⟨q0, b, e, q1, q2, q3⟩ := R.f.2.2.2.1 p hp
          have q4 : e ≤ 9 := q3 (by
            rcases q0 with h | h | h | h
            · exact Or.inl h
            · exact Or.inr h
            · exact absurd h h2
            · exact absurd h h3)
          refine ⟨.ok ((10 - wN (I (m + 1)) p 2) * I (m + 1) 0 - sDay (I (m + 1))), 0, (10 - wN (I (m + 1)) p 2) * I (m + 1) 0 - sDay (I (m + 1)), ?_, ?_, rfl, rfl⟩
          · unfold f_X9_daysUntilFaded
            rw [h_wishAt B, if_pos hL, if_pos hx, ixn16 (by omega), b1_so, e1_ok, ckA_n (by omega), b1_so, R.w6 hp, bI_f h2, if_pos rfl, R.w7 hp, bI_f h3, if_pos rfl, h_today R, b1_so, R.w3 hp, R.h7]
          · unfold f_Y_daysUntilFaded
            rw [r_mayWish B, b2_so, bI_t ⟨hL, hL, hx⟩, if_neg (by decide), th_0 hL ⟨hL, hx⟩, g3, b1_so, if_neg h3, b1_so, if_neg h2, ix0, b1_so, gt, b1_so, g2, b1_so, b1_so, em, faded_eq q2.1 q4]
    · refine ⟨.error eIX, 2, 0, ?_, ?_, Oc.ix⟩
      · unfold f_X9_daysUntilFaded
        rw [h_wishAt B, if_pos hL, if_neg hx, e1_er]
      · unfold f_Y_daysUntilFaded
        rw [r_mayWish B, b2_so, bI_f (fun h => hx h.2.2), if_pos rfl, th_2 hL (fun h => hx h.2)]
  · refine ⟨.error eIS, 1, 0, ?_, ?_, Oc.is⟩
    · unfold f_X9_daysUntilFaded
      rw [h_wishAt B, if_neg hL, e1_er]
    · unfold f_Y_daysUntilFaded
      rw [r_mayWish B, b2_so, bI_f (fun h => hL h.1), if_pos rfl, th_1 hL]
/-- sums of coins and of cash -/
def sSum (f : Nat → Int32) : Nat → Int32 → Int32
  | 0, x => x
  | n + 1, x => sSum f n x + f n
theorem h_money (R : RM I q N np ns nw) : f_X3_money I q = some (sSum (fun s => sN N s 1) ns (sSum (fun p => pN N p 0) np 0)) := by
  have b1 := R.f.p.2
  have b2 := R.f.s.2
  have h2 : ∀ x, l_X3_money_32 FU I q x 0 = some (sSum (fun s => sN N s 1) ns x) := fun x => by
    refine up_loop (fun f (z : Int32 × Int32) => l_X3_money_32 f I q z.1 z.2) (fun i => (sSum (fun s => sN N s 1) i x, nI i)) ns _ (fun i hi f => ?_) (fun f => ?_) (FU_up (by omega))
    · simp (disch := omega) only [l_X3_money_32, R.h4, R.s1 hi, sSum, b1_so, b2_so, b3_so, e1_ok, e1_er, e2_ok, e2_er, e3_ok, e3_er, bI_so, bI_so', bI_0, bI_1, cB_bI, nI_s1, nJ_et, nJ_ef, nJ_lt, nJ_lf, pu_sM, sM_s, if_true, if_false, ite_self, Nat.lt_irrefl, Int32.zero_add, Int32.add_zero, not_true_eq_false, not_false_eq_true, rfw0, rfw1, rfw2, rfw3, rfw4, rfw5, rfw6, rfw7, rfp0, rfp1, rfp2, rfp3, rfp4, rfp5, rfp6, rfs0, rfs1, rfs2, rfs3, rwp0, rwp1, rwp2, rwp3, rwp4, rwp5, rwp6, rwp7, rpp0, rpp1, rpp2, rpp3, rpp4, rpp5, rpp6, rsp0, rsp1, rsp2, rsp3, ixn16, ixn6, ixn5]
    · simp (disch := omega) only [l_X3_money_32, R.h4, b1_so, b2_so, b3_so, e1_ok, e1_er, e2_ok, e2_er, e3_ok, e3_er, bI_so, bI_so', bI_0, bI_1, cB_bI, nI_s1, nJ_et, nJ_ef, nJ_lt, nJ_lf, pu_sM, sM_s, if_true, if_false, ite_self, Nat.lt_irrefl, Int32.zero_add, Int32.add_zero, not_true_eq_false, not_false_eq_true, rfw0, rfw1, rfw2, rfw3, rfw4, rfw5, rfw6, rfw7, rfp0, rfp1, rfp2, rfp3, rfp4, rfp5, rfp6, rfs0, rfs1, rfs2, rfs3, rwp0, rwp1, rwp2, rwp3, rwp4, rwp5, rwp6, rwp7, rpp0, rpp1, rpp2, rpp3, rpp4, rpp5, rpp6, rsp0, rsp1, rsp2, rsp3, ixn16, ixn6, ixn5]
  refine up_loop (fun f (z : Int32 × Int32) => l_X3_money_4 f I q z.1 z.2) (fun i => (sSum (fun p => pN N p 0) i 0, nI i)) np _ (fun i hi f => ?_) (fun f => ?_) (FU_up (by omega))
  · simp (disch := omega) only [l_X3_money_4, R.h3, R.p1 hi, sSum, b1_so, b2_so, b3_so, e1_ok, e1_er, e2_ok, e2_er, e3_ok, e3_er, bI_so, bI_so', bI_0, bI_1, cB_bI, nI_s1, nJ_et, nJ_ef, nJ_lt, nJ_lf, pu_sM, sM_s, if_true, if_false, ite_self, Nat.lt_irrefl, Int32.zero_add, Int32.add_zero, not_true_eq_false, not_false_eq_true, rfw0, rfw1, rfw2, rfw3, rfw4, rfw5, rfw6, rfw7, rfp0, rfp1, rfp2, rfp3, rfp4, rfp5, rfp6, rfs0, rfs1, rfs2, rfs3, rwp0, rwp1, rwp2, rwp3, rwp4, rwp5, rwp6, rwp7, rpp0, rpp1, rpp2, rpp3, rpp4, rpp5, rpp6, rsp0, rsp1, rsp2, rsp3, ixn16, ixn6, ixn5]
  · simp (disch := omega) only [l_X3_money_4, R.h3, h2, b1_so, b2_so, b3_so, e1_ok, e1_er, e2_ok, e2_er, e3_ok, e3_er, bI_so, bI_so', bI_0, bI_1, cB_bI, nI_s1, nJ_et, nJ_ef, nJ_lt, nJ_lf, pu_sM, sM_s, if_true, if_false, ite_self, Nat.lt_irrefl, Int32.zero_add, Int32.add_zero, not_true_eq_false, not_false_eq_true, rfw0, rfw1, rfw2, rfw3, rfw4, rfw5, rfw6, rfw7, rfp0, rfp1, rfp2, rfp3, rfp4, rfp5, rfp6, rfs0, rfs1, rfs2, rfs3, rwp0, rwp1, rwp2, rwp3, rwp4, rwp5, rwp6, rwp7, rpp0, rpp1, rpp2, rpp3, rpp4, rpp5, rpp6, rsp0, rsp1, rsp2, rsp3, ixn16, ixn6, ixn5]
theorem h_misplaced (R : RM I q N np ns nw) : f_X3_countMisplaced I q = some 0 := by
  have b3 := R.f.w.2
  refine up_loop (fun f (z : Int32 × Int32) => l_X3_countMisplaced_4 f I q z.1 z.2) (fun i => (0, nI i)) nw _ (fun i hi f => ?_) (fun f => ?_) (FU_up (by omega))
  · obtain ⟨q0, -⟩ := R.f.2.2.2.1 i hi
    have e4 := R.w4n hi
    have e5 := R.w5n hi
    have e6 := R.w6 hi
    have e7 := R.w7 hi
    rcases q0 with h | h | h | h <;> simp only [h] at e4 e5 e6 e7 <;> simp (disch := omega) only [l_X3_countMisplaced_4, R.h5, e4, e5, e6, e7, l_X3_countMisplaced_32, l_X3_countMisplaced_45, l_X3_countMisplaced_58, l_X3_countMisplaced_71, b1_so, b2_so, b3_so, e1_ok, e1_er, e2_ok, e2_er, e3_ok, e3_er, bI_so, bI_so', bI_0, bI_1, cB_bI, nI_s1, nJ_et, nJ_ef, nJ_lt, nJ_lf, pu_sM, sM_s, if_true, if_false, ite_self, Nat.lt_irrefl, Int32.zero_add, Int32.add_zero, not_true_eq_false, not_false_eq_true, rfw0, rfw1, rfw2, rfw3, rfw4, rfw5, rfw6, rfw7, rfp0, rfp1, rfp2, rfp3, rfp4, rfp5, rfp6, rfs0, rfs1, rfs2, rfs3, rwp0, rwp1, rwp2, rwp3, rwp4, rwp5, rwp6, rwp7, rpp0, rpp1, rpp2, rpp3, rpp4, rpp5, rpp6, rsp0, rsp1, rsp2, rsp3, ixn16, ixn6, ixn5] <;> rfl
  · simp (disch := omega) only [l_X3_countMisplaced_4, R.h5, b1_so, b2_so, b3_so, e1_ok, e1_er, e2_ok, e2_er, e3_ok, e3_er, bI_so, bI_so', bI_0, bI_1, cB_bI, nI_s1, nJ_et, nJ_ef, nJ_lt, nJ_lf, pu_sM, sM_s, if_true, if_false, ite_self, Nat.lt_irrefl, Int32.zero_add, Int32.add_zero, not_true_eq_false, not_false_eq_true, rfw0, rfw1, rfw2, rfw3, rfw4, rfw5, rfw6, rfw7, rfp0, rfp1, rfp2, rfp3, rfp4, rfp5, rfp6, rfs0, rfs1, rfs2, rfs3, rwp0, rwp1, rwp2, rwp3, rwp4, rwp5, rwp6, rwp7, rpp0, rpp1, rpp2, rpp3, rpp4, rpp5, rpp6, rsp0, rsp1, rsp2, rsp3, ixn16, ixn6, ixn5]
end LK4
