section LK5
variable {I : Mem} {w m q np ns nw : Nat} {N : Nat → Int32}
theorem cnt_all (h : ∀ i, i < nw → wN N i 3 = 0 ∨ wN N i 3 = 1 ∨ wN N i 3 = 2 ∨ wN N i 3 = 3) : ∀ n, n ≤ nw → sCnt (fun w => wN N w 3 = 0) n + sCnt (fun w => wN N w 3 = 1) n + sCnt (fun w => wN N w 3 = 2) n + sCnt (fun w => wN N w 3 = 3) n = n := by
  intro n
  induction n with
  | zero => intro _; rfl
  | succ n ih =>
    intro hn
    have h1 := ih (by omega)
    have e : ∀ k : Int32, sCnt (fun w => wN N w 3 = k) (n + 1) = sCnt (fun w => wN N w 3 = k) n + (if wN N n 3 = k then 1 else 0) := fun k => rfl
    rw [e, e, e, e]
    rcases h n (by omega) with h2 | h2 | h2 | h2 <;> rw [h2] <;> simp (decide := true) only [if_true, if_false] <;> omega
theorem r_imb (H : WF N np ns nw) : l_Y_imbalance_13 FU (sM I m N) m 0 0 = some ((if 0 ≤ sSum (fun s => sN N s 1) ns (sSum (fun p => pN N p 0) np 0) - N 7 then sSum (fun s => sN N s 1) ns (sSum (fun p => pN N p 0) np 0) - N 7 else 0 - (sSum (fun s => sN N s 1) ns (sSum (fun p => pN N p 0) np 0) - N 7)) + 0, sM I m N) := by
  have b1 := H.p.2
  have b2 := H.s.2
  have b3 := H.w.2
  have h2 := H.p.1
  have h3 := H.s.1
  have h4 := H.w.1
  have ca := cnt_all (N := N) (nw := nw) (fun i hi => (H.2.2.2.1 i hi).1) nw (Nat.le_refl _)
  have w0 := r_wishesIn (I := I) (m := m) H (x := 0)
  have w1 := r_wishesIn (I := I) (m := m) H (x := 1)
  have w2 := r_wishesIn (I := I) (m := m) H (x := 2)
  have w3 := r_wishesIn (I := I) (m := m) H (x := 3)
  have ez : nI nw - (nI (sCnt (fun w => wN N w 3 = 0) nw) + nI (sCnt (fun w => wN N w 3 = 1) nw) + nI (sCnt (fun w => wN N w 3 = 2) nw) + nI (sCnt (fun w => wN N w 3 = 3) nw)) = 0 := by
    rw [nI_add, nI_add, nI_add, ca, Int32.sub_self]
  have ix7 : ix 7 355 = some 7 := ixN 355 (a := 7) rfl (by decide) (by decide)
  have hs : ∀ x, l_Y_imbalance_40 FU (sM I m N) m x 0 = some ((if 0 ≤ sSum (fun s => sN N s 1) ns x - N 7 then sSum (fun s => sN N s 1) ns x - N 7 else 0 - (sSum (fun s => sN N s 1) ns x - N 7)) + 0, sM I m N) := fun x => by
    refine up_loop (fun f (z : Int32 × Int32) => l_Y_imbalance_40 f (sM I m N) m z.1 z.2) (fun i => (sSum (fun s => sN N s 1) i x, nI i)) ns _ (fun i hi f => ?_) (fun f => ?_) (FU_up (by omega))
    · simp (disch := omega) only [l_Y_imbalance_40, ix3, h3, sSum, b1_so, b2_so, b3_so, e1_ok, e1_er, e2_ok, e2_er, e3_ok, e3_er, bI_so, bI_so', bI_0, bI_1, cB_bI, nI_s1, nJ_et, nJ_ef, nJ_lt, nJ_lf, pu_sM, sM_s, if_true, if_false, ite_self, Nat.lt_irrefl, Int32.zero_add, Int32.add_zero, not_true_eq_false, not_false_eq_true, rfw0, rfw1, rfw2, rfw3, rfw4, rfw5, rfw6, rfw7, rfp0, rfp1, rfp2, rfp3, rfp4, rfp5, rfp6, rfs0, rfs1, rfs2, rfs3, rwp0, rwp1, rwp2, rwp3, rwp4, rwp5, rwp6, rwp7, rpp0, rpp1, rpp2, rpp3, rpp4, rpp5, rpp6, rsp0, rsp1, rsp2, rsp3, ixn16, ixn6, ixn5]
    · have e0 : (0 : Int32) ≤ 0 := by decide
      simp (disch := omega) only [l_Y_imbalance_40, ix3, ix4, ix7, h3, h4, w0, w1, w2, w3, ez, e0, b1_so, b2_so, b3_so, e1_ok, e1_er, e2_ok, e2_er, e3_ok, e3_er, bI_so, bI_so', bI_0, bI_1, cB_bI, nI_s1, nJ_et, nJ_ef, nJ_lt, nJ_lf, pu_sM, sM_s, if_true, if_false, ite_self, Nat.lt_irrefl, Int32.zero_add, Int32.add_zero, not_true_eq_false, not_false_eq_true, rfw0, rfw1, rfw2, rfw3, rfw4, rfw5, rfw6, rfw7, rfp0, rfp1, rfp2, rfp3, rfp4, rfp5, rfp6, rfs0, rfs1, rfs2, rfs3, rwp0, rwp1, rwp2, rwp3, rwp4, rwp5, rwp6, rwp7, rpp0, rpp1, rpp2, rpp3, rpp4, rpp5, rpp6, rsp0, rsp1, rsp2, rsp3, ixn16, ixn6, ixn5]
  refine up_loop (fun f (z : Int32 × Int32) => l_Y_imbalance_13 f (sM I m N) m z.1 z.2) (fun i => (sSum (fun p => pN N p 0) i 0, nI i)) np _ (fun i hi f => ?_) (fun f => ?_) (FU_up (by omega))
  · simp (disch := omega) only [l_Y_imbalance_13, ix2, h2, sSum, b1_so, b2_so, b3_so, e1_ok, e1_er, e2_ok, e2_er, e3_ok, e3_er, bI_so, bI_so', bI_0, bI_1, cB_bI, nI_s1, nJ_et, nJ_ef, nJ_lt, nJ_lf, pu_sM, sM_s, if_true, if_false, ite_self, Nat.lt_irrefl, Int32.zero_add, Int32.add_zero, not_true_eq_false, not_false_eq_true, rfw0, rfw1, rfw2, rfw3, rfw4, rfw5, rfw6, rfw7, rfp0, rfp1, rfp2, rfp3, rfp4, rfp5, rfp6, rfs0, rfs1, rfs2, rfs3, rwp0, rwp1, rwp2, rwp3, rwp4, rwp5, rwp6, rwp7, rpp0, rpp1, rpp2, rpp3, rpp4, rpp5, rpp6, rsp0, rsp1, rsp2, rsp3, ixn16, ixn6, ixn5]
  · simp (disch := omega) only [l_Y_imbalance_13, ix2, h2, hs, b1_so, b2_so, b3_so, e1_ok, e1_er, e2_ok, e2_er, e3_ok, e3_er, bI_so, bI_so', bI_0, bI_1, cB_bI, nI_s1, nJ_et, nJ_ef, nJ_lt, nJ_lf, pu_sM, sM_s, if_true, if_false, ite_self, Nat.lt_irrefl, Int32.zero_add, Int32.add_zero, not_true_eq_false, not_false_eq_true, rfw0, rfw1, rfw2, rfw3, rfw4, rfw5, rfw6, rfw7, rfp0, rfp1, rfp2, rfp3, rfp4, rfp5, rfp6, rfs0, rfs1, rfs2, rfs3, rwp0, rwp1, rwp2, rwp3, rwp4, rwp5, rwp6, rwp7, rpp0, rpp1, rpp2, rpp3, rpp4, rpp5, rpp6, rsp0, rsp1, rsp2, rsp3, ixn16, ixn6, ixn5]
theorem u_imbalance {L : Prop} [Decidable L] (B : BR I w m L np ns nw) : ∃ r t b, f_X9_imbalance I w = some r ∧ f_Y_imbalance I m = some (b, u2 I m 0 t) ∧ Oc [eIS] r t b := by
  have hk := r_mayLook (I := I) (m := m) B.1.2
  by_cases hL : L
  · have R := B.2 hL
    rw [bI_t hL, th_0 hL trivial] at hk
    have g0 := r_imb (I := u2 I m 0 0) (m := m) R.f
    rw [sMt] at g0
    refine ⟨.ok ((if 0 ≤ sSum (fun s => sN (I (m + 1)) s 1) ns (sSum (fun p => pN (I (m + 1)) p 0) np 0) - I (m + 1) 7 then sSum (fun s => sN (I (m + 1)) s 1) ns (sSum (fun p => pN (I (m + 1)) p 0) np 0) - I (m + 1) 7 else 0 - (sSum (fun s => sN (I (m + 1)) s 1) ns (sSum (fun p => pN (I (m + 1)) p 0) np 0) - I (m + 1) 7)) + 0), 0, (if 0 ≤ sSum (fun s => sN (I (m + 1)) s 1) ns (sSum (fun p => pN (I (m + 1)) p 0) np 0) - I (m + 1) 7 then sSum (fun s => sN (I (m + 1)) s 1) ns (sSum (fun p => pN (I (m + 1)) p 0) np 0) - I (m + 1) 7 else 0 - (sSum (fun s => sN (I (m + 1)) s 1) ns (sSum (fun p => pN (I (m + 1)) p 0) np 0) - I (m + 1) 7)) + 0, ?_, ?_, rfl, rfl⟩
    · unfold f_X9_imbalance
      rw [h_loaded B.1.1, if_pos hL, e1_ok, ckE_n, b1_so, h_money R, b1_so, h_misplaced R, b1_so, R.h13]
    · unfold f_Y_imbalance
      rw [hk, b2_so, if_neg (by decide), g0]
  · rw [bI_f hL, th_1 hL] at hk
    refine ⟨.error eIS, 1, 0, ?_, ?_, Oc.is⟩
    · unfold f_X9_imbalance
      rw [h_loaded B.1.1, if_neg hL, e1_er]
    · unfold f_Y_imbalance
      rw [hk, b2_so, if_pos rfl]
end LK5
