section LK3
variable {I : Mem} {w m q np ns nw : Nat} {N : Nat → Int32}
theorem r_wishesIn (H : WF N np ns nw) {x : Int32} : f_Y_wishesIn (sM I m N) m x = some (nI (sCnt (fun w => wN N w 3 = x) nw)) := by
  obtain ⟨h1, h2⟩ := H.w
  refine up_loop (fun f (z : Int32 × Int32) => l_Y_wishesIn_4 f (sM I m N) m x z.1 z.2) (fun i => (nI (sCnt (fun w => wN N w 3 = x) i), nI i)) nw _ (fun i hi f => ?_) (fun f => ?_) (FU_up (by omega))
  · by_cases h : wN N i 3 = x
    · have e := sCnt_ye (P := fun w => wN N w 3 = x) h
      have o1 : f_Y_one 1 = some 1 := rfl
      simp (disch := omega) only [l_Y_wishesIn_4, ix4, h1, h, l_Y_wishesIn_30, o1, e, b1_so, b2_so, b3_so, e1_ok, e1_er, e2_ok, e2_er, e3_ok, e3_er, bI_so, bI_so', bI_0, bI_1, cB_bI, nI_s1, nJ_et, nJ_ef, nJ_lt, nJ_lf, pu_sM, sM_s, if_true, if_false, ite_self, Nat.lt_irrefl, Int32.zero_add, Int32.add_zero, not_true_eq_false, not_false_eq_true, rfw0, rfw1, rfw2, rfw3, rfw4, rfw5, rfw6, rfw7, rfp0, rfp1, rfp2, rfp3, rfp4, rfp5, rfp6, rfs0, rfs1, rfs2, rfs3, rwp0, rwp1, rwp2, rwp3, rwp4, rwp5, rwp6, rwp7, rpp0, rpp1, rpp2, rpp3, rpp4, rpp5, rpp6, rsp0, rsp1, rsp2, rsp3, ixn16, ixn6, ixn5]
    · have e := sCnt_no (P := fun w => wN N w 3 = x) h
      have o0 : f_Y_one 0 = some 0 := rfl
      simp (disch := omega) only [l_Y_wishesIn_4, ix4, h1, h, l_Y_wishesIn_30, o0, e, b1_so, b2_so, b3_so, e1_ok, e1_er, e2_ok, e2_er, e3_ok, e3_er, bI_so, bI_so', bI_0, bI_1, cB_bI, nI_s1, nJ_et, nJ_ef, nJ_lt, nJ_lf, pu_sM, sM_s, if_true, if_false, ite_self, Nat.lt_irrefl, Int32.zero_add, Int32.add_zero, not_true_eq_false, not_false_eq_true, rfw0, rfw1, rfw2, rfw3, rfw4, rfw5, rfw6, rfw7, rfp0, rfp1, rfp2, rfp3, rfp4, rfp5, rfp6, rfs0, rfs1, rfs2, rfs3, rwp0, rwp1, rwp2, rwp3, rwp4, rwp5, rwp6, rwp7, rpp0, rpp1, rpp2, rpp3, rpp4, rpp5, rpp6, rsp0, rsp1, rsp2, rsp3, ixn16, ixn6, ixn5]
  · simp (disch := omega) only [l_Y_wishesIn_4, ix4, h1, b1_so, b2_so, b3_so, e1_ok, e1_er, e2_ok, e2_er, e3_ok, e3_er, bI_so, bI_so', bI_0, bI_1, cB_bI, nI_s1, nJ_et, nJ_ef, nJ_lt, nJ_lf, pu_sM, sM_s, if_true, if_false, ite_self, Nat.lt_irrefl, Int32.zero_add, Int32.add_zero, not_true_eq_false, not_false_eq_true, rfw0, rfw1, rfw2, rfw3, rfw4, rfw5, rfw6, rfw7, rfp0, rfp1, rfp2, rfp3, rfp4, rfp5, rfp6, rfs0, rfs1, rfs2, rfs3, rwp0, rwp1, rwp2, rwp3, rwp4, rwp5, rwp6, rwp7, rpp0, rpp1, rpp2, rpp3, rpp4, rpp5, rpp6, rsp0, rsp1, rsp2, rsp3, ixn16, ixn6, ixn5]
theorem h_countGranted (R : RM I q N np ns nw) : f_X3_countGranted I q = some (nI (sCnt (fun w => wN N w 3 = 2) nw)) := by
  have b3 := R.f.w.2
  refine up_loop (fun f (s : Int32 × Int32) => l_X3_countGranted_4 f I q s.1 s.2) (fun i => (nI (sCnt (fun w => wN N w 3 = 2) i), nI i)) nw _ (fun i hi f => ?_) (fun f => ?_) (FU_up (by omega))
  · by_cases h : wN N i 3 = 2
    · have e := sCnt_ye (P := fun w => wN N w 3 = 2) h
      simp (disch := omega) only [l_X3_countGranted_4, R.h5, R.w6 hi, h, e, b1_so, b2_so, b3_so, e1_ok, e1_er, e2_ok, e2_er, e3_ok, e3_er, bI_so, bI_so', bI_0, bI_1, cB_bI, nI_s1, nJ_et, nJ_ef, nJ_lt, nJ_lf, pu_sM, sM_s, if_true, if_false, ite_self, Nat.lt_irrefl, Int32.zero_add, Int32.add_zero, not_true_eq_false, not_false_eq_true, rfw0, rfw1, rfw2, rfw3, rfw4, rfw5, rfw6, rfw7, rfp0, rfp1, rfp2, rfp3, rfp4, rfp5, rfp6, rfs0, rfs1, rfs2, rfs3, rwp0, rwp1, rwp2, rwp3, rwp4, rwp5, rwp6, rwp7, rpp0, rpp1, rpp2, rpp3, rpp4, rpp5, rpp6, rsp0, rsp1, rsp2, rsp3, ixn16, ixn6, ixn5]
    · have e := sCnt_no (P := fun w => wN N w 3 = 2) h
      simp (disch := omega) only [l_X3_countGranted_4, R.h5, R.w6 hi, h, e, b1_so, b2_so, b3_so, e1_ok, e1_er, e2_ok, e2_er, e3_ok, e3_er, bI_so, bI_so', bI_0, bI_1, cB_bI, nI_s1, nJ_et, nJ_ef, nJ_lt, nJ_lf, pu_sM, sM_s, if_true, if_false, ite_self, Nat.lt_irrefl, Int32.zero_add, Int32.add_zero, not_true_eq_false, not_false_eq_true, rfw0, rfw1, rfw2, rfw3, rfw4, rfw5, rfw6, rfw7, rfp0, rfp1, rfp2, rfp3, rfp4, rfp5, rfp6, rfs0, rfs1, rfs2, rfs3, rwp0, rwp1, rwp2, rwp3, rwp4, rwp5, rwp6, rwp7, rpp0, rpp1, rpp2, rpp3, rpp4, rpp5, rpp6, rsp0, rsp1, rsp2, rsp3, ixn16, ixn6, ixn5]
  · simp (disch := omega) only [l_X3_countGranted_4, R.h5, b1_so, b2_so, b3_so, e1_ok, e1_er, e2_ok, e2_er, e3_ok, e3_er, bI_so, bI_so', bI_0, bI_1, cB_bI, nI_s1, nJ_et, nJ_ef, nJ_lt, nJ_lf, pu_sM, sM_s, if_true, if_false, ite_self, Nat.lt_irrefl, Int32.zero_add, Int32.add_zero, not_true_eq_false, not_false_eq_true, rfw0, rfw1, rfw2, rfw3, rfw4, rfw5, rfw6, rfw7, rfp0, rfp1, rfp2, rfp3, rfp4, rfp5, rfp6, rfs0, rfs1, rfs2, rfs3, rwp0, rwp1, rwp2, rwp3, rwp4, rwp5, rwp6, rwp7, rpp0, rpp1, rpp2, rpp3, rpp4, rpp5, rpp6, rsp0, rsp1, rsp2, rsp3, ixn16, ixn6, ixn5]
theorem h_countFaded (R : RM I q N np ns nw) : f_X3_countFaded I q = some (nI (sCnt (fun w => wN N w 3 = 3) nw)) := by
  have b3 := R.f.w.2
  refine up_loop (fun f (s : Int32 × Int32) => l_X3_countFaded_4 f I q s.1 s.2) (fun i => (nI (sCnt (fun w => wN N w 3 = 3) i), nI i)) nw _ (fun i hi f => ?_) (fun f => ?_) (FU_up (by omega))
  · by_cases h : wN N i 3 = 3
    · have e := sCnt_ye (P := fun w => wN N w 3 = 3) h
      simp (disch := omega) only [l_X3_countFaded_4, R.h5, R.w7 hi, h, e, b1_so, b2_so, b3_so, e1_ok, e1_er, e2_ok, e2_er, e3_ok, e3_er, bI_so, bI_so', bI_0, bI_1, cB_bI, nI_s1, nJ_et, nJ_ef, nJ_lt, nJ_lf, pu_sM, sM_s, if_true, if_false, ite_self, Nat.lt_irrefl, Int32.zero_add, Int32.add_zero, not_true_eq_false, not_false_eq_true, rfw0, rfw1, rfw2, rfw3, rfw4, rfw5, rfw6, rfw7, rfp0, rfp1, rfp2, rfp3, rfp4, rfp5, rfp6, rfs0, rfs1, rfs2, rfs3, rwp0, rwp1, rwp2, rwp3, rwp4, rwp5, rwp6, rwp7, rpp0, rpp1, rpp2, rpp3, rpp4, rpp5, rpp6, rsp0, rsp1, rsp2, rsp3, ixn16, ixn6, ixn5]
    · have e := sCnt_no (P := fun w => wN N w 3 = 3) h
      simp (disch := omega) only [l_X3_countFaded_4, R.h5, R.w7 hi, h, e, b1_so, b2_so, b3_so, e1_ok, e1_er, e2_ok, e2_er, e3_ok, e3_er, bI_so, bI_so', bI_0, bI_1, cB_bI, nI_s1, nJ_et, nJ_ef, nJ_lt, nJ_lf, pu_sM, sM_s, if_true, if_false, ite_self, Nat.lt_irrefl, Int32.zero_add, Int32.add_zero, not_true_eq_false, not_false_eq_true, rfw0, rfw1, rfw2, rfw3, rfw4, rfw5, rfw6, rfw7, rfp0, rfp1, rfp2, rfp3, rfp4, rfp5, rfp6, rfs0, rfs1, rfs2, rfs3, rwp0, rwp1, rwp2, rwp3, rwp4, rwp5, rwp6, rwp7, rpp0, rpp1, rpp2, rpp3, rpp4, rpp5, rpp6, rsp0, rsp1, rsp2, rsp3, ixn16, ixn6, ixn5]
  · simp (disch := omega) only [l_X3_countFaded_4, R.h5, b1_so, b2_so, b3_so, e1_ok, e1_er, e2_ok, e2_er, e3_ok, e3_er, bI_so, bI_so', bI_0, bI_1, cB_bI, nI_s1, nJ_et, nJ_ef, nJ_lt, nJ_lf, pu_sM, sM_s, if_true, if_false, ite_self, Nat.lt_irrefl, Int32.zero_add, Int32.add_zero, not_true_eq_false, not_false_eq_true, rfw0, rfw1, rfw2, rfw3, rfw4, rfw5, rfw6, rfw7, rfp0, rfp1, rfp2, rfp3, rfp4, rfp5, rfp6, rfs0, rfs1, rfs2, rfs3, rwp0, rwp1, rwp2, rwp3, rwp4, rwp5, rwp6, rwp7, rpp0, rpp1, rpp2, rpp3, rpp4, rpp5, rpp6, rsp0, rsp1, rsp2, rsp3, ixn16, ixn6, ixn5]
theorem r_look {L : Prop} [Decidable L] (B : BR I w m L np ns nw) {k : Nat} (hk : k < 355) : f_Y_look I m (nI k) = some (if L then I (m + 1) k else 0, u2 I m 0 (th3 L True True)) := by
  unfold f_Y_look
  rw [r_mayLook B.1.2, b2_so]
  by_cases hL : L
  · rw [bI_t hL, if_neg (by decide), ix_n hk (by decide), b1_so, if_pos hL, u2_a (by omega)]
  · rw [bI_f hL, if_pos rfl, if_neg hL]
theorem u_day {L : Prop} [Decidable L] (B : BR I w m L np ns nw) : ∃ r t b, f_X9_day I w = some r ∧ f_Y_day I m = some (b, u2 I m 0 t) ∧ Oc [eIS] r t b := by
  have hk := r_look B (k := 1) (by decide)
  by_cases hL : L
  · have R := B.2 hL
    rw [if_pos hL, th_0 hL trivial] at hk
    refine ⟨.ok ((I (m + 1)) 1), 0, (I (m + 1)) 1, ?_, ?_, rfl, rfl⟩
    · unfold f_X9_day
      rw [h_loaded B.1.1, if_pos hL, e1_ok, ckE_n, b1_so, R.h6]
    · unfold f_Y_day
      rw [show f_Y_look I m 1 = _ from hk, b2_so]
  · rw [if_neg hL, th_1 hL] at hk
    refine ⟨.error eIS, 1, 0, ?_, ?_, Oc.is⟩
    · unfold f_X9_day
      rw [h_loaded B.1.1, if_neg hL, e1_er]
    · unfold f_Y_day
      rw [show f_Y_look I m 1 = _ from hk, b2_so]
theorem u_yearLength {L : Prop} [Decidable L] (B : BR I w m L np ns nw) : ∃ r t b, f_X9_yearLength I w = some r ∧ f_Y_yearLength I m = some (b, u2 I m 0 t) ∧ Oc [eIS] r t b := by
  have hk := r_look B (k := 0) (by decide)
  by_cases hL : L
  · have R := B.2 hL
    rw [if_pos hL, th_0 hL trivial] at hk
    refine ⟨.ok ((I (m + 1)) 0), 0, (I (m + 1)) 0, ?_, ?_, rfl, rfl⟩
    · unfold f_X9_yearLength
      rw [h_loaded B.1.1, if_pos hL, e1_ok, ckE_n, b1_so, R.h7]
    · unfold f_Y_yearLength
      rw [show f_Y_look I m 0 = _ from hk, b2_so]
  · rw [if_neg hL, th_1 hL] at hk
    refine ⟨.error eIS, 1, 0, ?_, ?_, Oc.is⟩
    · unfold f_X9_yearLength
      rw [h_loaded B.1.1, if_neg hL, e1_er]
    · unfold f_Y_yearLength
      rw [show f_Y_look I m 0 = _ from hk, b2_so]
theorem u_personCount {L : Prop} [Decidable L] (B : BR I w m L np ns nw) : ∃ r t b, f_X9_personCount I w = some r ∧ f_Y_personCount I m = some (b, u2 I m 0 t) ∧ Oc [eIS] r t b := by
  have hk := r_look B (k := 2) (by decide)
  by_cases hL : L
  · have R := B.2 hL
    rw [if_pos hL, th_0 hL trivial] at hk
    refine ⟨.ok ((I (m + 1)) 2), 0, (I (m + 1)) 2, ?_, ?_, rfl, rfl⟩
    · unfold f_X9_personCount
      rw [h_loaded B.1.1, if_pos hL, e1_ok, ckE_n, b1_so, R.h.1.1]
    · unfold f_Y_personCount
      rw [show f_Y_look I m 2 = _ from hk, b2_so]
  · rw [if_neg hL, th_1 hL] at hk
    refine ⟨.error eIS, 1, 0, ?_, ?_, Oc.is⟩
    · unfold f_X9_personCount
      rw [h_loaded B.1.1, if_neg hL, e1_er]
    · unfold f_Y_personCount
      rw [show f_Y_look I m 2 = _ from hk, b2_so]
theorem u_stallCount {L : Prop} [Decidable L] (B : BR I w m L np ns nw) : ∃ r t b, f_X9_stallCount I w = some r ∧ f_Y_stallCount I m = some (b, u2 I m 0 t) ∧ Oc [eIS] r t b := by
  have hk := r_look B (k := 3) (by decide)
  by_cases hL : L
  · have R := B.2 hL
    rw [if_pos hL, th_0 hL trivial] at hk
    refine ⟨.ok ((I (m + 1)) 3), 0, (I (m + 1)) 3, ?_, ?_, rfl, rfl⟩
    · unfold f_X9_stallCount
      rw [h_loaded B.1.1, if_pos hL, e1_ok, ckE_n, b1_so, R.h.1.2.1]
    · unfold f_Y_stallCount
      rw [show f_Y_look I m 3 = _ from hk, b2_so]
  · rw [if_neg hL, th_1 hL] at hk
    refine ⟨.error eIS, 1, 0, ?_, ?_, Oc.is⟩
    · unfold f_X9_stallCount
      rw [h_loaded B.1.1, if_neg hL, e1_er]
    · unfold f_Y_stallCount
      rw [show f_Y_look I m 3 = _ from hk, b2_so]
theorem u_dayOfYear {L : Prop} [Decidable L] (B : BR I w m L np ns nw) : ∃ r t b, f_X9_dayOfYear I w = some r ∧ f_Y_dayOfYear I m = some (b, u2 I m 0 t) ∧ Oc [eIS] r t b := by
  have hk := r_mayLook (I := I) (m := m) B.1.2
  by_cases hL : L
  · have R := B.2 hL
    rw [bI_t hL, th_0 hL trivial] at hk
    have g0 := r_today (I := u2 I m 0 0) (m := m) R.f
    rw [sMt] at g0
    refine ⟨.ok (sDay (I (m + 1))), 0, sDay (I (m + 1)), ?_, ?_, rfl, rfl⟩
    · unfold f_X9_dayOfYear
      rw [h_loaded B.1.1, if_pos hL, e1_ok, ckE_n, b1_so, h_today R, b1_so]
    · unfold f_Y_dayOfYear
      rw [hk, b2_so, if_neg (by decide), g0, b1_so]
  · rw [bI_f hL, th_1 hL] at hk
    refine ⟨.error eIS, 1, 0, ?_, ?_, Oc.is⟩
    · unfold f_X9_dayOfYear
      rw [h_loaded B.1.1, if_neg hL, e1_er]
    · unfold f_Y_dayOfYear
      rw [hk, b2_so, if_pos rfl]
theorem u_grantedCount {L : Prop} [Decidable L] (B : BR I w m L np ns nw) : ∃ r t b, f_X9_grantedCount I w = some r ∧ f_Y_grantedCount I m = some (b, u2 I m 0 t) ∧ Oc [eIS] r t b := by
  have hk := r_mayLook (I := I) (m := m) B.1.2
  by_cases hL : L
  · have R := B.2 hL
    rw [bI_t hL, th_0 hL trivial] at hk
    have g0 := r_wishesIn (I := u2 I m 0 0) (m := m) R.f (x := 2)
    rw [sMt] at g0
    refine ⟨.ok (nI (sCnt (fun w => wN (I (m + 1)) w 3 = 2) nw)), 0, nI (sCnt (fun w => wN (I (m + 1)) w 3 = 2) nw), ?_, ?_, rfl, rfl⟩
    · unfold f_X9_grantedCount
      rw [h_loaded B.1.1, if_pos hL, e1_ok, ckE_n, b1_so, h_countGranted R, b1_so]
    · unfold f_Y_grantedCount
      rw [hk, b2_so, if_neg (by decide), g0, b1_so]
  · rw [bI_f hL, th_1 hL] at hk
    refine ⟨.error eIS, 1, 0, ?_, ?_, Oc.is⟩
    · unfold f_X9_grantedCount
      rw [h_loaded B.1.1, if_neg hL, e1_er]
    · unfold f_Y_grantedCount
      rw [hk, b2_so, if_pos rfl]
theorem u_fadedCount {L : Prop} [Decidable L] (B : BR I w m L np ns nw) : ∃ r t b, f_X9_fadedCount I w = some r ∧ f_Y_fadedCount I m = some (b, u2 I m 0 t) ∧ Oc [eIS] r t b := by
  have hk := r_mayLook (I := I) (m := m) B.1.2
  by_cases hL : L
  · have R := B.2 hL
    rw [bI_t hL, th_0 hL trivial] at hk
    have g0 := r_wishesIn (I := u2 I m 0 0) (m := m) R.f (x := 3)
    rw [sMt] at g0
    refine ⟨.ok (nI (sCnt (fun w => wN (I (m + 1)) w 3 = 3) nw)), 0, nI (sCnt (fun w => wN (I (m + 1)) w 3 = 3) nw), ?_, ?_, rfl, rfl⟩
    · unfold f_X9_fadedCount
      rw [h_loaded B.1.1, if_pos hL, e1_ok, ckE_n, b1_so, h_countFaded R, b1_so]
    · unfold f_Y_fadedCount
      rw [hk, b2_so, if_neg (by decide), g0, b1_so]
  · rw [bI_f hL, th_1 hL] at hk
    refine ⟨.error eIS, 1, 0, ?_, ?_, Oc.is⟩
    · unfold f_X9_fadedCount
      rw [h_loaded B.1.1, if_neg hL, e1_er]
    · unfold f_Y_fadedCount
      rw [hk, b2_so, if_pos rfl]
theorem u_buyObstacle {L : Prop} [Decidable L] (B : BR I w m L np ns nw) {x y : Int32} : ∃ r t b, f_X9_buyObstacle I w x y = some r ∧ f_Y_buyObstacle I m x y = some (b, u2 I m 0 t) ∧ Oc [eIS, eIX] r t b := by
  have hx1 := r_isPerson B (x := x)
  have hy1 := r_isWish B (x := y)
  have bad : (¬ (L ∧ ¬ x < 0 ∧ x < nI np) ∨ ¬ (L ∧ ¬ y < 0 ∧ y < nI nw)) → f_Y_buyObstacle I m x y = some (0, u2 I m 0 (th3 L False True)) := by
    intro h
    have e25 : l_Y_buyObstacle_25 I m x y (I m 6) = some (0, u2 I m 0 (th3 L False True)) := by
      unfold l_Y_buyObstacle_25 l_Y_buyObstacle_26
      have h9 := r_mayTwo (I := I) (m := m) (a := L) (b := False)
      rw [show bI False = 0 from rfl] at h9
      rw [B.1.2, h9, b2_so, bI_f (fun h => h.2), if_pos rfl]
    unfold f_Y_buyObstacle
    by_cases h1 : L ∧ ¬ x < 0 ∧ x < nI np
    · rw [hx1, b1_so, bI_t h1, if_neg (by decide), hy1, b1_so, bI_f (h.resolve_left (fun g => g h1)), if_pos rfl, e25]
    · rw [hx1, b1_so, bI_f h1, if_pos rfl, e25]
  by_cases hL : L
  · have R := B.2 hL
    have b1 := R.f.p.2
    have b2 := R.f.s.2
    have b3 := R.f.w.2
    by_cases hx : ¬ x < 0 ∧ x < nI np
    · by_cases hy : ¬ y < 0 ∧ y < nI nw
      · rw [bI_t ⟨hL, hx⟩] at hx1
        rw [bI_t ⟨hL, hy⟩] at hy1
        obtain ⟨p, rfl, hp⟩ := okI_of hx (by omega)
        obtain ⟨s, rfl, hs⟩ := okI_of hy (by omega)
        have h9 := r_mayTwo (I := I) (m := m) (a := L) (b := True)
        rw [bI_tr, bI_t (p := L ∧ True) ⟨hL, trivial⟩, th_0 hL trivial] at h9
        have g0 := r_whyBuy (I := u2 I m 0 0) (m := m) R.f (p := p) (by omega) hs
        rw [sMt] at g0
        refine ⟨.ok (sWhyBuy (I (m + 1)) nw p s), 0, sWhyBuy (I (m + 1)) nw p s, ?_, ?_, rfl, rfl⟩
        · unfold f_X9_buyObstacle
          rw [h_checkPerson B.1.1 (n := np) (fun hL => (B.2 hL).h3), if_pos hL, if_pos hx, e1_ok, h_checkWish B.1.1 (n := nw) (fun hL => (B.2 hL).h5), if_pos hL, if_pos hy, e1_ok, h_whyBuy R hp hs, b1_so]
        · unfold f_Y_buyObstacle
          rw [hx1, b1_so, if_neg (by decide), hy1, b1_so, if_neg (by decide)]
          unfold l_Y_buyObstacle_26
          rw [B.1.2, h9, b2_so, if_neg (by decide), g0, b1_so]
      · refine ⟨.error eIX, 2, 0, ?_, ?_, Oc.ix⟩
        · unfold f_X9_buyObstacle
          rw [h_checkPerson B.1.1 (n := np) (fun hL => (B.2 hL).h3), if_pos hL, if_pos hx, e1_ok, h_checkWish B.1.1 (n := nw) (fun hL => (B.2 hL).h5), if_pos hL, if_neg hy, e1_er]
        · rw [bad (Or.inr (fun h => hy h.2)), th_2 hL (fun h => h)]
    · refine ⟨.error eIX, 2, 0, ?_, ?_, Oc.ix⟩
      · unfold f_X9_buyObstacle
        rw [h_checkPerson B.1.1 (n := np) (fun hL => (B.2 hL).h3), if_pos hL, if_neg hx, e1_er]
      · rw [bad (Or.inl (fun h => hx h.2)), th_2 hL (fun h => h)]
  · refine ⟨.error eIS, 1, 0, ?_, ?_, Oc.is⟩
    · unfold f_X9_buyObstacle
      rw [h_checkPerson B.1.1 (n := np) (fun hL => (B.2 hL).h3), if_neg hL, e1_er]
    · rw [bad (Or.inl (fun h => hL h.1)), th_1 hL]
theorem u_sellObstacle {L : Prop} [Decidable L] (B : BR I w m L np ns nw) {x y : Int32} : ∃ r t b, f_X9_sellObstacle I w x y = some r ∧ f_Y_sellObstacle I m x y = some (b, u2 I m 0 t) ∧ Oc [eIS, eIX] r t b := by
  have hx1 := r_isWish B (x := x)
  have hy1 := r_isStall B (x := y)
  have bad : (¬ (L ∧ ¬ x < 0 ∧ x < nI nw) ∨ ¬ (L ∧ ¬ y < 0 ∧ y < nI ns)) → f_Y_sellObstacle I m x y = some (0, u2 I m 0 (th3 L False True)) := by
    intro h
    have e25 : l_Y_sellObstacle_25 I m x y (I m 6) = some (0, u2 I m 0 (th3 L False True)) := by
      unfold l_Y_sellObstacle_25 l_Y_sellObstacle_26
      have h9 := r_mayTwo (I := I) (m := m) (a := L) (b := False)
      rw [show bI False = 0 from rfl] at h9
      rw [B.1.2, h9, b2_so, bI_f (fun h => h.2), if_pos rfl]
    unfold f_Y_sellObstacle
    by_cases h1 : L ∧ ¬ x < 0 ∧ x < nI nw
    · rw [hx1, b1_so, bI_t h1, if_neg (by decide), hy1, b1_so, bI_f (h.resolve_left (fun g => g h1)), if_pos rfl, e25]
    · rw [hx1, b1_so, bI_f h1, if_pos rfl, e25]
  by_cases hL : L
  · have R := B.2 hL
    have b1 := R.f.p.2
    have b2 := R.f.s.2
    have b3 := R.f.w.2
    by_cases hx : ¬ x < 0 ∧ x < nI nw
    · by_cases hy : ¬ y < 0 ∧ y < nI ns
      · rw [bI_t ⟨hL, hx⟩] at hx1
        rw [bI_t ⟨hL, hy⟩] at hy1
        obtain ⟨p, rfl, hp⟩ := okI_of hx (by omega)
        obtain ⟨s, rfl, hs⟩ := okI_of hy (by omega)
        have h9 := r_mayTwo (I := I) (m := m) (a := L) (b := True)
        rw [bI_tr, bI_t (p := L ∧ True) ⟨hL, trivial⟩, th_0 hL trivial] at h9
        have g0 := r_whySell (I := u2 I m 0 0) (m := m) R.f (s := s) (by omega) hp
        rw [sMt] at g0
        refine ⟨.ok (sWhySell (I (m + 1)) nw p s), 0, sWhySell (I (m + 1)) nw p s, ?_, ?_, rfl, rfl⟩
        · unfold f_X9_sellObstacle
          rw [h_checkWish B.1.1 (n := nw) (fun hL => (B.2 hL).h5), if_pos hL, if_pos hx, e1_ok, h_checkStall B.1.1 (n := ns) (fun hL => (B.2 hL).h4), if_pos hL, if_pos hy, e1_ok, h_whySell R hs hp, b1_so]
        · unfold f_Y_sellObstacle
          rw [hx1, b1_so, if_neg (by decide), hy1, b1_so, if_neg (by decide)]
          unfold l_Y_sellObstacle_26
          rw [B.1.2, h9, b2_so, if_neg (by decide), g0, b1_so]
      · refine ⟨.error eIX, 2, 0, ?_, ?_, Oc.ix⟩
        · unfold f_X9_sellObstacle
          rw [h_checkWish B.1.1 (n := nw) (fun hL => (B.2 hL).h5), if_pos hL, if_pos hx, e1_ok, h_checkStall B.1.1 (n := ns) (fun hL => (B.2 hL).h4), if_pos hL, if_neg hy, e1_er]
        · rw [bad (Or.inr (fun h => hy h.2)), th_2 hL (fun h => h)]
    · refine ⟨.error eIX, 2, 0, ?_, ?_, Oc.ix⟩
      · unfold f_X9_sellObstacle
        rw [h_checkWish B.1.1 (n := nw) (fun hL => (B.2 hL).h5), if_pos hL, if_neg hx, e1_er]
      · rw [bad (Or.inl (fun h => hx h.2)), th_2 hL (fun h => h)]
  · refine ⟨.error eIS, 1, 0, ?_, ?_, Oc.is⟩
    · unfold f_X9_sellObstacle
      rw [h_checkWish B.1.1 (n := nw) (fun hL => (B.2 hL).h5), if_neg hL, e1_er]
    · rw [bad (Or.inl (fun h => hL h.1)), th_1 hL]
theorem u_offer {L : Prop} [Decidable L] (B : BR I w m L np ns nw) {x y : Int32} : ∃ r t b, f_X9_offer I w x y = some r ∧ f_Y_offer I m x y = some (b, u2 I m 0 t) ∧ Oc [eIS, eIX] r t b := by
  have hx1 := r_isWish B (x := x)
  have hy1 := r_isStall B (x := y)
  have bad : (¬ (L ∧ ¬ x < 0 ∧ x < nI nw) ∨ ¬ (L ∧ ¬ y < 0 ∧ y < nI ns)) → f_Y_offer I m x y = some (0, u2 I m 0 (th3 L False True)) := by
    intro h
    have e25 : l_Y_offer_25 I m x y (I m 6) = some (0, u2 I m 0 (th3 L False True)) := by
      unfold l_Y_offer_25 l_Y_offer_26
      have h9 := r_mayTwo (I := I) (m := m) (a := L) (b := False)
      rw [show bI False = 0 from rfl] at h9
      rw [B.1.2, h9, b2_so, bI_f (fun h => h.2), if_pos rfl]
    unfold f_Y_offer
    by_cases h1 : L ∧ ¬ x < 0 ∧ x < nI nw
    · rw [hx1, b1_so, bI_t h1, if_neg (by decide), hy1, b1_so, bI_f (h.resolve_left (fun g => g h1)), if_pos rfl, e25]
    · rw [hx1, b1_so, bI_f h1, if_pos rfl, e25]
  by_cases hL : L
  · have R := B.2 hL
    have b1 := R.f.p.2
    have b2 := R.f.s.2
    have b3 := R.f.w.2
    by_cases hx : ¬ x < 0 ∧ x < nI nw
    · by_cases hy : ¬ y < 0 ∧ y < nI ns
      · rw [bI_t ⟨hL, hx⟩] at hx1
        rw [bI_t ⟨hL, hy⟩] at hy1
        obtain ⟨p, rfl, hp⟩ := okI_of hx (by omega)
        obtain ⟨s, rfl, hs⟩ := okI_of hy (by omega)
        have h9 := r_mayTwo (I := I) (m := m) (a := L) (b := True)
        rw [bI_tr, bI_t (p := L ∧ True) ⟨hL, trivial⟩, th_0 hL trivial] at h9
        by_cases hc : wN (I (m + 1)) p 3 = 1
        · have g1 := r_isOwned (I := u2 I m 0 0) (m := m) (N := (I (m + 1))) (w := p) (by omega)
          rw [sMt, bI_t hc] at g1
          have g0 := r_offerOf (I := u2 I m 0 0) (m := m) (N := (I (m + 1))) (w := p) (s := s) (by omega) (by omega)
          rw [sMt] at g0
          refine ⟨.ok (sOff (I (m + 1)) p s), 0, sOff (I (m + 1)) p s, ?_, ?_, rfl, rfl⟩
          · unfold f_X9_offer
            rw [h_checkWish B.1.1 (n := nw) (fun hL => (B.2 hL).h5), if_pos hL, if_pos hx, e1_ok, h_checkStall B.1.1 (n := ns) (fun hL => (B.2 hL).h4), if_pos hL, if_pos hy, e1_ok, ixn16 (by omega), b1_so, if_neg (by rw [R.w5n hp]; exact fun h => h hc), h_offerFor R hp hs, b1_so]
          · unfold f_Y_offer
            rw [hx1, b1_so, if_neg (by decide), hy1, b1_so, if_neg (by decide)]
            unfold l_Y_offer_26
            rw [B.1.2, h9, b2_so, if_neg (by decide), g1, b1_so, if_neg (by decide), g0, b1_so]
        · have g0 := r_isOwned (I := u2 I m 0 0) (m := m) (N := (I (m + 1))) (w := p) (by omega)
          rw [sMt] at g0
          refine ⟨.ok (-1), 0, -1, ?_, ?_, rfl, rfl⟩
          · unfold f_X9_offer
            rw [h_checkWish B.1.1 (n := nw) (fun hL => (B.2 hL).h5), if_pos hL, if_pos hx, e1_ok, h_checkStall B.1.1 (n := ns) (fun hL => (B.2 hL).h4), if_pos hL, if_pos hy, e1_ok, ixn16 (by omega), b1_so, if_pos (by rw [R.w5n hp]; exact hc)]
          · unfold f_Y_offer
            rw [hx1, b1_so, if_neg (by decide), hy1, b1_so, if_neg (by decide)]
            unfold l_Y_offer_26
            rw [B.1.2, h9, b2_so, if_neg (by decide), g0, b1_so, bI_f hc, if_pos rfl]
      · refine ⟨.error eIX, 2, 0, ?_, ?_, Oc.ix⟩
        · unfold f_X9_offer
          rw [h_checkWish B.1.1 (n := nw) (fun hL => (B.2 hL).h5), if_pos hL, if_pos hx, e1_ok, h_checkStall B.1.1 (n := ns) (fun hL => (B.2 hL).h4), if_pos hL, if_neg hy, e1_er]
        · rw [bad (Or.inr (fun h => hy h.2)), th_2 hL (fun h => h)]
    · refine ⟨.error eIX, 2, 0, ?_, ?_, Oc.ix⟩
      · unfold f_X9_offer
        rw [h_checkWish B.1.1 (n := nw) (fun hL => (B.2 hL).h5), if_pos hL, if_neg hx, e1_er]
      · rw [bad (Or.inl (fun h => hx h.2)), th_2 hL (fun h => h)]
  · refine ⟨.error eIS, 1, 0, ?_, ?_, Oc.is⟩
    · unfold f_X9_offer
      rw [h_checkWish B.1.1 (n := nw) (fun hL => (B.2 hL).h5), if_neg hL, e1_er]
    · rw [bad (Or.inl (fun h => hL h.1)), th_1 hL]
end LK3
