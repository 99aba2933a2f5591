section LK2
variable {I : Mem} {w m np ns nw : Nat}
theorem u_value {L : Prop} [Decidable L] (B : BR I w m L np ns nw) {x : Int32} : ∃ r t b, f_X9_value I w x = some r ∧ f_Y_value I m x = some (b, u2 I m 0 t) ∧ Oc [eIS, eIX] r t b := by
  by_cases hL : L
  · have R := B.2 hL
    have b1 := R.f.p.2
    have b2 := R.f.s.2
    have b3 := R.f.w.2
    by_cases hx : ¬ x < 0 ∧ x < nI nw
    · obtain ⟨p, rfl, hp⟩ := okI_of hx (by omega)
      have g0 := r_valueOf (I := u2 I m 0 0) (m := m) (N := (I (m + 1))) (w := p) (by omega)
      rw [sMt] at g0
      refine ⟨.ok (sVal (I (m + 1)) p), 0, sVal (I (m + 1)) p, ?_, ?_, rfl, rfl⟩
      · unfold f_X9_value
        rw [h_wishAt B, if_pos hL, if_pos hx, ixn16 (by omega), b1_so, e1_ok, ckA_n (by omega), b1_so, h_worth R hp, b1_so]
      · unfold f_Y_value
        rw [r_mayWish B, b2_so, bI_t ⟨hL, hL, hx⟩, if_neg (by decide), th_0 hL ⟨hL, hx⟩, g0, b1_so]
    · refine ⟨.error eIX, 2, 0, ?_, ?_, Oc.ix⟩
      · unfold f_X9_value
        rw [h_wishAt B, if_pos hL, if_neg hx, e1_er]
      · unfold f_Y_value
        rw [r_mayWish B, b2_so, bI_f (fun h => hx h.2.2), if_pos rfl, th_2 hL (fun h => hx h.2)]
  · refine ⟨.error eIS, 1, 0, ?_, ?_, Oc.is⟩
    · unfold f_X9_value
      rw [h_wishAt B, if_neg hL, e1_er]
    · unfold f_Y_value
      rw [r_mayWish B, b2_so, bI_f (fun h => hL h.1), if_pos rfl, th_1 hL]
theorem u_owner {L : Prop} [Decidable L] (B : BR I w m L np ns nw) {x : Int32} : ∃ r t b, f_X9_owner I w x = some r ∧ f_Y_owner I m x = some (b, u2 I m 0 t) ∧ Oc [eIS, eIX] r t b := by
  by_cases hL : L
  · have R := B.2 hL
    have b1 := R.f.p.2
    have b2 := R.f.s.2
    have b3 := R.f.w.2
    by_cases hx : ¬ x < 0 ∧ x < nI nw
    · obtain ⟨p, rfl, hp⟩ := okI_of hx (by omega)
      by_cases hc : wN (I (m + 1)) p 3 = 1
      · have g0 := r_isOwned (I := u2 I m 0 0) (m := m) (N := (I (m + 1))) (w := p) (by omega)
        rw [sMt] at g0
        have g1 := rfw4 (I := u2 I m 0 0) (m := m) (N := (I (m + 1))) (w := p) (by omega)
        rw [sMt] at g1
        refine ⟨.ok (wN (I (m + 1)) p 4), 0, wN (I (m + 1)) p 4, ?_, ?_, rfl, rfl⟩
        · unfold f_X9_owner
          rw [h_wishAt B, if_pos hL, if_pos hx, ixn16 (by omega), b1_so, e1_ok, ckA_n (by omega), b1_so, R.w5 hp, if_pos hc]
        · unfold f_Y_owner
          rw [r_mayWish B, b2_so, bI_t ⟨hL, hL, hx⟩, if_neg (by decide), th_0 hL ⟨hL, hx⟩, g0, b1_so, bI_t hc, if_neg (by decide), g1, b1_so]
      · have g0 := r_isOwned (I := u2 I m 0 0) (m := m) (N := (I (m + 1))) (w := p) (by omega)
        rw [sMt] at g0
        refine ⟨.ok (-1), 0, -1, ?_, ?_, rfl, rfl⟩
        · unfold f_X9_owner
          rw [h_wishAt B, if_pos hL, if_pos hx, ixn16 (by omega), b1_so, e1_ok, ckA_n (by omega), b1_so, R.w5 hp, if_neg hc]
        · unfold f_Y_owner
          rw [r_mayWish B, b2_so, bI_t ⟨hL, hL, hx⟩, if_neg (by decide), th_0 hL ⟨hL, hx⟩, g0, b1_so, bI_f hc, if_pos rfl]
    · refine ⟨.error eIX, 2, 0, ?_, ?_, Oc.ix⟩
      · unfold f_X9_owner
        rw [h_wishAt B, if_pos hL, if_neg hx, e1_er]
      · unfold f_Y_owner
        rw [r_mayWish B, b2_so, bI_f (fun h => hx h.2.2), if_pos rfl, th_2 hL (fun h => hx h.2)]
  · refine ⟨.error eIS, 1, 0, ?_, ?_, Oc.is⟩
    · unfold f_X9_owner
      rw [h_wishAt B, if_neg hL, e1_er]
    · unfold f_Y_owner
      rw [r_mayWish B, b2_so, bI_f (fun h => hL h.1), if_pos rfl, th_1 hL]
theorem u_stallOf {L : Prop} [Decidable L] (B : BR I w m L np ns nw) {x : Int32} : ∃ r t b, f_X9_stallOf I w x = some r ∧ f_Y_stallOf I m x = some (b, u2 I m 0 t) ∧ Oc [eIS, eIX] r t b := by
  by_cases hL : L
  · have R := B.2 hL
    have b1 := R.f.p.2
    have b2 := R.f.s.2
    have b3 := R.f.w.2
    by_cases hx : ¬ x < 0 ∧ x < nI nw
    · obtain ⟨p, rfl, hp⟩ := okI_of hx (by omega)
      by_cases hc : wN (I (m + 1)) p 3 = 0
      · have g0 := r_isInStall (I := u2 I m 0 0) (m := m) (N := (I (m + 1))) (w := p) (by omega)
        rw [sMt] at g0
        have g1 := rfw4 (I := u2 I m 0 0) (m := m) (N := (I (m + 1))) (w := p) (by omega)
        rw [sMt] at g1
        refine ⟨.ok (wN (I (m + 1)) p 4), 0, wN (I (m + 1)) p 4, ?_, ?_, rfl, rfl⟩
        · unfold f_X9_stallOf
          rw [h_wishAt B, if_pos hL, if_pos hx, ixn16 (by omega), b1_so, e1_ok, ckA_n (by omega), b1_so, R.w4 hp, if_pos hc]
        · unfold f_Y_stallOf
          rw [r_mayWish B, b2_so, bI_t ⟨hL, hL, hx⟩, if_neg (by decide), th_0 hL ⟨hL, hx⟩, g0, b1_so, bI_t hc, if_neg (by decide), g1, b1_so]
      · have g0 := r_isInStall (I := u2 I m 0 0) (m := m) (N := (I (m + 1))) (w := p) (by omega)
        rw [sMt] at g0
        refine ⟨.ok (-1), 0, -1, ?_, ?_, rfl, rfl⟩
        · unfold f_X9_stallOf
          rw [h_wishAt B, if_pos hL, if_pos hx, ixn16 (by omega), b1_so, e1_ok, ckA_n (by omega), b1_so, R.w4 hp, if_neg hc]
        · unfold f_Y_stallOf
          rw [r_mayWish B, b2_so, bI_t ⟨hL, hL, hx⟩, if_neg (by decide), th_0 hL ⟨hL, hx⟩, g0, b1_so, bI_f hc, if_pos rfl]
    · refine ⟨.error eIX, 2, 0, ?_, ?_, Oc.ix⟩
      · unfold f_X9_stallOf
        rw [h_wishAt B, if_pos hL, if_neg hx, e1_er]
      · unfold f_Y_stallOf
        rw [r_mayWish B, b2_so, bI_f (fun h => hx h.2.2), if_pos rfl, th_2 hL (fun h => hx h.2)]
  · refine ⟨.error eIS, 1, 0, ?_, ?_, Oc.is⟩
    · unfold f_X9_stallOf
      rw [h_wishAt B, if_neg hL, e1_er]
    · unfold f_Y_stallOf
      rw [r_mayWish B, b2_so, bI_f (fun h => hL h.1), if_pos rfl, th_1 hL]
theorem u_isGranted {L : Prop} [Decidable L] (B : BR I w m L np ns nw) {x : Int32} : ∃ r t b, f_X9_isGranted I w x = some r ∧ f_Y_isGranted I m x = some (b, u2 I m 0 t) ∧ Oc [eIS, eIX] r t b := by
  by_cases hL : L
  · have R := B.2 hL
    have b1 := R.f.p.2
    have b2 := R.f.s.2
    have b3 := R.f.w.2
    by_cases hx : ¬ x < 0 ∧ x < nI nw
    · obtain ⟨p, rfl, hp⟩ := okI_of hx (by omega)
      by_cases hc : wN (I (m + 1)) p 3 = 2
      · have g0 := rfw3 (I := u2 I m 0 0) (m := m) (N := (I (m + 1))) (w := p) (by omega)
        rw [sMt] at g0
        refine ⟨.ok (1), 0, 1, ?_, ?_, rfl, rfl⟩
        · unfold f_X9_isGranted
          rw [h_wishAt B, if_pos hL, if_pos hx, ixn16 (by omega), b1_so, e1_ok, ckA_n (by omega), b1_so, R.w6 hp, cB_bI, b1_so, bI_t hc]
        · unfold f_Y_isGranted
          rw [r_mayWish B, b2_so, bI_t ⟨hL, hL, hx⟩, if_neg (by decide), th_0 hL ⟨hL, hx⟩, g0, b1_so, if_pos hc]
      · have g0 := rfw3 (I := u2 I m 0 0) (m := m) (N := (I (m + 1))) (w := p) (by omega)
        rw [sMt] at g0
        refine ⟨.ok (0), 0, 0, ?_, ?_, rfl, rfl⟩
        · unfold f_X9_isGranted
          rw [h_wishAt B, if_pos hL, if_pos hx, ixn16 (by omega), b1_so, e1_ok, ckA_n (by omega), b1_so, R.w6 hp, cB_bI, b1_so, bI_f hc]
        · unfold f_Y_isGranted
          rw [r_mayWish B, b2_so, bI_t ⟨hL, hL, hx⟩, if_neg (by decide), th_0 hL ⟨hL, hx⟩, g0, b1_so, if_neg hc]
    · refine ⟨.error eIX, 2, 0, ?_, ?_, Oc.ix⟩
      · unfold f_X9_isGranted
        rw [h_wishAt B, if_pos hL, if_neg hx, e1_er]
      · unfold f_Y_isGranted
        rw [r_mayWish B, b2_so, bI_f (fun h => hx h.2.2), if_pos rfl, th_2 hL (fun h => hx h.2)]
  · refine ⟨.error eIS, 1, 0, ?_, ?_, Oc.is⟩
    · unfold f_X9_isGranted
      rw [h_wishAt B, if_neg hL, e1_er]
    · unfold f_Y_isGranted
      rw [r_mayWish B, b2_so, bI_f (fun h => hL h.1), if_pos rfl, th_1 hL]
theorem u_price {L : Prop} [Decidable L] (B : BR I w m L np ns nw) {x : Int32} : ∃ r t b, f_X9_price I w x = some r ∧ f_Y_price I m x = some (b, u2 I m 0 t) ∧ Oc [eIS, eIX] r t b := by
  by_cases hL : L
  · have R := B.2 hL
    have b1 := R.f.p.2
    have b2 := R.f.s.2
    have b3 := R.f.w.2
    by_cases hx : ¬ x < 0 ∧ x < nI nw
    · obtain ⟨p, rfl, hp⟩ := okI_of hx (by omega)
      by_cases hc : wN (I (m + 1)) p 3 = 0
      · have g0 := r_isInStall (I := u2 I m 0 0) (m := m) (N := (I (m + 1))) (w := p) (by omega)
        rw [sMt] at g0
        have g1 := r_priceOf (I := u2 I m 0 0) (m := m) R.f hp hc
        rw [sMt] at g1
        refine ⟨.ok (sPrice (I (m + 1)) p), 0, sPrice (I (m + 1)) p, ?_, ?_, rfl, rfl⟩
        · unfold f_X9_price
          rw [h_checkWish B.1.1 (n := nw) (fun hL => (B.2 hL).h5), if_pos hL, if_pos hx, e1_ok, h_priceOf R hp hc, b1_so]
        · unfold f_Y_price
          rw [r_mayWish B, b2_so, bI_t ⟨hL, hL, hx⟩, if_neg (by decide), th_0 hL ⟨hL, hx⟩, g0, b1_so, bI_t hc, if_neg (by decide), g1, b1_so]
      · have g0 := r_isInStall (I := u2 I m 0 0) (m := m) (N := (I (m + 1))) (w := p) (by omega)
        rw [sMt] at g0
        refine ⟨.ok (-1), 0, -1, ?_, ?_, rfl, rfl⟩
        · unfold f_X9_price
          rw [h_checkWish B.1.1 (n := nw) (fun hL => (B.2 hL).h5), if_pos hL, if_pos hx, e1_ok, h_priceN R hp hc, b1_so]
        · unfold f_Y_price
          rw [r_mayWish B, b2_so, bI_t ⟨hL, hL, hx⟩, if_neg (by decide), th_0 hL ⟨hL, hx⟩, g0, b1_so, bI_f hc, if_pos rfl]
    · refine ⟨.error eIX, 2, 0, ?_, ?_, Oc.ix⟩
      · unfold f_X9_price
        rw [h_checkWish B.1.1 (n := nw) (fun hL => (B.2 hL).h5), if_pos hL, if_neg hx, e1_er]
      · unfold f_Y_price
        rw [r_mayWish B, b2_so, bI_f (fun h => hx h.2.2), if_pos rfl, th_2 hL (fun h => hx h.2)]
  · refine ⟨.error eIS, 1, 0, ?_, ?_, Oc.is⟩
    · unfold f_X9_price
      rw [h_checkWish B.1.1 (n := nw) (fun hL => (B.2 hL).h5), if_neg hL, e1_er]
    · unfold f_Y_price
      rw [r_mayWish B, b2_so, bI_f (fun h => hL h.1), if_pos rfl, th_1 hL]
theorem u_refund {L : Prop} [Decidable L] (B : BR I w m L np ns nw) {x : Int32} : ∃ r t b, f_X9_refund I w x = some r ∧ f_Y_refund I m x = some (b, u2 I m 0 t) ∧ Oc [eIS, eIX] r t b := by
  by_cases hL : L
  · have R := B.2 hL
    have b1 := R.f.p.2
    have b2 := R.f.s.2
    have b3 := R.f.w.2
    by_cases hx : ¬ x < 0 ∧ x < nI nw
    · obtain ⟨p, rfl, hp⟩ := okI_of hx (by omega)
      by_cases hc : wN (I (m + 1)) p 5 = -1
      · have g0 := rfw5 (I := u2 I m 0 0) (m := m) (N := (I (m + 1))) (w := p) (by omega)
        rw [sMt] at g0
        refine ⟨.ok (-1), 0, -1, ?_, ?_, rfl, rfl⟩
        · unfold f_X9_refund
          rw [h_checkWish B.1.1 (n := nw) (fun hL => (B.2 hL).h5), if_pos hL, if_pos hx, e1_ok, h_refundFor R hp, b1_so, if_pos hc]
        · unfold f_Y_refund
          rw [r_mayWish B, b2_so, bI_t ⟨hL, hL, hx⟩, if_neg (by decide), th_0 hL ⟨hL, hx⟩, g0, b1_so, if_pos hc]
      · have g0 := rfw5 (I := u2 I m 0 0) (m := m) (N := (I (m + 1))) (w := p) (by omega)
        rw [sMt] at g0
        have g1 := r_refundOf (I := u2 I m 0 0) (m := m) (N := (I (m + 1))) (w := p) (by omega)
        rw [sMt] at g1
        refine ⟨.ok (sRef (I (m + 1)) p), 0, sRef (I (m + 1)) p, ?_, ?_, rfl, rfl⟩
        · unfold f_X9_refund
          rw [h_checkWish B.1.1 (n := nw) (fun hL => (B.2 hL).h5), if_pos hL, if_pos hx, e1_ok, h_refundFor R hp, b1_so, if_neg hc]
        · unfold f_Y_refund
          rw [r_mayWish B, b2_so, bI_t ⟨hL, hL, hx⟩, if_neg (by decide), th_0 hL ⟨hL, hx⟩, g0, b1_so, if_neg hc, g1, b1_so]
    · refine ⟨.error eIX, 2, 0, ?_, ?_, Oc.ix⟩
      · unfold f_X9_refund
        rw [h_checkWish B.1.1 (n := nw) (fun hL => (B.2 hL).h5), if_pos hL, if_neg hx, e1_er]
      · unfold f_Y_refund
        rw [r_mayWish B, b2_so, bI_f (fun h => hx h.2.2), if_pos rfl, th_2 hL (fun h => hx h.2)]
  · refine ⟨.error eIS, 1, 0, ?_, ?_, Oc.is⟩
    · unfold f_X9_refund
      rw [h_checkWish B.1.1 (n := nw) (fun hL => (B.2 hL).h5), if_neg hL, e1_er]
    · unfold f_Y_refund
      rw [r_mayWish B, b2_so, bI_f (fun h => hL h.1), if_pos rfl, th_1 hL]
theorem u_returnObstacle {L : Prop} [Decidable L] (B : BR I w m L np ns nw) {x : Int32} : ∃ r t b, f_X9_returnObstacle I w x = some r ∧ f_Y_returnObstacle I m x = some (b, u2 I m 0 t) ∧ Oc [eIS, eIX] r t b := by
  by_cases hL : L
  · have R := B.2 hL
    have b1 := R.f.p.2
    have b2 := R.f.s.2
    have b3 := R.f.w.2
    by_cases hx : ¬ x < 0 ∧ x < nI nw
    · obtain ⟨p, rfl, hp⟩ := okI_of hx (by omega)
      have g0 := r_whyRet (I := u2 I m 0 0) (m := m) R.f hp
      rw [sMt] at g0
      refine ⟨.ok (sWhyRet (I (m + 1)) nw p), 0, sWhyRet (I (m + 1)) nw p, ?_, ?_, rfl, rfl⟩
      · unfold f_X9_returnObstacle
        rw [h_checkWish B.1.1 (n := nw) (fun hL => (B.2 hL).h5), if_pos hL, if_pos hx, e1_ok, h_whyRet R hp, b1_so]
      · unfold f_Y_returnObstacle
        rw [r_mayWish B, b2_so, bI_t ⟨hL, hL, hx⟩, if_neg (by decide), th_0 hL ⟨hL, hx⟩, g0, b1_so]
    · refine ⟨.error eIX, 2, 0, ?_, ?_, Oc.ix⟩
      · unfold f_X9_returnObstacle
        rw [h_checkWish B.1.1 (n := nw) (fun hL => (B.2 hL).h5), if_pos hL, if_neg hx, e1_er]
      · unfold f_Y_returnObstacle
        rw [r_mayWish B, b2_so, bI_f (fun h => hx h.2.2), if_pos rfl, th_2 hL (fun h => hx h.2)]
  · refine ⟨.error eIS, 1, 0, ?_, ?_, Oc.is⟩
    · unfold f_X9_returnObstacle
      rw [h_checkWish B.1.1 (n := nw) (fun hL => (B.2 hL).h5), if_neg hL, e1_er]
    · unfold f_Y_returnObstacle
      rw [r_mayWish B, b2_so, bI_f (fun h => hL h.1), if_pos rfl, th_1 hL]
theorem u_grantObstacle {L : Prop} [Decidable L] (B : BR I w m L np ns nw) {x : Int32} : ∃ r t b, f_X9_grantObstacle I w x = some r ∧ f_Y_grantObstacle I m x = some (b, u2 I m 0 t) ∧ Oc [eIS, eIX] r t b := by
  by_cases hL : L
  · have R := B.2 hL
    have b1 := R.f.p.2
    have b2 := R.f.s.2
    have b3 := R.f.w.2
    by_cases hx : ¬ x < 0 ∧ x < nI nw
    · obtain ⟨p, rfl, hp⟩ := okI_of hx (by omega)
      have g0 := r_whyGr (I := u2 I m 0 0) (m := m) R.f hp
      rw [sMt] at g0
      refine ⟨.ok (sWhyGr (I (m + 1)) p), 0, sWhyGr (I (m + 1)) p, ?_, ?_, rfl, rfl⟩
      · unfold f_X9_grantObstacle
        rw [h_checkWish B.1.1 (n := nw) (fun hL => (B.2 hL).h5), if_pos hL, if_pos hx, e1_ok, h_whyGr R hp, b1_so]
      · unfold f_Y_grantObstacle
        rw [r_mayWish B, b2_so, bI_t ⟨hL, hL, hx⟩, if_neg (by decide), th_0 hL ⟨hL, hx⟩, g0, b1_so]
    · refine ⟨.error eIX, 2, 0, ?_, ?_, Oc.ix⟩
      · unfold f_X9_grantObstacle
        rw [h_checkWish B.1.1 (n := nw) (fun hL => (B.2 hL).h5), if_pos hL, if_neg hx, e1_er]
      · unfold f_Y_grantObstacle
        rw [r_mayWish B, b2_so, bI_f (fun h => hx h.2.2), if_pos rfl, th_2 hL (fun h => hx h.2)]
  · refine ⟨.error eIS, 1, 0, ?_, ?_, Oc.is⟩
    · unfold f_X9_grantObstacle
      rw [h_checkWish B.1.1 (n := nw) (fun hL => (B.2 hL).h5), if_neg hL, e1_er]
    · unfold f_Y_grantObstacle
      rw [r_mayWish B, b2_so, bI_f (fun h => hL h.1), if_pos rfl, th_1 hL]
theorem u_bestOffer {L : Prop} [Decidable L] (B : BR I w m L np ns nw) {x : Int32} : ∃ r t b, f_X9_bestOffer I w x = some r ∧ f_Y_bestOffer I m x = some (b, u2 I m 0 t) ∧ Oc [eIS, eIX] r t b := by
  by_cases hL : L
  · have R := B.2 hL
    have b1 := R.f.p.2
    have b2 := R.f.s.2
    have b3 := R.f.w.2
    by_cases hx : ¬ x < 0 ∧ x < nI nw
    · obtain ⟨p, rfl, hp⟩ := okI_of hx (by omega)
      have g0 := r_greatestOffer (I := u2 I m 0 0) (m := m) R.f hp
      rw [sMt] at g0
      refine ⟨.ok (oI (sBestOff (I (m + 1)) ns nw p)), 0, oI (sBestOff (I (m + 1)) ns nw p), ?_, ?_, rfl, rfl⟩
      · unfold f_X9_bestOffer
        rw [h_checkWish B.1.1 (n := nw) (fun hL => (B.2 hL).h5), if_pos hL, if_pos hx, e1_ok, h_bestStall R hp, b1_so]
      · unfold f_Y_bestOffer
        rw [r_mayWish B, b2_so, bI_t ⟨hL, hL, hx⟩, if_neg (by decide), th_0 hL ⟨hL, hx⟩, g0, b1_so]
    · refine ⟨.error eIX, 2, 0, ?_, ?_, Oc.ix⟩
      · unfold f_X9_bestOffer
        rw [h_checkWish B.1.1 (n := nw) (fun hL => (B.2 hL).h5), if_pos hL, if_neg hx, e1_er]
      · unfold f_Y_bestOffer
        rw [r_mayWish B, b2_so, bI_f (fun h => hx h.2.2), if_pos rfl, th_2 hL (fun h => hx h.2)]
  · refine ⟨.error eIS, 1, 0, ?_, ?_, Oc.is⟩
    · unfold f_X9_bestOffer
      rw [h_checkWish B.1.1 (n := nw) (fun hL => (B.2 hL).h5), if_neg hL, e1_er]
    · unfold f_Y_bestOffer
      rw [r_mayWish B, b2_so, bI_f (fun h => hL h.1), if_pos rfl, th_1 hL]
theorem u_ownedCount {L : Prop} [Decidable L] (B : BR I w m L np ns nw) {x : Int32} : ∃ r t b, f_X9_ownedCount I w x = some r ∧ f_Y_ownedCount I m x = some (b, u2 I m 0 t) ∧ Oc [eIS, eIX] r t b := by
  by_cases hL : L
  · have R := B.2 hL
    have b1 := R.f.p.2
    have b2 := R.f.s.2
    have b3 := R.f.w.2
    by_cases hx : ¬ x < 0 ∧ x < nI np
    · obtain ⟨p, rfl, hp⟩ := okI_of hx (by omega)
      have g0 := r_owns (I := u2 I m 0 0) (m := m) (p := nI p) R.f.w
      rw [sMt] at g0
      refine ⟨.ok (nI (sOwns (I (m + 1)) nw (nI p))), 0, nI (sOwns (I (m + 1)) nw (nI p)), ?_, ?_, rfl, rfl⟩
      · unfold f_X9_ownedCount
        rw [h_checkPerson B.1.1 (n := np) (fun hL => (B.2 hL).h3), if_pos hL, if_pos hx, e1_ok, h_ownedBy R (by omega), b1_so]
      · unfold f_Y_ownedCount
        rw [r_mayPerson B, b2_so, bI_t ⟨hL, hL, hx⟩, if_neg (by decide), th_0 hL ⟨hL, hx⟩, g0, b1_so, sOwns]
    · refine ⟨.error eIX, 2, 0, ?_, ?_, Oc.ix⟩
      · unfold f_X9_ownedCount
        rw [h_checkPerson B.1.1 (n := np) (fun hL => (B.2 hL).h3), if_pos hL, if_neg hx, e1_er]
      · unfold f_Y_ownedCount
        rw [r_mayPerson B, b2_so, bI_f (fun h => hx h.2.2), if_pos rfl, th_2 hL (fun h => hx h.2)]
  · refine ⟨.error eIS, 1, 0, ?_, ?_, Oc.is⟩
    · unfold f_X9_ownedCount
      rw [h_checkPerson B.1.1 (n := np) (fun hL => (B.2 hL).h3), if_neg hL, e1_er]
    · unfold f_Y_ownedCount
      rw [r_mayPerson B, b2_so, bI_f (fun h => hL h.1), if_pos rfl, th_1 hL]
theorem u_stockCount {L : Prop} [Decidable L] (B : BR I w m L np ns nw) {x : Int32} : ∃ r t b, f_X9_stockCount I w x = some r ∧ f_Y_stockCount I m x = some (b, u2 I m 0 t) ∧ Oc [eIS, eIX] r t b := by
  by_cases hL : L
  · have R := B.2 hL
    have b1 := R.f.p.2
    have b2 := R.f.s.2
    have b3 := R.f.w.2
    by_cases hx : ¬ x < 0 ∧ x < nI ns
    · obtain ⟨p, rfl, hp⟩ := okI_of hx (by omega)
      have g0 := r_stock (I := u2 I m 0 0) (m := m) (s := nI p) R.f.w
      rw [sMt] at g0
      refine ⟨.ok (nI (sStock (I (m + 1)) nw (nI p))), 0, nI (sStock (I (m + 1)) nw (nI p)), ?_, ?_, rfl, rfl⟩
      · unfold f_X9_stockCount
        rw [h_checkStall B.1.1 (n := ns) (fun hL => (B.2 hL).h4), if_pos hL, if_pos hx, e1_ok, h_stockOf R (by omega), b1_so]
      · unfold f_Y_stockCount
        rw [r_mayStall B, b2_so, bI_t ⟨hL, hL, hx⟩, if_neg (by decide), th_0 hL ⟨hL, hx⟩, g0, b1_so, sStock]
    · refine ⟨.error eIX, 2, 0, ?_, ?_, Oc.ix⟩
      · unfold f_X9_stockCount
        rw [h_checkStall B.1.1 (n := ns) (fun hL => (B.2 hL).h4), if_pos hL, if_neg hx, e1_er]
      · unfold f_Y_stockCount
        rw [r_mayStall B, b2_so, bI_f (fun h => hx h.2.2), if_pos rfl, th_2 hL (fun h => hx h.2)]
  · refine ⟨.error eIS, 1, 0, ?_, ?_, Oc.is⟩
    · unfold f_X9_stockCount
      rw [h_checkStall B.1.1 (n := ns) (fun hL => (B.2 hL).h4), if_neg hL, e1_er]
    · unfold f_Y_stockCount
      rw [r_mayStall B, b2_so, bI_f (fun h => hL h.1), if_pos rfl, th_1 hL]
theorem u_bestGrant {L : Prop} [Decidable L] (B : BR I w m L np ns nw) {x : Int32} : ∃ r t b, f_X9_bestGrant I w x = some r ∧ f_Y_bestGrant I m x = some (b, u2 I m 0 t) ∧ Oc [eIS, eIX] r t b := by
  by_cases hL : L
  · have R := B.2 hL
    have b1 := R.f.p.2
    have b2 := R.f.s.2
    have b3 := R.f.w.2
    by_cases hx : ¬ x < 0 ∧ x < nI np
    · obtain ⟨p, rfl, hp⟩ := okI_of hx (by omega)
      have g0 := r_greatestGrant (I := u2 I m 0 0) (m := m) R.f (p := p)
      rw [sMt] at g0
      refine ⟨.ok (oI (sGreat (I (m + 1)) nw p)), 0, oI (sGreat (I (m + 1)) nw p), ?_, ?_, rfl, rfl⟩
      · unfold f_X9_bestGrant
        rw [h_checkPerson B.1.1 (n := np) (fun hL => (B.2 hL).h3), if_pos hL, if_pos hx, e1_ok, h_bestGrant R (by omega), b1_so]
      · unfold f_Y_bestGrant
        rw [r_mayPerson B, b2_so, bI_t ⟨hL, hL, hx⟩, if_neg (by decide), th_0 hL ⟨hL, hx⟩, g0, b1_so]
    · refine ⟨.error eIX, 2, 0, ?_, ?_, Oc.ix⟩
      · unfold f_X9_bestGrant
        rw [h_checkPerson B.1.1 (n := np) (fun hL => (B.2 hL).h3), if_pos hL, if_neg hx, e1_er]
      · unfold f_Y_bestGrant
        rw [r_mayPerson B, b2_so, bI_f (fun h => hx h.2.2), if_pos rfl, th_2 hL (fun h => hx h.2)]
  · refine ⟨.error eIS, 1, 0, ?_, ?_, Oc.is⟩
    · unfold f_X9_bestGrant
      rw [h_checkPerson B.1.1 (n := np) (fun hL => (B.2 hL).h3), if_neg hL, e1_er]
    · unfold f_Y_bestGrant
      rw [r_mayPerson B, b2_so, bI_f (fun h => hL h.1), if_pos rfl, th_1 hL]
theorem u_cheapestWish {L : Prop} [Decidable L] (B : BR I w m L np ns nw) {x : Int32} : ∃ r t b, f_X9_cheapestWish I w x = some r ∧ f_Y_cheapestWish I m x = some (b, u2 I m 0 t) ∧ Oc [eIS, eIX] r t b := by
  by_cases hL : L
  · have R := B.2 hL
    have b1 := R.f.p.2
    have b2 := R.f.s.2
    have b3 := R.f.w.2
    by_cases hx : ¬ x < 0 ∧ x < nI np
    · obtain ⟨p, rfl, hp⟩ := okI_of hx (by omega)
      have g0 := rfp0 (I := u2 I m 0 0) (m := m) (N := (I (m + 1))) (w := p) (by omega)
      rw [sMt] at g0
      have g1 := r_cheapest (I := u2 I m 0 0) (m := m) R.f (p := p) (lim := pN (I (m + 1)) p 0) (by omega)
      rw [sMt] at g1
      refine ⟨.ok (oI (sCheap (I (m + 1)) nw p (pN (I (m + 1)) p 0))), 0, oI (sCheap (I (m + 1)) nw p (pN (I (m + 1)) p 0)), ?_, ?_, rfl, rfl⟩
      · unfold f_X9_cheapestWish
        rw [h_personAt B, if_pos hL, if_pos hx, ixn6 (by omega), b1_so, e1_ok, ckA_n (by omega), b1_so, R.p1 hp, h_cheapest R hp, b1_so]
      · unfold f_Y_cheapestWish
        rw [r_mayPerson B, b2_so, bI_t ⟨hL, hL, hx⟩, if_neg (by decide), th_0 hL ⟨hL, hx⟩, g0, b1_so, g1, b1_so]
    · refine ⟨.error eIX, 2, 0, ?_, ?_, Oc.ix⟩
      · unfold f_X9_cheapestWish
        rw [h_personAt B, if_pos hL, if_neg hx, e1_er]
      · unfold f_Y_cheapestWish
        rw [r_mayPerson B, b2_so, bI_f (fun h => hx h.2.2), if_pos rfl, th_2 hL (fun h => hx h.2)]
  · refine ⟨.error eIS, 1, 0, ?_, ?_, Oc.is⟩
    · unfold f_X9_cheapestWish
      rw [h_personAt B, if_neg hL, e1_er]
    · unfold f_Y_cheapestWish
      rw [r_mayPerson B, b2_so, bI_f (fun h => hL h.1), if_pos rfl, th_1 hL]
end LK2
