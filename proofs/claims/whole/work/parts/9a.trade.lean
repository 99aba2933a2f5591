/-! the four trades -/
section TR
variable {I : Mem} {K : Kt} {w m kb gb D : Nat}
theorem h_obs {x : Int32} : f_X9_checkObstacle x = if x = 0 then some (.ok ()) else some (.error eIA) := rfl
theorem lc_buy (S : ST I K w m kb gb D) {x y : Int32} : LC (mX9_buy 8) cX9_buy (mX10_buy 5) cX10_buy [eIS, eIX, eIA] [.int x, .int y] I K w m kb gb (D + 300) := by
  obtain ⟨l, np, ns, nw, B, G⟩ := S.br
  have hx1 := r_isPerson B (x := x)
  have hy1 := r_isWish B (x := y)
  have bad : (¬ (l = true ∧ ¬ x < 0 ∧ x < nI np) ∨ ¬ (l = true ∧ ¬ y < 0 ∧ y < nI nw)) → f_X10_buy I m x y = some (0, u2 I m 0 (th3 (l = true) False False)) := by
    intro h
    have e25 : l_X10_buy_20 I m x y = some (0, u2 I m 0 (th3 (l = true) False False)) := by
      unfold l_X10_buy_20 l_X10_buy_21 l_X10_buy_45 l_X10_buy_46
      have h9 := r_may (I := I) (m := m) (a := l = true) (b := False) (c := False)
      rw [show bI False = 0 from rfl] at h9
      rw [if_pos rfl, B.1.2, h9, b2_so, bI_f (fun h => h.2.1), if_pos rfl]
    unfold f_X10_buy
    by_cases h1 : l = true ∧ ¬ x < 0 ∧ x < nI np
    · rw [hx1, b1_so, bI_t h1, if_neg (by decide), hy1, b1_so, bI_f (h.resolve_left (fun g => g h1)), if_pos rfl, e25]
    · rw [hx1, b1_so, bI_f h1, if_pos rfl, e25]
  by_cases hL : l = true
  · have R := B.2 hL
    have k1 := R.f.p.2
    have k2 := R.f.s.2
    have k3 := R.f.w.2
    by_cases hx : ¬ x < 0 ∧ x < nI np
    · by_cases hy : ¬ y < 0 ∧ y < nI nw
      · rw [bI_t ⟨hL, hx⟩] at hx1
        rw [bI_t ⟨hL, hy⟩] at hy1
        obtain ⟨p, rfl, hp⟩ := okI_of hx (by omega)
        obtain ⟨s, rfl, hs⟩ := okI_of hy (by omega)
        have hcl : f_X9_buy I w (nI p) (nI s) = e1 (f_X9_checkObstacle (sWhyBuy (I (m + 1)) nw p s)) (fun E => some (.error E, I)) fun u7 => b1 (f_X9_rememberForUndo I w) fun I9 => b2 (f_X3_carryOutPurchase I9 (w + 37) (nI p) (nI s)) fun v11 I12 => some (.ok v11, I12) := by
          unfold f_X9_buy
          rw [h_checkPerson B.1.1 (n := np) (fun hL => (B.2 hL).h3), if_pos hL, if_pos hx, e1_ok, h_checkWish B.1.1 (n := nw) (fun hL => (B.2 hL).h5), if_pos hL, if_pos hy, e1_ok, h_whyBuy R hp hs, b1_so]
        by_cases hz : sWhyBuy (I (m + 1)) nw p s = 0
        · obtain ⟨I6, c1, c2, c3, c4⟩ := S.chg (by rw [B.1.1, bI_t hL])
          have R6 : RM I6 (w + 37) (I (m + 1)) np ns nw := R.fr fun a _ _ => c2 a (by omega) (by omega)
          obtain ⟨I8, g1, g2, g3⟩ := h_buys R6 hp hs hz
          obtain ⟨e0, e1', J1, d1, d2, d3, d4⟩ := c4 I8 (fun a h => g3 a (by omega)) (c3.keep g2 g3)
          have hG := (G hL).mk k1 k3 (a_buy R.f hs (whyBuy0 hz) hp) (CC.buy R.f (G hL).cc hp hs hz).1 (CC.buy R.f (G hL).cc hp hs hz).2
          obtain ⟨z1, z2⟩ := d4 _ (D + 300) ⟨np, ns, nw, g2, hG.le (Nat.le_add_right _ _)⟩ (Nat.le_add_right _ _)
          refine lc_ch (r := .ok (sPrice (I (m + 1)) s)) (b := sPrice (I (m + 1)) s) (c_X9_buy 0 S.lw (I9 := I8) ?_) Ec0 (fun Kj hM => c_X10_buy 0 hM ?_) z1 (fun v h => by cases h; rfl) z2
          · rw [hcl, h_obs, if_pos hz, e1_ok, c1, b1_so, g1, b2_so]
          · have h9 := r_may (I := I8) (m := m) (a := l = true) (b := True) (c := True)
            rw [bI_tr, bI_t (p := l = true ∧ True ∧ True) ⟨hL, trivial, trivial⟩, th3_0 hL trivial trivial] at h9
            have g0 := r_whyBuy (I := I8) (m := m) R.f (p := p) (by omega) hs
            rw [← e1', sM_i, e1'] at g0
            have hr := r_buys (I := J1) (m := m) R.f hs (whyBuy0 hz) (p := p) (by omega)
            rw [← d2, sM_i, d2] at hr
            unfold f_X10_buy
            rw [isPerson_c e0 e1', hx1, b1_so, if_neg (by decide), isWish_c e0 e1', hy1, b1_so, if_neg (by decide)]
            unfold l_X10_buy_21 l_X10_buy_46
            rw [if_neg (by decide), g0, b1_so, if_pos hz, e0, B.1.2, h9, b2_so, if_neg (by decide), d1, b1_so, hr, b2_so]
        · refine lc_er (E := eIA) S (c_X9_buy 0 S.lw (x := .error eIA) ?_) Ec3 (fun Kj hM => c_X10_buy 0 hM (v := 0) ?_)
          · rw [hcl, h_obs, if_neg hz, e1_er]
          · have h9 := r_may (I := I) (m := m) (a := l = true) (b := True) (c := False)
            rw [bI_tr, show bI False = 0 from rfl, bI_f (p := l = true ∧ True ∧ False) (fun h => h.2.2), th3_3 hL trivial (fun h => h)] at h9
            have g0 := r_whyBuy (I := I) (m := m) R.f (p := p) (by omega) hs
            rw [sM_i] at g0
            unfold f_X10_buy
            rw [hx1, b1_so, if_neg (by decide), hy1, b1_so, if_neg (by decide)]
            unfold l_X10_buy_21 l_X10_buy_45 l_X10_buy_46
            rw [if_neg (by decide), g0, b1_so, if_neg hz, B.1.2, h9, b2_so, if_pos rfl]
      · refine lc_er (E := eIX) S (c_X9_buy 0 S.lw (x := .error eIX) ?_) Ec2 (fun Kj hM => c_X10_buy 0 hM (v := 0) ?_)
        · unfold f_X9_buy
          rw [h_checkPerson B.1.1 (n := np) (fun hL => (B.2 hL).h3), if_pos hL, if_pos hx, e1_ok, h_checkWish B.1.1 (n := nw) (fun hL => (B.2 hL).h5), if_pos hL, if_neg hy, e1_er]
        · rw [bad (Or.inr (fun h => hy h.2)), th3_2 hL (fun h => h)]
    · refine lc_er (E := eIX) S (c_X9_buy 0 S.lw (x := .error eIX) ?_) Ec2 (fun Kj hM => c_X10_buy 0 hM (v := 0) ?_)
      · unfold f_X9_buy
        rw [h_checkPerson B.1.1 (n := np) (fun hL => (B.2 hL).h3), if_pos hL, if_neg hx, e1_er]
      · rw [bad (Or.inl (fun h => hx h.2)), th3_2 hL (fun h => h)]
  · refine lc_er (E := eIS) S (c_X9_buy 0 S.lw (x := .error eIS) ?_) Ec1 (fun Kj hM => c_X10_buy 0 hM (v := 0) ?_)
    · unfold f_X9_buy
      rw [h_checkPerson B.1.1 (n := np) (fun hL => (B.2 hL).h3), if_neg hL, e1_er]
    · rw [bad (Or.inl (fun h => hL h.1)), th3_1 hL]
theorem lc_sell (S : ST I K w m kb gb D) {x y : Int32} : LC (mX9_sell 8) cX9_sell (mX10_sell 5) cX10_sell [eIS, eIX, eIA] [.int x, .int y] I K w m kb gb (D + 300) := by
  obtain ⟨l, np, ns, nw, B, G⟩ := S.br
  have hx1 := r_isWish B (x := x)
  have hy1 := r_isStall B (x := y)
  have bad : (¬ (l = true ∧ ¬ x < 0 ∧ x < nI nw) ∨ ¬ (l = true ∧ ¬ y < 0 ∧ y < nI ns)) → f_X10_sell I m x y = some (0, u2 I m 0 (th3 (l = true) False False)) := by
    intro h
    have e25 : l_X10_sell_20 I m x y = some (0, u2 I m 0 (th3 (l = true) False False)) := by
      unfold l_X10_sell_20 l_X10_sell_21 l_X10_sell_45 l_X10_sell_46
      have h9 := r_may (I := I) (m := m) (a := l = true) (b := False) (c := False)
      rw [show bI False = 0 from rfl] at h9
      rw [if_pos rfl, B.1.2, h9, b2_so, bI_f (fun h => h.2.1), if_pos rfl]
    unfold f_X10_sell
    by_cases h1 : l = true ∧ ¬ x < 0 ∧ x < nI nw
    · rw [hx1, b1_so, bI_t h1, if_neg (by decide), hy1, b1_so, bI_f (h.resolve_left (fun g => g h1)), if_pos rfl, e25]
    · rw [hx1, b1_so, bI_f h1, if_pos rfl, e25]
  by_cases hL : l = true
  · have R := B.2 hL
    have k1 := R.f.p.2
    have k2 := R.f.s.2
    have k3 := R.f.w.2
    by_cases hx : ¬ x < 0 ∧ x < nI nw
    · by_cases hy : ¬ y < 0 ∧ y < nI ns
      · rw [bI_t ⟨hL, hx⟩] at hx1
        rw [bI_t ⟨hL, hy⟩] at hy1
        obtain ⟨p, rfl, hp⟩ := okI_of hx (by omega)
        obtain ⟨s, rfl, hs⟩ := okI_of hy (by omega)
        have hcl : f_X9_sell I w (nI p) (nI s) = e1 (f_X9_checkObstacle (sWhySell (I (m + 1)) nw p s)) (fun E => some (.error E, I)) fun u7 => b1 (f_X9_rememberForUndo I w) fun I9 => b2 (f_X3_carryOutSale I9 (w + 37) (nI p) (nI s)) fun v11 I12 => some (.ok v11, I12) := by
          unfold f_X9_sell
          rw [h_checkWish B.1.1 (n := nw) (fun hL => (B.2 hL).h5), if_pos hL, if_pos hx, e1_ok, h_checkStall B.1.1 (n := ns) (fun hL => (B.2 hL).h4), if_pos hL, if_pos hy, e1_ok, h_whySell R hs hp, b1_so]
        by_cases hz : sWhySell (I (m + 1)) nw p s = 0
        · obtain ⟨I6, c1, c2, c3, c4⟩ := S.chg (by rw [B.1.1, bI_t hL])
          have R6 : RM I6 (w + 37) (I (m + 1)) np ns nw := R.fr fun a _ _ => c2 a (by omega) (by omega)
          obtain ⟨I8, g1, g2, g3⟩ := h_sells R6 hp hs hz
          obtain ⟨e0, e1', J1, d1, d2, d3, d4⟩ := c4 I8 (fun a h => g3 a (by omega)) (c3.keep g2 g3)
          have hG := (G hL).mk k1 k3 (a_sell R.f hp (whySell1 hz) hs) (CC.sell R.f (G hL).cc hs hp (whySell1 hz) (whySellC hz)).1 (CC.sell R.f (G hL).cc hs hp (whySell1 hz) (whySellC hz)).2
          obtain ⟨z1, z2⟩ := d4 _ (D + 300) ⟨np, ns, nw, g2, hG.le (Nat.le_add_right _ _)⟩ (Nat.le_add_right _ _)
          refine lc_ch (r := .ok (sOff (I (m + 1)) p s)) (b := sOff (I (m + 1)) p s) (c_X9_sell 0 S.lw (I9 := I8) ?_) Ec0 (fun Kj hM => c_X10_sell 0 hM ?_) z1 (fun v h => by cases h; rfl) z2
          · rw [hcl, h_obs, if_pos hz, e1_ok, c1, b1_so, g1, b2_so]
          · have h9 := r_may (I := I8) (m := m) (a := l = true) (b := True) (c := True)
            rw [bI_tr, bI_t (p := l = true ∧ True ∧ True) ⟨hL, trivial, trivial⟩, th3_0 hL trivial trivial] at h9
            have g0 := r_whySell (I := I8) (m := m) R.f (s := s) (by omega) hp
            rw [← e1', sM_i, e1'] at g0
            have hr := r_sells (I := J1) (m := m) R.f hp (whySell1 hz) (s := s) (by omega)
            rw [← d2, sM_i, d2] at hr
            unfold f_X10_sell
            rw [isWish_c e0 e1', hx1, b1_so, if_neg (by decide), isStall_c e0 e1', hy1, b1_so, if_neg (by decide)]
            unfold l_X10_sell_21 l_X10_sell_46
            rw [if_neg (by decide), g0, b1_so, if_pos hz, e0, B.1.2, h9, b2_so, if_neg (by decide), d1, b1_so, hr, b2_so]
        · refine lc_er (E := eIA) S (c_X9_sell 0 S.lw (x := .error eIA) ?_) Ec3 (fun Kj hM => c_X10_sell 0 hM (v := 0) ?_)
          · rw [hcl, h_obs, if_neg hz, e1_er]
          · have h9 := r_may (I := I) (m := m) (a := l = true) (b := True) (c := False)
            rw [bI_tr, show bI False = 0 from rfl, bI_f (p := l = true ∧ True ∧ False) (fun h => h.2.2), th3_3 hL trivial (fun h => h)] at h9
            have g0 := r_whySell (I := I) (m := m) R.f (s := s) (by omega) hp
            rw [sM_i] at g0
            unfold f_X10_sell
            rw [hx1, b1_so, if_neg (by decide), hy1, b1_so, if_neg (by decide)]
            unfold l_X10_sell_21 l_X10_sell_45 l_X10_sell_46
            rw [if_neg (by decide), g0, b1_so, if_neg hz, B.1.2, h9, b2_so, if_pos rfl]
      · refine lc_er (E := eIX) S (c_X9_sell 0 S.lw (x := .error eIX) ?_) Ec2 (fun Kj hM => c_X10_sell 0 hM (v := 0) ?_)
        · unfold f_X9_sell
          rw [h_checkWish B.1.1 (n := nw) (fun hL => (B.2 hL).h5), if_pos hL, if_pos hx, e1_ok, h_checkStall B.1.1 (n := ns) (fun hL => (B.2 hL).h4), if_pos hL, if_neg hy, e1_er]
        · rw [bad (Or.inr (fun h => hy h.2)), th3_2 hL (fun h => h)]
    · refine lc_er (E := eIX) S (c_X9_sell 0 S.lw (x := .error eIX) ?_) Ec2 (fun Kj hM => c_X10_sell 0 hM (v := 0) ?_)
      · unfold f_X9_sell
        rw [h_checkWish B.1.1 (n := nw) (fun hL => (B.2 hL).h5), if_pos hL, if_neg hx, e1_er]
      · rw [bad (Or.inl (fun h => hx h.2)), th3_2 hL (fun h => h)]
  · refine lc_er (E := eIS) S (c_X9_sell 0 S.lw (x := .error eIS) ?_) Ec1 (fun Kj hM => c_X10_sell 0 hM (v := 0) ?_)
    · unfold f_X9_sell
      rw [h_checkWish B.1.1 (n := nw) (fun hL => (B.2 hL).h5), if_neg hL, e1_er]
    · rw [bad (Or.inl (fun h => hL h.1)), th3_1 hL]
theorem lc_returnWish (S : ST I K w m kb gb D) {x : Int32} : LC (mX9_returnWish 8) cX9_returnWish (mX10_returnWish 5) cX10_returnWish [eIS, eIX, eIA] [.int x] I K w m kb gb (D + 300) := by
  obtain ⟨l, np, ns, nw, B, G⟩ := S.br
  have hx1 := r_isWish B (x := x)
  have bad : (¬ (l = true ∧ ¬ x < 0 ∧ x < nI nw)) → f_X10_returnWish I m x = some (0, u2 I m 0 (th3 (l = true) False False)) := by
    intro h
    have h9 := r_may (I := I) (m := m) (a := l = true) (b := False) (c := False)
    rw [show bI False = 0 from rfl] at h9
    unfold f_X10_returnWish l_X10_returnWish_28 l_X10_returnWish_29
    rw [hx1, b1_so, bI_f h, if_pos rfl, B.1.2, h9, b2_so, bI_f (fun h => h.2.1), if_pos rfl]
  by_cases hL : l = true
  · have R := B.2 hL
    have k1 := R.f.p.2
    have k2 := R.f.s.2
    have k3 := R.f.w.2
    by_cases hx : ¬ x < 0 ∧ x < nI nw
    · rw [bI_t ⟨hL, hx⟩] at hx1
      obtain ⟨p, rfl, hp⟩ := okI_of hx (by omega)
      have hcl : f_X9_returnWish I w (nI p) = e1 (f_X9_checkObstacle (sWhyRet (I (m + 1)) nw p)) (fun E => some (.error E, I)) fun u7 => b1 (f_X9_rememberForUndo I w) fun I9 => b2 (f_X3_carryOutReturn I9 (w + 37) (nI p)) fun v11 I12 => some (.ok v11, I12) := by
        unfold f_X9_returnWish
        rw [h_checkWish B.1.1 (n := nw) (fun hL => (B.2 hL).h5), if_pos hL, if_pos hx, e1_ok, h_whyRet R hp, b1_so]
      by_cases hz : sWhyRet (I (m + 1)) nw p = 0
      · obtain ⟨I6, c1, c2, c3, c4⟩ := S.chg (by rw [B.1.1, bI_t hL])
        have R6 : RM I6 (w + 37) (I (m + 1)) np ns nw := R.fr fun a _ _ => c2 a (by omega) (by omega)
        obtain ⟨I8, g1, g2, g3⟩ := h_returns R6 hp hz
        obtain ⟨e0, e1', J1, d1, d2, d3, d4⟩ := c4 I8 (fun a h => g3 a (by omega)) (c3.keep g2 g3)
        have hG := (G hL).mk k1 k3 (a_ret R.f hp hz) (CC.ret R.f (G hL).cc hp hz).1 (CC.ret R.f (G hL).cc hp hz).2
        obtain ⟨z1, z2⟩ := d4 _ (D + 300) ⟨np, ns, nw, g2, hG.le (Nat.le_add_right _ _)⟩ (Nat.le_add_right _ _)
        refine lc_ch (r := .ok (sRef (I (m + 1)) p)) (b := sRef (I (m + 1)) p) (c_X9_returnWish 0 S.lw (I9 := I8) ?_) Ec0 (fun Kj hM => c_X10_returnWish 0 hM ?_) z1 (fun v h => by cases h; rfl) z2
        · rw [hcl, h_obs, if_pos hz, e1_ok, c1, b1_so, g1, b2_so]
        · have h9 := r_may (I := I8) (m := m) (a := l = true) (b := True) (c := True)
          rw [bI_tr, bI_t (p := l = true ∧ True ∧ True) ⟨hL, trivial, trivial⟩, th3_0 hL trivial trivial] at h9
          have g0 := r_whyRet (I := I8) (m := m) R.f hp
          rw [← e1', sM_i, e1'] at g0
          have hr := r_returns (I := J1) (m := m) R.f hp (whyRet1 hz).1 (whyRet1 hz).2.1
          rw [← d2, sM_i, d2] at hr
          unfold f_X10_returnWish
          rw [isWish_c e0 e1', hx1, b1_so, if_neg (by decide), g0, b1_so, if_pos hz]
          unfold l_X10_returnWish_29
          rw [e0, B.1.2, h9, b2_so, if_neg (by decide), d1, b1_so, hr, b2_so]
      · refine lc_er (E := eIA) S (c_X9_returnWish 0 S.lw (x := .error eIA) ?_) Ec3 (fun Kj hM => c_X10_returnWish 0 hM (v := 0) ?_)
        · rw [hcl, h_obs, if_neg hz, e1_er]
        · have h9 := r_may (I := I) (m := m) (a := l = true) (b := True) (c := False)
          rw [bI_tr, show bI False = 0 from rfl, bI_f (p := l = true ∧ True ∧ False) (fun h => h.2.2), th3_3 hL trivial (fun h => h)] at h9
          have g0 := r_whyRet (I := I) (m := m) R.f hp
          rw [sM_i] at g0
          unfold f_X10_returnWish
          rw [hx1, b1_so, if_neg (by decide), g0, b1_so, if_neg hz]
          unfold l_X10_returnWish_28 l_X10_returnWish_29
          rw [B.1.2, h9, b2_so, if_pos rfl]
    · refine lc_er (E := eIX) S (c_X9_returnWish 0 S.lw (x := .error eIX) ?_) Ec2 (fun Kj hM => c_X10_returnWish 0 hM (v := 0) ?_)
      · unfold f_X9_returnWish
        rw [h_checkWish B.1.1 (n := nw) (fun hL => (B.2 hL).h5), if_pos hL, if_neg hx, e1_er]
      · rw [bad (fun h => hx h.2), th3_2 hL (fun h => h)]
  · refine lc_er (E := eIS) S (c_X9_returnWish 0 S.lw (x := .error eIS) ?_) Ec1 (fun Kj hM => c_X10_returnWish 0 hM (v := 0) ?_)
    · unfold f_X9_returnWish
      rw [h_checkWish B.1.1 (n := nw) (fun hL => (B.2 hL).h5), if_neg hL, e1_er]
    · rw [bad (fun h => hL h.1), th3_1 hL]
theorem lc_grant (S : ST I K w m kb gb D) {x : Int32} : LC (mX9_grant 8) cX9_grant (mX10_grant 4) cX10_grant [eIS, eIX, eIA] [.int x] I K w m kb gb (D + 300) := by
  obtain ⟨l, np, ns, nw, B, G⟩ := S.br
  have hx1 := r_isWish B (x := x)
  have bad : (¬ (l = true ∧ ¬ x < 0 ∧ x < nI nw)) → f_X10_grant I m x = some (0, u2 I m 0 (th3 (l = true) False False)) := by
    intro h
    have h9 := r_may (I := I) (m := m) (a := l = true) (b := False) (c := False)
    rw [show bI False = 0 from rfl] at h9
    unfold f_X10_grant l_X10_grant_28 l_X10_grant_29
    rw [hx1, b1_so, bI_f h, if_pos rfl, B.1.2, h9, b2_so, bI_f (fun h => h.2.1), if_pos rfl]
  by_cases hL : l = true
  · have R := B.2 hL
    have k1 := R.f.p.2
    have k2 := R.f.s.2
    have k3 := R.f.w.2
    by_cases hx : ¬ x < 0 ∧ x < nI nw
    · rw [bI_t ⟨hL, hx⟩] at hx1
      obtain ⟨p, rfl, hp⟩ := okI_of hx (by omega)
      have hcl : f_X9_grant I w (nI p) = e1 (f_X9_checkObstacle (sWhyGr (I (m + 1)) p)) (fun E => some (.error E, I)) fun u7 => b1 (f_X9_rememberForUndo I w) fun I9 => b2 (f_X3_carryOutGrant I9 (w + 37) (nI p)) fun v11 I12 => some (.ok v11, I12) := by
        unfold f_X9_grant
        rw [h_checkWish B.1.1 (n := nw) (fun hL => (B.2 hL).h5), if_pos hL, if_pos hx, e1_ok, h_whyGr R hp, b1_so]
      by_cases hz : sWhyGr (I (m + 1)) p = 0
      · obtain ⟨I6, c1, c2, c3, c4⟩ := S.chg (by rw [B.1.1, bI_t hL])
        have R6 : RM I6 (w + 37) (I (m + 1)) np ns nw := R.fr fun a _ _ => c2 a (by omega) (by omega)
        obtain ⟨I8, g1, g2, g3⟩ := h_grants R6 hp (whyGr1 hz)
        obtain ⟨e0, e1', J1, d1, d2, d3, d4⟩ := c4 I8 (fun a h => g3 a (by omega)) (c3.keep g2 g3)
        have hG := (G hL).mk k1 k3 (a_gr R.f hp (whyGr1 hz)) (CC.gr R.f (G hL).cc hp (whyGr1 hz)).1 (CC.gr R.f (G hL).cc hp (whyGr1 hz)).2
        obtain ⟨z1, z2⟩ := d4 _ (D + 300) ⟨np, ns, nw, g2, hG.le (Nat.le_add_right _ _)⟩ (Nat.le_add_right _ _)
        refine lc_ch (r := .ok (pN (I (m + 1)) (aT (I (m + 1)) p) 3 + sVal (I (m + 1)) p)) (b := pN (I (m + 1)) (aT (I (m + 1)) p) 3 + sVal (I (m + 1)) p) (c_X9_grant 0 S.lw (I9 := I8) ?_) Ec0 (fun Kj hM => c_X10_grant 0 hM ?_) z1 (fun v h => by cases h; rfl) z2
        · rw [hcl, h_obs, if_pos hz, e1_ok, c1, b1_so, g1, b2_so]
        · have h9 := r_may (I := I8) (m := m) (a := l = true) (b := True) (c := True)
          rw [bI_tr, bI_t (p := l = true ∧ True ∧ True) ⟨hL, trivial, trivial⟩, th3_0 hL trivial trivial] at h9
          have g0 := r_whyGr (I := I8) (m := m) R.f hp
          rw [← e1', sM_i, e1'] at g0
          have hr := r_grants (I := J1) (m := m) R.f hp (whyGr1 hz)
          rw [← d2, sM_i, d2] at hr
          unfold f_X10_grant
          rw [isWish_c e0 e1', hx1, b1_so, if_neg (by decide), g0, b1_so, if_pos hz]
          unfold l_X10_grant_29
          rw [e0, B.1.2, h9, b2_so, if_neg (by decide), d1, b1_so, hr, b2_so]
      · refine lc_er (E := eIA) S (c_X9_grant 0 S.lw (x := .error eIA) ?_) Ec3 (fun Kj hM => c_X10_grant 0 hM (v := 0) ?_)
        · rw [hcl, h_obs, if_neg hz, e1_er]
        · have h9 := r_may (I := I) (m := m) (a := l = true) (b := True) (c := False)
          rw [bI_tr, show bI False = 0 from rfl, bI_f (p := l = true ∧ True ∧ False) (fun h => h.2.2), th3_3 hL trivial (fun h => h)] at h9
          have g0 := r_whyGr (I := I) (m := m) R.f hp
          rw [sM_i] at g0
          unfold f_X10_grant
          rw [hx1, b1_so, if_neg (by decide), g0, b1_so, if_neg hz]
          unfold l_X10_grant_28 l_X10_grant_29
          rw [B.1.2, h9, b2_so, if_pos rfl]
    · refine lc_er (E := eIX) S (c_X9_grant 0 S.lw (x := .error eIX) ?_) Ec2 (fun Kj hM => c_X10_grant 0 hM (v := 0) ?_)
      · unfold f_X9_grant
        rw [h_checkWish B.1.1 (n := nw) (fun hL => (B.2 hL).h5), if_pos hL, if_neg hx, e1_er]
      · rw [bad (fun h => hx h.2), th3_2 hL (fun h => h)]
  · refine lc_er (E := eIS) S (c_X9_grant 0 S.lw (x := .error eIS) ?_) Ec1 (fun Kj hM => c_X10_grant 0 hM (v := 0) ?_)
    · unfold f_X9_grant
      rw [h_checkWish B.1.1 (n := nw) (fun hL => (B.2 hL).h5), if_neg hL, e1_er]
    · rw [bad (fun h => hL h.1), th3_1 hL]
end TR
