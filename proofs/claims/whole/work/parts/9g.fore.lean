/-! what would be: the forecast, and the reference's second thought -/
section FC
variable {I J I' : Mem} {K : Kt} {w m kb gb D : Nat}
theorem ST2.fc (h : ST2 I J K w m kb gb D) (h1 : ∀ a, (a < w + 68 ∨ w + 98 < a) → I' a = I a) (hB : BM I' (w + 68)) : ST2 I' J K w m kb gb D := by
  obtain ⟨hL, ⟨l, hA⟩, hBB, ⟨u, v, hU⟩, hV, hP, ⟨f, hF⟩, hO⟩ := h
  have hu := hU.1
  have hvv := hL.2.2.2
  have hm := hL.2.2.1
  have ew : I' w = I w := h1 w (by omega)
  refine ⟨hL, ⟨l, ⟨by rw [ew]; exact hA.1.1, hA.1.2⟩, fun h => (hA.2 h).fr fun a _ _ => h1 a (by omega)⟩, ⟨⟨hBB.1.1.fr fun a _ _ => h1 a (by omega), hBB.1.2.1.fr fun a _ _ => h1 a (by omega), hB⟩, fun i h => (hBB.2.1 i h).fr fun a _ _ => h1 a (by omega), fun i h => (hBB.2.2 i h).fr fun a _ _ => h1 a (by omega)⟩, ⟨u, v, hU.1, ⟨by rw [ew]; exact hU.2.1.1, hU.2.1.2.1, by rw [ew]; exact hU.2.1.2.2⟩, fun j hj => (hU.2.2 j hj).fr fun a _ _ => h1 a (by omega)⟩, fun i hi => ?_, ⟨by rw [h1 _ (by omega)]; exact hP.1, by rw [h1 _ (by omega)]; exact hP.2⟩, ⟨f, ⟨hF.1.1, by rw [h1 _ (by omega)]; exact hF.1.2.1, hF.1.2.2⟩, fun i hi => by rw [h1 _ (by omega)]; exact hF.2 i hi⟩, ?_⟩
  · rw [h1 (w + 101) (by omega)]
    exact (hV i hi).imp id fun h => ⟨h.1, h.2.1, h.2.2.fr fun a _ _ => h1 a (by omega)⟩
  · obtain ⟨⟨n, n1, n2, n3, n4⟩, o2, o3⟩ := hO
    have h2 : I' (vOf K (w + 102)) = I (vOf K (w + 102)) := h1 _ (by omega)
    exact ⟨⟨n, n1, by rw [h1 (w + 102) (by omega)]; exact n2, n3, by rw [h2]; exact n4⟩, by rw [h2]; exact o2, o3⟩
theorem r_areDays {x : Int32} : f_X10_areDays x = some (bI (¬ x < 0 ∧ ¬ 300 < x)) := by
  unfold f_X10_areDays
  rw [r_in, b1_so, cB_bI, b1_so]
theorem lc_coinsAfter (S : ST I K w m kb gb D) {x y : Int32} : LC (mX9_coinsAfter 8) cX9_coinsAfter (mX10_coinsAfter 10) cX10_coinsAfter [eIS, eIX, eIA] [.int x, .int y] I K w m kb gb (D + 300) := by
  obtain ⟨l, np, ns, nw, B, G⟩ := S.br
  have hm := S.lo
  by_cases hL : l = true
  · have R := B.2 hL
    have k1 := R.f.p.2
    have k2 := R.f.s.2
    have k3 := R.f.w.2
    by_cases hx : ¬ x < 0 ∧ x < nI np
    · obtain ⟨p, rfl, hp⟩ := okI_of hx (by omega)
      by_cases hy : ¬ y < 0 ∧ ¬ 300 < y
      · obtain ⟨d, rfl, hd⟩ := rng_of (a := 0) (b := 300) hy (by decide)
        obtain ⟨I5, c1, c2, c3⟩ := h_copyFrom (I := I) (d := w + 68) (s := w + 37) (Or.inr (by omega)) S.2.2.1.1.2.1
        obtain ⟨g, I8, g1, g2, g3, g4⟩ := h_simulate (c2.rm R) (d := d) (by omega)
        have e8 : ∀ a, (a < w + 68 ∨ w + 98 < a) → I8 a = I a := fun a h => by rw [g3 a (by omega), c3 a (by omega)]
        have hB8 : BM I8 (w + 68) := (c2.bm S.2.2.1.1.2.1).keep g2 g3
        obtain ⟨J1, j1, j2, j3, -⟩ := r_lays (I := u2 I8 m 0 0) (a := m + 1) (b := m + 2) (na := 355) (nb := 355) (i := 0) (j := 0) (by omega) (by decide) (by decide) (by decide) (by decide)
        have q1 : J1 (m + 1) = I (m + 1) := by rw [j2 _ (by omega), u2_a (by omega), e8 _ (by omega)]
        obtain ⟨J3, t1, t2, t3, -⟩ := r_lays (I := sM J1 m (sDays (I (m + 1)) np ns nw d)) (a := m + 2) (b := m + 1) (na := 355) (nb := 355) (i := 0) (j := 0) (by omega) (by decide) (by decide) (by decide) (by decide)
        have eJ : ∀ a, a ≠ m → a ≠ m + 1 → a ≠ m + 2 → J3 a = I8 a := fun a h1 h2 h3 => by rw [t2 a h2, sM_n h2, j2 a h3, u2_a h1]
        have eJm : ∀ k, k ≠ 0 → J3 m k = I m k := fun k h => by rw [t2 m (by omega), sM_n (by omega), j2 m (by omega), u2_k h, e8 m (by omega)]
        have eJ0 : J3 m 0 = 0 := by rw [t2 m (by omega), sM_n (by omega), j2 m (by omega), u2_s]
        have eJ1 : ∀ k, k < 355 → J3 (m + 1) k = I (m + 1) k := fun k hk => by
          have h1 := t3 k hk
          have h2 := j3 k hk
          rw [Nat.zero_add] at h1 h2
          rw [sM_n (by omega), h2, u2_a (by omega), e8 _ (by omega)] at h1
          exact h1
        have hS1 : ST2 I J3 K w m kb gb D := (ST.two.mp S).mk' (by rw [B.1.1, bI_t hL]) (fun a _ _ _ => rfl) rfl (fun a h1 h2 => (eJ a (by omega) (by omega) (by omega)).trans (e8 a (by omega))) eJm (Snap.eqN (N := I (m + 1)) ⟨np, ns, nw, R, G hL⟩ eJ1) S.2.2.1.1.2.1 (Nat.le_refl _)
        have hS := (hS1.fc e8 hB8).fin fun a ha => eJ a (by omega) (by omega) (by omega)
        refine lc_ch (r := .ok (pN (sDays (I (m + 1)) np ns nw d) p 0)) (t := 0) (b := pN (sDays (I (m + 1)) np ns nw d) p 0) (I1 := I8) (I2 := J3) (c_X9_coinsAfter 0 S.lw ?_) Ec0 (fun Kj hM => c_X10_coinsAfter 0 hM ?_) eJ0 (fun v h => by cases h; rfl) (hS.le (Nat.le_add_right _ _))
        · unfold f_X9_coinsAfter
          rw [h_checkPerson B.1.1 (n := np) (fun hL => (B.2 hL).h3), if_pos hL, if_pos hx, e1_ok, h_rng, if_pos hy, e1_ok, c1, b1_so, g1, b2_so, ixn6 (by omega), b1_so, g2.p1 hp]
        · have h9 := r_may (I := I8) (m := m) (a := l = true) (b := l = true ∧ ¬ nI p < 0 ∧ nI p < nI np) (c := ¬ nI d < 0 ∧ ¬ 300 < nI d)
          rw [bI_t (p := l = true ∧ (l = true ∧ ¬ nI p < 0 ∧ nI p < nI np) ∧ ¬ nI d < 0 ∧ ¬ 300 < nI d) ⟨hL, ⟨hL, hx⟩, hy⟩, th3_0 hL ⟨hL, hx⟩ hy] at h9
          have w2 := (r_passesMany (I := J1) (m := m) R.f (d := d) (by omega)).1
          rw [← q1, sM_i, q1] at w2
          have w3 := rfp0 (I := J1) (m := m) (N := sDays (I (m + 1)) np ns nw d) (w := p) (by omega)
          have j1' : f_X10_lays (u2 I8 m 0 0) (m + 1) 355 0 (m + 2) 355 0 = some J1 := j1
          have t1' : f_X10_lays (sM J1 m (sDays (I (m + 1)) np ns nw d)) (m + 2) 355 0 (m + 1) 355 0 = some J3 := t1
          unfold f_X10_coinsAfter f_X10_thinks f_X10_back
          rw [isPerson_c (e8 m (by omega)) (e8 (m + 1) (by omega)), r_isPerson B, b1_so, r_areDays, b1_so, e8 m (by omega), B.1.2, h9, b2_so, if_neg (by decide), j1', b1_so, b1_so, w2, b1_so, w3, b1_so, t1', b1_so, b2_so]
      · refine lc_er (E := eIA) S (c_X9_coinsAfter 0 S.lw (x := .error eIA) ?_) Ec3 (fun Kj hM => c_X10_coinsAfter 0 hM (v := 0) ?_)
        · unfold f_X9_coinsAfter
          rw [h_checkPerson B.1.1 (n := np) (fun hL => (B.2 hL).h3), if_pos hL, if_pos hx, e1_ok, h_rng, if_neg hy, e1_er]
        · unfold f_X10_coinsAfter
          rw [r_isPerson B, b1_so, r_areDays, b1_so, B.1.2, r_may, b2_so, bI_f (fun h => hy h.2.2), if_pos rfl, th3_3 hL ⟨hL, hx⟩ hy]
    · refine lc_er (E := eIX) S (c_X9_coinsAfter 0 S.lw (x := .error eIX) ?_) Ec2 (fun Kj hM => c_X10_coinsAfter 0 hM (v := 0) ?_)
      · unfold f_X9_coinsAfter
        rw [h_checkPerson B.1.1 (n := np) (fun hL => (B.2 hL).h3), if_pos hL, if_neg hx, e1_er]
      · unfold f_X10_coinsAfter
        rw [r_isPerson B, b1_so, r_areDays, b1_so, B.1.2, r_may, b2_so, bI_f (fun h => hx h.2.1.2), if_pos rfl, th3_2 hL (fun h => hx h.2)]
  · refine lc_er (E := eIS) S (c_X9_coinsAfter 0 S.lw (x := .error eIS) ?_) Ec1 (fun Kj hM => c_X10_coinsAfter 0 hM (v := 0) ?_)
    · unfold f_X9_coinsAfter
      rw [h_checkPerson B.1.1 (n := np) (fun hL => (B.2 hL).h3), if_neg hL, e1_er]
    · unfold f_X10_coinsAfter
      rw [r_isPerson B, b1_so, r_areDays, b1_so, B.1.2, r_may, b2_so, bI_f (fun h => hL h.1), if_pos rfl, th3_1 hL]
theorem lc_valueAfter (S : ST I K w m kb gb D) {x y : Int32} : LC (mX9_valueAfter 8) cX9_valueAfter (mX10_valueAfter 10) cX10_valueAfter [eIS, eIX, eIA] [.int x, .int y] I K w m kb gb (D + 300) := by
  obtain ⟨l, np, ns, nw, B, G⟩ := S.br
  have hm := S.lo
  by_cases hL : l = true
  · have R := B.2 hL
    have k1 := R.f.p.2
    have k2 := R.f.s.2
    have k3 := R.f.w.2
    by_cases hx : ¬ x < 0 ∧ x < nI nw
    · obtain ⟨p, rfl, hp⟩ := okI_of hx (by omega)
      by_cases hy : ¬ y < 0 ∧ ¬ 300 < y
      · obtain ⟨d, rfl, hd⟩ := rng_of (a := 0) (b := 300) hy (by decide)
        obtain ⟨I5, c1, c2, c3⟩ := h_copyFrom (I := I) (d := w + 68) (s := w + 37) (Or.inr (by omega)) S.2.2.1.1.2.1
        obtain ⟨g, I8, g1, g2, g3, g4⟩ := h_simulate (c2.rm R) (d := d) (by omega)
        have e8 : ∀ a, (a < w + 68 ∨ w + 98 < a) → I8 a = I a := fun a h => by rw [g3 a (by omega), c3 a (by omega)]
        have hB8 : BM I8 (w + 68) := (c2.bm S.2.2.1.1.2.1).keep g2 g3
        obtain ⟨J1, j1, j2, j3, -⟩ := r_lays (I := u2 I8 m 0 0) (a := m + 1) (b := m + 2) (na := 355) (nb := 355) (i := 0) (j := 0) (by omega) (by decide) (by decide) (by decide) (by decide)
        have q1 : J1 (m + 1) = I (m + 1) := by rw [j2 _ (by omega), u2_a (by omega), e8 _ (by omega)]
        obtain ⟨J3, t1, t2, t3, -⟩ := r_lays (I := sM J1 m (sDays (I (m + 1)) np ns nw d)) (a := m + 2) (b := m + 1) (na := 355) (nb := 355) (i := 0) (j := 0) (by omega) (by decide) (by decide) (by decide) (by decide)
        have eJ : ∀ a, a ≠ m → a ≠ m + 1 → a ≠ m + 2 → J3 a = I8 a := fun a h1 h2 h3 => by rw [t2 a h2, sM_n h2, j2 a h3, u2_a h1]
        have eJm : ∀ k, k ≠ 0 → J3 m k = I m k := fun k h => by rw [t2 m (by omega), sM_n (by omega), j2 m (by omega), u2_k h, e8 m (by omega)]
        have eJ0 : J3 m 0 = 0 := by rw [t2 m (by omega), sM_n (by omega), j2 m (by omega), u2_s]
        have eJ1 : ∀ k, k < 355 → J3 (m + 1) k = I (m + 1) k := fun k hk => by
          have h1 := t3 k hk
          have h2 := j3 k hk
          rw [Nat.zero_add] at h1 h2
          rw [sM_n (by omega), h2, u2_a (by omega), e8 _ (by omega)] at h1
          exact h1
        have hS1 : ST2 I J3 K w m kb gb D := (ST.two.mp S).mk' (by rw [B.1.1, bI_t hL]) (fun a _ _ _ => rfl) rfl (fun a h1 h2 => (eJ a (by omega) (by omega) (by omega)).trans (e8 a (by omega))) eJm (Snap.eqN (N := I (m + 1)) ⟨np, ns, nw, R, G hL⟩ eJ1) S.2.2.1.1.2.1 (Nat.le_refl _)
        have hS := (hS1.fc e8 hB8).fin fun a ha => eJ a (by omega) (by omega) (by omega)
        refine lc_ch (r := .ok (sVal (sDays (I (m + 1)) np ns nw d) p)) (t := 0) (b := sVal (sDays (I (m + 1)) np ns nw d) p) (I1 := I8) (I2 := J3) (c_X9_valueAfter 0 S.lw ?_) Ec0 (fun Kj hM => c_X10_valueAfter 0 hM ?_) eJ0 (fun v h => by cases h; rfl) (hS.le (Nat.le_add_right _ _))
        · unfold f_X9_valueAfter
          rw [h_checkWish B.1.1 (n := nw) (fun hL => (B.2 hL).h5), if_pos hL, if_pos hx, e1_ok, h_rng, if_pos hy, e1_ok, c1, b1_so, g1, b2_so, ixn16 (by omega), b1_so, h_worth g2 hp, b1_so]
        · have h9 := r_may (I := I8) (m := m) (a := l = true) (b := l = true ∧ ¬ nI p < 0 ∧ nI p < nI nw) (c := ¬ nI d < 0 ∧ ¬ 300 < nI d)
          rw [bI_t (p := l = true ∧ (l = true ∧ ¬ nI p < 0 ∧ nI p < nI nw) ∧ ¬ nI d < 0 ∧ ¬ 300 < nI d) ⟨hL, ⟨hL, hx⟩, hy⟩, th3_0 hL ⟨hL, hx⟩ hy] at h9
          have w2 := (r_passesMany (I := J1) (m := m) R.f (d := d) (by omega)).1
          rw [← q1, sM_i, q1] at w2
          have w3 := r_valueOf (I := J1) (m := m) (N := sDays (I (m + 1)) np ns nw d) (w := p) (by omega)
          have j1' : f_X10_lays (u2 I8 m 0 0) (m + 1) 355 0 (m + 2) 355 0 = some J1 := j1
          have t1' : f_X10_lays (sM J1 m (sDays (I (m + 1)) np ns nw d)) (m + 2) 355 0 (m + 1) 355 0 = some J3 := t1
          unfold f_X10_valueAfter f_X10_thinks f_X10_back
          rw [isWish_c (e8 m (by omega)) (e8 (m + 1) (by omega)), r_isWish B, b1_so, r_areDays, b1_so, e8 m (by omega), B.1.2, h9, b2_so, if_neg (by decide), j1', b1_so, b1_so, w2, b1_so, w3, b1_so, t1', b1_so, b2_so]
      · refine lc_er (E := eIA) S (c_X9_valueAfter 0 S.lw (x := .error eIA) ?_) Ec3 (fun Kj hM => c_X10_valueAfter 0 hM (v := 0) ?_)
        · unfold f_X9_valueAfter
          rw [h_checkWish B.1.1 (n := nw) (fun hL => (B.2 hL).h5), if_pos hL, if_pos hx, e1_ok, h_rng, if_neg hy, e1_er]
        · unfold f_X10_valueAfter
          rw [r_isWish B, b1_so, r_areDays, b1_so, B.1.2, r_may, b2_so, bI_f (fun h => hy h.2.2), if_pos rfl, th3_3 hL ⟨hL, hx⟩ hy]
    · refine lc_er (E := eIX) S (c_X9_valueAfter 0 S.lw (x := .error eIX) ?_) Ec2 (fun Kj hM => c_X10_valueAfter 0 hM (v := 0) ?_)
      · unfold f_X9_valueAfter
        rw [h_checkWish B.1.1 (n := nw) (fun hL => (B.2 hL).h5), if_pos hL, if_neg hx, e1_er]
      · unfold f_X10_valueAfter
        rw [r_isWish B, b1_so, r_areDays, b1_so, B.1.2, r_may, b2_so, bI_f (fun h => hx h.2.1.2), if_pos rfl, th3_2 hL (fun h => hx h.2)]
  · refine lc_er (E := eIS) S (c_X9_valueAfter 0 S.lw (x := .error eIS) ?_) Ec1 (fun Kj hM => c_X10_valueAfter 0 hM (v := 0) ?_)
    · unfold f_X9_valueAfter
      rw [h_checkWish B.1.1 (n := nw) (fun hL => (B.2 hL).h5), if_neg hL, e1_er]
    · unfold f_X10_valueAfter
      rw [r_isWish B, b1_so, r_areDays, b1_so, B.1.2, r_may, b2_so, bI_f (fun h => hL h.1), if_pos rfl, th3_1 hL]
end FC
