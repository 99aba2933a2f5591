/-! days pass -/
section AD
variable {I : Mem} {K : Kt} {w m kb gb D : Nat}
theorem lc_advance (S : ST I K w m kb gb D) {x : Int32} : LC (mX9_advance 7) cX9_advance (mX10_advance 10) cX10_advance [eIS, eIA] [.int x] I K w m kb gb (D + 300) := by
  obtain ⟨l, np, ns, nw, B, G⟩ := S.br
  by_cases hL : l = true
  · have R := B.2 hL
    have k1 := R.f.p.2
    have k2 := R.f.s.2
    have k3 := R.f.w.2
    by_cases hy : ¬ x < 1 ∧ ¬ 300 < x
    · obtain ⟨d, rfl, hd⟩ := rng_of (a := 1) (b := 300) hy (by decide)
      obtain ⟨I6, c1, c2, c3, c4⟩ := S.chg (by rw [B.1.1, bI_t hL])
      have R6 : RM I6 (w + 37) (I (m + 1)) np ns nw := R.fr fun a _ _ => c2 a (by omega) (by omega)
      obtain ⟨g, I8, g1, g2, g3, g4⟩ := h_simulate R6 (d := d) (by omega)
      obtain ⟨e0, e1', J1, d1, d2, d3, d4⟩ := c4 I8 (fun a h => g3 a (by omega)) (c3.keep g2 g3)
      obtain ⟨z1, z2⟩ := d4 _ (D + 300) ⟨np, ns, nw, g2, ((G hL).days R.f d).le (by omega)⟩ (Nat.le_add_right _ _)
      refine lc_ch (r := .ok (nI g)) (b := nI g) (c_X9_advance 0 S.lw (I9 := I8) ?_) Ec0 (fun Kj hM => c_X10_advance 0 hM ?_) z1 (fun v h => by cases h; rfl) z2
      · unfold f_X9_advance
        rw [h_loaded B.1.1, if_pos hL, e1_ok, ckE_n, b1_so, h_rng, if_pos hy, e1_ok, c1, b1_so, g1, b2_so]
      · have h9 := r_mayTwo (I := I8) (m := m) (a := l = true) (b := ¬ nI d < 1 ∧ ¬ 300 < nI d)
        rw [bI_t (p := l = true ∧ ¬ nI d < 1 ∧ ¬ 300 < nI d) ⟨hL, hy⟩, th_0 hL hy] at h9
        have w1 := r_wishesIn (I := J1) (m := m) R.f (x := 2)
        have w2 := (r_passesMany (I := J1) (m := m) R.f (d := d) (by omega)).1
        have w3 := r_wishesIn (I := J1) (m := m) (R.f.days d) (x := 2)
        rw [← d2, sM_i, d2] at w1 w2
        have e9 : nI (sCnt (fun w => wN (sDays (I (m + 1)) np ns nw d) w 3 = 2) nw) - nI (sCnt (fun w => wN (I (m + 1)) w 3 = 2) nw) = nI g := by
          have : sCnt (fun w => wN (sDays (I (m + 1)) np ns nw d) w 3 = 2) nw = sCnt (fun w => wN (I (m + 1)) w 3 = 2) nw + g := g4
          rw [this, pk_sub (by omega)]
          exact congrArg nI (by omega)
        unfold f_X10_advance
        rw [r_in, b1_so, e0, B.1.2, h9, b2_so, if_neg (by decide), d1, b1_so, w1, b1_so, w2, b1_so, w3, b1_so, e9]
    · refine lc_er (E := eIA) S (c_X9_advance 0 S.lw (x := .error eIA) ?_) Ec2 (fun Kj hM => c_X10_advance 0 hM (v := 0) ?_)
      · unfold f_X9_advance
        rw [h_loaded B.1.1, if_pos hL, e1_ok, ckE_n, b1_so, h_rng, if_neg hy, e1_er]
      · unfold f_X10_advance
        rw [r_in, b1_so, B.1.2, r_mayTwo, b2_so, bI_f (fun h => hy h.2), if_pos rfl, th_2 hL hy]
  · refine lc_er (E := eIS) S (c_X9_advance 0 S.lw (x := .error eIS) ?_) Ec1 (fun Kj hM => c_X10_advance 0 hM (v := 0) ?_)
    · unfold f_X9_advance
      rw [h_loaded B.1.1, if_neg hL, e1_er]
    · unfold f_X10_advance
      rw [r_in, b1_so, B.1.2, r_mayTwo, b2_so, bI_f (fun h => hL h.1), if_pos rfl, th_1 hL]
end AD
