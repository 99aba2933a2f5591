/-! the reference's copies -/
section RL
variable {I : Mem} {m : Nat}
theorem r_lays {a b na nb i j : Nat} (hab : a ≠ b) (hi : i + 355 ≤ na) (hna : na < 2147483648) (hj : j + 355 ≤ nb) (hnb : nb < 2147483648) : ∃ I', f_X10_lays I a na (nI i) b nb (nI j) = some I' ∧ (∀ c, c ≠ b → I' c = I c) ∧ (∀ k, k < 355 → I' b (j + k) = I a (i + k)) ∧ ∀ k, (k < j ∨ j + 355 ≤ k) → I' b k = I b k := by
  have hX := ex_loop (fun f (z : Mem × Int32) => l_X10_lays_3 f z.1 a na (nI i) b nb (nI j) z.2)
    (fun t z => z.2 = nI t ∧ (∀ c, c ≠ b → z.1 c = I c) ∧ (∀ k, k < t → z.1 b (j + k) = I a (i + k)) ∧ ∀ k, (k < j ∨ j + t ≤ k) → z.1 b k = I b k) 355
    (fun v => ∃ I', v = some I' ∧ (∀ c, c ≠ b → I' c = I c) ∧ (∀ k, k < 355 → I' b (j + k) = I a (i + k)) ∧ ∀ k, (k < j ∨ j + 355 ≤ k) → I' b k = I b k)
    (fun t ht z hz => ?_) (fun z hz => ?_) (FU_up (n := 355) (by decide)) (I, 0) ⟨rfl, fun _ _ => rfl, fun k hk => absurd hk (Nat.not_lt_zero _), fun _ _ => rfl⟩
  · obtain ⟨v, ⟨I', rfl, h1, h2⟩, h4⟩ := hX
    exact ⟨I', h4, h1, h2⟩
  · obtain ⟨J, x⟩ := z
    obtain ⟨e, h1, h2, h3⟩ := hz
    dsimp only at e h1 h2 h3
    subst e
    refine ⟨(u2 J b (j + t) (J a (i + t)), nI (t + 1)), ⟨rfl, fun c hc => ?_, fun k hk => ?_, fun k hk => ?_⟩, fun f => ?_⟩
    · dsimp only
      rw [u2_a hc, h1 c hc]
    · dsimp only
      by_cases h : k = t
      · subst h; rw [u2_s, h1 a hab]
      · rw [u2_k (by omega), h2 k (by omega)]
    · dsimp only
      rw [u2_k (by omega), h3 k (by omega)]
    · have e1 : ((355 : Int32) ≤ nI t) = False := nJ_ef (b := t) (a := 355) ht (by decide)
      have e2 : ix (nI i + nI t) na = some (i + t) := ixN na (nI_add i t) (by omega) hna
      have e3 : ix (nI j + nI t) nb = some (j + t) := ixN nb (nI_add j t) (by omega) hnb
      simp (disch := omega) only [l_X10_lays_3, e1, e2, e3, pu_so, b1_so, b2_so, b3_so, e1_ok, e1_er, e2_ok, e2_er, e3_ok, e3_er, bI_so, bI_so', bI_0, bI_1, cB_bI, nI_s1, nJ_et, nJ_ef, nJ_lt, nJ_lf, pu_sM, sM_s, if_true, if_false, ite_self, Nat.lt_irrefl, Int32.zero_add, Int32.add_zero, not_true_eq_false, not_false_eq_true, rfw0, rfw1, rfw2, rfw3, rfw4, rfw5, rfw6, rfw7, rfp0, rfp1, rfp2, rfp3, rfp4, rfp5, rfp6, rfs0, rfs1, rfs2, rfs3, rwp0, rwp1, rwp2, rwp3, rwp4, rwp5, rwp6, rwp7, rpp0, rpp1, rpp2, rpp3, rpp4, rpp5, rpp6, rsp0, rsp1, rsp2, rsp3, ixn16, ixn6, ixn5]
  · obtain ⟨J, x⟩ := z
    obtain ⟨e, h1, h2, h3⟩ := hz
    dsimp only at e h1 h2 h3
    subst e
    refine ⟨_, ⟨J, rfl, h1, h2, h3⟩, fun f => ?_⟩
    have e1 : ((355 : Int32) ≤ nI 355) = True := eq_true (by decide)
    simp (disch := omega) only [l_X10_lays_3, e1, b1_so, b2_so, b3_so, e1_ok, e1_er, e2_ok, e2_er, e3_ok, e3_er, bI_so, bI_so', bI_0, bI_1, cB_bI, nI_s1, nJ_et, nJ_ef, nJ_lt, nJ_lf, pu_sM, sM_s, if_true, if_false, ite_self, Nat.lt_irrefl, Int32.zero_add, Int32.add_zero, not_true_eq_false, not_false_eq_true, rfw0, rfw1, rfw2, rfw3, rfw4, rfw5, rfw6, rfw7, rfp0, rfp1, rfp2, rfp3, rfp4, rfp5, rfp6, rfs0, rfs1, rfs2, rfs3, rwp0, rwp1, rwp2, rwp3, rwp4, rwp5, rwp6, rwp7, rpp0, rpp1, rpp2, rpp3, rpp4, rpp5, rpp6, rsp0, rsp1, rsp2, rsp3, ixn16, ixn6, ixn5]
theorem r_shift (hm : (I m 7) = nI 8) : ∃ I', l_X10_remembers_11 FU I m 0 = l_X10_remembers_50 I' m ∧ (∀ c, c ≠ m → c ≠ m + 3 → I' c = I c) ∧ (∀ k, k ≠ 7 → I' m k = I m k) ∧ I' m 7 = nI 7 ∧ ∀ k, k < 2485 → I' (m + 3) k = I (m + 3) (k + 355) := by
  have hX := ex_loop (fun f (z : Mem × Int32) => l_X10_remembers_11 f z.1 m z.2)
    (fun t z => z.2 = nI t ∧ (∀ c, c ≠ m + 3 → z.1 c = I c) ∧ (∀ k, k < t → z.1 (m + 3) k = I (m + 3) (k + 355)) ∧ ∀ k, t ≤ k → z.1 (m + 3) k = I (m + 3) k) 2485
    (fun v => ∃ I', v = l_X10_remembers_50 I' m ∧ (∀ c, c ≠ m → c ≠ m + 3 → I' c = I c) ∧ (∀ k, k ≠ 7 → I' m k = I m k) ∧ I' m 7 = nI 7 ∧ ∀ k, k < 2485 → I' (m + 3) k = I (m + 3) (k + 355))
    (fun t ht z hz => ?_) (fun z hz => ?_) (FU_up (n := 2485) (by decide)) (I, 0) ⟨rfl, fun _ _ => rfl, fun k hk => absurd hk (Nat.not_lt_zero _), fun _ _ => rfl⟩
  · obtain ⟨v, ⟨I', rfl, h1, h2⟩, h4⟩ := hX
    exact ⟨I', h4, h1, h2⟩
  · obtain ⟨J, x⟩ := z
    obtain ⟨e, h1, h2, h3⟩ := hz
    dsimp only at e h1 h2 h3
    subst e
    refine ⟨(u2 J (m + 3) t (J (m + 3) (t + 355)), nI (t + 1)), ⟨rfl, fun c hc => ?_, fun k hk => ?_, fun k hk => ?_⟩, fun f => ?_⟩
    · dsimp only
      rw [u2_a hc, h1 c hc]
    · dsimp only
      by_cases h : k = t
      · subst h; rw [u2_s, h3 _ (by omega)]
      · rw [u2_k h, h2 k (by omega)]
    · dsimp only
      rw [u2_k (by omega), h3 k (by omega)]
    · have e1 : ((2485 : Int32) ≤ nI t) = False := nJ_ef (b := t) (a := 2485) ht (by decide)
      have e2 : ix (nI t + 355) 2840 = some (t + 355) := ixN 2840 (nI_add t 355) (by omega) (by decide)
      have e3 : ix (nI t) 2840 = some t := ixN 2840 rfl (by omega) (by decide)
      simp (disch := omega) only [l_X10_remembers_11, e1, e2, e3, pu_so, b1_so, b2_so, b3_so, e1_ok, e1_er, e2_ok, e2_er, e3_ok, e3_er, bI_so, bI_so', bI_0, bI_1, cB_bI, nI_s1, nJ_et, nJ_ef, nJ_lt, nJ_lf, pu_sM, sM_s, if_true, if_false, ite_self, Nat.lt_irrefl, Int32.zero_add, Int32.add_zero, not_true_eq_false, not_false_eq_true, rfw0, rfw1, rfw2, rfw3, rfw4, rfw5, rfw6, rfw7, rfp0, rfp1, rfp2, rfp3, rfp4, rfp5, rfp6, rfs0, rfs1, rfs2, rfs3, rwp0, rwp1, rwp2, rwp3, rwp4, rwp5, rwp6, rwp7, rpp0, rpp1, rpp2, rpp3, rpp4, rpp5, rpp6, rsp0, rsp1, rsp2, rsp3, ixn16, ixn6, ixn5]
  · obtain ⟨J, x⟩ := z
    obtain ⟨e, h1, h2, h3⟩ := hz
    dsimp only at e h1 h2 h3
    subst e
    have e7 : J m 7 = nI 8 := by rw [h1 m (by omega), hm]
    refine ⟨_, ⟨u2 J m 7 (nI 8 - 1), rfl, fun c hc hc3 => ?_, fun k hk => ?_, ?_, fun k hk => ?_⟩, fun f => ?_⟩
    · rw [u2_a hc, h1 c hc3]
    · rw [u2_k hk, h1 m (by omega)]
    · rw [u2_s]; rfl
    · rw [u2_a (by omega), h2 k hk]
    · have e1 : ((2485 : Int32) ≤ nI 2485) = True := eq_true (by decide)
      simp (disch := omega) only [l_X10_remembers_11, e1, pu_so, e7, b1_so, b2_so, b3_so, e1_ok, e1_er, e2_ok, e2_er, e3_ok, e3_er, bI_so, bI_so', bI_0, bI_1, cB_bI, nI_s1, nJ_et, nJ_ef, nJ_lt, nJ_lf, pu_sM, sM_s, if_true, if_false, ite_self, Nat.lt_irrefl, Int32.zero_add, Int32.add_zero, not_true_eq_false, not_false_eq_true, rfw0, rfw1, rfw2, rfw3, rfw4, rfw5, rfw6, rfw7, rfp0, rfp1, rfp2, rfp3, rfp4, rfp5, rfp6, rfs0, rfs1, rfs2, rfs3, rwp0, rwp1, rwp2, rwp3, rwp4, rwp5, rwp6, rwp7, rpp0, rpp1, rpp2, rpp3, rpp4, rpp5, rpp6, rsp0, rsp1, rsp2, rsp3, ixn16, ixn6, ixn5]
theorem r_rem50 {u : Nat} (hu : I m 7 = nI u) (h8 : u < 8) : ∃ I', l_X10_remembers_50 I m = some I' ∧ (∀ c, c ≠ m → c ≠ m + 3 → I' c = I c) ∧ (∀ k, k ≠ 7 → I' m k = I m k) ∧ I' m 7 = nI (u + 1) ∧ (∀ k, k < 355 → I' (m + 3) (355 * u + k) = I (m + 1) k) ∧ ∀ k, k < 355 * u → I' (m + 3) k = I (m + 3) k := by
  obtain ⟨J, h1, h2, h3, h4⟩ := r_lays (I := I) (a := m + 1) (b := m + 3) (na := 355) (nb := 2840) (i := 0) (j := 355 * u) (by omega) (by decide) (by decide) (by omega) (by decide)
  have e7 : J m 7 = nI u := by rw [h2 m (by omega), hu]
  have em : nI u * 355 = nI (355 * u) := by
    rw [show (355 : Int32) = nI 355 from rfl, pk_mul, Nat.mul_comm]
  have h1' : f_X10_lays I (m + 1) 355 0 (m + 3) 2840 (nI (355 * u)) = some J := h1
  refine ⟨u2 J m 7 (nI (u + 1)), ?_, fun c hc hc3 => ?_, fun k hk => ?_, u2_s, fun k hk => ?_, fun k hk => ?_⟩
  · simp (disch := omega) only [l_X10_remembers_50, hu, em, h1', e7, pu_so, b1_so, b2_so, b3_so, e1_ok, e1_er, e2_ok, e2_er, e3_ok, e3_er, bI_so, bI_so', bI_0, bI_1, cB_bI, nI_s1, nJ_et, nJ_ef, nJ_lt, nJ_lf, pu_sM, sM_s, if_true, if_false, ite_self, Nat.lt_irrefl, Int32.zero_add, Int32.add_zero, not_true_eq_false, not_false_eq_true, rfw0, rfw1, rfw2, rfw3, rfw4, rfw5, rfw6, rfw7, rfp0, rfp1, rfp2, rfp3, rfp4, rfp5, rfp6, rfs0, rfs1, rfs2, rfs3, rwp0, rwp1, rwp2, rwp3, rwp4, rwp5, rwp6, rwp7, rpp0, rpp1, rpp2, rpp3, rpp4, rpp5, rpp6, rsp0, rsp1, rsp2, rsp3, ixn16, ixn6, ixn5]
  · rw [u2_a hc, h2 c hc3]
  · rw [u2_k hk, h2 m (by omega)]
  · rw [u2_a (by omega), h3 k hk, Nat.zero_add]
  · rw [u2_a (by omega), h4 k (by omega)]
/-- what the reference remembers: the oldest of eight falls -/
theorem r_remembers {u : Nat} (hu : I m 7 = nI u) (h8 : u ≤ 8) : ∃ I' u', f_X10_remembers I m = some I' ∧ (∀ c, c ≠ m → c ≠ m + 3 → I' c = I c) ∧ (∀ k, k ≠ 7 → I' m k = I m k) ∧ I' m 7 = nI (u' + 1) ∧ (∀ k, k < 355 → I' (m + 3) (355 * u' + k) = I (m + 1) k) ∧ ((u < 8 ∧ u' = u ∧ ∀ j k, j < u → k < 355 → I' (m + 3) (355 * j + k) = I (m + 3) (355 * j + k)) ∨ (u = 8 ∧ u' = 7 ∧ ∀ j k, j < 7 → k < 355 → I' (m + 3) (355 * j + k) = I (m + 3) (355 * (j + 1) + k))) := by
  by_cases h : u = 8
  · subst h
    obtain ⟨J, h1, h2, h3, h4, h5⟩ := r_shift hu
    obtain ⟨J2, k1, k2, k3, k4, k5, k6⟩ := r_rem50 h4 (by decide)
    refine ⟨J2, 7, ?_, fun c hc hc3 => (k2 c hc hc3).trans (h2 c hc hc3), fun k hk => (k3 k hk).trans (h3 k hk), k4, fun k hk => by rw [k5 k hk, h2 _ (by omega) (by omega)], Or.inr ⟨rfl, rfl, fun j k hj hk => ?_⟩⟩
    · have e8 : (nI 8 = 8) = True := eq_true rfl
      simp (disch := omega) only [f_X10_remembers, hu, e8, h1, k1, b1_so, b2_so, b3_so, e1_ok, e1_er, e2_ok, e2_er, e3_ok, e3_er, bI_so, bI_so', bI_0, bI_1, cB_bI, nI_s1, nJ_et, nJ_ef, nJ_lt, nJ_lf, pu_sM, sM_s, if_true, if_false, ite_self, Nat.lt_irrefl, Int32.zero_add, Int32.add_zero, not_true_eq_false, not_false_eq_true, rfw0, rfw1, rfw2, rfw3, rfw4, rfw5, rfw6, rfw7, rfp0, rfp1, rfp2, rfp3, rfp4, rfp5, rfp6, rfs0, rfs1, rfs2, rfs3, rwp0, rwp1, rwp2, rwp3, rwp4, rwp5, rwp6, rwp7, rpp0, rpp1, rpp2, rpp3, rpp4, rpp5, rpp6, rsp0, rsp1, rsp2, rsp3, ixn16, ixn6, ixn5]
    · rw [k6 _ (by omega), h5 _ (by omega)]
      congr 1
      omega
  · obtain ⟨J2, k1, k2, k3, k4, k5, k6⟩ := r_rem50 hu (show u < 8 by omega)
    refine ⟨J2, u, ?_, k2, k3, k4, k5, Or.inl ⟨by omega, rfl, fun j k hj hk => k6 _ ?_⟩⟩
    · have e8 : (nI u = 8) = False := by
        rw [show (8 : Int32) = nI 8 from rfl, nJ_i (by omega) (by decide)]
        exact eq_false h
      simp (disch := omega) only [f_X10_remembers, hu, e8, k1, b1_so, b2_so, b3_so, e1_ok, e1_er, e2_ok, e2_er, e3_ok, e3_er, bI_so, bI_so', bI_0, bI_1, cB_bI, nI_s1, nJ_et, nJ_ef, nJ_lt, nJ_lf, pu_sM, sM_s, if_true, if_false, ite_self, Nat.lt_irrefl, Int32.zero_add, Int32.add_zero, not_true_eq_false, not_false_eq_true, rfw0, rfw1, rfw2, rfw3, rfw4, rfw5, rfw6, rfw7, rfp0, rfp1, rfp2, rfp3, rfp4, rfp5, rfp6, rfs0, rfs1, rfs2, rfs3, rwp0, rwp1, rwp2, rwp3, rwp4, rwp5, rwp6, rwp7, rpp0, rpp1, rpp2, rpp3, rpp4, rpp5, rpp6, rsp0, rsp1, rsp2, rsp3, ixn16, ixn6, ixn5]
    · have : 355 * (j + 1) ≤ 355 * u := Nat.mul_le_mul_left 355 (by omega)
      omega
end RL
