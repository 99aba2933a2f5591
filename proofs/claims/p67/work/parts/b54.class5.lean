/-! the class's days -/
theorem ex_loop {σ ρ : Type} (l : Nat → σ → Option ρ) (V : Nat → σ → Prop) (n : Nat) (r : Option ρ → Prop) (hs : ∀ i, i < n → ∀ s, V i s → ∃ s', V (i + 1) s' ∧ ∀ f, l (f + 1) s = l f s') (hx : ∀ s, V n s → ∃ v, r v ∧ ∀ f, l (f + 1) s = v) {F : Nat} (hF : n < F) : ∀ s, V 0 s → ∃ v, r v ∧ l F s = v := by
  have key : ∀ k, k ≤ n → ∀ f s, V (n - k) s → ∃ v, r v ∧ l (k + f + 1) s = v := by
    intro k
    induction k with
    | zero =>
      intro _ f s hv
      obtain ⟨v, h1, h2⟩ := hx s hv
      exact ⟨v, h1, by rw [Nat.zero_add]; exact h2 f⟩
    | succ k ih =>
      intro hk f s hv
      obtain ⟨s', h1, h2⟩ := hs (n - (k + 1)) (by omega) s hv
      rw [show n - (k + 1) + 1 = n - k by omega] at h1
      obtain ⟨v, h3, h4⟩ := ih (by omega) f s' h1
      exact ⟨v, h3, by rw [show k + 1 + f + 1 = (k + f + 1) + 1 by omega, h2, h4]⟩
  intro s hv
  have h2 := key n (Nat.le_refl n) (F - n - 1) s (by rw [Nat.sub_self]; exact hv)
  rw [show n + (F - n - 1) + 1 = F by omega] at h2
  exact h2
section CE
variable {I : Mem} {q np ns nw : Nat} {N : Nat → Int32}
/-- how many are granted -/
def sGrN (N : Nat → Int32) (nw : Nat) : Nat := sCnt (fun w => wN N w 3 = 2) nw
theorem sCnt_p1 {P Q : Nat → Prop} [DecidablePred P] [DecidablePred Q] {w : Nat} : ∀ {n : Nat}, w < n → (∀ i, i < n → i ≠ w → (P i ↔ Q i)) → ¬ P w → Q w → sCnt Q n = sCnt P n + 1
  | 0, h, _, _, _ => absurd h (Nat.not_lt_zero _)
  | n + 1, h, h1, h2, h3 => by
    by_cases e : n = w
    · subst e
      have := sCnt_eq (P := P) (Q := Q) (n := n) (fun i hi => h1 i (by omega) (by omega))
      unfold sCnt
      rw [if_neg h2, if_pos h3, this]
    · have := sCnt_p1 (P := P) (Q := Q) (w := w) (n := n) (by omega) (fun i hi => h1 i (by omega)) h2 h3
      have h4 := h1 n (by omega) e
      unfold sCnt
      by_cases hp : P n
      · rw [if_pos hp, if_pos (h4.mp hp), this]
      · rw [if_neg hp, if_neg (fun hq => hp (h4.mpr hq)), this]
theorem g_upd {j : Nat} {x : Int32} (h : j < 115 ∨ ∃ w k, j = 115 + 15 * w + k ∧ k < 15 ∧ k ≠ 3) : sGrN (upd N j x) nw = sGrN N nw := sCnt_eq (fun i hi => by
  rw [wN_n (by rcases h with h | ⟨w, k, h, h1, h2⟩ <;> omega)])
theorem g_pay {s p : Nat} {c : Int32} (hs : s < 5) (hp : p < 6) : sGrN (sPay N s p c) nw = sGrN N nw := sCnt_eq (fun i hi => by rw [wN_pay hs hp])
theorem mv_o {w i : Nat} {h a x y z : Int32} (e : i ≠ w) : wN (sMv N w h a x y z) i 3 = wN N i 3 := by
  unfold sMv
  rw [wN_n (by omega), wN_n (by omega), wN_n (by omega), wN_n (by omega), wN_n (by omega)]
theorem mv_3 {w : Nat} {h a x y z : Int32} : wN (sMv N w h a x y z) w 3 = h := by
  unfold sMv
  rw [wN_n (by omega), wN_n (by omega), wN_n (by omega), wN_n (by omega), wN_w]
theorem g_mv {w : Nat} {h a x y z : Int32} (h1 : ¬ h = 2) (h2 : ¬ wN N w 3 = 2) : sGrN (sMv N w h a x y z) nw = sGrN N nw := sCnt_eq (fun i hi => by
  by_cases e : i = w
  · subst e; rw [mv_3]; exact ⟨fun g => absurd g h1, fun g => absurd g h2⟩
  · rw [mv_o e])
theorem g_gr (H : WF N np ns nw) {w : Nat} (hw : w < nw) (h3 : wN N w 3 = 1) : sGrN (sGr N w) nw = sGrN N nw + 1 := by
  obtain ⟨h1, h2⟩ := H.a1 hw h3
  have b1 := H.p.2
  have b3 := H.w.2
  unfold sGr
  rw [sGo_mv]
  refine sCnt_p1 hw (fun i hi e => ?_) ?_ mv_3
  · rw [mv_o e, wN_n (by omega)]
  · rw [h3]; decide
theorem ne2 {x : Int32} (h : x = 0 ∨ x = 1) : ¬ x = 2 := by rcases h with rfl | rfl <;> decide
theorem h_celebrate (R : RM I q N np ns nw) : ∃ g I', f_X3_celebrate I q = some (nI g, I') ∧ RM I' q (sIt (fun p N => sCel N nw p) np N) np ns nw ∧ Fr I I' q np nw ∧ sGrN (sIt (fun p N => sCel N nw p) np N) nw = sGrN N nw + g := by
  have b1 := R.f.p.2
  have b3 := R.f.w.2
  have hX := ex_loop (fun f (z : Mem × Int32 × Int32) => l_X3_celebrate_4 f z.1 q z.2.1 z.2.2)
    (fun i z => z.2.2 = nI i ∧ RM z.1 q (sIt (fun p N => sCel N nw p) i N) np ns nw ∧ Fr I z.1 q np nw ∧ ∃ g, z.2.1 = nI g ∧ sGrN (sIt (fun p N => sCel N nw p) i N) nw = sGrN N nw + g) np
    (fun v => ∃ g I', v = some (nI g, I') ∧ RM I' q (sIt (fun p N => sCel N nw p) np N) np ns nw ∧ Fr I I' q np nw ∧ sGrN (sIt (fun p N => sCel N nw p) np N) nw = sGrN N nw + g)
    (fun i hi z hz => ?_) (fun z hz => ?_) (FU_up (n := np) (by omega)) (I, 0, 0) ⟨rfl, R, Fr.refl, 0, rfl, rfl⟩
  · obtain ⟨v, ⟨g, I', rfl, h1, h2, h3⟩, h4⟩ := hX
    exact ⟨g, I', h4, h1, h2, h3⟩
  · obtain ⟨J, x1, x2⟩ := z
    obtain ⟨e2, RJ, hf, g, e1, hg⟩ := hz
    dsimp only at e1 e2 RJ hf
    subst e1
    subst e2
    have eI : sIt (fun p N => sCel N nw p) (i + 1) N = sCel (sIt (fun p N => sCel N nw p) i N) nw i := rfl
    rw [eI]
    generalize sIt (fun p N => sCel N nw p) i N = M at RJ hg ⊢
    by_cases h1 : pN M i 1 = sDay M
    · have R1 : RM (u2 J (q + 4 + i) 3 (pN M i 2 + 1)) q (upd M (11 + 14 * i + 2) (pN M i 2 + 1)) np ns nw := RJ.pu (k := 2) (x := pN M i 2 + 1) hi (by decide)
      have eg : sGrN (upd M (11 + 14 * i + 2) (pN M i 2 + 1)) nw = sGrN M nw := g_upd (Or.inl (by omega))
      have f1 : Fr I (u2 J (q + 4 + i) 3 (pN M i 2 + 1)) q np nw := hf.trans (Fr.u (by omega))
      have e6 : u2 J (q + 4 + i) 3 (pN M i 2 + 1) (q + 4 + i) 6 = pN M i 5 := by rw [u2_k (by decide)]; exact RJ.p6 hi
      unfold sCel
      rw [if_pos h1]
      rcases (RJ.f.2.2.2.2.2 i hi).2.1 with h5 | h5
      · rw [if_neg (by rw [h5]; decide)]
        refine ⟨(u2 J (q + 4 + i) 3 (pN M i 2 + 1), nI g, nI (i + 1)), ⟨rfl, R1, f1, g, rfl, eg.trans hg⟩, fun f => ?_⟩
        simp (disch := omega) only [l_X3_celebrate_4, RJ.h3, RJ.p2 hi, h_today RJ, h1, RJ.p3 hi, pu_so, e6, h5, l_X3_celebrate_64, b1_so, b2_so, b3_so, e1_ok, e1_er, e2_ok, e2_er, e3_ok, e3_er, bI_so, bI_so', bI_0, bI_1, cB_bI, nI_s1, nJ_et, nJ_ef, nJ_lt, nJ_lf, pu_sM, sM_s, if_true, if_false, ite_self, Nat.lt_irrefl, Int32.zero_add, Int32.add_zero, not_true_eq_false, not_false_eq_true, rfw0, rfw1, rfw2, rfw3, rfw4, rfw5, rfw6, rfw7, rfp0, rfp1, rfp2, rfp3, rfp4, rfp5, rfp6, rfs0, rfs1, rfs2, rfs3, rwp0, rwp1, rwp2, rwp3, rwp4, rwp5, rwp6, rwp7, rpp0, rpp1, rpp2, rpp3, rpp4, rpp5, rpp6, rsp0, rsp1, rsp2, rsp3, ixn16, ixn6, ixn5]
      · rw [if_pos h5]
        have hb := h_bestGrant R1 (p := i) (by omega)
        have i10' : ((1 : Int32) = 0) = False := by decide
        cases hz : sGreat (upd M (11 + 14 * i + 2) (pN M i 2 + 1)) nw i with
        | none =>
          rw [hz] at hb
          refine ⟨(u2 J (q + 4 + i) 3 (pN M i 2 + 1), nI g, nI (i + 1)), ⟨rfl, R1, f1, g, rfl, eg.trans hg⟩, fun f => ?_⟩
          simp (disch := omega) only [l_X3_celebrate_4, RJ.h3, RJ.p2 hi, h_today RJ, h1, RJ.p3 hi, pu_so, e6, h5, i10', show f_X3_bestGrantFor (u2 J (q + 4 + i) 3 (pN M i 2 + 1)) q (nI i) = some (oI none) from hb, oI, l_X3_celebrate_64, b1_so, b2_so, b3_so, e1_ok, e1_er, e2_ok, e2_er, e3_ok, e3_er, bI_so, bI_so', bI_0, bI_1, cB_bI, nI_s1, nJ_et, nJ_ef, nJ_lt, nJ_lf, pu_sM, sM_s, if_true, if_false, ite_self, Nat.lt_irrefl, Int32.zero_add, Int32.add_zero, not_true_eq_false, not_false_eq_true, rfw0, rfw1, rfw2, rfw3, rfw4, rfw5, rfw6, rfw7, rfp0, rfp1, rfp2, rfp3, rfp4, rfp5, rfp6, rfs0, rfs1, rfs2, rfs3, rwp0, rwp1, rwp2, rwp3, rwp4, rwp5, rwp6, rwp7, rpp0, rpp1, rpp2, rpp3, rpp4, rpp5, rpp6, rsp0, rsp1, rsp2, rsp3, ixn16, ixn6, ixn5]
        | some w =>
          rw [hz] at hb
          obtain ⟨g1, g2⟩ := sBest_in hz
          obtain ⟨J2, k1, k2, k3⟩ := h_grants R1 g1 g2.1.1
          refine ⟨(J2, nI (g + 1), nI (i + 1)), ⟨rfl, k2, f1.trans k3, g + 1, rfl, ?_⟩, fun f => ?_⟩
          · dsimp only
            rw [g_gr R1.f g1 g2.1.1, eg, hg]; omega
          · simp (disch := omega) only [l_X3_celebrate_4, RJ.h3, RJ.p2 hi, h_today RJ, h1, RJ.p3 hi, pu_so, e6, h5, i10', show f_X3_bestGrantFor (u2 J (q + 4 + i) 3 (pN M i 2 + 1)) q (nI i) = some (oI (some w)) from hb, oI, oI_n, l_X3_celebrate_64, show f_X3_carryOutGrant (u2 J (q + 4 + i) 3 (pN M i 2 + 1)) q (nI w) = _ from k1, b1_so, b2_so, b3_so, e1_ok, e1_er, e2_ok, e2_er, e3_ok, e3_er, bI_so, bI_so', bI_0, bI_1, cB_bI, nI_s1, nJ_et, nJ_ef, nJ_lt, nJ_lf, pu_sM, sM_s, if_true, if_false, ite_self, Nat.lt_irrefl, Int32.zero_add, Int32.add_zero, not_true_eq_false, not_false_eq_true, rfw0, rfw1, rfw2, rfw3, rfw4, rfw5, rfw6, rfw7, rfp0, rfp1, rfp2, rfp3, rfp4, rfp5, rfp6, rfs0, rfs1, rfs2, rfs3, rwp0, rwp1, rwp2, rwp3, rwp4, rwp5, rwp6, rwp7, rpp0, rpp1, rpp2, rpp3, rpp4, rpp5, rpp6, rsp0, rsp1, rsp2, rsp3, ixn16, ixn6, ixn5]
    · have e0 : sCel M nw i = M := if_neg h1
      rw [e0]
      refine ⟨(J, nI g, nI (i + 1)), ⟨rfl, RJ, hf, g, rfl, hg⟩, fun f => ?_⟩
      simp (disch := omega) only [l_X3_celebrate_4, RJ.h3, RJ.p2 hi, h_today RJ, h1, b1_so, b2_so, b3_so, e1_ok, e1_er, e2_ok, e2_er, e3_ok, e3_er, bI_so, bI_so', bI_0, bI_1, cB_bI, nI_s1, nJ_et, nJ_ef, nJ_lt, nJ_lf, pu_sM, sM_s, if_true, if_false, ite_self, Nat.lt_irrefl, Int32.zero_add, Int32.add_zero, not_true_eq_false, not_false_eq_true, rfw0, rfw1, rfw2, rfw3, rfw4, rfw5, rfw6, rfw7, rfp0, rfp1, rfp2, rfp3, rfp4, rfp5, rfp6, rfs0, rfs1, rfs2, rfs3, rwp0, rwp1, rwp2, rwp3, rwp4, rwp5, rwp6, rwp7, rpp0, rpp1, rpp2, rpp3, rpp4, rpp5, rpp6, rsp0, rsp1, rsp2, rsp3, ixn16, ixn6, ixn5]
  · obtain ⟨J, x1, x2⟩ := z
    obtain ⟨e2, RJ, hf, g, e1, hg⟩ := hz
    dsimp only at e1 e2 RJ hf
    subst e1
    subst e2
    refine ⟨_, ⟨g, J, rfl, RJ, hf, hg⟩, fun f => ?_⟩
    simp (disch := omega) only [l_X3_celebrate_4, RJ.h3, b1_so, b2_so, b3_so, e1_ok, e1_er, e2_ok, e2_er, e3_ok, e3_er, bI_so, bI_so', bI_0, bI_1, cB_bI, nI_s1, nJ_et, nJ_ef, nJ_lt, nJ_lf, pu_sM, sM_s, if_true, if_false, ite_self, Nat.lt_irrefl, Int32.zero_add, Int32.add_zero, not_true_eq_false, not_false_eq_true, rfw0, rfw1, rfw2, rfw3, rfw4, rfw5, rfw6, rfw7, rfp0, rfp1, rfp2, rfp3, rfp4, rfp5, rfp6, rfs0, rfs1, rfs2, rfs3, rwp0, rwp1, rwp2, rwp3, rwp4, rwp5, rwp6, rwp7, rpp0, rpp1, rpp2, rpp3, rpp4, rpp5, rpp6, rsp0, rsp1, rsp2, rsp3, ixn16, ixn6, ixn5]
theorem h_shop (R : RM I q N np ns nw) : ∃ I', f_X3_shop I q = some I' ∧ RM I' q (sIt (fun p N => sShop N nw p) np N) np ns nw ∧ Fr I I' q np nw := by
  have b1 := R.f.p.2
  have b3 := R.f.w.2
  have hX := ex_loop (fun f (z : Mem × Int32) => l_X3_shop_2 f z.1 q z.2)
    (fun i z => z.2 = nI i ∧ RM z.1 q (sIt (fun p N => sShop N nw p) i N) np ns nw ∧ Fr I z.1 q np nw) np
    (fun v => ∃ I', v = some I' ∧ RM I' q (sIt (fun p N => sShop N nw p) np N) np ns nw ∧ Fr I I' q np nw)
    (fun i hi z hz => ?_) (fun z hz => ?_) (FU_up (n := np) (by omega)) (I, 0) ⟨rfl, R, Fr.refl⟩
  · obtain ⟨v, ⟨I', rfl, h1, h2⟩, h4⟩ := hX
    exact ⟨I', h4, h1, h2⟩
  · obtain ⟨J, x2⟩ := z
    obtain ⟨e2, RJ, hf⟩ := hz
    dsimp only at e2 RJ hf
    subst e2
    have eI : sIt (fun p N => sShop N nw p) (i + 1) N = sShop (sIt (fun p N => sShop N nw p) i N) nw i := rfl
    rw [eI]
    generalize sIt (fun p N => sShop N nw p) i N = M at RJ ⊢
    unfold sShop
    by_cases h1 : pN M i 4 ≤ 0
    · rw [if_pos h1]
      refine ⟨(J, nI (i + 1)), ⟨rfl, RJ, hf⟩, fun f => ?_⟩
      simp (disch := omega) only [l_X3_shop_2, RJ.h3, RJ.p5 hi, h1, b1_so, b2_so, b3_so, e1_ok, e1_er, e2_ok, e2_er, e3_ok, e3_er, bI_so, bI_so', bI_0, bI_1, cB_bI, nI_s1, nJ_et, nJ_ef, nJ_lt, nJ_lf, pu_sM, sM_s, if_true, if_false, ite_self, Nat.lt_irrefl, Int32.zero_add, Int32.add_zero, not_true_eq_false, not_false_eq_true, rfw0, rfw1, rfw2, rfw3, rfw4, rfw5, rfw6, rfw7, rfp0, rfp1, rfp2, rfp3, rfp4, rfp5, rfp6, rfs0, rfs1, rfs2, rfs3, rwp0, rwp1, rwp2, rwp3, rwp4, rwp5, rwp6, rwp7, rpp0, rpp1, rpp2, rpp3, rpp4, rpp5, rpp6, rsp0, rsp1, rsp2, rsp3, ixn16, ixn6, ixn5]
    · rw [if_neg h1]
      have hb := h_cheapest RJ (lim := pN M i 4) hi
      cases hz : sCheap M nw i (pN M i 4) with
      | none =>
        rw [hz] at hb
        refine ⟨(J, nI (i + 1)), ⟨rfl, RJ, hf⟩, fun f => ?_⟩
        simp (disch := omega) only [l_X3_shop_2, RJ.h3, RJ.p5 hi, h1, hb, oI, b1_so, b2_so, b3_so, e1_ok, e1_er, e2_ok, e2_er, e3_ok, e3_er, bI_so, bI_so', bI_0, bI_1, cB_bI, nI_s1, nJ_et, nJ_ef, nJ_lt, nJ_lf, pu_sM, sM_s, if_true, if_false, ite_self, Nat.lt_irrefl, Int32.zero_add, Int32.add_zero, not_true_eq_false, not_false_eq_true, rfw0, rfw1, rfw2, rfw3, rfw4, rfw5, rfw6, rfw7, rfp0, rfp1, rfp2, rfp3, rfp4, rfp5, rfp6, rfs0, rfs1, rfs2, rfs3, rwp0, rwp1, rwp2, rwp3, rwp4, rwp5, rwp6, rwp7, rpp0, rpp1, rpp2, rpp3, rpp4, rpp5, rpp6, rsp0, rsp1, rsp2, rsp3, ixn16, ixn6, ixn5]
      | some w =>
        rw [hz] at hb
        obtain ⟨g1, g2⟩ := sBest_in hz
        obtain ⟨J2, k1, k2, k3⟩ := h_buys RJ hi g1 g2.1
        refine ⟨(J2, nI (i + 1)), ⟨rfl, k2, hf.trans k3⟩, fun f => ?_⟩
        simp (disch := omega) only [l_X3_shop_2, RJ.h3, RJ.p5 hi, h1, hb, oI, oI_n, k1, b1_so, b2_so, b3_so, e1_ok, e1_er, e2_ok, e2_er, e3_ok, e3_er, bI_so, bI_so', bI_0, bI_1, cB_bI, nI_s1, nJ_et, nJ_ef, nJ_lt, nJ_lf, pu_sM, sM_s, if_true, if_false, ite_self, Nat.lt_irrefl, Int32.zero_add, Int32.add_zero, not_true_eq_false, not_false_eq_true, rfw0, rfw1, rfw2, rfw3, rfw4, rfw5, rfw6, rfw7, rfp0, rfp1, rfp2, rfp3, rfp4, rfp5, rfp6, rfs0, rfs1, rfs2, rfs3, rwp0, rwp1, rwp2, rwp3, rwp4, rwp5, rwp6, rwp7, rpp0, rpp1, rpp2, rpp3, rpp4, rpp5, rpp6, rsp0, rsp1, rsp2, rsp3, ixn16, ixn6, ixn5]
  · obtain ⟨J, x2⟩ := z
    obtain ⟨e2, RJ, hf⟩ := hz
    dsimp only at e2 RJ hf
    subst e2
    refine ⟨_, ⟨J, rfl, RJ, hf⟩, fun f => ?_⟩
    simp (disch := omega) only [l_X3_shop_2, RJ.h3, b1_so, b2_so, b3_so, e1_ok, e1_er, e2_ok, e2_er, e3_ok, e3_er, bI_so, bI_so', bI_0, bI_1, cB_bI, nI_s1, nJ_et, nJ_ef, nJ_lt, nJ_lf, pu_sM, sM_s, if_true, if_false, ite_self, Nat.lt_irrefl, Int32.zero_add, Int32.add_zero, not_true_eq_false, not_false_eq_true, rfw0, rfw1, rfw2, rfw3, rfw4, rfw5, rfw6, rfw7, rfp0, rfp1, rfp2, rfp3, rfp4, rfp5, rfp6, rfs0, rfs1, rfs2, rfs3, rwp0, rwp1, rwp2, rwp3, rwp4, rwp5, rwp6, rwp7, rpp0, rpp1, rpp2, rpp3, rpp4, rpp5, rpp6, rsp0, rsp1, rsp2, rsp3, ixn16, ixn6, ixn5]
theorem h_costOf (R : RM I q N np ns nw) {w : Nat} (hw : w < nw) : f_X3_costOf I q (nI w) = some (sLeast N w) := by
  have b3 := R.f.w.2
  simp (disch := omega) only [f_X3_costOf, R.w8 hw, h_worth R hw, R.w9 hw, ite3, sLeast, b1_so, b2_so, b3_so, e1_ok, e1_er, e2_ok, e2_er, e3_ok, e3_er, bI_so, bI_so', bI_0, bI_1, cB_bI, nI_s1, nJ_et, nJ_ef, nJ_lt, nJ_lf, pu_sM, sM_s, if_true, if_false, ite_self, Nat.lt_irrefl, Int32.zero_add, Int32.add_zero, not_true_eq_false, not_false_eq_true, rfw0, rfw1, rfw2, rfw3, rfw4, rfw5, rfw6, rfw7, rfp0, rfp1, rfp2, rfp3, rfp4, rfp5, rfp6, rfs0, rfs1, rfs2, rfs3, rwp0, rwp1, rwp2, rwp3, rwp4, rwp5, rwp6, rwp7, rpp0, rpp1, rpp2, rpp3, rpp4, rpp5, rpp6, rsp0, rsp1, rsp2, rsp3, ixn16, ixn6, ixn5]
theorem i00 : ((0 : Int32) = 0) = True := by decide
theorem h_bgo {p : Nat} (hp : p < np) {x : Int32} (hx : ¬ x = 0) : ∀ n J, n ≤ nw → RM J q N np ns nw → ∃ J', RM J' q (sBgo N ns nw p n) np ns nw ∧ Fr J J' q np nw ∧ ∀ (c2 : Mem → Nat → Int32 → Option Mem) F, n + 1 < F → l_X3_bargain_22 c2 F J q (nI p) x (nI (nw - n)) = c2 J' q (nI p + 1) := by
  intro n
  induction n with
  | zero =>
    intro J hn R
    have b3 := R.f.w.2
    refine ⟨J, R, Fr.refl, fun c2 F hF => ?_⟩
    obtain ⟨g, rfl⟩ : ∃ g, F = g + 1 := ⟨F - 1, by omega⟩
    simp (disch := omega) only [l_X3_bargain_22, hx, R.h5, Nat.sub_zero, b1_so, b2_so, b3_so, e1_ok, e1_er, e2_ok, e2_er, e3_ok, e3_er, bI_so, bI_so', bI_0, bI_1, cB_bI, nI_s1, nJ_et, nJ_ef, nJ_lt, nJ_lf, pu_sM, sM_s, if_true, if_false, ite_self, Nat.lt_irrefl, Int32.zero_add, Int32.add_zero, not_true_eq_false, not_false_eq_true, rfw0, rfw1, rfw2, rfw3, rfw4, rfw5, rfw6, rfw7, rfp0, rfp1, rfp2, rfp3, rfp4, rfp5, rfp6, rfs0, rfs1, rfs2, rfs3, rwp0, rwp1, rwp2, rwp3, rwp4, rwp5, rwp6, rwp7, rpp0, rpp1, rpp2, rpp3, rpp4, rpp5, rpp6, rsp0, rsp1, rsp2, rsp3, ixn16, ixn6, ixn5]
  | succ n ih =>
    intro J hn R
    have b1 := R.f.p.2
    have b2 := R.f.s.2
    have b3 := R.f.w.2
    have e9 : nI (nw - (n + 1)) + 1 = nI (nw - n) := by rw [nI_s1, show nw - (n + 1) + 1 = nw - n by omega]
    have hw : nw - (n + 1) < nw := by omega
    have h5 := R.w5s hw (s := p) (by omega)
    have keep : sBgo N ns nw p (n + 1) = sBgo N ns nw p n → (∀ c2 f, l_X3_bargain_22 c2 (f + 1) J q (nI p) x (nI (nw - (n + 1))) = l_X3_bargain_22 c2 f J q (nI p) x (nI (nw - n))) → ∃ J', RM J' q (sBgo N ns nw p (n + 1)) np ns nw ∧ Fr J J' q np nw ∧ ∀ (c2 : Mem → Nat → Int32 → Option Mem) F, n + 1 + 1 < F → l_X3_bargain_22 c2 F J q (nI p) x (nI (nw - (n + 1))) = c2 J' q (nI p + 1) := by
      intro e hstep
      obtain ⟨J', j1, j2, j3⟩ := ih J (by omega) R
      refine ⟨J', by rw [e]; exact j1, j2, fun c2 F hF => ?_⟩
      obtain ⟨g, rfl⟩ : ∃ g, F = g + 1 := ⟨F - 1, by omega⟩
      rw [hstep, j3 c2 g (by omega)]
    by_cases hb : wN N (nw - (n + 1)) 3 = 1 ∧ wN N (nw - (n + 1)) 4 = nI p
    · have e : sBgo N ns nw p (n + 1) = (match sBarg N ns nw (nw - (n + 1)) with
        | none => sBgo N ns nw p n
        | some N' => N') := if_pos hb
      have hs := h_bestStall R hw
      cases hz : sBestOff N ns nw (nw - (n + 1)) with
      | none =>
        rw [hz] at hs
        have eb : sBarg N ns nw (nw - (n + 1)) = none := by unfold sBarg; rw [hz]
        rw [eb] at e
        refine keep e fun c2 f => ?_
        simp (disch := omega) only [l_X3_bargain_22, hx, R.h5, h5, hb, and_self, hs, oI, l_X3_bargain_56, e9, b1_so, b2_so, b3_so, e1_ok, e1_er, e2_ok, e2_er, e3_ok, e3_er, bI_so, bI_so', bI_0, bI_1, cB_bI, nI_s1, nJ_et, nJ_ef, nJ_lt, nJ_lf, pu_sM, sM_s, if_true, if_false, ite_self, Nat.lt_irrefl, Int32.zero_add, Int32.add_zero, not_true_eq_false, not_false_eq_true, rfw0, rfw1, rfw2, rfw3, rfw4, rfw5, rfw6, rfw7, rfp0, rfp1, rfp2, rfp3, rfp4, rfp5, rfp6, rfs0, rfs1, rfs2, rfs3, rwp0, rwp1, rwp2, rwp3, rwp4, rwp5, rwp6, rwp7, rpp0, rpp1, rpp2, rpp3, rpp4, rpp5, rpp6, rsp0, rsp1, rsp2, rsp3, ixn16, ixn6, ixn5]
      | some s =>
        rw [hz] at hs
        obtain ⟨g1, g2⟩ := sBest_in hz
        by_cases hv : sOff N (nw - (n + 1)) s ≤ sLeast N (nw - (n + 1))
        · have eb : sBarg N ns nw (nw - (n + 1)) = none := by
            unfold sBarg; rw [hz]
            exact if_neg (Int32.not_lt.mpr hv)
          rw [eb] at e
          refine keep e fun c2 f => ?_
          simp (disch := omega) only [l_X3_bargain_22, hx, R.h5, h5, hb, and_self, hs, oI, oI_n, l_X3_bargain_56, h_offerFor R hw g1, h_costOf R hw, hv, e9, b1_so, b2_so, b3_so, e1_ok, e1_er, e2_ok, e2_er, e3_ok, e3_er, bI_so, bI_so', bI_0, bI_1, cB_bI, nI_s1, nJ_et, nJ_ef, nJ_lt, nJ_lf, pu_sM, sM_s, if_true, if_false, ite_self, Nat.lt_irrefl, Int32.zero_add, Int32.add_zero, not_true_eq_false, not_false_eq_true, rfw0, rfw1, rfw2, rfw3, rfw4, rfw5, rfw6, rfw7, rfp0, rfp1, rfp2, rfp3, rfp4, rfp5, rfp6, rfs0, rfs1, rfs2, rfs3, rwp0, rwp1, rwp2, rwp3, rwp4, rwp5, rwp6, rwp7, rpp0, rpp1, rpp2, rpp3, rpp4, rpp5, rpp6, rsp0, rsp1, rsp2, rsp3, ixn16, ixn6, ixn5]
        · have eb : sBarg N ns nw (nw - (n + 1)) = some (sSell N (nw - (n + 1)) s) := by
            unfold sBarg; rw [hz]
            exact if_pos (Int32.not_le.mp hv)
          rw [eb] at e
          obtain ⟨J2, k1, k2, k3⟩ := h_sells R hw g1 g2
          refine ⟨J2, by rw [e]; exact k2, k3, fun c2 F hF => ?_⟩
          obtain ⟨g, rfl⟩ : ∃ g, F = g + 1 + 1 := ⟨F - 2, by omega⟩
          rw [l_X3_bargain_22]
          simp (disch := omega) only [hx, R.h5, h5, hb, and_self, hs, oI, oI_n, l_X3_bargain_56, h_offerFor R hw g1, h_costOf R hw, hv, k1, b1_so, b2_so, b3_so, e1_ok, e1_er, e2_ok, e2_er, e3_ok, e3_er, bI_so, bI_so', bI_0, bI_1, cB_bI, nI_s1, nJ_et, nJ_ef, nJ_lt, nJ_lf, pu_sM, sM_s, if_true, if_false, ite_self, Nat.lt_irrefl, Int32.zero_add, Int32.add_zero, not_true_eq_false, not_false_eq_true, rfw0, rfw1, rfw2, rfw3, rfw4, rfw5, rfw6, rfw7, rfp0, rfp1, rfp2, rfp3, rfp4, rfp5, rfp6, rfs0, rfs1, rfs2, rfs3, rwp0, rwp1, rwp2, rwp3, rwp4, rwp5, rwp6, rwp7, rpp0, rpp1, rpp2, rpp3, rpp4, rpp5, rpp6, rsp0, rsp1, rsp2, rsp3, ixn16, ixn6, ixn5]
          rw [l_X3_bargain_22]
          simp (disch := omega) only [i00, b1_so, b2_so, b3_so, e1_ok, e1_er, e2_ok, e2_er, e3_ok, e3_er, bI_so, bI_so', bI_0, bI_1, cB_bI, nI_s1, nJ_et, nJ_ef, nJ_lt, nJ_lf, pu_sM, sM_s, if_true, if_false, ite_self, Nat.lt_irrefl, Int32.zero_add, Int32.add_zero, not_true_eq_false, not_false_eq_true, rfw0, rfw1, rfw2, rfw3, rfw4, rfw5, rfw6, rfw7, rfp0, rfp1, rfp2, rfp3, rfp4, rfp5, rfp6, rfs0, rfs1, rfs2, rfs3, rwp0, rwp1, rwp2, rwp3, rwp4, rwp5, rwp6, rwp7, rpp0, rpp1, rpp2, rpp3, rpp4, rpp5, rpp6, rsp0, rsp1, rsp2, rsp3, ixn16, ixn6, ixn5]
    · have e : sBgo N ns nw p (n + 1) = sBgo N ns nw p n := if_neg hb
      refine keep e fun c2 f => ?_
      simp (disch := omega) only [l_X3_bargain_22, hx, R.h5, h5, hb, l_X3_bargain_56, e9, b1_so, b2_so, b3_so, e1_ok, e1_er, e2_ok, e2_er, e3_ok, e3_er, bI_so, bI_so', bI_0, bI_1, cB_bI, nI_s1, nJ_et, nJ_ef, nJ_lt, nJ_lf, pu_sM, sM_s, if_true, if_false, ite_self, Nat.lt_irrefl, Int32.zero_add, Int32.add_zero, not_true_eq_false, not_false_eq_true, rfw0, rfw1, rfw2, rfw3, rfw4, rfw5, rfw6, rfw7, rfp0, rfp1, rfp2, rfp3, rfp4, rfp5, rfp6, rfs0, rfs1, rfs2, rfs3, rwp0, rwp1, rwp2, rwp3, rwp4, rwp5, rwp6, rwp7, rpp0, rpp1, rpp2, rpp3, rpp4, rpp5, rpp6, rsp0, rsp1, rsp2, rsp3, ixn16, ixn6, ixn5]
theorem h_bargain (R : RM I q N np ns nw) : ∃ I', f_X3_bargain I q = some I' ∧ RM I' q (sIt (fun p N => sBgOnce N ns nw p) np N) np ns nw ∧ Fr I I' q np nw := by
  have b1 := R.f.p.2
  have b3 := R.f.w.2
  have hX := ex_loop (fun f (z : Mem × Int32) => l_X3_bargain_2 f z.1 q z.2)
    (fun i z => z.2 = nI i ∧ RM z.1 q (sIt (fun p N => sBgOnce N ns nw p) i N) np ns nw ∧ Fr I z.1 q np nw) np
    (fun v => ∃ I', v = some I' ∧ RM I' q (sIt (fun p N => sBgOnce N ns nw p) np N) np ns nw ∧ Fr I I' q np nw)
    (fun i hi z hz => ?_) (fun z hz => ?_) (FU_up (n := np) (by omega)) (I, 0) ⟨rfl, R, Fr.refl⟩
  · obtain ⟨v, ⟨I', rfl, h1, h2⟩, h4⟩ := hX
    exact ⟨I', h4, h1, h2⟩
  · obtain ⟨J, x2⟩ := z
    obtain ⟨e2, RJ, hf⟩ := hz
    dsimp only at e2 RJ hf
    subst e2
    have eI : sIt (fun p N => sBgOnce N ns nw p) (i + 1) N = sBgOnce (sIt (fun p N => sBgOnce N ns nw p) i N) ns nw i := rfl
    rw [eI]
    generalize sIt (fun p N => sBgOnce N ns nw p) i N = M at RJ ⊢
    unfold sBgOnce
    by_cases h6 : pN M i 6 = 0
    · rw [if_pos h6]
      refine ⟨(J, nI (i + 1)), ⟨rfl, RJ, hf⟩, fun f => ?_⟩
      obtain ⟨g, hg⟩ : ∃ g, FU = g + 1 := ⟨FU - 1, by have := FU_ge; omega⟩
      simp (disch := omega) only [l_X3_bargain_2, RJ.h3, RJ.p7 hi, h6, hg, l_X3_bargain_22, b1_so, b2_so, b3_so, e1_ok, e1_er, e2_ok, e2_er, e3_ok, e3_er, bI_so, bI_so', bI_0, bI_1, cB_bI, nI_s1, nJ_et, nJ_ef, nJ_lt, nJ_lf, pu_sM, sM_s, if_true, if_false, ite_self, Nat.lt_irrefl, Int32.zero_add, Int32.add_zero, not_true_eq_false, not_false_eq_true, rfw0, rfw1, rfw2, rfw3, rfw4, rfw5, rfw6, rfw7, rfp0, rfp1, rfp2, rfp3, rfp4, rfp5, rfp6, rfs0, rfs1, rfs2, rfs3, rwp0, rwp1, rwp2, rwp3, rwp4, rwp5, rwp6, rwp7, rpp0, rpp1, rpp2, rpp3, rpp4, rpp5, rpp6, rsp0, rsp1, rsp2, rsp3, ixn16, ixn6, ixn5]
    · rw [if_neg h6]
      obtain ⟨J2, k1, k2, k3⟩ := h_bgo hi h6 nw J (Nat.le_refl _) RJ
      refine ⟨(J2, nI (i + 1)), ⟨rfl, k1, hf.trans k2⟩, fun f => ?_⟩
      have k4 := k3 (l_X3_bargain_2 f) FU (by have := FU_ge; omega)
      rw [Nat.sub_self] at k4
      have k5 : l_X3_bargain_22 (l_X3_bargain_2 f) FU J q (nI i) (pN M i 6) 0 = l_X3_bargain_2 f J2 q (nI i + 1) := k4
      simp (disch := omega) only [l_X3_bargain_2, RJ.h3, RJ.p7 hi, k5, b1_so, b2_so, b3_so, e1_ok, e1_er, e2_ok, e2_er, e3_ok, e3_er, bI_so, bI_so', bI_0, bI_1, cB_bI, nI_s1, nJ_et, nJ_ef, nJ_lt, nJ_lf, pu_sM, sM_s, if_true, if_false, ite_self, Nat.lt_irrefl, Int32.zero_add, Int32.add_zero, not_true_eq_false, not_false_eq_true, rfw0, rfw1, rfw2, rfw3, rfw4, rfw5, rfw6, rfw7, rfp0, rfp1, rfp2, rfp3, rfp4, rfp5, rfp6, rfs0, rfs1, rfs2, rfs3, rwp0, rwp1, rwp2, rwp3, rwp4, rwp5, rwp6, rwp7, rpp0, rpp1, rpp2, rpp3, rpp4, rpp5, rpp6, rsp0, rsp1, rsp2, rsp3, ixn16, ixn6, ixn5]
  · obtain ⟨J, x2⟩ := z
    obtain ⟨e2, RJ, hf⟩ := hz
    dsimp only at e2 RJ hf
    subst e2
    refine ⟨_, ⟨J, rfl, RJ, hf⟩, fun f => ?_⟩
    simp (disch := omega) only [l_X3_bargain_2, RJ.h3, b1_so, b2_so, b3_so, e1_ok, e1_er, e2_ok, e2_er, e3_ok, e3_er, bI_so, bI_so', bI_0, bI_1, cB_bI, nI_s1, nJ_et, nJ_ef, nJ_lt, nJ_lf, pu_sM, sM_s, if_true, if_false, ite_self, Nat.lt_irrefl, Int32.zero_add, Int32.add_zero, not_true_eq_false, not_false_eq_true, rfw0, rfw1, rfw2, rfw3, rfw4, rfw5, rfw6, rfw7, rfp0, rfp1, rfp2, rfp3, rfp4, rfp5, rfp6, rfs0, rfs1, rfs2, rfs3, rwp0, rwp1, rwp2, rwp3, rwp4, rwp5, rwp6, rwp7, rpp0, rpp1, rpp2, rpp3, rpp4, rpp5, rpp6, rsp0, rsp1, rsp2, rsp3, ixn16, ixn6, ixn5]
end CE
