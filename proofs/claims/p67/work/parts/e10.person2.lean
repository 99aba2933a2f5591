/-! items: a person, put together -/
section IT5
variable {I J I1 I2 I3 J1 J2 J3 I' J' : Mem} {B : Nat → Int32} {n p r k m c s np ns nw D : Nat} {N N' M : Nat → Int32}
theorem pp0 (h : np < 6) {x : Int32} : f_Y_putsPerson J m (nI np) 0 x = some (sM J m (upd (J (m + 1)) (11 + 14 * np + 0) x)) := pp_row (k := 0) h (by decide)
theorem pp1 (h : np < 6) {x : Int32} : f_Y_putsPerson J m (nI np) 1 x = some (sM J m (upd (J (m + 1)) (11 + 14 * np + 1) x)) := pp_row (k := 1) h (by decide)
theorem pp2 (h : np < 6) {x : Int32} : f_Y_putsPerson J m (nI np) 2 x = some (sM J m (upd (J (m + 1)) (11 + 14 * np + 2) x)) := pp_row (k := 2) h (by decide)
theorem op0 (h : np < 6) : f_Y_ofPerson J m (nI np) 0 = some (pN (J (m + 1)) np 0) := op_row (k := 0) h (by decide)
/-- the reference's tails behind a fault -/
theorem ptD (hn : np < 6) {I28 : Mem} (F : Flt I28 m c s) : ∃ J', (b1 (f_Y_readsHabits I28 m (nI np)) fun I30 => b1 (ix 2 355) fun j32 => b1 (ix 2 355) fun j33 => b1 (pu I30 (m + 1) j33 ((I30 (m + 1) j32) + 1)) fun I34 => b1 (ix 7 355) fun j35 => b1 (f_Y_ofPerson I34 m (nI np) 0) fun v36 => b1 (ix 7 355) fun j38 => b1 (pu I34 (m + 1) j38 ((I34 (m + 1) j35) + v36)) fun I39 => some (I39)) = some J' ∧ Flt J' m c s ∧ Jq I28 J' m := by
  refine ⟨sM I28 m (upd (upd (I28 (m + 1)) 2 ((I28 (m + 1) 2) + 1)) 7 ((I28 (m + 1) 7) + pN (upd (I28 (m + 1)) 2 ((I28 (m + 1) 2) + 1)) np 0)), ?_, F.sm, Jq.refl.sm⟩
  rw [fs_hab F, b1_so, ix2, b1_so, b1_so, pu_so, b1_so, u2_sM rfl, ix7, b1_so, op0 hn, b1_so, b1_so, sM_s, upd_n (show (7 : Nat) ≠ 2 by decide), pu_sM, b1_so]
theorem ptC (hn : np < 6) {I26 : Mem} {v25 : Int32} (F : Flt I26 m c s) : ∃ J', (b1 (f_Y_putsPerson I26 m (nI np) 2 v25) fun I28 => b1 (f_Y_readsHabits I28 m (nI np)) fun I30 => b1 (ix 2 355) fun j32 => b1 (ix 2 355) fun j33 => b1 (pu I30 (m + 1) j33 ((I30 (m + 1) j32) + 1)) fun I34 => b1 (ix 7 355) fun j35 => b1 (f_Y_ofPerson I34 m (nI np) 0) fun v36 => b1 (ix 7 355) fun j38 => b1 (pu I34 (m + 1) j38 ((I34 (m + 1) j35) + v36)) fun I39 => some (I39)) = some J' ∧ Flt J' m c s ∧ Jq I26 J' m := by
  rw [pp2 hn, b1_so]
  obtain ⟨J', h1, h2, h3⟩ := ptD hn (F.sm (N := upd (I26 (m + 1)) (11 + 14 * np + 2) v25))
  exact ⟨J', h1, h2, Jq.refl.sm.trans h3⟩
theorem ptB (hn : np < 6) {I21 : Mem} {v20 : Int32} (F : Flt I21 m c s) : ∃ J', (b1 (f_Y_putsPerson I21 m (nI np) 1 v20) fun I23 => b2 (f_Y_readNumber I23 m 0 99) fun v25 I26 => b1 (f_Y_putsPerson I26 m (nI np) 2 v25) fun I28 => b1 (f_Y_readsHabits I28 m (nI np)) fun I30 => b1 (ix 2 355) fun j32 => b1 (ix 2 355) fun j33 => b1 (pu I30 (m + 1) j33 ((I30 (m + 1) j32) + 1)) fun I34 => b1 (ix 7 355) fun j35 => b1 (f_Y_ofPerson I34 m (nI np) 0) fun v36 => b1 (ix 7 355) fun j38 => b1 (pu I34 (m + 1) j38 ((I34 (m + 1) j35) + v36)) fun I39 => some (I39)) = some J' ∧ Flt J' m c s ∧ Jq I21 J' m := by
  have F2 := F.sm (N := upd (I21 (m + 1)) (11 + 14 * np + 1) v20)
  rw [pp1 hn, b1_so, fs_rdn F2, b2_so]
  obtain ⟨J', h1, h2, h3⟩ := ptC hn F2 (v25 := 0)
  exact ⟨J', h1, h2, Jq.refl.sm.trans h3⟩
theorem ptA (hn : np < 6) {I15 : Mem} {v14 : Int32} (F : Flt I15 m c s) : ∃ J', (b1 (f_Y_putsPerson I15 m (nI np) 0 v14) fun I17 => b1 (ix 0 355) fun j19 => b2 (f_Y_readNumber I17 m 0 ((I17 (m + 1) j19) - 1)) fun v20 I21 => b1 (f_Y_putsPerson I21 m (nI np) 1 v20) fun I23 => b2 (f_Y_readNumber I23 m 0 99) fun v25 I26 => b1 (f_Y_putsPerson I26 m (nI np) 2 v25) fun I28 => b1 (f_Y_readsHabits I28 m (nI np)) fun I30 => b1 (ix 2 355) fun j32 => b1 (ix 2 355) fun j33 => b1 (pu I30 (m + 1) j33 ((I30 (m + 1) j32) + 1)) fun I34 => b1 (ix 7 355) fun j35 => b1 (f_Y_ofPerson I34 m (nI np) 0) fun v36 => b1 (ix 7 355) fun j38 => b1 (pu I34 (m + 1) j38 ((I34 (m + 1) j35) + v36)) fun I39 => some (I39)) = some J' ∧ Flt J' m c s ∧ Jq I15 J' m := by
  have F2 := F.sm (N := upd (I15 (m + 1)) (11 + 14 * np + 0) v14)
  rw [pp0 hn, b1_so, ix0, b1_so, fs_rdn F2, b2_so]
  obtain ⟨J', h1, h2, h3⟩ := ptB hn F2 (v20 := 0)
  exact ⟨J', h1, h2, Jq.refl.sm.trans h3⟩
theorem zp_go (hn : np < 6) : ∀ d k, k + d = 14 → ∀ f, d < f → ∀ J, ∃ M g, l_Y_readsPerson_42 f J m (nI np) (nI k) = l_Y_readsPerson_42 (g + 1) (sM J m M) m (nI np) (nI 14) ∧ (∀ j, (j < 11 + 14 * np + k ∨ 11 + 14 * np + 13 < j) → M j = J (m + 1) j) ∧ ∀ j, 11 + 14 * np + k ≤ j → j ≤ 11 + 14 * np + 13 → M j = 0 := by
  intro d
  induction d with
  | zero =>
    intro k hk f hf J
    obtain ⟨f, rfl⟩ : ∃ g, f = g + 1 := ⟨f - 1, by omega⟩
    obtain rfl : k = 14 := by omega
    exact ⟨J (m + 1), f, by rw [sM_i], fun _ _ => rfl, fun j h1 h2 => by omega⟩
  | succ d ih =>
    intro k hk f hf J
    obtain ⟨f, rfl⟩ : ∃ g, f = g + 1 := ⟨f - 1, by omega⟩
    obtain ⟨M, g, h1, h2, h3⟩ := ih (k + 1) (by omega) f (by omega) (sM J m (upd (J (m + 1)) (11 + 14 * np + k) 0))
    rw [sM_sM] at h1
    refine ⟨M, g, ?_, fun j hj => ?_, fun j k1 k2 => ?_⟩
    · show (if 14 ≤ nI k then _ else (b1 (f_Y_putsPerson J m (nI np) (nI k) 0) fun I40 => l_Y_readsPerson_42 f I40 m (nI np) (nI k + 1))) = _
      rw [if_neg (show ¬ (14 : Int32) ≤ nI k from by rw [show (14 : Int32) = nI 14 from rfl, ile (by omega) (by omega)]; omega), pp_row hn (by omega), b1_so, nI_s1, h1]
    · rw [h2 j (by omega), sM_s, upd_n (by omega)]
    · by_cases e : j = 11 + 14 * np + k
      · rw [h2 j (by omega), sM_s, e, upd_s]
      · exact h3 j (by omega) k2
theorem taken_p (h : Ld I J r m B n p) (hk : tK B n p = 1) (hl : tE B n p - tS B n p ≤ 6) (R : RM I (r + 3) N np ns nw) (hN : J (m + 1) = N) (Hn : ∀ w, w < np → NmOk N (11 + 14 * w + 7)) : ∃ v, f_X3_hasPersonNamed I (r + 3) (sNm (tN B n p) 0) = some v ∧ f_Y_isTaken J m (nI np) 18 14 (-1) = some v ∧ (v = 0 ∨ v = 1) := by
  have b3 := R.f.p.2
  have e1 := tE_ge (B := B) (n := n) (p := p)
  have e2 := tE_le (B := B) h.1.2
  have h500 := h.1.1
  obtain ⟨u, g1, g2⟩ := hp_go (I := I) (q := r + 3) (y := sNm (tN B n p) 0) R.h3 b3 np 0 (Nat.zero_add _) FU (FU_up (by omega))
  obtain ⟨v, q1, q2⟩ := tk_go (J := J) (m := m) (s := tS B n p) (e := tE B n p) (ba := 18) (st := 14) (cnt := np) (x4 := -1) h.2.2.2.1.1 h.2.2.2.1.2 ⟨e1, by omega⟩ (fun i hi => by omega) (by omega) (fun i hi => by rw [hN, show 18 + 14 * i = 11 + 14 * i + 7 by omega]; exact Hn i hi) np 0 (Nat.zero_add _) FU (FU_up (by omega))
  have eq : ∀ j, j < np → (Nmd J m (18 + 14 * j) (tS B n p) (tE B n p) ↔ I (r + 3 + 4 + j) 0 = sNm (tN B n p) 0) := fun j hj => by
    rw [show 18 + 14 * j = 11 + 14 * j + 7 by omega, nmd_iff h.2.2 hk hl h.1.2 (by rw [hN]; exact Hn j hj), hN, (R.p hj).1.1]
  have hm1 : ∀ j, j < np → nI j ≠ -1 := fun j hj z => by
    have z2 := congrArg Int32.toInt z
    rw [nI_toInt (by omega), show (-1 : Int32).toInt = -1 from rfl] at z2
    omega
  have hv : u = v := by
    rcases g2 with ⟨rfl, j, j1, j3⟩ | ⟨rfl, g3⟩ <;> rcases q2 with ⟨rfl, i, i1, i2, i3⟩ | ⟨rfl, q3⟩
    · rfl
    · exact absurd ((eq j j1.2).mpr j3) (q3 j j1.1 j1.2 (hm1 j j1.2))
    · exact absurd ((eq i i1.2).mp i3) (g3 i i1.1 i1.2)
    · rfl
  subst hv
  refine ⟨u, g1, q1, ?_⟩
  rcases g2 with ⟨rfl, -⟩ | ⟨rfl, -⟩
  · exact Or.inr rfl
  · exact Or.inl rfl
theorem it_Person (k7' : k < 7) (h : Ld I J r m B n p) (hk : tK B n p = 1) (P : PM I J r m N np ns nw D) : Out I J r m B n p (e3 (f_X5_readPerson I k r) (fun E I15 k16 => some (.error E, I15, k16)) fun v14 I15 k16 => b1 (ckA v14 (r + 3 + 4) 6) fun j18 => e3 (f_X5_readHabits I15 k16 r ((r + 3 + 4) + j18)) (fun E I20 k21 => some (.error E, I20, k21)) fun u19 I20 k21 => some (Except.ok (0 : Int32), I20, k21)) (f_Y_readsPerson J m) := by
  obtain ⟨⟨R, Bm⟩, hN, G, ⟨d1, d2⟩, d3⟩ := P
  have b1' := R.f.p.2
  have b2' := R.f.s.2
  have b3' := R.f.w.2
  have Hn := G.1.2.1
  obtain ⟨y, hy1, hy2, hy3, -⟩ := G.1.1
  by_cases h5 : np < 6
  · obtain ⟨J1, a1, a2, a3⟩ := beg_ok (j := 2) (cap := 6) h hN (by decide) R.f.p.1 h5 (by decide)
    have a1 : f_Y_begins J m 2 6 = some J1 := a1
    have hN1 : J1 (m + 1) = N := (a3.1 _ (by omega)).trans hN
    have rpre : f_Y_readsPerson J m = (b1 (f_Y_looksAtName J1 m) fun I4 => b1 (f_Y_isTaken I4 m (nI np) 18 14 (-1)) fun v6 => b1 (f_Y_refuses I4 m v6) fun I8 => if (I8 m 10) ≤ 0 then (l_Y_readsPerson_42 FU I8 m (nI np) 0) else (some (I8))) := by
      unfold f_Y_readsPerson
      rw [a1, b1_so, ix2, b1_so, hN1, R.f.p.1]
    rw [rpre]
    clear rpre
    have cpre : f_X5_readPerson I k r = (e3 (f_X5_readName I k r) (fun E I6 k7 => some (.error E, I6, k7)) fun v5 I6 k7 => b1 (pu I6 (r + 3 + 4 + np) 0 v5) fun I9 => b1 (f_X3_hasPersonNamed I9 (r + 3) (I9 (r + 3 + 4 + np) 0)) fun v10 => if v10 = 0 then (l_X5_readPerson_66 I9 k7 r (r + 3 + 4 + np) 1) else (l_X5_readPerson_66 I9 k7 r (r + 3 + 4 + np) 0)) := by
      unfold f_X5_readPerson l_X5_readPerson_18
      rw [R.h3, if_neg (show ¬ (6 : Int32) ≤ nI np from by rw [show (6 : Int32) = nI 6 from rfl, ile (by omega) (by omega)]; omega), req_ok, e2_ok, R.h3, ixn6 h5, b1_so]
    rw [cpre]
    clear cpre
    rcases name_step (k := k) a2 with ⟨I3, g1, ⟨g2, g3, g4⟩, ⟨gk, gl⟩, g5⟩ | ⟨c, I3, J3, k2, k7, g1, g2, g3, g4, g5⟩
    · have LX : Ld (u2 I3 (r + 3 + 4 + np) 0 (sNm (tN B n (tE B n p)) 0)) J1 r m B n _ := g2.cl (u2_a (by omega)) (u2_a (by omega))
      have oX : ∀ a j, a ≠ r + 1 → a ≠ (r + 3 + 4 + np) → (u2 I3 (r + 3 + 4 + np) 0 (sNm (tN B n (tE B n p)) 0)) a j = I a j := fun a j z1 z2 => by rw [u2_a z2, g3 a z1]
      have CX : Cq I (u2 I3 (r + 3 + 4 + np) 0 (sNm (tN B n (tE B n p)) 0)) r := (Cq.refl.it g3).u (by omega)
      have BX : BM (u2 I3 (r + 3 + 4 + np) 0 (sNm (tN B n (tE B n p)) 0)) (r + 3) := (Bm.it g3).uf (by decide)
      have sX : (u2 I3 (r + 3 + 4 + np) 0 (sNm (tN B n (tE B n p)) 0)) (r + 3 + 4 + np) 0 = sNm (tN B n (tE B n p)) 0 := u2_s
      rw [g1, e3_ok, pu_so, b1_so, g5, b1_so]
      generalize u2 I3 (r + 3 + 4 + np) 0 (sNm (tN B n (tE B n p)) 0) = X at LX oX CX BX sX ⊢
      have oXr : ∀ a, a ≠ r + 1 → a ≠ (r + 3 + 4 + np) → X a = I a := fun a z1 z2 => funext fun j => oX a j z1 z2
      have RX : RM X (r + 3) N np ns nw := R.sk (oXr _ (by omega) (by omega)) (fun i hi => oXr _ (by omega) (by omega)) (fun i hi => oXr _ (by omega) (by omega)) (fun i hi => oXr _ (by omega) (by omega))
      obtain ⟨z, t1, t2, t3⟩ := taken_p LX gk gl RX hN1 Hn
      rw [sX, t1, b1_so, t2, b1_so]
      by_cases hz : z = 0
      · rw [hz, if_pos rfl, rf_0 LX.2.2, b1_so, if_pos (by rw [LX.2.2.1.1]; decide)]
        obtain ⟨M0, gf, u1, u2', u3⟩ := zp_go (m := m) h5 14 0 (by decide) FU (FU_up (by decide)) J1
        rw [hN1] at u2'
        rw [show (0 : Int32) = nI 0 from rfl, u1]
        have LX0 : Ld X (sM J1 m M0) r m B n _ := LX.sm
        obtain ⟨M1, q1, q2, q3, q4⟩ := names_row LX0.2.2 LX0.1 gk gl (a := 11 + 14 * np + 7) (by omega)
        rw [sM_s] at q2
        rw [sM_sM] at q1
        obtain ⟨J2, c1, c2, c3⟩ := (LX.sm (N := M1)).goes
        have hN2 : J2 (m + 1) = M1 := (c3.1 _ (by omega)).trans sM_s
        have JQ2 : Jq J J2 m := ((Jq.refl.jt a3).sm).jt c3
        unfold l_Y_readsPerson_42
        rw [if_pos (show (14 : Int32) ≤ nI 14 from by decide), lk_ap (by omega), q1, b1_so, c1, b1_so]
        unfold l_X5_readPerson_66
        rw [req_ok, e2_ok]
        have M1o : ∀ j, (j < 11 + 14 * np ∨ 11 + 14 * np + 13 < j) → M1 j = N j := fun j hj => (q2 j (by omega)).trans (u2' j (by omega))
        have M1z : ∀ k, k < 7 → pN M1 np k = 0 := fun k hk => (q2 _ (by omega)).trans (u3 _ (by omega) (by omega))
        rcases rdn_step (k := 1) (lo := 0) (hi := 999) c2 with ⟨v0, A0, K0, e01, ⟨e02, e03, e04, e05⟩, ⟨e06, e07, e08⟩, e09⟩ | ⟨c, A0, K0, k2, k7, e01, e02, e03, e04, e05⟩
        · have hK0 : K0 (m + 1) = M1 := (e04.1 _ (by omega)).trans hN2
          have y0 : (sM K0 m (upd M1 (11 + 14 * np + 0) (nI v0))) (m + 1) 0 = N 0 := by rw [sM_s, upd_n (by omega)]; exact M1o 0 (by omega)
          have f0 : Af (u2 A0 (r + 3 + 4 + np) 1 (nI v0)) (sM K0 m (upd M1 (11 + 14 * np + 0) (nI v0))) r m B n _ := (e02.cl (u2_a (by omega)) (u2_a (by omega))).sm
          have x7 : (u2 A0 (r + 3 + 4 + np) 1 (nI v0)) (r + 3) 7 = N 0 := by rw [u2_a (by omega), e03 _ (by omega), oX _ _ (by omega) (by omega)]; exact R.h7
          rw [e01, e3_ok, pu_so, b1_so, e09, b2_so, pp0 h5, b1_so, hK0, ix0, b1_so, y0, rdy_eq, x7]
          rcases rdn_step (k := 2) (lo := 0) (hi := N 0 - 1) f0 with ⟨v1, A1, K1, e11, ⟨e12, e13, e14, e15⟩, ⟨e16, e17, e18⟩, e19⟩ | ⟨c, A1, K1, k2, k7, e11, e12, e13, e14, e15⟩
          · have hK1 : K1 (m + 1) = upd M1 (11 + 14 * np + 0) (nI v0) := (e14.1 _ (by omega)).trans sM_s
            have f1 : Af (u2 A1 (r + 3 + 4 + np) 2 (nI v1)) (sM K1 m (upd (upd M1 (11 + 14 * np + 0) (nI v0)) (11 + 14 * np + 1) (nI v1))) r m B n _ := (e12.cl (u2_a (by omega)) (u2_a (by omega))).sm
            rw [e11, e3_ok, pu_so, b1_so, e19, b2_so, pp1 h5, b1_so, hK1]
            rcases rdn_step (k := 2) (lo := 0) (hi := 99) f1 with ⟨v2, A2, K2, e21, ⟨e22, e23, e24, e25⟩, ⟨e26, e27, e28⟩, e29⟩ | ⟨c, A2, K2, k2, k7, e21, e22, e23, e24, e25⟩
            · have hK2 : K2 (m + 1) = upd (upd M1 (11 + 14 * np + 0) (nI v0)) (11 + 14 * np + 1) (nI v1) := (e24.1 _ (by omega)).trans sM_s
              rw [e21, e3_ok, pu_so, b1_so, pu_so, b1_so, pu_so, b1_so, pu_so, b1_so, pu_so, b1_so, e29, b2_so, pp2 h5, b1_so, hK2]
              have CZ : Cq I (u2 (u2 (u2 (u2 (u2 A2 (r + 3 + 4 + np) 3 (nI v2)) (r + 3 + 4 + np) 4 0) (r + 3 + 4 + np) 5 0) (r + 3 + 4 + np) 6 0) (r + 3 + 4 + np) 7 0) r := (((((((((CX.it e03).u (by omega)).it e13).u (by omega)).it e23).u (by omega)).u (by omega)).u (by omega)).u (by omega)).u (by omega)
              have BZ0 : BM (u2 (u2 (u2 A2 (r + 3 + 4 + np) 3 (nI v2)) (r + 3 + 4 + np) 4 0) (r + 3 + 4 + np) 5 0) (r + 3) := ((((((((BX.it e03).uf (by decide)).it e13).uf (by decide)).it e23).uf (by decide)).uf (by decide)).uf (by decide))
              have oZ : ∀ a j, a ≠ r + 1 → a ≠ (r + 3 + 4 + np) → (u2 (u2 (u2 (u2 (u2 A2 (r + 3 + 4 + np) 3 (nI v2)) (r + 3 + 4 + np) 4 0) (r + 3 + 4 + np) 5 0) (r + 3 + 4 + np) 6 0) (r + 3 + 4 + np) 7 0) a j = I a j := fun a j z1 z2 => by rw [u2_a z2, u2_a z2, u2_a z2, u2_a z2, u2_a z2, e23 a z1, u2_a z2, e13 a z1, u2_a z2, e03 a z1, oX a j z1 z2]
              have s7 : (u2 (u2 (u2 (u2 (u2 A2 (r + 3 + 4 + np) 3 (nI v2)) (r + 3 + 4 + np) 4 0) (r + 3 + 4 + np) 5 0) (r + 3 + 4 + np) 6 0) (r + 3 + 4 + np) 7 0) (r + 3 + 4 + np) 7 = 0 := u2_s
              have s6 : (u2 (u2 (u2 (u2 (u2 A2 (r + 3 + 4 + np) 3 (nI v2)) (r + 3 + 4 + np) 4 0) (r + 3 + 4 + np) 5 0) (r + 3 + 4 + np) 6 0) (r + 3 + 4 + np) 7 0) (r + 3 + 4 + np) 6 = 0 := by rw [u2_k (by decide), u2_s]
              have s5 : (u2 (u2 (u2 (u2 (u2 A2 (r + 3 + 4 + np) 3 (nI v2)) (r + 3 + 4 + np) 4 0) (r + 3 + 4 + np) 5 0) (r + 3 + 4 + np) 6 0) (r + 3 + 4 + np) 7 0) (r + 3 + 4 + np) 5 = 0 := by rw [u2_k (by decide), u2_k (by decide), u2_s]
              have s4 : (u2 (u2 (u2 (u2 (u2 A2 (r + 3 + 4 + np) 3 (nI v2)) (r + 3 + 4 + np) 4 0) (r + 3 + 4 + np) 5 0) (r + 3 + 4 + np) 6 0) (r + 3 + 4 + np) 7 0) (r + 3 + 4 + np) 4 = 0 := by rw [u2_k (by decide), u2_k (by decide), u2_k (by decide), u2_s]
              have s3 : (u2 (u2 (u2 (u2 (u2 A2 (r + 3 + 4 + np) 3 (nI v2)) (r + 3 + 4 + np) 4 0) (r + 3 + 4 + np) 5 0) (r + 3 + 4 + np) 6 0) (r + 3 + 4 + np) 7 0) (r + 3 + 4 + np) 3 = nI v2 := by rw [u2_k (by decide), u2_k (by decide), u2_k (by decide), u2_k (by decide), u2_s]
              have s2 : (u2 (u2 (u2 (u2 (u2 A2 (r + 3 + 4 + np) 3 (nI v2)) (r + 3 + 4 + np) 4 0) (r + 3 + 4 + np) 5 0) (r + 3 + 4 + np) 6 0) (r + 3 + 4 + np) 7 0) (r + 3 + 4 + np) 2 = nI v1 := by rw [u2_k (by decide), u2_k (by decide), u2_k (by decide), u2_k (by decide), u2_k (by decide), e23 _ (by omega), u2_s]
              have s1 : (u2 (u2 (u2 (u2 (u2 A2 (r + 3 + 4 + np) 3 (nI v2)) (r + 3 + 4 + np) 4 0) (r + 3 + 4 + np) 5 0) (r + 3 + 4 + np) 6 0) (r + 3 + 4 + np) 7 0) (r + 3 + 4 + np) 1 = nI v0 := by rw [u2_k (by decide), u2_k (by decide), u2_k (by decide), u2_k (by decide), u2_k (by decide), e23 _ (by omega), u2_k (by decide), e13 _ (by omega), u2_s]
              have s0 : (u2 (u2 (u2 (u2 (u2 A2 (r + 3 + 4 + np) 3 (nI v2)) (r + 3 + 4 + np) 4 0) (r + 3 + 4 + np) 5 0) (r + 3 + 4 + np) 6 0) (r + 3 + 4 + np) 7 0) (r + 3 + 4 + np) 0 = sNm (tN B n (tE B n p)) 0 := by rw [u2_k (by decide), u2_k (by decide), u2_k (by decide), u2_k (by decide), u2_k (by decide), e23 _ (by omega), u2_k (by decide), e13 _ (by omega), u2_k (by decide), e03 _ (by omega), sX]
              have fZ : Af (u2 (u2 (u2 (u2 (u2 A2 (r + 3 + 4 + np) 3 (nI v2)) (r + 3 + 4 + np) 4 0) (r + 3 + 4 + np) 5 0) (r + 3 + 4 + np) 6 0) (r + 3 + 4 + np) 7 0) K2 r m B n _ := e22.cl (by rw [u2_a (by omega), u2_a (by omega), u2_a (by omega), u2_a (by omega), u2_a (by omega)]) (by rw [u2_a (by omega), u2_a (by omega), u2_a (by omega), u2_a (by omega), u2_a (by omega)])
              have BZ : BM (u2 (u2 (u2 (u2 (u2 A2 (r + 3 + 4 + np) 3 (nI v2)) (r + 3 + 4 + np) 4 0) (r + 3 + 4 + np) 5 0) (r + 3 + 4 + np) 6 0) (r + 3 + 4 + np) 7 0) (r + 3) := by
                refine ⟨fun i hi => ?_, fun i hi => ?_⟩
                · by_cases e : i = np
                  · rw [e, s6, s7]; exact ⟨cB0, cB0⟩
                  · rw [oZ _ _ (by omega) (by omega), oZ _ _ (by omega) (by omega)]; exact Bm.1 i hi
                · rw [oZ _ _ (by omega) (by omega), oZ _ _ (by omega) (by omega)]; exact Bm.2 i hi
              generalize (u2 (u2 (u2 (u2 (u2 A2 (r + 3 + 4 + np) 3 (nI v2)) (r + 3 + 4 + np) 4 0) (r + 3 + 4 + np) 5 0) (r + 3 + 4 + np) 6 0) (r + 3 + 4 + np) 7 0) = Z at CZ oZ s0 s1 s2 s3 s4 s5 s6 s7 fZ BZ ⊢
              have z3 : Z (r + 3) 3 = nI np := (oZ _ _ (by omega) (by omega)).trans R.h3
              have z13 : Z (r + 3) 13 = N 7 := (oZ _ _ (by omega) (by omega)).trans R.h13
              rw [z3, nI_s1, pu_so, b1_so, u2_k (show (13 : Nat) ≠ 3 by decide), z13, u2_a (show (r + 3 + 4 + np) ≠ r + 3 by omega), s1, pu_so, b1_so, e3_ok, ckA_n h5, b1_so]
              have hM4 : ∀ k, 3 ≤ k → k < 14 → pN (upd (upd (upd M1 (11 + 14 * np + 0) (nI v0)) (11 + 14 * np + 1) (nI v1)) (11 + 14 * np + 2) (nI v2)) np k = pN M1 np k := fun k h1 h2 => by show upd _ _ _ (11 + 14 * np + k) = _; rw [upd_n (by omega), upd_n (by omega), upd_n (by omega)]; rfl
              have aZ : ∀ a, a ≠ r + 3 → (u2 (u2 Z (r + 3) 3 (nI (np + 1))) (r + 3) 13 (N 7 + nI v0)) a = Z a := fun a ha => by rw [u2_a ha, u2_a ha]
              have fZ2 : Af (u2 (u2 Z (r + 3) 3 (nI (np + 1))) (r + 3) 13 (N 7 + nI v0)) (sM K2 m (upd (upd (upd M1 (11 + 14 * np + 0) (nI v0)) (11 + 14 * np + 1) (nI v1)) (11 + 14 * np + 2) (nI v2))) r m B n _ := (fZ.cl (aZ _ (by omega)) (aZ _ (by omega))).sm
              have hab := hab_go h5 2 0 0 (by decide) (by decide) rfl FU FU (FU_up (by decide)) (FU_up (by decide)) (u2 (u2 Z (r + 3) 3 (nI (np + 1))) (r + 3) 13 (N 7 + nI v0)) (sM K2 m (upd (upd (upd M1 (11 + 14 * np + 0) (nI v0)) (11 + 14 * np + 1) (nI v1)) (11 + 14 * np + 2) (nI v2))) 2 _ (by decide) fZ2 (by rw [aZ _ (by omega)]; exact s6) (by rw [aZ _ (by omega)]; exact s7) (by rw [sM_s, hM4 5 (by decide) (by decide)]; exact M1z 5 (by decide)) (by rw [sM_s, hM4 6 (by decide) (by decide)]; exact M1z 6 (by decide))
              have JQ4 : Jq J (sM K2 m (upd (upd (upd M1 (11 + 14 * np + 0) (nI v0)) (11 + 14 * np + 1) (nI v1)) (11 + 14 * np + 2) (nI v2))) m := (((((JQ2.jt e04).sm (N := upd M1 (11 + 14 * np + 0) (nI v0))).jt e14).sm (N := upd (upd M1 (11 + 14 * np + 0) (nI v0)) (11 + 14 * np + 1) (nI v1))).jt e24).sm
              unfold f_X5_readHabits f_Y_readsHabits
              have hab0 : HbO np (u2 (u2 Z (r + 3) 3 (nI (np + 1))) (r + 3) 13 (N 7 + nI v0)) (sM K2 m (upd (upd (upd M1 (11 + 14 * np + 0) (nI v0)) (11 + 14 * np + 1) (nI v1)) (11 + 14 * np + 2) (nI v2))) r m B n _ (l_X5_readHabits_4 FU (u2 (u2 Z (r + 3) 3 (nI (np + 1))) (r + 3) 13 (N 7 + nI v0)) 2 r (r + 3 + 4 + np) 1 0) (l_Y_readsHabits_0 FU (sM K2 m (upd (upd (upd M1 (11 + 14 * np + 0) (nI v0)) (11 + 14 * np + 1) (nI v1)) (11 + 14 * np + 2) (nI v2))) m (nI np)) := hab
              rcases hab0 with ⟨I9, J9, k9, p9, f5, f6, ⟨w1, w2, w3⟩, ⟨w4, w5⟩, ⟨w6, w7⟩, ⟨w8, w9⟩, ⟨x1, x2⟩, ⟨x3, x4⟩, x5, x6⟩ | ⟨c, s, I9, J9, k9, ⟨w1, w2, w3⟩, ⟨w4, w5, w6⟩, ⟨w7, w8⟩, w9⟩
              · rw [w1, e3_ok, w2, b1_so, ix2, b1_so, b1_so, pu_so, b1_so, u2_sM rfl, ix7, b1_so, op0 h5, b1_so, b1_so, sM_s, upd_n (show (7 : Nat) ≠ 2 by decide), pu_sM, b1_so]
                have j2 : J9 (m + 1) 2 = nI np := by rw [w9 2 (by omega) (by omega), sM_s, upd_n (by omega), upd_n (by omega), upd_n (by omega), M1o 2 (by omega)]; exact R.f.p.1
                have j7 : J9 (m + 1) 7 = N 7 := by rw [w9 7 (by omega) (by omega), sM_s, upd_n (by omega), upd_n (by omega), upd_n (by omega), M1o 7 (by omega)]
                have jk : ∀ k, k ≠ 5 → k ≠ 6 → k < 14 → pN (J9 (m + 1)) np k = pN (upd (upd (upd M1 (11 + 14 * np + 0) (nI v0)) (11 + 14 * np + 1) (nI v1)) (11 + 14 * np + 2) (nI v2)) np k := fun k h1 h2 h3 => (w9 _ (by omega) (by omega)).trans (by rw [sM_s]; rfl)
                have jo : ∀ j, (j < 11 + 14 * np ∨ 11 + 14 * np + 13 < j) → J9 (m + 1) j = N j := fun j hj => by rw [w9 j (by omega) (by omega), sM_s, upd_n (by omega), upd_n (by omega), upd_n (by omega)]; exact M1o j hj
                have e0 : pN (J9 (m + 1)) np 0 = nI v0 := by rw [jk 0 (by decide) (by decide) (by decide)]; show upd _ _ _ (11 + 14 * np + 0) = _; rw [upd_n (by omega), upd_n (by omega), upd_s]
                have e1 : pN (J9 (m + 1)) np 1 = nI v1 := by rw [jk 1 (by decide) (by decide) (by decide)]; show upd _ _ _ (11 + 14 * np + 1) = _; rw [upd_n (by omega), upd_s]
                have e2 : pN (J9 (m + 1)) np 2 = nI v2 := by rw [jk 2 (by decide) (by decide) (by decide)]; exact upd_s
                have e3 : pN (J9 (m + 1)) np 3 = 0 := by rw [jk 3 (by decide) (by decide) (by decide), hM4 3 (by decide) (by decide)]; exact M1z 3 (by decide)
                have e4 : pN (J9 (m + 1)) np 4 = 0 := by rw [jk 4 (by decide) (by decide) (by decide), hM4 4 (by decide) (by decide)]; exact M1z 4 (by decide)
                have p2e : pN (upd (J9 (m + 1)) 2 ((J9 (m + 1) 2) + 1)) np 0 = nI v0 := by show upd _ _ _ (11 + 14 * np + 0) = _; rw [upd_n (by omega)]; exact e0
                rw [p2e, j2, nI_s1, j7]
                obtain ⟨M9, hM9⟩ : ∃ M9, M9 = upd (upd (J9 (m + 1)) 2 (nI (np + 1))) 7 (N 7 + nI v0) := ⟨_, rfl⟩
                rw [← hM9]
                have m9 : ∀ j, j ≠ 2 → j ≠ 7 → M9 j = J9 (m + 1) j := fun j h1 h2 => by rw [hM9, upd_n h2, upd_n h1]
                have m92 : M9 2 = nI (np + 1) := by rw [hM9, upd_n (by decide), upd_s]
                have m97 : M9 7 = N 7 + nI v0 := by rw [hM9, upd_s]
                have m9p : ∀ k, k < 14 → pN M9 np k = pN (J9 (m + 1)) np k := fun k hk => m9 _ (by omega) (by omega)
                have m9o : ∀ j, j ≠ 2 → j ≠ 7 → (j < 11 + 14 * np ∨ 11 + 14 * np + 13 < j) → M9 j = N j := fun j h1 h2 h3 => (m9 j h1 h2).trans (jo j h3)
                have hnm : ∀ j, 11 + 14 * np + 7 ≤ j → j ≤ 11 + 14 * np + 7 + 6 → M9 j = M1 j := fun j h1 h2 => by rw [m9 j (by omega) (by omega), w9 j (by omega) (by omega), sM_s, upd_n (by omega), upd_n (by omega), upd_n (by omega)]
                have nm1 : NmOk M9 (11 + 14 * np + 7) := q3.cg hnm
                have nm2 : sNm M9 (11 + 14 * np + 7) = sNm (tN B n (tE B n p)) 0 := by rw [← q4]; unfold sNm; rw [hnm _ (by omega) (by omega), hnm _ (by omega) (by omega), hnm _ (by omega) (by omega), hnm _ (by omega) (by omega), hnm _ (by omega) (by omega), hnm _ (by omega) (by omega), hnm _ (by omega) (by omega)]
                have iq : ∀ j, j ≠ 6 → j ≠ 7 → I9 (r + 3 + 4 + np) j = Z (r + 3 + 4 + np) j := fun j h1 h2 => (w7 j h1 h2).trans (by rw [aZ _ (by omega)])
                have io : ∀ a, a ≠ r + 1 → a ≠ (r + 3 + 4 + np) → a ≠ r + 3 → I9 a = I a := fun a h1 h2 h3 => by rw [w6 a h1 h2, aZ a h3]; exact funext fun j => oZ a j h1 h2
                have i3 : I9 (r + 3) = (u2 (u2 Z (r + 3) 3 (nI (np + 1))) (r + 3) 13 (N 7 + nI v0)) (r + 3) := w6 _ (by omega) (by omega)
                have f01 : ∀ f, f ≤ 1 → nI f = 0 ∨ nI f = 1 := fun f hf => by rcases (show f = 0 ∨ f = 1 by omega) with rfl | rfl; exact Or.inl rfl; exact Or.inr rfl
                have hcb : ∀ a, a ≤ 1 → cB (nI a) = some () := by decide
                have fl9 := (((((fs_1 hk).trans g4).trans e05).trans e15).trans e25).trans w5
                refine Out.go (v := (0 : Int32)) (I1 := I9) (J1 := sM J9 m M9) (N := M9) (D := D) (k := k9) rfl rfl w3 w4.sm fl9 ⟨⟨R.addP h5 m9o m92 ?_ ⟨by rw [m9p 5 (by decide), x5]; exact f01 f5 x1, by rw [m9p 6 (by decide), x6]; exact f01 f6 x2⟩ (fun a h1 h2 h3 => io a (by omega) (by omega) (by omega)) (fun j h1 h2 => ?_) ?_ ?_, ⟨fun i hi => ?_, fun i hi => ?_⟩⟩, sM_s, G.addP h5 b2' b3' m9o ((m9p 0 (by decide)).trans e0) (rng_n e06 (by decide) e08) ((m9p 1 (by decide)).trans e1) hy1 hy3 (idx_lt (by omega) e16 (by rw [hy1] at e18; exact e18)) nm1, ⟨?_, ?_⟩, d3⟩ ⟨fun a ha => io a (by omega) (by omega) (by omega), fun j _ => by rw [io r (by omega) (by omega) (by omega)]⟩ ((JQ4.trans w8).sm)
                · unfold RP
                  rw [iq 0 (by decide) (by decide), iq 1 (by decide) (by decide), iq 2 (by decide) (by decide), iq 3 (by decide) (by decide), iq 4 (by decide) (by decide), iq 5 (by decide) (by decide), s0, s1, s2, s3, s4, s5, x3, x4, nm2, m9p 0 (by decide), m9p 1 (by decide), m9p 2 (by decide), m9p 3 (by decide), m9p 4 (by decide), m9p 5 (by decide), m9p 6 (by decide), e0, e1, e2, e3, e4, x5, x6]
                  exact ⟨⟨rfl, rfl, rfl, rfl⟩, rfl, rfl, rfl, rfl⟩
                · rw [i3, u2_k h2, u2_k h1]; exact oZ _ j (by omega) (by omega)
                · rw [i3, u2_k (by decide), u2_s]
                · rw [i3, u2_s, m97]
                · by_cases e : i = np
                  · rw [e, x3, x4]; exact ⟨hcb f5 x1, hcb f6 x2⟩
                  · rw [io _ (by omega) (by omega) (by omega)]; exact Bm.1 i hi
                · rw [io _ (by omega) (by omega) (by omega)]; exact Bm.2 i hi
                · rw [io r (by omega) (by omega) (by omega)]; exact d1
                · rw [sM_n (by omega), w8.2 18 (by decide), JQ4.2 18 (by decide)]; exact d2
              · have hb9 : I9 (r + 3 + 4 + np) 6 = I9 (r + 3 + 4 + np) 6 := rfl
                obtain ⟨JE, y1, y2, y3⟩ := ptD h5 w6
                rw [fs_hab w6, b1_so] at y1
                rw [w1, e3_er, w2, b1_so, y1]
                refine Or.inr ⟨c, s, I9, JE, k9, ⟨rfl, rfl, w3⟩, ⟨w4, w5, y2⟩, ⟨fun a ha => ?_, fun i hi => ?_, fun i hi => ?_⟩, (JQ4.trans (w9.trans y3)).1, fun j hj => (JQ4.trans (w9.trans y3)).2 j (by omega)⟩
                · rw [w7 a (by omega) (by omega) (by omega), aZ a (by omega)]; exact CZ.1 a ha
                · by_cases e : i = np
                  · rw [e]; exact w8
                  · rw [w7 _ (by omega) (by omega) (by omega), aZ _ (by omega)]; exact BZ.1 i hi
                · rw [w7 _ (by omega) (by omega) (by omega), aZ _ (by omega)]; exact BZ.2 i hi
            · obtain ⟨JE, y1, y2, y3⟩ := ptC h5 (v25 := 0) e24
              rw [e21, e3_er, e23, b2_so, y1]
              exact Out.er (I1 := u2 A1 (r + 3 + 4 + np) 2 (nI v1)) (by rw [e3_er]) k7 e22 ((((CX.it e03).u (by omega)).it e13).u (by omega)) ((((BX.it e03).uf (by decide)).it e13).uf (by decide)) rfl y2 ((((((JQ2.jt e04).sm (N := upd M1 (11 + 14 * np + 0) (nI v0))).jt e14).sm (N := upd (upd M1 (11 + 14 * np + 0) (nI v0)) (11 + 14 * np + 1) (nI v1))).jf e25).trans y3)
          · obtain ⟨JE, y1, y2, y3⟩ := ptB h5 (v20 := 0) e14
            rw [e11, e3_er, e13, b2_so, y1]
            exact Out.er (I1 := u2 A0 (r + 3 + 4 + np) 1 (nI v0)) (by rw [e3_er]) k7 e12 ((CX.it e03).u (by omega)) ((BX.it e03).uf (by decide)) rfl y2 ((((JQ2.jt e04).sm (N := upd M1 (11 + 14 * np + 0) (nI v0))).jf e15).trans y3)
        · obtain ⟨JE, y1, y2, y3⟩ := ptA h5 (v14 := 0) e04
          rw [e01, e3_er, e03, b2_so, y1]
          exact Out.er (I1 := X) (by rw [e3_er]) k7 e02 CX BX rfl y2 ((JQ2.jf e05).trans y3)
      · obtain ⟨I4, J4, w1, w2, w3, w4, w5⟩ := cf_step LX (c := 3) (by decide)
        rw [if_neg hz, rf_1 LX.2.2 hz, show (3 : Int32) = nI 3 from rfl, w3, b1_so, b1_so, if_neg w4.l0]
        unfold l_X5_readPerson_66
        rw [show (3 : Int32) = nI 3 from rfl, w1, e2_er, e3_er]
        exact Out.er (I1 := X) rfl (by decide) w2 CX BX rfl w4 ((Jq.refl.jt a3).jf w5)
    · have hN3 : J3 (m + 1) = N := (g5.1 _ (by omega)).trans hN1
      obtain ⟨s, e, s1, s2, s3, s4⟩ := a2.2.2.se a2.1
      obtain ⟨y, t1⟩ := taken_f (J := J3) (m := m) (ba := 18) (st := 14) (cnt := np) (x4 := -1) ((g5.2 13 (by decide) (by decide)).trans s1) ((g5.2 14 (by decide) (by decide)).trans s2) ⟨s3, s4⟩ (fun i hi => by omega) (by omega) (fun i hi => by rw [hN3, show 18 + 14 * i = 11 + 14 * i + 7 by omega]; exact Hn i hi)
      have t1 : f_Y_isTaken J3 m (nI np) 18 14 (-1) = some y := t1
      rw [g1, e3_er, e3_er, g3, b1_so, t1, b1_so, fs_ref g4, b1_so, if_neg g4.l0]
      exact Out.er (I1 := I) rfl k7 g2 Cq.refl Bm rfl g4 ((Jq.refl.jt a3).jf g5)
  · have h5' : np = 6 := by omega
    obtain ⟨I4, J4, q1, q2, q3, q4, q5⟩ := beg_er (j := 2) (cap := 6) h hN (by decide) (by rw [R.f.p.1, h5'])
    have q3 : f_Y_begins J m 2 6 = some J4 := q3
    have hN3 : J4 (m + 1) = N := (q5.1 _ (by omega)).trans hN
    obtain ⟨s, e, s1, s2, s3, s4⟩ := h.2.2.se h.1
    obtain ⟨y, t1⟩ := taken_f (J := J4) (m := m) (ba := 18) (st := 14) (cnt := np) (x4 := -1) ((q5.2 13 (by decide) (by decide)).trans s1) ((q5.2 14 (by decide) (by decide)).trans s2) ⟨s3, s4⟩ (fun i hi => by omega) (by omega) (fun i hi => by rw [hN3, show 18 + 14 * i = 11 + 14 * i + 7 by omega]; exact Hn i hi)
    have t1 : f_Y_isTaken J4 m (nI np) 18 14 (-1) = some y := t1
    refine Out.er (I1 := I) (k := k) ?_ k7' q2 Cq.refl Bm ?_ q4 (Jq.refl.jf q5)
    · unfold f_X5_readPerson l_X5_readPerson_18
      rw [R.h3, h5', if_pos (by decide), q1, e2_er, e3_er]
    · unfold f_Y_readsPerson
      rw [q3, b1_so, ix2, b1_so, hN3, R.f.p.1, fs_name q4, b1_so, t1, b1_so, fs_ref q4, b1_so, if_neg q4.l0]
end IT5

