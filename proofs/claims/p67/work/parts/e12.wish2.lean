/-! items: a wish, put together -/
section IT7
variable {I J I1 I2 I3 J1 J2 J3 I' J' : Mem} {B : Nat → Int32} {n p r k m c s np ns nw D : Nat} {N N' M : Nat → Int32}
theorem pq0 (h : nw < 16) {x : Int32} : f_Y_putsWish J m (nI nw) 0 x = some (sM J m (upd (J (m + 1)) (115 + 15 * nw + 0) x)) := pw_row (k := 0) h (by decide)
theorem pq1 (h : nw < 16) {x : Int32} : f_Y_putsWish J m (nI nw) 1 x = some (sM J m (upd (J (m + 1)) (115 + 15 * nw + 1) x)) := pw_row (k := 1) h (by decide)
theorem pq2 (h : nw < 16) {x : Int32} : f_Y_putsWish J m (nI nw) 2 x = some (sM J m (upd (J (m + 1)) (115 + 15 * nw + 2) x)) := pw_row (k := 2) h (by decide)
theorem fs_wear {y : Int32} (F : Flt J m c s) : f_Y_readsWear J m y = some J := by
  unfold f_Y_readsWear
  rw [fs_word F, b1_so, if_pos rfl]
theorem wtD (hn : nw < 16) {I24 : Mem} (F : Flt I24 m c s) : ∃ J', (b1 (f_Y_forgets I24 m (nI nw)) fun I26 => b1 (f_Y_readsWear I26 m (nI nw)) fun I28 => b1 (ix 4 355) fun j30 => b1 (ix 4 355) fun j31 => b1 (pu I28 (m + 1) j31 ((I28 (m + 1) j30) + 1)) fun I32 => some (I32)) = some J' ∧ Flt J' m c s ∧ Jq I24 J' m := by
  have F2 := F.sm (N := sFg (I24 (m + 1)) nw)
  refine ⟨_, ?_, F2.sm (N := upd (sFg (I24 (m + 1)) nw) 4 ((sFg (I24 (m + 1)) nw) 4 + 1)), Jq.refl.sm.sm⟩
  rw [fg_row hn, b1_so, fs_wear F2, b1_so, ix4, b1_so, b1_so, sM_s, pu_sM, b1_so, sM_sM]
theorem wtC (hn : nw < 16) {I22 : Mem} (W : WF (I22 (m + 1)) np ns nw) (F : Flt I22 m c s) : ∃ J', (b1 (f_Y_readsPlace I22 m (nI nw)) fun I24 => b1 (f_Y_forgets I24 m (nI nw)) fun I26 => b1 (f_Y_readsWear I26 m (nI nw)) fun I28 => b1 (ix 4 355) fun j30 => b1 (ix 4 355) fun j31 => b1 (pu I28 (m + 1) j31 ((I28 (m + 1) j30) + 1)) fun I32 => some (I32)) = some J' ∧ Flt J' m c s ∧ Jq I22 J' m := by
  obtain ⟨M, h1, -⟩ := plF0 hn W F
  obtain ⟨J', g1, g2, g3⟩ := wtD hn (F.sm (N := M))
  rw [h1, b1_so]
  exact ⟨J', g1, g2, Jq.refl.sm.trans g3⟩
theorem wtB (hn : nw < 16) {I20 : Mem} {v19 : Int32} (H : WF N np ns nw) (hM : ∀ j, (j < 115 + 15 * nw ∨ 115 + 15 * nw + 14 < j) → I20 (m + 1) j = N j) (F : Flt I20 m c s) : ∃ J', (b1 (f_Y_putsWish I20 m (nI nw) 1 v19) fun I22 => b1 (f_Y_readsPlace I22 m (nI nw)) fun I24 => b1 (f_Y_forgets I24 m (nI nw)) fun I26 => b1 (f_Y_readsWear I26 m (nI nw)) fun I28 => b1 (ix 4 355) fun j30 => b1 (ix 4 355) fun j31 => b1 (pu I28 (m + 1) j31 ((I28 (m + 1) j30) + 1)) fun I32 => some (I32)) = some J' ∧ Flt J' m c s ∧ Jq I20 J' m := by
  rw [pq1 hn, b1_so]
  obtain ⟨J', g1, g2, g3⟩ := wtC hn (I22 := sM I20 m (upd (I20 (m + 1)) (115 + 15 * nw + 1) v19)) (np := np) (ns := ns) (by rw [sM_s]; exact H.sl hn fun j hj => by rw [upd_n (by omega)]; exact hM j hj) F.sm
  exact ⟨J', g1, g2, Jq.refl.sm.trans g3⟩
theorem wtA (hn : nw < 16) {I15 : Mem} {v14 : Int32} (H : WF N np ns nw) (hM : ∀ j, (j < 115 + 15 * nw ∨ 115 + 15 * nw + 14 < j) → I15 (m + 1) j = N j) (F : Flt I15 m c s) : ∃ J', (b1 (f_Y_putsWish I15 m (nI nw) 0 v14) fun I17 => b2 (f_Y_readNumber I17 m 0 99) fun v19 I20 => b1 (f_Y_putsWish I20 m (nI nw) 1 v19) fun I22 => b1 (f_Y_readsPlace I22 m (nI nw)) fun I24 => b1 (f_Y_forgets I24 m (nI nw)) fun I26 => b1 (f_Y_readsWear I26 m (nI nw)) fun I28 => b1 (ix 4 355) fun j30 => b1 (ix 4 355) fun j31 => b1 (pu I28 (m + 1) j31 ((I28 (m + 1) j30) + 1)) fun I32 => some (I32)) = some J' ∧ Flt J' m c s ∧ Jq I15 J' m := by
  have F2 := F.sm (N := upd (I15 (m + 1)) (115 + 15 * nw + 0) v14)
  rw [pq0 hn, b1_so, fs_rdn F2, b2_so]
  obtain ⟨J', h1, h2, h3⟩ := wtB hn (v19 := 0) H (fun j hj => by rw [sM_s, upd_n (by omega)]; exact hM j hj) F2
  exact ⟨J', h1, h2, Jq.refl.sm.trans h3⟩
theorem zw_go (hn : nw < 16) : ∀ d k, k + d = 15 → ∀ f, d < f → ∀ J, ∃ M g, l_Y_readsWish_42 f J m (nI nw) (nI k) = l_Y_readsWish_42 (g + 1) (sM J m M) m (nI nw) (nI 15) ∧ (∀ j, (j < 115 + 15 * nw + k ∨ 115 + 15 * nw + 14 < j) → M j = J (m + 1) j) ∧ ∀ j, 115 + 15 * nw + k ≤ j → j ≤ 115 + 15 * nw + 14 → M j = 0 := by
  intro d
  induction d with
  | zero =>
    intro k hk f hf J
    obtain ⟨f, rfl⟩ : ∃ g, f = g + 1 := ⟨f - 1, by omega⟩
    obtain rfl : k = 15 := by omega
    exact ⟨J (m + 1), f, by rw [sM_i], fun _ _ => rfl, fun j h1 h2 => by omega⟩
  | succ d ih =>
    intro k hk f hf J
    obtain ⟨f, rfl⟩ : ∃ g, f = g + 1 := ⟨f - 1, by omega⟩
    obtain ⟨M, g, h1, h2, h3⟩ := ih (k + 1) (by omega) f (by omega) (sM J m (upd (J (m + 1)) (115 + 15 * nw + k) 0))
    rw [sM_sM] at h1
    refine ⟨M, g, ?_, fun j hj => ?_, fun j k1 k2 => ?_⟩
    · show (if 15 ≤ nI k then _ else (b1 (f_Y_putsWish J m (nI nw) (nI k) 0) fun I40 => l_Y_readsWish_42 f I40 m (nI nw) (nI k + 1))) = _
      rw [if_neg (show ¬ (15 : Int32) ≤ nI k from by rw [show (15 : Int32) = nI 15 from rfl, ile (by omega) (by omega)]; omega), pw_row hn (by omega), b1_so, nI_s1, h1]
    · rw [h2 j (by omega), sM_s, upd_n (by omega)]
    · by_cases e : j = 115 + 15 * nw + k
      · rw [h2 j (by omega), sM_s, e, upd_s]
      · exact h3 j (by omega) k2
/-- the end of a wish -/
theorem w_fin {Z Y : Mem} {e v0 v1 pz kz : Nat} {h a pk : Int32} (h5 : nw < 16) (R : RM I (r + 3) N np ns nw) (Bm : BM I (r + 3)) (G : PG N np ns nw D) (d1 : I r 7 = nI D) (d2 : J m 18 = nI D) (d3 : D ≤ 2000) (he : e ≤ 9) (h0 : 1 ≤ v0 ∧ v0 ≤ 99) (k7 : kz < 7) (A : Af Z Y r m B n pz) (F : FS B p pz) (io : ∀ x, x ≠ r + 1 → x ≠ (r + 3 + 15 + nw) → Z x = I x)
    (z0 : Z (r + 3 + 15 + nw) 0 = pk) (z1 : Z (r + 3 + 15 + nw) 1 = nI v0) (z2 : Z (r + 3 + 15 + nw) 2 = nI v1) (z4 : Z (r + 3 + 15 + nw) 4 = (if h = 0 then a else -1)) (z5 : Z (r + 3 + 15 + nw) 5 = (if h = 1 then a else -1)) (z6 : Z (r + 3 + 15 + nw) 6 = 0) (z7 : Z (r + 3 + 15 + nw) 7 = 0) (z8 : Z (r + 3 + 15 + nw) 8 = -1) (z9 : Z (r + 3 + 15 + nw) 9 = -1) (z10 : Z (r + 3 + 15 + nw) 10 = -1)
    (jq : Jq J Y m) (jo : ∀ j, (j < 115 + 15 * nw ∨ 115 + 15 * nw + 14 < j) → Y (m + 1) j = N j) (y0 : wN (Y (m + 1)) nw 0 = nI v0) (y1 : wN (Y (m + 1)) nw 1 = nI v1) (y2 : wN (Y (m + 1)) nw 2 = nI e) (y3 : wN (Y (m + 1)) nw 3 = h) (y4 : wN (Y (m + 1)) nw 4 = a) (y5 : wN (Y (m + 1)) nw 5 = -1) (y6 : wN (Y (m + 1)) nw 6 = -1) (y7 : wN (Y (m + 1)) nw 7 = -1)
    (yn : NmOk (Y (m + 1)) (115 + 15 * nw + 8)) (ys : sNm (Y (m + 1)) (115 + 15 * nw + 8) = pk)
    (hp : (h = 0 ∧ ∃ s c, s < ns ∧ a = nI s ∧ sN N s 0 = nI c ∧ c ≤ 8 ∧ sStock N nw (nI s) < c) ∨ (h = 1 ∧ ∃ p, p < np ∧ a = nI p ∧ sOwns N nw (nI p) < 4)) :
    Out I J r m B n p (l_X5_readWish_133 Z kz r (nI e) (r + 3 + 15 + nw)) (b1 (ix 4 355) fun j30 => b1 (ix 4 355) fun j31 => b1 (pu Y (m + 1) j31 ((Y (m + 1) j30) + 1)) fun I32 => some (I32)) := by
  have b1' := R.f.p.2
  have b2' := R.f.s.2
  have j4 : Y (m + 1) 4 = nI nw := (jo 4 (by omega)).trans R.f.w.1
  have zq : Z (r + 3) 5 = nI nw := (congrFun (io _ (by omega) (by omega)) 5).trans R.h5
  unfold l_X5_readWish_133
  rw [pu_so, b1_so, u2_a (show r + 3 ≠ (r + 3 + 15 + nw) by omega), zq, nI_s1, pu_so, b1_so, ix4, b1_so, b1_so, j4, nI_s1, pu_so, b1_so, u2_sM (J := Y) (m := m) rfl]
  obtain ⟨M9, hM9⟩ : ∃ M9, M9 = upd (Y (m + 1)) 4 (nI (nw + 1)) := ⟨_, rfl⟩
  rw [← hM9]
  have m4 : M9 4 = nI (nw + 1) := by rw [hM9, upd_s]
  have mn : ∀ j, j ≠ 4 → M9 j = Y (m + 1) j := fun j hj => by rw [hM9, upd_n hj]
  have mw : ∀ k, wN M9 nw k = wN (Y (m + 1)) nw k := fun k => mn _ (by omega)
  have mo : ∀ j, j ≠ 4 → (j < 115 + 15 * nw ∨ 115 + 15 * nw + 14 < j) → M9 j = N j := fun j h1 h2 => (mn j h1).trans (jo j h2)
  have ms : sNm M9 (115 + 15 * nw + 8) = pk := by
    rw [← ys]
    unfold sNm
    rw [mn _ (by omega), mn _ (by omega), mn _ (by omega), mn _ (by omega), mn _ (by omega), mn _ (by omega), mn _ (by omega)]
  obtain ⟨X, hX⟩ : ∃ X, X = u2 (u2 Z (r + 3 + 15 + nw) 3 (nI e)) (r + 3) 5 (nI (nw + 1)) := ⟨_, rfl⟩
  rw [← hX]
  have xo : ∀ x, x ≠ r + 3 → x ≠ (r + 3 + 15 + nw) → X x = Z x := fun x h1 h2 => by rw [hX, u2_a h1, u2_a h2]
  have xq : ∀ j, j ≠ 3 → X (r + 3 + 15 + nw) j = Z (r + 3 + 15 + nw) j := fun j hj => by rw [hX, u2_a (by omega), u2_k hj]
  have x3 : X (r + 3 + 15 + nw) 3 = nI e := by rw [hX, u2_a (by omega), u2_s]
  have xh : ∀ j, j ≠ 5 → X (r + 3) j = I (r + 3) j := fun j hj => by rw [hX, u2_k hj, u2_a (by omega)]; exact congrFun (io _ (by omega) (by omega)) j
  have x5 : X (r + 3) 5 = nI (nw + 1) := by rw [hX, u2_s]
  have h01 : h = 0 ∨ h = 1 := hp.elim (fun z => Or.inl z.1) (fun z => Or.inr z.1)
  refine Out.go (v := ()) (I1 := X) (J1 := sM Y m M9) (N := M9) (D := D) (k := kz) rfl rfl k7 ((A.cl (xo _ (by omega) (by omega)) (xo _ (by omega) (by omega))).sm) F ⟨⟨R.addW (h := h) (a := a) h5 mo m4 ?_ ⟨v0, e, ⟨(mw 0).trans y0, h0⟩, (mw 2).trans y2, he⟩ ((mw 3).trans y3) ((mw 4).trans y4) ((mw 5).trans y5) hp (fun x z1 z2 z3 => (xo x (by omega) (by omega)).trans (io x (by omega) (by omega))) xh x5, ⟨fun i hi => ?_, fun i hi => ?_⟩⟩, sM_s, G.addW b1' b2' h5 mo (yn.cg fun j _ _ => mn j (by omega)) ((mw 5).trans y5), ⟨?_, ?_⟩, d3⟩ ⟨fun x hx => (xo x (by omega) (by omega)).trans (io x (by omega) (by omega)), fun j _ => by rw [xo r (by omega) (by omega), io r (by omega) (by omega)]⟩ jq.sm
  · unfold RW
    rw [xq 0 (by decide), xq 1 (by decide), xq 2 (by decide), x3, xq 4 (by decide), xq 5 (by decide), xq 6 (by decide), xq 7 (by decide), xq 8 (by decide), xq 9 (by decide), xq 10 (by decide), z0, z1, z2, z4, z5, z6, z7, z8, z9, z10, mw, mw, mw, mw, mw, mw, mw, mw, y0, y1, y2, y3, y4, y5, y6, y7, ms]
    refine ⟨⟨rfl, rfl, rfl, rfl⟩, ⟨rfl, rfl⟩, ⟨?_, ?_⟩, rfl, rfl, rfl⟩
    · rcases h01 with e | e <;> rw [e] <;> rfl
    · rcases h01 with e | e <;> rw [e] <;> rfl
  · rw [xo _ (by omega) (by omega), io _ (by omega) (by omega)]; exact Bm.1 i hi
  · by_cases e : i = nw
    · rw [e, xq 6 (by decide), xq 7 (by decide), z6, z7]; exact ⟨cB0, cB0⟩
    · rw [xo _ (by omega) (by omega), io _ (by omega) (by omega)]; exact Bm.2 i hi
  · rw [xo r (by omega) (by omega), io r (by omega) (by omega)]; exact d1
  · rw [sM_n (by omega), jq.2 18 (by decide)]; exact d2
theorem it_Wish (k7' : k < 7) (h : Ld I J r m B n p) (hk : tK B n p = 1) (P : PM I J r m N np ns nw D) : Out I J r m B n p (f_X5_readWish I k r) (f_Y_readsWish J m) := by
  obtain ⟨⟨R, Bm⟩, hN, G, ⟨d1, d2⟩, d3⟩ := P
  have b1' := R.f.p.2
  have b2' := R.f.s.2
  have b3' := R.f.w.2
  have Hn := G.1.2.2
  by_cases h5 : nw < 16
  · obtain ⟨J1, a1, a2, a3⟩ := beg_ok (j := 4) (cap := 16) h hN (by decide) R.f.w.1 h5 (by decide)
    have a1 : f_Y_begins J m 4 16 = some J1 := a1
    have hN1 : J1 (m + 1) = N := (a3.1 _ (by omega)).trans hN
    have rpre : f_Y_readsWish J m = (b1 (f_Y_looksAtName J1 m) fun I4 => b1 (f_Y_isTaken I4 m (nI nw) 123 15 (-1)) fun v6 => b1 (f_Y_refuses I4 m v6) fun I8 => if (I8 m 10) ≤ 0 then (l_Y_readsWish_42 FU I8 m (nI nw) 0) else (some (I8))) := by
      unfold f_Y_readsWish
      rw [a1, b1_so, ix4, b1_so, hN1, R.f.w.1]
    rw [rpre]
    clear rpre
    have cpre : f_X5_readWish I k r = (e3 (f_X5_readName I k r) (fun E I6 k7 => some (.error E, I6, k7)) fun v5 I6 k7 => b1 (pu I6 (r + 3 + 15 + nw) 0 v5) fun I9 => b1 (f_X3_hasWishNamed I9 (r + 3) (I9 (r + 3 + 15 + nw) 0) (-1)) fun v10 => if v10 = 0 then (l_X5_readWish_67 I9 k7 r (r + 3 + 15 + nw) 1) else (l_X5_readWish_67 I9 k7 r (r + 3 + 15 + nw) 0)) := by
      unfold f_X5_readWish l_X5_readWish_18
      rw [R.h5, if_neg (show ¬ (16 : Int32) ≤ nI nw from by rw [show (16 : Int32) = nI 16 from rfl, ile (by omega) (by omega)]; omega), req_ok, e2_ok, R.h5, ixn16 h5, b1_so]
    rw [cpre]
    clear cpre
    rcases name_step (k := k) a2 with ⟨I3, g1, ⟨g2, g3, g4⟩, ⟨gk, gl⟩, g5⟩ | ⟨c, I3, J3, k2, k7, g1, g2, g3, g4, g5⟩
    · have LX : Ld (u2 I3 (r + 3 + 15 + nw) 0 (sNm (tN B n (tE B n p)) 0)) J1 r m B n _ := g2.cl (u2_a (by omega)) (u2_a (by omega))
      have oX : ∀ a j, a ≠ r + 1 → a ≠ (r + 3 + 15 + nw) → (u2 I3 (r + 3 + 15 + nw) 0 (sNm (tN B n (tE B n p)) 0)) a j = I a j := fun a j z1 z2 => by rw [u2_a z2, g3 a z1]
      have CX : Cq I (u2 I3 (r + 3 + 15 + nw) 0 (sNm (tN B n (tE B n p)) 0)) r := (Cq.refl.it g3).u (by omega)
      have BX : BM (u2 I3 (r + 3 + 15 + nw) 0 (sNm (tN B n (tE B n p)) 0)) (r + 3) := (Bm.it g3).uf (by decide)
      have sX : (u2 I3 (r + 3 + 15 + nw) 0 (sNm (tN B n (tE B n p)) 0)) (r + 3 + 15 + nw) 0 = sNm (tN B n (tE B n p)) 0 := u2_s
      rw [g1, e3_ok, pu_so, b1_so, g5, b1_so]
      generalize u2 I3 (r + 3 + 15 + nw) 0 (sNm (tN B n (tE B n p)) 0) = X at LX oX CX BX sX ⊢
      have oXr : ∀ a, a ≠ r + 1 → a ≠ (r + 3 + 15 + nw) → X a = I a := fun a z1 z2 => funext fun j => oX a j z1 z2
      have RX : RM X (r + 3) N np ns nw := R.sk (oXr _ (by omega) (by omega)) (fun i hi => oXr _ (by omega) (by omega)) (fun i hi => oXr _ (by omega) (by omega)) (fun i hi => oXr _ (by omega) (by omega))
      obtain ⟨z, t1, t2, t3⟩ := taken_w LX gk gl RX hN1 Hn (-1)
      rw [sX, t1, b1_so, t2, b1_so]
      by_cases hz : z = 0
      · rw [hz, if_pos rfl, rf_0 LX.2.2, b1_so, if_pos (by rw [LX.2.2.1.1]; decide)]
        obtain ⟨M0, gf, u1, u2', u3⟩ := zw_go (m := m) h5 15 0 (by decide) FU (FU_up (by decide)) J1
        rw [hN1] at u2'
        rw [show (0 : Int32) = nI 0 from rfl, u1]
        have LX0 : Ld X (sM J1 m M0) r m B n _ := LX.sm
        obtain ⟨M1, q1, q2, q3, q4⟩ := names_row LX0.2.2 LX0.1 gk gl (a := 115 + 15 * nw + 8) (by omega)
        rw [sM_s] at q2
        rw [sM_sM] at q1
        obtain ⟨J2, c1, c2, c3⟩ := (LX.sm (N := M1)).goes
        have hN2 : J2 (m + 1) = M1 := (c3.1 _ (by omega)).trans sM_s
        have JQ2 : Jq J J2 m := ((Jq.refl.jt a3).sm).jt c3
        unfold l_Y_readsWish_42
        rw [if_pos (show (15 : Int32) ≤ nI 15 from by decide), lk_aw (by omega), q1, b1_so, c1, b1_so]
        unfold l_X5_readWish_67
        rw [req_ok, e2_ok]
        have M1o : ∀ j, (j < 115 + 15 * nw ∨ 115 + 15 * nw + 14 < j) → M1 j = N j := fun j hj => (q2 j (by omega)).trans (u2' j (by omega))
        have M1z : ∀ k, k < 8 → wN M1 nw k = 0 := fun k hk => (q2 _ (by omega)).trans (u3 _ (by omega) (by omega))
        rcases rdn_step (k := 1) (lo := 1) (hi := 99) c2 with ⟨v0, A0, K0, e01, ⟨e02, e03, e04, e05⟩, ⟨e06, e07, e08⟩, e09⟩ | ⟨c, A0, K0, k2, k7, e01, e02, e03, e04, e05⟩
        · have hK0 : K0 (m + 1) = M1 := (e04.1 _ (by omega)).trans hN2
          have f0 : Af (u2 A0 (r + 3 + 15 + nw) 1 (nI v0)) (sM K0 m (upd M1 (115 + 15 * nw + 0) (nI v0))) r m B n _ := (e02.cl (u2_a (by omega)) (u2_a (by omega))).sm
          have hv0 : 1 ≤ v0 ∧ v0 ≤ 99 := ⟨by rw [show (1 : Int32) = nI 1 from rfl, ilt (by omega) (by omega)] at e07; omega, rng_n e06 (by decide) e08⟩
          rw [e01, e3_ok, pu_so, b1_so, e09, b2_so, pq0 h5, b1_so, hK0]
          rcases rdn_step (k := 2) (lo := 0) (hi := 99) f0 with ⟨v1, A1, K1, e11, ⟨e12, e13, e14, e15⟩, ⟨e16, e17, e18⟩, e19⟩ | ⟨c, A1, K1, k2, k7, e11, e12, e13, e14, e15⟩
          · have hK1 : K1 (m + 1) = upd M1 (115 + 15 * nw + 0) (nI v0) := (e14.1 _ (by omega)).trans sM_s
            rw [e11, e3_ok, pu_so, b1_so, pu_so, b1_so, pu_so, b1_so, e19, b2_so, pq1 h5, b1_so, hK1]
            have CZ : Cq I (u2 (u2 (u2 A1 (r + 3 + 15 + nw) 2 (nI v1)) (r + 3 + 15 + nw) 6 0) (r + 3 + 15 + nw) 7 0) r := (((((CX.it e03).u (by omega)).it e13).u (by omega)).u (by omega)).u (by omega)
            have oZ : ∀ a, a ≠ r + 1 → a ≠ (r + 3 + 15 + nw) → (u2 (u2 (u2 A1 (r + 3 + 15 + nw) 2 (nI v1)) (r + 3 + 15 + nw) 6 0) (r + 3 + 15 + nw) 7 0) a = I a := fun a z1 z2 => by rw [u2_a z2, u2_a z2, u2_a z2, e13 a z1, u2_a z2, e03 a z1, oXr a z1 z2]
            have s7 : (u2 (u2 (u2 A1 (r + 3 + 15 + nw) 2 (nI v1)) (r + 3 + 15 + nw) 6 0) (r + 3 + 15 + nw) 7 0) (r + 3 + 15 + nw) 7 = 0 := u2_s
            have s6 : (u2 (u2 (u2 A1 (r + 3 + 15 + nw) 2 (nI v1)) (r + 3 + 15 + nw) 6 0) (r + 3 + 15 + nw) 7 0) (r + 3 + 15 + nw) 6 = 0 := by rw [u2_k (by decide), u2_s]
            have s2 : (u2 (u2 (u2 A1 (r + 3 + 15 + nw) 2 (nI v1)) (r + 3 + 15 + nw) 6 0) (r + 3 + 15 + nw) 7 0) (r + 3 + 15 + nw) 2 = nI v1 := by rw [u2_k (by decide), u2_k (by decide), u2_s]
            have s1 : (u2 (u2 (u2 A1 (r + 3 + 15 + nw) 2 (nI v1)) (r + 3 + 15 + nw) 6 0) (r + 3 + 15 + nw) 7 0) (r + 3 + 15 + nw) 1 = nI v0 := by rw [u2_k (by decide), u2_k (by decide), u2_k (by decide), e13 _ (by omega), u2_s]
            have s0 : (u2 (u2 (u2 A1 (r + 3 + 15 + nw) 2 (nI v1)) (r + 3 + 15 + nw) 6 0) (r + 3 + 15 + nw) 7 0) (r + 3 + 15 + nw) 0 = sNm (tN B n (tE B n p)) 0 := by rw [u2_k (by decide), u2_k (by decide), u2_k (by decide), e13 _ (by omega), u2_k (by decide), e03 _ (by omega), sX]
            have fZ : Af (u2 (u2 (u2 A1 (r + 3 + 15 + nw) 2 (nI v1)) (r + 3 + 15 + nw) 6 0) (r + 3 + 15 + nw) 7 0) (sM K1 m (upd (upd M1 (115 + 15 * nw + 0) (nI v0)) (115 + 15 * nw + 1) (nI v1))) r m B n _ := (e12.cl (by rw [u2_a (by omega), u2_a (by omega), u2_a (by omega)]) (by rw [u2_a (by omega), u2_a (by omega), u2_a (by omega)])).sm
            have BZ : BM (u2 (u2 (u2 A1 (r + 3 + 15 + nw) 2 (nI v1)) (r + 3 + 15 + nw) 6 0) (r + 3 + 15 + nw) 7 0) (r + 3) := by
              refine ⟨fun i hi => ?_, fun i hi => ?_⟩
              · rw [oZ _ (by omega) (by omega)]; exact Bm.1 i hi
              · by_cases e : i = nw
                · rw [e, s6, s7]; exact ⟨cB0, cB0⟩
                · rw [oZ _ (by omega) (by omega)]; exact Bm.2 i hi
            generalize (u2 (u2 (u2 A1 (r + 3 + 15 + nw) 2 (nI v1)) (r + 3 + 15 + nw) 6 0) (r + 3 + 15 + nw) 7 0) = Z at CZ oZ s0 s1 s2 s6 s7 fZ BZ ⊢
            have RZ : RM Z (r + 3) N np ns nw := R.sk (oZ _ (by omega) (by omega)) (fun i hi => oZ _ (by omega) (by omega)) (fun i hi => oZ _ (by omega) (by omega)) (fun i hi => oZ _ (by omega) (by omega))
            have hM3 : ∀ j, (j < 115 + 15 * nw ∨ 115 + 15 * nw + 14 < j) → (sM K1 m (upd (upd M1 (115 + 15 * nw + 0) (nI v0)) (115 + 15 * nw + 1) (nI v1))) (m + 1) j = N j := fun j hj => by rw [sM_s, upd_n (by omega), upd_n (by omega)]; exact M1o j hj
            have JQ4 : Jq J (sM K1 m (upd (upd M1 (115 + 15 * nw + 0) (nI v0)) (115 + 15 * nw + 1) (nI v1))) m := (((JQ2.jt e04).sm (N := upd M1 (115 + 15 * nw + 0) (nI v0))).jt e14).sm
            have fl9 := ((((fs_1 hk).trans g4).trans e05).trans e15)
            have w0' : wN (upd (upd M1 (115 + 15 * nw + 0) (nI v0)) (115 + 15 * nw + 1) (nI v1)) nw 0 = nI v0 := by show upd _ _ _ (115 + 15 * nw + 0) = _; rw [upd_n (by omega), upd_s]
            have w1' : wN (upd (upd M1 (115 + 15 * nw + 0) (nI v0)) (115 + 15 * nw + 1) (nI v1)) nw 1 = nI v1 := upd_s
            have wk' : ∀ j, j ≠ 115 + 15 * nw + 0 → j ≠ 115 + 15 * nw + 1 → (upd (upd M1 (115 + 15 * nw + 0) (nI v0)) (115 + 15 * nw + 1) (nI v1)) j = M1 j := fun j h1 h2 => by rw [upd_n h2, upd_n h1]
            have HP := place_step (k := 2) h5 fZ RZ (R.f.sl h5 hM3) hM3
            have w0s : wN ((sM K1 m (upd (upd M1 (115 + 15 * nw + 0) (nI v0)) (115 + 15 * nw + 1) (nI v1))) (m + 1)) nw 0 = nI v0 := by rw [sM_s]; exact w0'
            have w1s : wN ((sM K1 m (upd (upd M1 (115 + 15 * nw + 0) (nI v0)) (115 + 15 * nw + 1) (nI v1))) (m + 1)) nw 1 = nI v1 := by rw [sM_s]; exact w1'
            have wks : ∀ j, j ≠ 115 + 15 * nw + 0 → j ≠ 115 + 15 * nw + 1 → ((sM K1 m (upd (upd M1 (115 + 15 * nw + 0) (nI v0)) (115 + 15 * nw + 1) (nI v1))) (m + 1)) j = M1 j := fun j h1 h2 => by rw [sM_s]; exact wk' j h1 h2
            generalize (sM K1 m (upd (upd M1 (115 + 15 * nw + 0) (nI v0)) (115 + 15 * nw + 1) (nI v1))) = Y at fZ hM3 JQ4 HP w0s w1s wks ⊢
            rcases HP with ⟨I9, J9, k9, p9, h, b, ⟨x1, x2, x3⟩, ⟨x4, x5⟩, ⟨x6, x7⟩, ⟨x8, x9, x10, x11, x12⟩, ⟨x13, x14⟩, ⟨x15, x16⟩, x17⟩ | ⟨c, s, I9, J9, k9, ⟨x1, x2, x3⟩, ⟨x4, x5⟩, x6, x7⟩
            · have A5 : Af I9 (sM J9 m (sFg (J9 (m + 1)) nw)) r m B n p9 := x4.sm
              rw [x1, e3_ok, x2, b1_so, fg_row h5, b1_so]
              have jq5 : Jq J (sM J9 m (sFg (J9 (m + 1)) nw)) m := (JQ4.trans x13).sm
              have fgo : ∀ j, j ≠ 115 + 15 * nw + 5 → j ≠ 115 + 15 * nw + 6 → j ≠ 115 + 15 * nw + 7 → (sFg (J9 (m + 1)) nw) j = J9 (m + 1) j := fun j h1 h2 h3 => by unfold sFg; rw [upd_n h3, upd_n h2, upd_n h1]
              have fg5 : wN (sFg (J9 (m + 1)) nw) nw 5 = -1 := by unfold sFg; show upd _ _ _ (115 + 15 * nw + 5) = _; rw [upd_n (by omega), upd_n (by omega), upd_s]
              have fg6 : wN (sFg (J9 (m + 1)) nw) nw 6 = -1 := by unfold sFg; show upd _ _ _ (115 + 15 * nw + 6) = _; rw [upd_n (by omega), upd_s]
              have fg7 : wN (sFg (J9 (m + 1)) nw) nw 7 = -1 := by unfold sFg; exact upd_s
              have f9 : ∀ j, j ≠ 115 + 15 * nw + 3 → j ≠ 115 + 15 * nw + 4 → j ≠ 115 + 15 * nw + 5 → j ≠ 115 + 15 * nw + 6 → j ≠ 115 + 15 * nw + 7 → (sFg (J9 (m + 1)) nw) j = Y (m + 1) j := fun j h1 h2 h3 h4 h5 => (fgo j h3 h4 h5).trans (x14 j h1 h2)
              have fgN : ∀ j, 115 + 15 * nw + 8 ≤ j → j ≤ 115 + 15 * nw + 8 + 6 → (sFg (J9 (m + 1)) nw) j = M1 j := fun j h1 h2 => (f9 j (by omega) (by omega) (by omega) (by omega) (by omega)).trans (wks j (by omega) (by omega))
              have io9 : ∀ x, x ≠ r + 1 → x ≠ (r + 3 + 15 + nw) → I9 x = I x := fun x h1 h2 => (x6 x h1 h2).trans (oZ x h1 h2)
              have fin : ∀ {Z' Y' : Mem} {e pz kz : Nat}, e ≤ 9 → kz < 7 → Af Z' Y' r m B n pz → Fl B p9 pz → It I9 Z' r → Jq (sM J9 m (sFg (J9 (m + 1)) nw)) Y' m → (∀ j, j ≠ 115 + 15 * nw + 2 → Y' (m + 1) j = (sFg (J9 (m + 1)) nw) j) → wN (Y' (m + 1)) nw 2 = nI e → Out I J r m B n p (l_X5_readWish_133 Z' kz r (nI e) (r + 3 + 15 + nw)) (b1 (ix 4 355) fun j30 => b1 (ix 4 355) fun j31 => b1 (pu Y' (m + 1) j31 ((Y' (m + 1) j30) + 1)) fun I32 => some (I32)) := fun {Z' Y' e pz kz} he hkz hA hF hI hJ hY h2 =>
                w_fin (pk := sNm (tN B n (tE B n p)) 0) h5 R Bm G d1 d2 d3 he hv0 hkz hA ((fl9.trans x5).trans hF) (fun x h1 h2 => (hI x h1).trans (io9 x h1 h2))
                  (by rw [hI _ (by omega), x7 0 (by omega)]; exact s0) (by rw [hI _ (by omega), x7 1 (by omega)]; exact s1) (by rw [hI _ (by omega), x7 2 (by omega)]; exact s2) (by rw [hI _ (by omega)]; exact x8) (by rw [hI _ (by omega)]; exact x9) (by rw [hI _ (by omega), x7 6 (by omega)]; exact s6) (by rw [hI _ (by omega), x7 7 (by omega)]; exact s7) (by rw [hI _ (by omega)]; exact x10) (by rw [hI _ (by omega)]; exact x11) (by rw [hI _ (by omega)]; exact x12)
                  (jq5.trans hJ) (fun j hj => by rw [hY j (by omega), f9 j (by omega) (by omega) (by omega) (by omega) (by omega)]; exact hM3 j hj)
                  ((hY _ (by omega)).trans ((f9 _ (by omega) (by omega) (by omega) (by omega) (by omega)).trans w0s)) ((hY _ (by omega)).trans ((f9 _ (by omega) (by omega) (by omega) (by omega) (by omega)).trans w1s)) h2 ((hY _ (by omega)).trans ((fgo _ (by omega) (by omega) (by omega)).trans x15)) ((hY _ (by omega)).trans ((fgo _ (by omega) (by omega) (by omega)).trans x16)) ((hY _ (by omega)).trans fg5) ((hY _ (by omega)).trans fg6) ((hY _ (by omega)).trans fg7)
                  (q3.cg fun j h1 h2 => (hY j (by omega)).trans (fgN j h1 h2)) (by rw [← q4]; unfold sNm; rw [hY _ (by omega), hY _ (by omega), hY _ (by omega), hY _ (by omega), hY _ (by omega), hY _ (by omega), hY _ (by omega), fgN _ (by omega) (by omega), fgN _ (by omega) (by omega), fgN _ (by omega) (by omega), fgN _ (by omega) (by omega), fgN _ (by omega) (by omega), fgN _ (by omega) (by omega), fgN _ (by omega) (by omega)]) x17
              have hz2 : wN (sFg (J9 (m + 1)) nw) nw 2 = 0 := (f9 _ (by omega) (by omega) (by omega) (by omega) (by omega)).trans ((wks _ (by omega) (by omega)).trans (M1z 2 (by decide)))
              by_cases w24 : Wd B n p9 24
              · obtain ⟨I10, y1, y2, y3⟩ := sif_y (k := k9) A5 (by decide) w24
                have rw24 := A5.2.2.word A5.1 (by decide) w24
                obtain ⟨J10, z1, z2, z3⟩ := y2.goes
                rw [y1, b3_so, if_neg (show ¬ (1 : Int32) = 0 from by decide)]
                unfold f_Y_readsWear
                rw [rw24, b1_so, if_neg (show ¬ (1 : Int32) = 0 from by decide), z1, b1_so]
                rcases rdn_step (k := tK B n p9) (lo := 0) (hi := 9) z2 with ⟨e, I11, J11, t01, ⟨t02, t03, t04, t05⟩, ⟨t06, t07, t08⟩, t09⟩ | ⟨c, I11, J11, k2, k7, t01, t02, t03, t04, t05⟩
                · have hJ11 : J11 (m + 1) = sFg (J9 (m + 1)) nw := (t04.1 _ (by omega)).trans ((z3.1 _ (by omega)).trans sM_s)
                  rw [t01, e3_ok, t09, b2_so, pq2 h5, b1_so, b1_so]
                  exact fin (rng_n t06 (by decide) t08) (by decide) t02.sm ((fl_1 w24.1).trans t05) (y3.trans t03) ((Jq.refl.jt z3).jt t04).sm (fun j hj => by rw [sM_s, upd_n hj, hJ11]) (by rw [sM_s]; exact upd_s)
                · obtain ⟨JE, hJE⟩ : ∃ JE, JE = sM (sM J11 m (upd (J11 (m + 1)) (115 + 15 * nw + 2) 0)) m (upd ((sM J11 m (upd (J11 (m + 1)) (115 + 15 * nw + 2) 0)) (m + 1)) 4 (((sM J11 m (upd (J11 (m + 1)) (115 + 15 * nw + 2) 0)) (m + 1)) 4 + 1)) := ⟨_, rfl⟩
                  rw [t01, e3_er, t03, b2_so, pq2 h5, b1_so, b1_so, ix4, b1_so, b1_so, pu_so, b1_so, u2_sM rfl, ← hJE]
                  refine Out.er (I1 := I10) rfl k7 t02 ⟨fun x hx => (y3 x (by omega)).trans (io9 x (by omega) (by omega)), fun j _ => by rw [y3 r (by omega), io9 r (by omega) (by omega)]⟩ ⟨fun i hi => ?_, fun i hi => ?_⟩ rfl (by rw [hJE]; exact t04.sm.sm) (by rw [hJE]; exact (((jq5.jt z3).jf t05).sm).sm)
                  · rw [y3 _ (by omega), io9 _ (by omega) (by omega)]; exact Bm.1 i hi
                  · rw [y3 _ (by omega)]
                    by_cases e : i = nw
                    · rw [e, x7 6 (by omega), x7 7 (by omega), s6, s7]; exact ⟨cB0, cB0⟩
                    · rw [io9 _ (by omega) (by omega)]; exact Bm.2 i hi
              · obtain ⟨I10, y1, y2, y3⟩ := sif_n (k := k9) A5 (by decide) w24
                have rw24 := A5.2.2.noword A5.1 (by decide) w24
                rw [y1, b3_so, if_pos rfl]
                unfold f_Y_readsWear
                rw [rw24, b1_so, if_pos rfl, b1_so]
                exact fin (e := 0) (by decide) tK_7 y2 Fl.refl y3 Jq.refl (fun j hj => by rw [sM_s]) (by rw [sM_s]; exact hz2)
            · obtain ⟨JE, y1, y2, y3⟩ := wtD h5 x5
              rw [x1, e3_er, x2, b1_so, y1]
              exact Out.er (I1 := Z) rfl x3 x4 CZ BZ rfl y2 ((JQ4.trans x6).trans y3)
          · obtain ⟨JE, y1, y2, y3⟩ := wtB h5 (v19 := 0) R.f (fun j hj => by rw [e15.1 _ (by omega), sM_s, upd_n (by omega)]; exact M1o j hj) e14
            rw [e11, e3_er, e13, b2_so, y1]
            exact Out.er (I1 := u2 A0 (r + 3 + 15 + nw) 1 (nI v0)) rfl k7 e12 ((CX.it e03).u (by omega)) ((BX.it e03).uf (by decide)) rfl y2 ((((JQ2.jt e04).sm (N := upd M1 (115 + 15 * nw + 0) (nI v0))).jf e15).trans y3)
        · obtain ⟨JE, y1, y2, y3⟩ := wtA h5 (v14 := 1) R.f (fun j hj => by rw [e05.1 _ (by omega), hN2]; exact M1o j hj) e04
          rw [e01, e3_er, e03, b2_so, y1]
          exact Out.er (I1 := X) rfl k7 e02 CX BX rfl y2 ((JQ2.jf e05).trans y3)
      · obtain ⟨I4, J4, w1, w2, w3, w4, w5⟩ := cf_step LX (c := 3) (by decide)
        rw [if_neg hz, rf_1 LX.2.2 hz, show (3 : Int32) = nI 3 from rfl, w3, b1_so, b1_so, if_neg w4.l0]
        unfold l_X5_readWish_67
        rw [show (3 : Int32) = nI 3 from rfl, w1, e2_er]
        exact Out.er (I1 := X) rfl (by decide) w2 CX BX rfl w4 ((Jq.refl.jt a3).jf w5)
    · have hN3 : J3 (m + 1) = N := (g5.1 _ (by omega)).trans hN1
      obtain ⟨s, e, s1, s2, s3, s4⟩ := a2.2.2.se a2.1
      obtain ⟨y, t1⟩ := taken_f (J := J3) (m := m) (ba := 123) (st := 15) (cnt := nw) (x4 := -1) ((g5.2 13 (by decide) (by decide)).trans s1) ((g5.2 14 (by decide) (by decide)).trans s2) ⟨s3, s4⟩ (fun i hi => by omega) b3' (fun i hi => by rw [hN3, show 123 + 15 * i = 115 + 15 * i + 8 by omega]; exact Hn i hi)
      have t1 : f_Y_isTaken J3 m (nI nw) 123 15 (-1) = some y := t1
      rw [g1, e3_er, g3, b1_so, t1, b1_so, fs_ref g4, b1_so, if_neg g4.l0]
      exact Out.er (I1 := I) rfl k7 g2 Cq.refl Bm rfl g4 ((Jq.refl.jt a3).jf g5)
  · have h5' : nw = 16 := by omega
    obtain ⟨I4, J4, q1, q2, q3, q4, q5⟩ := beg_er (j := 4) (cap := 16) h hN (by decide) (by rw [R.f.w.1, h5'])
    have q3 : f_Y_begins J m 4 16 = some J4 := q3
    have hN3 : J4 (m + 1) = N := (q5.1 _ (by omega)).trans hN
    obtain ⟨s, e, s1, s2, s3, s4⟩ := h.2.2.se h.1
    obtain ⟨y, t1⟩ := taken_f (J := J4) (m := m) (ba := 123) (st := 15) (cnt := nw) (x4 := -1) ((q5.2 13 (by decide) (by decide)).trans s1) ((q5.2 14 (by decide) (by decide)).trans s2) ⟨s3, s4⟩ (fun i hi => by omega) b3' (fun i hi => by rw [hN3, show 123 + 15 * i = 115 + 15 * i + 8 by omega]; exact Hn i hi)
    have t1 : f_Y_isTaken J4 m (nI nw) 123 15 (-1) = some y := t1
    refine Out.er (I1 := I) (k := k) ?_ k7' q2 Cq.refl Bm ?_ q4 (Jq.refl.jf q5)
    · unfold f_X5_readWish l_X5_readWish_18
      rw [R.h5, h5', if_pos (by decide), q1, e2_er]
    · unfold f_Y_readsWish
      rw [q3, b1_so, ix4, b1_so, hN3, R.f.w.1, fs_name q4, b1_so, t1, b1_so, fs_ref q4, b1_so, if_neg q4.l0]
end IT7

