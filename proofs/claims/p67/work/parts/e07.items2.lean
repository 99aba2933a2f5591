/-! items: rename, gift, swap -/
section IT2
variable {I J I1 I2 I3 J1 J2 J3 I' : Mem} {B : Nat → Int32} {n p r k m c s np ns nw D : Nat} {N N' : Nat → Int32}
/-- only the wishes have changed -/
theorem RM.wr {q : Nat} (R : RM I q N np ns nw) (hI : ∀ a, q ≤ a → a < q + 15 → I' a = I a) (hN : ∀ j, j < 115 → N' j = N j) (W : WF N' np ns nw) (hw : ∀ w, w < nw → RW (I' (q + 15 + w)) N' w) : RM I' q N' np ns nw := by
  have b1 := R.f.p.2
  have b2 := R.f.s.2
  obtain ⟨y, y1, y2⟩ := R.2.1
  refine ⟨W, ⟨y, (hN 0 (by decide)).trans y1, y2⟩, ?_, fun p' hp' => ?_, fun s' hs' => ?_, hw⟩
  · unfold RH
    rw [hI q (by omega) (by omega), hN 0 (by decide), hN 1 (by decide), hN 2 (by decide), hN 3 (by decide), hN 4 (by decide), hN 5 (by decide), hN 6 (by decide), hN 7 (by decide), hN 8 (by decide), hN 9 (by decide), hN 10 (by decide)]
    exact R.h
  · have := R.p hp'
    have e : sNm N' (11 + 14 * p' + 7) = sNm N (11 + 14 * p' + 7) := by
      unfold sNm
      rw [hN _ (by omega), hN _ (by omega), hN _ (by omega), hN _ (by omega), hN _ (by omega), hN _ (by omega), hN _ (by omega)]
    have hn : ∀ k, k < 14 → pN N' p' k = pN N p' k := fun k hk => hN _ (by omega)
    unfold RP at this ⊢
    rw [hI _ (by omega) (by omega), e, hn 0 (by decide), hn 1 (by decide), hn 2 (by decide), hn 3 (by decide), hn 4 (by decide), hn 5 (by decide), hn 6 (by decide)]
    exact this
  · have := R.s hs'
    have hn : ∀ k, k < 4 → sN N' s' k = sN N s' k := fun k hk => hN _ (by omega)
    unfold RS at this ⊢
    rw [hI _ (by omega) (by omega), hn 0 (by decide), hn 1 (by decide), hn 2 (by decide), hn 3 (by decide)]
    exact this
theorem mv_row {a : Nat} {x y : Int32} : ∃ I', f_X8_moveTo I a x y = some I' ∧ (∀ b, b ≠ a → I' b = I b) ∧ (∀ j, j < 4 ∨ j = 6 ∨ j = 7 ∨ 10 < j → I' a j = I a j) ∧ I' a 4 = x ∧ I' a 5 = y ∧ I' a 8 = -1 ∧ I' a 9 = -1 ∧ I' a 10 = -1 := by
  refine ⟨u2 (u2 (u2 (u2 (u2 I a 4 x) a 5 y) a 8 (-1)) a 9 (-1)) a 10 (-1), ?_, fun b hb => ?_, fun j hj => ?_, ?_, ?_, ?_, ?_, u2_s⟩
  · unfold f_X8_moveTo
    rw [pu_so, b1_so, pu_so, b1_so, pu_so, b1_so, pu_so, b1_so, pu_so, b1_so]
  · rw [u2_a hb, u2_a hb, u2_a hb, u2_a hb, u2_a hb]
  · rw [u2_k (by omega), u2_k (by omega), u2_k (by omega), u2_k (by omega), u2_k (by omega)]
  · rw [u2_k (by decide), u2_k (by decide), u2_k (by decide), u2_k (by decide), u2_s]
  · rw [u2_k (by decide), u2_k (by decide), u2_k (by decide), u2_s]
  · rw [u2_k (by decide), u2_k (by decide), u2_s]
  · rw [u2_k (by decide), u2_s]
theorem BM.mv {q a : Nat} (b : BM I q) (h1 : ∀ b, b ≠ a → I' b = I b) (h2 : ∀ j, j < 4 ∨ j = 6 ∨ j = 7 ∨ 10 < j → I' a j = I a j) : BM I' q := by
  have e : ∀ x j, j = 6 ∨ j = 7 → I' x j = I x j := fun x j hj => by
    by_cases h : x = a
    · rw [h]; exact h2 j (by omega)
    · rw [h1 x h]
  exact ⟨fun i hi => by rw [e _ 6 (Or.inl rfl), e _ 7 (Or.inr rfl)]; exact b.1 i hi, fun i hi => by rw [e _ 6 (Or.inl rfl), e _ 7 (Or.inr rfl)]; exact b.2 i hi⟩
/-! rename -/
theorem WF.nm (H : WF N np ns nw) {w : Nat} (hN : ∀ j, (j < 115 + 15 * w + 8 ∨ 115 + 15 * w + 14 < j) → N' j = N j) : WF N' np ns nw := by
  have b1 := H.p.2
  have b2 := H.s.2
  have b3 := H.w.2
  exact H.congr (hN 0 (by omega)) (hN 2 (by omega)) (hN 3 (by omega)) (hN 4 (by omega)) (fun i _ => hN _ (by omega)) (fun i _ => hN _ (by omega)) (fun i _ => hN _ (by omega)) (fun i _ => hN _ (by omega)) (fun i _ => hN _ (by omega)) (fun i _ => hN _ (by omega)) (fun i _ => hN _ (by omega)) (fun i hi => by
    have e : sN N' i 2 = sN N i 2 := hN _ (by omega)
    rw [e]; exact H.st hi) (fun i hi => by
    have e : sN N' i 3 = sN N i 3 := hN _ (by omega)
    rw [e]; exact H.mg hi) (fun i _ => hN _ (by omega)) (fun i _ => hN _ (by omega))
theorem NmOk.cg {a : Nat} (H : NmOk N a) (h : ∀ j, a ≤ j → j ≤ a + 6 → N' j = N j) : NmOk N' a := by
  obtain ⟨l, h1, h2, h3, h4⟩ := H
  refine ⟨l, (h a (by omega) (by omega)).trans h1, h2, h3, fun i hi => ?_⟩
  rw [h _ (by omega) (by omega)]
  exact h4 i hi
theorem PG.nm (G : PG N np ns nw D) (b1 : np ≤ 6) (b2 : ns ≤ 5) (b3 : nw ≤ 16) {w : Nat} (hN : ∀ j, (j < 115 + 15 * w + 8 ∨ 115 + 15 * w + 14 < j) → N' j = N j) (hok : NmOk N' (115 + 15 * w + 8)) : PG N' np ns nw D := by
  obtain ⟨⟨⟨y, f1, f2, f3, f4⟩, f5, f6⟩, ⟨d, h2, h3⟩, h4, h5⟩ := G
  refine ⟨⟨⟨y, (hN 0 (by omega)).trans f1, f2, f3, fun p hp => ?_⟩, fun p hp => (f5 p hp).cg fun j _ _ => hN j (by omega), fun i hi => ?_⟩, ⟨d, (hN 1 (by omega)).trans h2, h3⟩, h4.congr (fun p hp => hN _ (by omega)) (fun s hs => hN _ (by omega)), h5.congr (hN 6 (by omega)) (hN 10 (by omega)) (fun i _ => ⟨hN _ (by omega), hN _ (by omega), hN _ (by omega)⟩)⟩
  · obtain ⟨b, e1, e2⟩ := f4 p hp
    exact ⟨b, (show pN N' p 1 = pN N p 1 from hN _ (by omega)).trans e1, e2⟩
  · by_cases e : i = w
    · rw [e]; exact hok
    · exact (f6 i hi).cg fun j _ _ => hN j (by omega)
theorem taken_w (h : Ld I J r m B n p) (hk : tK B n p = 1) (hl : tE B n p - tS B n p ≤ 6) (R : RM I (r + 3) N np ns nw) (hN : J (m + 1) = N) (Hn : ∀ w, w < nw → NmOk N (115 + 15 * w + 8)) (x4 : Int32) : ∃ v, f_X3_hasWishNamed I (r + 3) (sNm (tN B n p) 0) x4 = some v ∧ f_Y_isTaken J m (nI nw) 123 15 x4 = some v ∧ (v = 0 ∨ v = 1) := by
  have b3 := R.f.w.2
  have e1 := tE_ge (B := B) (n := n) (p := p)
  have e2 := tE_le (B := B) h.1.2
  have h500 := h.1.1
  obtain ⟨u, g1, g2⟩ := hw_go (I := I) (q := r + 3) (y := sNm (tN B n p) 0) (x4 := x4) R.h5 b3 nw 0 (Nat.zero_add _) FU (FU_up (by omega))
  obtain ⟨v, q1, q2⟩ := tk_go (J := J) (m := m) (s := tS B n p) (e := tE B n p) (ba := 123) (st := 15) (cnt := nw) (x4 := x4) h.2.2.2.1.1 h.2.2.2.1.2 ⟨e1, by omega⟩ (fun i hi => by omega) b3 (fun i hi => by rw [hN, show 123 + 15 * i = 115 + 15 * i + 8 by omega]; exact Hn i hi) nw 0 (Nat.zero_add _) FU (FU_up (by omega))
  have eq : ∀ j, j < nw → (Nmd J m (123 + 15 * j) (tS B n p) (tE B n p) ↔ I (r + 3 + 15 + j) 0 = sNm (tN B n p) 0) := fun j hj => by
    rw [show 123 + 15 * j = 115 + 15 * j + 8 by omega, nmd_iff h.2.2 hk hl h.1.2 (by rw [hN]; exact Hn j hj), hN, (R.w hj).1.1]
  have hv : u = v := by
    rcases g2 with ⟨rfl, j, j1, j2, j3⟩ | ⟨rfl, g3⟩ <;> rcases q2 with ⟨rfl, i, i1, i2, i3⟩ | ⟨rfl, q3⟩
    · rfl
    · exact absurd ((eq j j1.2).mpr j3) (q3 j j1.1 j1.2 j2)
    · exact absurd ((eq i i1.2).mp i3) (g3 i i1.1 i1.2 i2)
    · rfl
  subst hv
  refine ⟨u, g1, q1, ?_⟩
  rcases g2 with ⟨rfl, -⟩ | ⟨rfl, -⟩
  · exact Or.inr rfl
  · exact Or.inl rfl
/-- behind a fault it only must not fall -/
theorem taken_f {s e ba st cnt : Nat} {x4 : Int32} (h13 : J m 13 = nI e) (h14 : J m 14 = nI s) (hs : s ≤ e ∧ e ≤ 500) (ha : ∀ i, i < cnt → ba + st * i + 6 < 355) (hc : cnt ≤ 16) (H : ∀ i, i < cnt → NmOk (J (m + 1)) (ba + st * i)) : ∃ v, f_Y_isTaken J m (nI cnt) (nI ba) (nI st) x4 = some v := by
  obtain ⟨v, q1, -⟩ := tk_go (x4 := x4) h13 h14 hs ha hc H cnt 0 (Nat.zero_add _) FU (FU_up (by omega))
  exact ⟨v, q1⟩
theorem RTok.se (h : RTok J m B n p) (hn : n ≤ 500 ∧ p ≤ n) : ∃ s e, J m 13 = nI e ∧ J m 14 = nI s ∧ s ≤ e ∧ e ≤ 500 := ⟨tS B n p, tE B n p, h.2.1.1, h.2.1.2, tE_ge, by have := tE_le (B := B) hn.2; omega⟩
theorem it_Rename (h : Ld I J r m B n p) (hk : tK B n p = 1) (P : PM I J r m N np ns nw D) : Out I J r m B n p (f_X5_readRename I k r) (f_Y_readsRename J m) := by
  obtain ⟨⟨R, Bm⟩, hN, G, ⟨d1, d2⟩, d3⟩ := P
  have b1' := R.f.p.2
  have b2' := R.f.s.2
  have b3' := R.f.w.2
  have Hn := G.1.2.2
  obtain ⟨J1, a1, a2, a3⟩ := h.goes
  have hN1 : J1 (m + 1) = N := (a3.1 _ (by omega)).trans hN
  have hh := here_w hN1 R.f
  rcases num_step (k := k) (lo := 0) (hi := nI nw - 1) a2 with ⟨v, I2, h1, ⟨h2, h3, h5⟩, ⟨v0, v1, v2⟩, h6⟩ | ⟨c, I2, J2, k2, k7, h2, h3, h4, h5, h6⟩
  · rw [h6] at hh
    have hv := idx_lt (by omega) v0 v2
    obtain ⟨J2, c1, c2, c3⟩ := h2.goes
    have hN2 : J2 (m + 1) = N := (c3.1 _ (by omega)).trans hN1
    rcases name_step (k := 2) c2 with ⟨I3, g1, ⟨g2, g3, g4⟩, ⟨gk, gl⟩, g5⟩ | ⟨c, I3, J3, k2, k7, g1, g2, g3, g4, g5⟩
    · have S2 : It I I3 r := h3.trans g3
      have R2 : RM I3 (r + 3) N np ns nw := R.it S2
      obtain ⟨y, t1, t2, t3⟩ := taken_w g2 gk gl R2 hN2 Hn (nI v)
      have rpre : f_Y_readsRename J m = (b1 (f_Y_refuses J2 m y) fun I13 => if (I13 m 10) = 0 then (b1 (f_Y_names I13 m (nI (115 + 15 * v + 8))) fun I17 => l_Y_readsRename_57 I17 m) else (l_Y_readsRename_57 I13 m)) := by
        unfold f_Y_readsRename
        rw [a1, b1_so, hh, b2_so, c1, b1_so, g5, b1_so, ix4, b1_so, hN2, R.f.w.1, t2, b1_so, lk_aw (by omega)]
      have cpre : f_X5_readRename I k r = (if y = 0 then (l_X5_readRename_28 I3 1 r (nI v) (sNm (tN B n (tE B n (tE B n p))) 0) 1) else (l_X5_readRename_28 I3 1 r (nI v) (sNm (tN B n (tE B n (tE B n p))) 0) 0)) := by
        unfold f_X5_readRename
        rw [rwi_eq, R.h5, h1, e3_ok, g1, e3_ok, t1, b1_so]
      by_cases hz : y = 0
      · obtain ⟨M, q1, q2, q3, q4⟩ := names_row g2.2.2 g2.1 gk gl (a := 115 + 15 * v + 8) (by omega)
        rw [hN2] at q2
        have hM : ∀ j, (j < 115 + 15 * v + 8 ∨ 115 + 15 * v + 14 < j) → M j = N j := fun j hj => q2 j (by omega)
        have L4 : Ld (u2 I3 (r + 3 + 15 + v) 0 (sNm (tN B n (tE B n (tE B n p))) 0)) (sM J2 m M) r m B n _ := (g2.cl (u2_a (by omega)) (u2_a (by omega))).sm
        obtain ⟨J4, z1, z2, z3⟩ := L4.goes
        refine Out.go (v := ()) (I1 := u2 I3 (r + 3 + 15 + v) 0 (sNm (tN B n (tE B n (tE B n p))) 0)) (J1 := J4) (N := M) (D := D) (k := 1) ?_ ?_ (by decide) z2 (((fs_1 hk).trans h5).trans g4) ⟨⟨R2.wr (fun a _ _ => u2_a (by omega)) (fun j hj => hM j (by omega)) (R.f.nm hM) (fun i hi => ?_), (Bm.it S2).uf (by decide)⟩, by rw [z3.1 _ (by omega)]; exact sM_s, G.nm b1' b2' b3' hM q3, ⟨?_, ?_⟩, d3⟩ ((Cq.refl.it S2).u (by omega)) (((Jq.refl.jt a3).jt c3).sm.jt z3)
        · rw [cpre, if_pos hz]
          unfold l_X5_readRename_28
          rw [req_ok, e2_ok, ixn16 (by omega), b1_so, pu_so, b1_so]
        · rw [rpre, hz, rf_0 g2.2.2, b1_so, if_pos g2.2.2.1.1, q1, b1_so]
          unfold l_Y_readsRename_57
          rw [z1, b1_so]
        · have := R2.w hi
          have hn : ∀ k, k < 8 → wN M i k = wN N i k := fun k hk => hM _ (by omega)
          unfold RW at this ⊢
          by_cases e : i = v
          · subst e
            rw [u2_s, q4, u2_k (by decide), u2_k (by decide), u2_k (by decide), u2_k (by decide), u2_k (by decide), u2_k (by decide), u2_k (by decide), u2_k (by decide), u2_k (by decide), u2_k (by decide), hn 0 (by decide), hn 1 (by decide), hn 2 (by decide), hn 3 (by decide), hn 4 (by decide), hn 5 (by decide), hn 6 (by decide), hn 7 (by decide)]
            exact ⟨⟨rfl, this.1.2⟩, this.2⟩
          · have es : sNm M (115 + 15 * i + 8) = sNm N (115 + 15 * i + 8) := by
              unfold sNm
              rw [hM _ (by omega), hM _ (by omega), hM _ (by omega), hM _ (by omega), hM _ (by omega), hM _ (by omega), hM _ (by omega)]
            rw [u2_a (by omega), es, hn 0 (by decide), hn 1 (by decide), hn 2 (by decide), hn 3 (by decide), hn 4 (by decide), hn 5 (by decide), hn 6 (by decide), hn 7 (by decide)]
            exact this
        · rw [u2_a (by omega), S2 r (by omega)]; exact d1
        · rw [z3.2 18 (by decide), sM_n (by omega), c3.2 18 (by decide), a3.2 18 (by decide)]; exact d2
      · obtain ⟨I4, J4, w1, w2, w3, w4, w5⟩ := cf_step g2 (c := 3) (by decide)
        refine Out.er (I1 := I3) (k := 1) ?_ (by decide) w2 (Cq.refl.it S2) (Bm.it S2) ?_ w4 (((Jq.refl.jt a3).jt c3).jf w5)
        · rw [cpre, if_neg hz]
          unfold l_X5_readRename_28
          rw [show (3 : Int32) = nI 3 from rfl, w1, e2_er]
        · rw [rpre, rf_1 g2.2.2 hz, show (3 : Int32) = nI 3 from rfl, w3, b1_so, b1_so, if_neg w4.n0]
          unfold l_Y_readsRename_57
          rw [fs_goes w4, b1_so]
    · have hN3 : J3 (m + 1) = N := (g5.1 _ (by omega)).trans hN2
      obtain ⟨s, e, s1, s2, s3, s4⟩ := c2.2.2.se c2.1
      obtain ⟨y, t1⟩ := taken_f (J := J3) (m := m) (ba := 123) (st := 15) (cnt := nw) (x4 := nI v) ((g5.2 13 (by decide) (by decide)).trans s1) ((g5.2 14 (by decide) (by decide)).trans s2) ⟨s3, s4⟩ (fun i hi => by omega) b3' (fun i hi => by rw [hN3, show 123 + 15 * i = 115 + 15 * i + 8 by omega]; exact Hn i hi)
      refine Out.er (I1 := I2) ?_ k7 g2 (Cq.refl.it h3) (Bm.it h3) ?_ g4 (((Jq.refl.jt a3).jt c3).jf g5)
      · unfold f_X5_readRename
        rw [rwi_eq, R.h5, h1, e3_ok, g1, e3_er]
      · unfold f_Y_readsRename
        rw [a1, b1_so, hh, b2_so, c1, b1_so, g3, b1_so, ix4, b1_so, hN3, R.f.w.1]
        show (b1 (f_Y_isTaken J3 m (nI nw) (nI 123) (nI 15) (nI v)) _) = _
        rw [t1, b1_so, fs_ref g4, b1_so, if_neg g4.n0]
        unfold l_Y_readsRename_57
        rw [fs_goes g4, b1_so]
  · rw [h4] at hh
    have hN3 : J2 (m + 1) = N := (h6.1 _ (by omega)).trans hN1
    obtain ⟨s, e, s1, s2, s3, s4⟩ := a2.2.2.se a2.1
    obtain ⟨y, t1⟩ := taken_f (J := J2) (m := m) (ba := 123) (st := 15) (cnt := nw) (x4 := 0) ((h6.2 13 (by decide) (by decide)).trans s1) ((h6.2 14 (by decide) (by decide)).trans s2) ⟨s3, s4⟩ (fun i hi => by omega) b3' (fun i hi => by rw [hN3, show 123 + 15 * i = 115 + 15 * i + 8 by omega]; exact Hn i hi)
    refine Out.er ?_ k7 h3 Cq.refl Bm ?_ h5 ((Jq.refl.jt a3).jf h6)
    · unfold f_X5_readRename
      rw [rwi_eq, R.h5, h2, e3_er]
    · unfold f_Y_readsRename
      rw [a1, b1_so, hh, b2_so, fs_goes h5, b1_so, fs_name h5, b1_so, ix4, b1_so, hN3, R.f.w.1]
      show (b1 (f_Y_isTaken J2 m (nI nw) (nI 123) (nI 15) 0) _) = _
      rw [t1, b1_so, fs_ref h5, b1_so, if_neg h5.n0]
      unfold l_Y_readsRename_57
      rw [fs_goes h5, b1_so]
/-! gift -/
theorem upd_id {j : Nat} {x : Int32} (h : N j = x) : upd N j x = N := by
  funext i
  by_cases e : i = j
  · rw [e, upd_s, h]
  · rw [upd_n e]
theorem gf_mv {w : Nat} {a : Int32} (h3 : wN N w 3 = 1) : sFg (upd N (115 + 15 * w + 4) a) w = sMv N w 1 a (-1) (-1) (-1) := by
  unfold sFg sMv
  rw [upd_id (N := N) (j := 115 + 15 * w + 3) h3]
theorem it_Gift (h : Ld I J r m B n p) (hk : tK B n p = 1) (P : PM I J r m N np ns nw D) : Out I J r m B n p (f_X5_readGift I k r) (f_Y_readsGift J m) := by
  obtain ⟨⟨R, Bm⟩, hN, G, ⟨d1, d2⟩, d3⟩ := P
  have b1' := R.f.p.2
  have b2' := R.f.s.2
  have b3' := R.f.w.2
  obtain ⟨J1, a1, a2, a3⟩ := h.goes
  have hN1 : J1 (m + 1) = N := (a3.1 _ (by omega)).trans hN
  have hh := here_w hN1 R.f
  have tailF : ∀ {J' : Mem} {y x0 : Int32} {c s : Nat}, Flt J' m c s → l_Y_readsGift_30 J' m y x0 = some J' := fun {J' y x0 c s} F => by
    unfold l_Y_readsGift_30
    rw [fs_ref F, b1_so, fs_goes F, b1_so, fs_pers F, b2_so, if_neg F.n0]
    unfold l_Y_readsGift_73 l_Y_readsGift_74
    rw [fs_ref F, b1_so, fs_goes F, b1_so, if_neg F.l0]
  have tail2 : ∀ {J' : Mem} {y x0 z : Int32} {c s : Nat}, Flt J' m c s → l_Y_readsGift_74 J' m y x0 z = some J' := fun {J' y x0 z c s} F => by
    unfold l_Y_readsGift_74
    rw [fs_ref F, b1_so, fs_goes F, b1_so, if_neg F.l0]
  rcases num_step (k := k) (lo := 0) (hi := nI nw - 1) a2 with ⟨v, I2, h1, ⟨h2, h3, h5⟩, ⟨v0, v1, v2⟩, h6⟩ | ⟨c, I2, J2, k2, k7, h2, h3, h4, h5, h6⟩
  · rw [h6] at hh
    have hv := idx_lt (by omega) v0 v2
    have R2 : RM I2 (r + 3) N np ns nw := R.it h3
    have gO := r_isOwned (I := J1) (m := m) (N := N) (w := v) (by omega)
    rw [sM_e hN1] at gO
    have rpre : f_Y_readsGift J m = (if bI (wN N v 3 = 1) = 0 then (l_Y_readsGift_30 J1 m (nI v) 1) else (l_Y_readsGift_29 J1 m (nI v))) := by
      unfold f_Y_readsGift
      rw [a1, b1_so, hh, b2_so, if_pos h2.2.2.1.1, gO, b1_so]
    have cpre : f_X5_readGift I k r = (if (I2 (r + 3 + 15 + v) 5) = (-1) then (l_X5_readGift_29 I2 2 r (nI v) (I2 (r + 3 + 15 + v) 5) 0) else (l_X5_readGift_29 I2 2 r (nI v) (I2 (r + 3 + 15 + v) 5) 1)) := by
      unfold f_X5_readGift
      rw [rwi_eq, R.h5, h1, e3_ok, ixn16 (by omega), b1_so]
    by_cases ho : wN N v 3 = 1
    · obtain ⟨o1, o2⟩ := R.f.a1 hv ho
      have e5 : I2 (r + 3 + 15 + v) 5 = nI (aT N v) := by rw [R2.w5 hv, if_pos ho]; exact o1
      obtain ⟨J2, c1, c2, c3⟩ := h2.goes
      have hN2 : J2 (m + 1) = N := (c3.1 _ (by omega)).trans hN1
      have hh2 := here_p hN2 R.f
      rw [bI_t ho, if_neg (by decide)] at rpre
      rw [if_neg (by rw [R2.w5n hv]; exact fun z => z ho)] at cpre
      rcases num_step (k := 2) (lo := 0) (hi := nI np - 1) c2 with ⟨u, I3, g1, ⟨g2, g3, g5⟩, ⟨u0, u1, u2'⟩, g6⟩ | ⟨c, I3, J3, k2, k7, g2, g3, g4, g5, g6⟩
      · rw [g6] at hh2
        have hu := idx_lt (by omega) u0 u2'
        have S2 : It I I3 r := h3.trans g3
        have R3 : RM I3 (r + 3) N np ns nw := R.it S2
        have gW : f_Y_ofWish (sM J2 m N) m (nI v) 4 = some (wN N v 4) := r_ofWish (I := J2) (m := m) (N := N) (w := v) (k := 4) (by omega) (by omega)
        have gC := r_owns (I := J2) (m := m) (N := N) (p := nI u) R.f.w
        rw [sM_e hN2] at gW gC
        have hc := h_ownedBy R3 (p := u) (by omega)
        have hle : sOwns N nw (nI u) ≤ 4 := (R.f.2.2.2.2.2 u hu).1
        have c30 : f_X5_readGift I k r = (if nI u = nI (aT N v) then (l_X5_readGift_60 I3 2 r (nI v) (nI u)) else (if 4 ≤ nI (sOwns N nw (nI u)) then (l_X5_readGift_60 I3 2 r (nI v) (nI u)) else (l_X5_readGift_61 I3 2 r (nI v) (nI u) 1))) := by
          rw [cpre]
          unfold l_X5_readGift_29
          rw [req_ok, e2_ok, rpi_eq, R2.h3, g1, e3_ok, e5, hc, b1_so]
        have r30 : f_Y_readsGift J m = (if nI (aT N v) = nI u then (l_Y_readsGift_69 J2 m (nI v) (nI u)) else (if nI (sOwns N nw (nI u)) = 4 then (l_Y_readsGift_69 J2 m (nI v) (nI u)) else (l_Y_readsGift_73 J2 m (nI v) (nI u)))) := by
          rw [rpre]
          unfold l_Y_readsGift_29 l_Y_readsGift_30
          rw [rf_0 h2.2.2, b1_so, c1, b1_so, hh2, b2_so, if_pos c2.2.2.1.1, gW, b1_so, o1]
          show (if nI (aT N v) = nI u then _ else (b1 (f_Y_owns J2 m (nI u)) _)) = _
          rw [gC, b1_so]
          rfl
        by_cases hbad : aT N v = u ∨ sOwns N nw (nI u) = 4
        · obtain ⟨I4, J4, w1, w2, w3, w4, w5⟩ := cf_step g2 (c := 3) (by decide)
          refine Out.er (I1 := I3) (k := 2) ?_ (by decide) w2 (Cq.refl.it S2) (Bm.it S2) ?_ w4 (((Jq.refl.jt a3).jt c3).jf w5)
          · have e60 : l_X5_readGift_60 I3 2 r (nI v) (nI u) = some (.error eIA, I4, 2) := by
              unfold l_X5_readGift_60 l_X5_readGift_61
              rw [show (3 : Int32) = nI 3 from rfl, w1, e2_er]
            rw [c30, e60]
            by_cases e : aT N v = u
            · rw [if_pos (by rw [e])]
            · rw [if_neg (by rw [nJ_i (by omega) (by omega)]; omega), if_pos (by rw [show (4 : Int32) = nI 4 from rfl, ile (by omega) (by omega)]; omega)]
          · have e69 : l_Y_readsGift_69 J2 m (nI v) (nI u) = some J4 := by
              unfold l_Y_readsGift_69 l_Y_readsGift_74
              rw [rf_1 g2.2.2 (by decide), show (3 : Int32) = nI 3 from rfl, w3, b1_so, b1_so, fs_goes w4, b1_so, if_neg w4.l0]
            rw [r30, e69]
            by_cases e : aT N v = u
            · rw [if_pos (by rw [e])]
            · rw [if_neg (by rw [nJ_i (by omega) (by omega)]; omega), if_pos (by rw [show (4 : Int32) = nI 4 from rfl, nJ_i (by omega) (by omega)]; omega)]
        · have W : WF (sMv N v 1 (nI u) (-1) (-1) (-1)) np ns nw := R.f.mv hv (Or.inr ho) (Or.inr (Or.inl ⟨rfl, u, hu, rfl, by omega, fun z => absurd rfl z⟩))
          obtain ⟨I4, q1, q2, q3, q4, q5, q6, q7, q8⟩ := mv_row (I := I3) (a := r + 3 + 15 + v) (x := -1) (y := nI u)
          have f6 : I3 (r + 3 + 15 + v) 6 = bI ((1 : Int32) = 2) := by rw [R3.w6 hv, ho]
          have f7 : I3 (r + 3 + 15 + v) 7 = bI ((1 : Int32) = 3) := by rw [R3.w7 hv, ho]
          have R4 : RM I4 (r + 3) (sMv N v 1 (nI u) (-1) (-1) (-1)) np ns nw := R3.mv hv q2 (fun k hk => q3 k (Or.inl hk)) (by rw [q4, if_neg (by decide)]) (by rw [q5, if_pos rfl]) (by rw [q3 6 (by omega)]; exact f6) (by rw [q3 7 (by omega)]; exact f7) q6 q7 q8 W
          obtain ⟨J3, z1, z2, z3⟩ := g2.goes
          have hN3 : J3 (m + 1) = N := (z3.1 _ (by omega)).trans hN2
          have pw : f_Y_putsWish (sM J3 m N) m (nI v) 4 (nI u) = some (sM J3 m (upd N (115 + 15 * v + 4) (nI u))) := r_putsWish (k := 4) (by omega) (by decide)
          rw [sM_e hN3] at pw
          have fg := r_forgets (I := J3) (m := m) (N := upd N (115 + 15 * v + 4) (nI u)) (w := v) (by omega)
          rw [gf_mv ho] at fg
          refine Out.go (v := ()) (I1 := I4) (J1 := sM J3 m (sMv N v 1 (nI u) (-1) (-1) (-1))) (N := sMv N v 1 (nI u) (-1) (-1) (-1)) (D := D) (k := 2) ?_ ?_ (by decide) ((z2.cl (q2 _ (by omega)) (q2 _ (by omega))).sm) (((fs_1 hk).trans h5).trans g5) ⟨⟨R4, (Bm.it S2).mv q2 q3⟩, sM_s, G.mk b1' b3' (fun i hi => mv_n ?_) ⟨G.2.2.1.mv b1' b2', G.2.2.2.mv (fun _ z => absurd rfl z)⟩, ⟨?_, ?_⟩, d3⟩ ⟨fun a ha => (q2 a (by omega)).trans (S2 a (by omega)), fun j _ => by rw [q2 r (by omega), S2 r (by omega)]⟩ ((((Jq.refl.jt a3).jt c3).jt z3).sm)
          · rw [c30, if_neg (by rw [nJ_i (by omega) (by omega)]; omega), if_neg (by rw [show (4 : Int32) = nI 4 from rfl, ile (by omega) (by omega)]; omega)]
            unfold l_X5_readGift_61
            rw [req_ok, e2_ok, ixn16 (by omega), b1_so, q1, b1_so]
          · rw [r30, if_neg (by rw [nJ_i (by omega) (by omega)]; omega), if_neg (by rw [show (4 : Int32) = nI 4 from rfl, nJ_i (by omega) (by omega)]; omega)]
            unfold l_Y_readsGift_73 l_Y_readsGift_74
            rw [rf_0 g2.2.2, b1_so, z1, b1_so, if_pos (by rw [z2.2.2.1.1]; decide), pw, b1_so, fg, b1_so]
          · rcases hi with z | ⟨p, k, z0, z1, z2⟩ | ⟨w, k, z0, z1, z2, z3⟩ <;> omega
          · rw [q2 r (by omega), S2 r (by omega)]; exact d1
          · rw [sM_n (by omega), z3.2 18 (by decide), c3.2 18 (by decide), a3.2 18 (by decide)]; exact d2
      · rw [g4] at hh2
        refine Out.er (I1 := I2) ?_ k7 g3 (Cq.refl.it h3) (Bm.it h3) ?_ g5 (((Jq.refl.jt a3).jt c3).jf g6)
        · rw [cpre]
          unfold l_X5_readGift_29
          rw [req_ok, e2_ok, rpi_eq, R2.h3, g2, e3_er]
        · rw [rpre]
          unfold l_Y_readsGift_29 l_Y_readsGift_30
          rw [rf_0 h2.2.2, b1_so, c1, b1_so, hh2, b2_so, if_neg g5.n0]
          unfold l_Y_readsGift_73
          exact tail2 g5
    · obtain ⟨I4, J4, w1, w2, w3, w4, w5⟩ := cf_step h2 (c := 3) (by decide)
      refine Out.er (I1 := I2) (k := 2) ?_ (by decide) w2 (Cq.refl.it h3) (Bm.it h3) ?_ w4 ((Jq.refl.jt a3).jf w5)
      · rw [cpre, if_pos (by rw [R2.w5n hv]; exact ho)]
        unfold l_X5_readGift_29
        rw [show (3 : Int32) = nI 3 from rfl, w1, e2_er]
      · rw [rpre, bI_f ho, if_pos rfl]
        unfold l_Y_readsGift_30
        rw [rf_1 h2.2.2 (by decide), show (3 : Int32) = nI 3 from rfl, w3, b1_so, b1_so, fs_goes w4, b1_so, fs_pers w4, b2_so, if_neg w4.n0]
        unfold l_Y_readsGift_73
        exact tail2 w4
  · rw [h4] at hh
    refine Out.er ?_ k7 h3 Cq.refl Bm ?_ h5 ((Jq.refl.jt a3).jf h6)
    · unfold f_X5_readGift
      rw [rwi_eq, R.h5, h2, e3_er]
    · unfold f_Y_readsGift
      rw [a1, b1_so, hh, b2_so, if_neg h5.n0]
      unfold l_Y_readsGift_29
      exact tailF h5
/-! swap -/
theorem ifc {a b : Prop} [Decidable a] [Decidable b] (h : a ↔ b) : (if a then 1 else 0 : Nat) = (if b then 1 else 0) := by
  by_cases ha : a
  · rw [if_pos ha, if_pos (h.mp ha)]
  · rw [if_neg ha, if_neg (fun z => ha (h.mpr z))]
theorem sCnt_sw {P Q : Nat → Prop} [DecidablePred P] [DecidablePred Q] {a b : Nat} (hab : a < b) (h0 : ∀ i, i ≠ a → i ≠ b → (P i ↔ Q i)) (h1 : P a ↔ Q b) (h2 : P b ↔ Q a) : ∀ n, (n ≤ a → sCnt P n = sCnt Q n) ∧ (a < n → n ≤ b → sCnt P n + (if Q a then 1 else 0) = sCnt Q n + (if P a then 1 else 0)) ∧ (b < n → sCnt P n = sCnt Q n) := by
  have ea : (if P a then 1 else 0) = (if Q b then 1 else 0) := ifc h1
  have eb : (if P b then 1 else 0) = (if Q a then 1 else 0) := ifc h2
  intro n
  induction n with
  | zero => exact ⟨fun _ => rfl, fun h => by omega, fun h => by omega⟩
  | succ n ih =>
    obtain ⟨i1, i2, i3⟩ := ih
    have hs : n ≠ a → n ≠ b → (if P n then 1 else 0) = (if Q n then 1 else 0) := fun z1 z2 => ifc (h0 n z1 z2)
    have hP : sCnt P (n + 1) = sCnt P n + (if P n then 1 else 0) := rfl
    have hQ : sCnt Q (n + 1) = sCnt Q n + (if Q n then 1 else 0) := rfl
    rw [hP, hQ]
    refine ⟨fun h => ?_, fun h h' => ?_, fun h => ?_⟩
    · rw [i1 (by omega), hs (by omega) (by omega)]
    · by_cases e : n = a
      · subst e
        rw [i1 (Nat.le_refl _)]
        omega
      · have := i2 (by omega) (by omega)
        rw [hs e (by omega)]
        omega
    · by_cases e : n = b
      · subst e
        have := i2 hab (Nat.le_refl _)
        omega
      · rw [i3 (by omega), hs (by omega) e]
def sSw (N : Nat → Int32) (a b : Nat) : Nat → Int32 := sFg (sFg (upd (upd N (115 + 15 * a + 4) (wN N b 4)) (115 + 15 * b + 4) (wN N a 4)) a) b
theorem sw_f {a b : Nat} (hab : a ≠ b) : (∀ j, (∀ w, (w = a ∨ w = b) → j < 115 + 15 * w + 4 ∨ 115 + 15 * w + 7 < j) → sSw N a b j = N j) ∧ (wN (sSw N a b) a 4 = wN N b 4 ∧ wN (sSw N a b) b 4 = wN N a 4) ∧ ∀ k, 5 ≤ k → k ≤ 7 → wN (sSw N a b) a k = -1 ∧ wN (sSw N a b) b k = -1 := by
  refine ⟨fun j hj => ?_, ⟨?_, ?_⟩, fun k h1 h2 => ?_⟩
  · have h1 := hj a (Or.inl rfl)
    have h2 := hj b (Or.inr rfl)
    unfold sSw sFg
    rw [upd_n (by omega), upd_n (by omega), upd_n (by omega), upd_n (by omega), upd_n (by omega), upd_n (by omega), upd_n (by omega), upd_n (by omega)]
  · unfold sSw sFg
    show upd _ _ _ (115 + 15 * a + 4) = _
    rw [upd_n (by omega), upd_n (by omega), upd_n (by omega), upd_n (by omega), upd_n (by omega), upd_n (by omega), upd_n (by omega), upd_s]
  · unfold sSw sFg
    show upd _ _ _ (115 + 15 * b + 4) = _
    rw [upd_n (by omega), upd_n (by omega), upd_n (by omega), upd_n (by omega), upd_n (by omega), upd_n (by omega), upd_s]
  · unfold sSw sFg
    rcases (show k = 5 ∨ k = 6 ∨ k = 7 by omega) with rfl | rfl | rfl
    · refine ⟨?_, ?_⟩
      · show upd _ _ _ (115 + 15 * a + 5) = _
        rw [upd_n (by omega), upd_n (by omega), upd_n (by omega), upd_n (by omega), upd_n (by omega), upd_s]
      · show upd _ _ _ (115 + 15 * b + 5) = _
        rw [upd_n (by omega), upd_n (by omega), upd_s]
    · refine ⟨?_, ?_⟩
      · show upd _ _ _ (115 + 15 * a + 6) = _
        rw [upd_n (by omega), upd_n (by omega), upd_n (by omega), upd_n (by omega), upd_s]
      · show upd _ _ _ (115 + 15 * b + 6) = _
        rw [upd_n (by omega), upd_s]
    · refine ⟨?_, ?_⟩
      · show upd _ _ _ (115 + 15 * a + 7) = _
        rw [upd_n (by omega), upd_n (by omega), upd_n (by omega), upd_s]
      · show upd _ _ _ (115 + 15 * b + 7) = _
        rw [upd_s]
theorem WF.sw (H : WF N np ns nw) {a b : Nat} (ha : a < nw) (hb : b < nw) (hab : a ≠ b) (h1 : wN N a 3 = 1) (h2 : wN N b 3 = 1) : WF (sSw N a b) np ns nw := by
  obtain ⟨s1, ⟨s2, s3⟩, s4⟩ := sw_f (N := N) hab
  have b1 := H.p.2
  have b2 := H.s.2
  have b3 := H.w.2
  obtain ⟨o1, o2⟩ := H.a1 ha h1
  obtain ⟨o3, o4⟩ := H.a1 hb h2
  have hn : ∀ j, j < 115 → sSw N a b j = N j := fun j hj => s1 j (fun w _ => by omega)
  have hk : ∀ w k, k < 4 → wN (sSw N a b) w k = wN N w k := fun w k hk => s1 _ (fun w' _ => by omega)
  have ho : ∀ w k, w ≠ a → w ≠ b → k < 8 → wN (sSw N a b) w k = wN N w k := fun w k h3 h4 hk => s1 _ (fun w' h5 => by omega)
  obtain ⟨⟨c1, c2, c3⟩, hy, hw, hx, hs, hp⟩ := H
  have hOwn : ∀ q : Int32, sOwns (sSw N a b) nw q = sOwns N nw q := fun q => by
    have key : ∀ {a b : Nat}, a < nw → b < nw → a < b → wN N a 3 = 1 → wN N b 3 = 1 → (∀ w k, k < 4 → wN (sSw N a b) w k = wN N w k) → (∀ w k, w ≠ a → w ≠ b → k < 8 → wN (sSw N a b) w k = wN N w k) → wN (sSw N a b) a 4 = wN N b 4 → wN (sSw N a b) b 4 = wN N a 4 → ∀ M, (∀ j, M j = sSw N a b j) → sOwns M nw q = sOwns N nw q := fun {a b} ha hb hab h1 h2 hk ho e1 e2 M hM => by
      refine (sCnt_sw (P := fun w => wN M w 3 = 1 ∧ wN M w 4 = q) (Q := fun w => wN N w 3 = 1 ∧ wN N w 4 = q) hab (fun i z1 z2 => ?_) ?_ ?_ nw).2.2 hb
      · rw [show wN M i 3 = wN N i 3 from (hM _).trans (hk i 3 (by decide)), show wN M i 4 = wN N i 4 from (hM _).trans (ho i 4 z1 z2 (by decide))]
      · rw [show wN M a 3 = wN N a 3 from (hM _).trans (hk a 3 (by decide)), show wN M a 4 = wN N b 4 from (hM _).trans e1, h1, h2]
      · rw [show wN M b 3 = wN N b 3 from (hM _).trans (hk b 3 (by decide)), show wN M b 4 = wN N a 4 from (hM _).trans e2, h1, h2]
    rcases Nat.lt_or_gt_of_ne hab with z | z
    · exact key ha hb z h1 h2 hk ho s2 s3 _ (fun _ => rfl)
    · obtain ⟨t1, ⟨t2, t3⟩, t4⟩ := sw_f (N := N) (Ne.symm hab)
      refine key (a := b) (b := a) hb ha z h2 h1 (fun w k hk => t1 _ (fun w' _ => by omega)) (fun w k h3 h4 hk => t1 _ (fun w' h5 => by omega)) t2 t3 _ (fun j => ?_)
      by_cases hj : ∀ w, (w = a ∨ w = b) → j < 115 + 15 * w + 4 ∨ 115 + 15 * w + 7 < j
      · rw [s1 j hj, t1 j (fun w hw => hj w hw.symm)]
      · have : ∃ w, (w = a ∨ w = b) ∧ ∃ k, 4 ≤ k ∧ k ≤ 7 ∧ j = 115 + 15 * w + k := Classical.byContradiction fun hne => hj fun w hw => by
          rcases Nat.lt_or_ge j (115 + 15 * w + 4) with z1 | z1
          · exact Or.inl z1
          · rcases Nat.lt_or_ge (115 + 15 * w + 7) j with z2 | z2
            · exact Or.inr z2
            · exact absurd ⟨w, hw, j - (115 + 15 * w), by omega, by omega, by omega⟩ hne
        obtain ⟨w, hw, k, k1, k2, rfl⟩ := this
        show wN (sSw N a b) w k = wN (sSw N b a) w k
        by_cases k4 : k = 4
        · subst k4
          rcases hw with rfl | rfl
          · rw [s2, t3]
          · rw [s3, t2]
        · have e1 := s4 k (by omega) k2
          have e2 := t4 k (by omega) k2
          rcases hw with rfl | rfl
          · rw [e1.1, e2.2]
          · rw [e1.2, e2.1]
  have hSt : ∀ q : Int32, sStock (sSw N a b) nw q = sStock N nw q := fun q => sCnt_eq fun i hi => by
    rw [hk i 3 (by decide)]
    by_cases e : i = a ∨ i = b
    · have h3 : wN N i 3 = 1 := by rcases e with rfl | rfl <;> assumption
      rw [h3]
      exact ⟨fun z => absurd z.1 (by decide), fun z => absurd z.1 (by decide)⟩
    · rw [ho i 4 (fun z => e (Or.inl z)) (fun z => e (Or.inr z)) (by decide)]
  refine ⟨⟨⟨(hn 2 (by decide)).trans c1.1, c1.2⟩, ⟨(hn 3 (by decide)).trans c2.1, c2.2⟩, ⟨(hn 4 (by decide)).trans c3.1, c3.2⟩⟩, by rw [hn 0 (by decide)]; exact hy, fun i hi => ?_, fun i hi => ?_, fun s hs9 => ?_, fun p hp9 => ?_⟩
  · by_cases e : i = a ∨ i = b
    · have e3 : wN (sSw N a b) i 3 = 1 := by
        rw [hk i 3 (by decide)]
        rcases e with rfl | rfl <;> assumption
      have e5 : wN (sSw N a b) i 5 = -1 := by
        rcases e with rfl | rfl
        · exact (s4 5 (by decide) (by decide)).1
        · exact (s4 5 (by decide) (by decide)).2
      have e4 : ∃ p, p < np ∧ wN (sSw N a b) i 4 = nI p := by
        rcases e with rfl | rfl
        · exact ⟨_, o4, s2.trans o3⟩
        · exact ⟨_, o2, s3.trans o1⟩
      obtain ⟨p, p1, p2⟩ := e4
      unfold WY aT
      rw [e3, e5]
      exact ⟨fun z => absurd z (by decide), fun _ => idx_of p2 p1 (by omega), fun _ z => absurd rfl z⟩
    · have := hw i hi
      have n1 : i ≠ a := fun z => e (Or.inl z)
      have n2 : i ≠ b := fun z => e (Or.inr z)
      unfold WY aT sE at this ⊢
      rw [ho i 3 n1 n2 (by decide), ho i 4 n1 n2 (by decide), ho i 5 n1 n2 (by decide), ho i 7 n1 n2 (by decide)]
      exact this
  · have := hx i hi
    rw [hk i 0 (by decide), hk i 2 (by decide), hk i 3 (by decide)]
    exact this
  · have := hs s hs9
    rw [hSt, show sN (sSw N a b) s 0 = sN N s 0 from hn _ (by omega), show sN (sSw N a b) s 2 = sN N s 2 from hn _ (by omega), show sN (sSw N a b) s 3 = sN N s 3 from hn _ (by omega)]
    exact this
  · have := hp p hp9
    rw [hOwn, show pN (sSw N a b) p 5 = pN N p 5 from hn _ (by omega), show pN (sSw N a b) p 6 = pN N p 6 from hn _ (by omega)]
    exact this
theorem PG.sw (G : PG N np ns nw D) (b1 : np ≤ 6) (b2 : ns ≤ 5) (b3 : nw ≤ 16) {a b : Nat} (hab : a ≠ b) : PG (sSw N a b) np ns nw D := by
  obtain ⟨s1, -, s4⟩ := sw_f (N := N) hab
  have hn : ∀ j, j < 115 → sSw N a b j = N j := fun j hj => s1 j (fun w _ => by omega)
  refine G.mk b1 b3 (fun i hi => s1 i fun w _ => ?_) ⟨G.2.2.1.congr (fun p hp => hn _ (by omega)) (fun s hs => hn _ (by omega)), ?_, ?_, fun w hw z1 z2 => ?_⟩
  · rcases hi with z | ⟨p, k, z0, z1, z2⟩ | ⟨w', k, z0, z1, z2, z3⟩ <;> omega
  · rw [hn 6 (by decide)]; exact G.2.2.2.1
  · rw [hn 10 (by decide)]; exact G.2.2.2.2.1
  · by_cases e : w = a ∨ w = b
    · have e5 : wN (sSw N a b) w 5 = -1 := by
        rcases e with rfl | rfl
        · exact (s4 5 (by decide) (by decide)).1
        · exact (s4 5 (by decide) (by decide)).2
      exact absurd e5 z2
    · have ho : ∀ k, k < 8 → wN (sSw N a b) w k = wN N w k := fun k hk => s1 _ (fun w' h5 => by omega)
      rw [ho 3 (by decide)] at z1
      rw [ho 5 (by decide)] at z2
      rw [ho 6 (by decide)]
      exact G.2.2.2.2.2 w hw z1 z2
theorem RM.sw {q a b : Nat} (R : RM I q N np ns nw) (ha : a < nw) (hb : b < nw) (hab : a ≠ b) (h1 : wN N a 3 = 1) (h2 : wN N b 3 = 1)
    (m1 : ∀ x, x ≠ q + 15 + a → I1 x = I x) (m2 : ∀ j, j < 4 ∨ j = 6 ∨ j = 7 ∨ 10 < j → I1 (q + 15 + a) j = I (q + 15 + a) j) (m3 : I1 (q + 15 + a) 4 = -1 ∧ I1 (q + 15 + a) 5 = wN N b 4 ∧ I1 (q + 15 + a) 8 = -1 ∧ I1 (q + 15 + a) 9 = -1 ∧ I1 (q + 15 + a) 10 = -1)
    (g1 : ∀ x, x ≠ q + 15 + b → I2 x = I1 x) (g2 : ∀ j, j < 4 ∨ j = 6 ∨ j = 7 ∨ 10 < j → I2 (q + 15 + b) j = I1 (q + 15 + b) j) (g3 : I2 (q + 15 + b) 4 = -1 ∧ I2 (q + 15 + b) 5 = wN N a 4 ∧ I2 (q + 15 + b) 8 = -1 ∧ I2 (q + 15 + b) 9 = -1 ∧ I2 (q + 15 + b) 10 = -1) : RM I2 q (sSw N a b) np ns nw := by
  obtain ⟨s1, ⟨s2, s3⟩, s4⟩ := sw_f (N := N) hab
  have b3 := R.f.w.2
  have hk : ∀ w k, k < 4 → wN (sSw N a b) w k = wN N w k := fun w k hk => s1 _ (fun w' _ => by omega)
  have hnm : ∀ w, sNm (sSw N a b) (115 + 15 * w + 8) = sNm N (115 + 15 * w + 8) := fun w => by
    unfold sNm
    rw [s1 _ (fun w' _ => by omega), s1 _ (fun w' _ => by omega), s1 _ (fun w' _ => by omega), s1 _ (fun w' _ => by omega), s1 _ (fun w' _ => by omega), s1 _ (fun w' _ => by omega), s1 _ (fun w' _ => by omega)]
  refine R.wr (fun x h3 h4 => (g1 x (by omega)).trans (m1 x (by omega))) (fun j hj => s1 j (fun w _ => by omega)) (R.f.sw ha hb hab h1 h2) (fun w hw => ?_)
  have := R.w hw
  unfold RW at this ⊢
  by_cases ea : w = a
  · subst ea
    have e := g1 (q + 15 + w) (by omega)
    have q5 := (s4 5 (by decide) (by decide)).1
    have q6 := (s4 6 (by decide) (by decide)).1
    have q7 := (s4 7 (by decide) (by decide)).1
    rw [e, hnm, hk w 0 (by decide), hk w 1 (by decide), hk w 2 (by decide), hk w 3 (by decide), s2, q5, q6, q7, m2 0 (by omega), m2 1 (by omega), m2 2 (by omega), m2 3 (by omega), m2 6 (by omega), m2 7 (by omega), m3.1, m3.2.1, m3.2.2.1, m3.2.2.2.1, m3.2.2.2.2, h1, if_neg (by decide), if_pos rfl]
    rw [h1] at this
    exact ⟨this.1, ⟨rfl, rfl⟩, this.2.2.1, rfl, rfl, rfl⟩
  · by_cases eb : w = b
    · subst eb
      have e := m1 (q + 15 + w) (by omega)
      have q5 := (s4 5 (by decide) (by decide)).2
      have q6 := (s4 6 (by decide) (by decide)).2
      have q7 := (s4 7 (by decide) (by decide)).2
      rw [hnm, hk w 0 (by decide), hk w 1 (by decide), hk w 2 (by decide), hk w 3 (by decide), s3, q5, q6, q7, g2 0 (by omega), g2 1 (by omega), g2 2 (by omega), g2 3 (by omega), g2 6 (by omega), g2 7 (by omega), e, g3.1, g3.2.1, g3.2.2.1, g3.2.2.2.1, g3.2.2.2.2, h2, if_neg (by decide), if_pos rfl]
      rw [h2] at this
      exact ⟨this.1, ⟨rfl, rfl⟩, this.2.2.1, rfl, rfl, rfl⟩
    · have ho : ∀ k, k < 8 → wN (sSw N a b) w k = wN N w k := fun k hk => s1 _ (fun w' h5 => by omega)
      rw [g1 _ (by omega), m1 _ (by omega), hnm, ho 0 (by decide), ho 1 (by decide), ho 2 (by decide), ho 3 (by decide), ho 4 (by decide), ho 5 (by decide), ho 6 (by decide), ho 7 (by decide)]
      exact this
theorem it_Swap (h : Ld I J r m B n p) (hk : tK B n p = 1) (P : PM I J r m N np ns nw D) : Out I J r m B n p (f_X5_readSwap I k r) (f_Y_readsSwap J m) := by
  obtain ⟨⟨R, Bm⟩, hN, G, ⟨d1, d2⟩, d3⟩ := P
  have b1' := R.f.p.2
  have b2' := R.f.s.2
  have b3' := R.f.w.2
  obtain ⟨J1, a1, a2, a3⟩ := h.goes
  have hN1 : J1 (m + 1) = N := (a3.1 _ (by omega)).trans hN
  have hh := here_w hN1 R.f
  have tail2 : ∀ {J' : Mem} {y x0 z : Int32} {c s : Nat}, Flt J' m c s → l_Y_readsSwap_68 J' m y x0 z = some J' := fun {J' y x0 z c s} F => by
    unfold l_Y_readsSwap_68
    rw [fs_ref F, b1_so, fs_goes F, b1_so, if_neg F.l0]
  have tailF : ∀ {J' : Mem} {y x0 : Int32} {c s : Nat}, Flt J' m c s → l_Y_readsSwap_30 J' m y x0 = some J' := fun {J' y x0 c s} F => by
    unfold l_Y_readsSwap_30
    rw [fs_ref F, b1_so, fs_goes F, b1_so, fs_wish F, b2_so, if_neg F.n0]
    unfold l_Y_readsSwap_67
    exact tail2 F
  rcases num_step (k := k) (lo := 0) (hi := nI nw - 1) a2 with ⟨v, I2, h1, ⟨h2, h3, h5⟩, ⟨v0, v1, v2⟩, h6⟩ | ⟨c, I2, J2, k2, k7, h2, h3, h4, h5, h6⟩
  · rw [h6] at hh
    have hv := idx_lt (by omega) v0 v2
    have R2 : RM I2 (r + 3) N np ns nw := R.it h3
    have gO := r_isOwned (I := J1) (m := m) (N := N) (w := v) (by omega)
    rw [sM_e hN1] at gO
    have rpre : f_Y_readsSwap J m = (if bI (wN N v 3 = 1) = 0 then (l_Y_readsSwap_30 J1 m (nI v) 1) else (l_Y_readsSwap_29 J1 m (nI v))) := by
      unfold f_Y_readsSwap
      rw [a1, b1_so, hh, b2_so, if_pos h2.2.2.1.1, gO, b1_so]
    have cpre : f_X5_readSwap I k r = (if (I2 (r + 3 + 15 + v) 5) = (-1) then (l_X5_readSwap_29 I2 2 r (nI v) (I2 (r + 3 + 15 + v) 5) 0) else (l_X5_readSwap_29 I2 2 r (nI v) (I2 (r + 3 + 15 + v) 5) 1)) := by
      unfold f_X5_readSwap
      rw [rwi_eq, R.h5, h1, e3_ok, ixn16 (by omega), b1_so]
    by_cases ho : wN N v 3 = 1
    · have e5 : I2 (r + 3 + 15 + v) 5 = wN N v 4 := by rw [R2.w5 hv, if_pos ho]
      obtain ⟨J2, c1, c2, c3⟩ := h2.goes
      have hN2 : J2 (m + 1) = N := (c3.1 _ (by omega)).trans hN1
      have hh2 := here_w hN2 R.f
      rw [bI_t ho, if_neg (by decide)] at rpre
      rw [if_neg (by rw [R2.w5n hv]; exact fun z => z ho)] at cpre
      rcases num_step (k := 2) (lo := 0) (hi := nI nw - 1) c2 with ⟨u, I3, g1, ⟨g2, g3, g5⟩, ⟨u0, u1, u2'⟩, g6⟩ | ⟨c, I3, J3, k2, k7, g2, g3, g4, g5, g6⟩
      · rw [g6] at hh2
        have hu := idx_lt (by omega) u0 u2'
        have S2 : It I I3 r := h3.trans g3
        have R3 : RM I3 (r + 3) N np ns nw := R.it S2
        have gO2 := r_isOwned (I := J2) (m := m) (N := N) (w := u) (by omega)
        rw [sM_e hN2] at gO2
        have c30 : f_X5_readSwap I k r = (if (I3 (r + 3 + 15 + u) 5) = (-1) then (l_X5_readSwap_68 I3 2 r (nI v) (wN N v 4) (nI u) (I3 (r + 3 + 15 + u) 5)) else (if nI u = nI v then (l_X5_readSwap_68 I3 2 r (nI v) (wN N v 4) (nI u) (I3 (r + 3 + 15 + u) 5)) else (l_X5_readSwap_69 I3 2 r (nI v) (wN N v 4) (nI u) (I3 (r + 3 + 15 + u) 5) 1))) := by
          rw [cpre]
          unfold l_X5_readSwap_29
          rw [req_ok, e2_ok, rwi_eq, R2.h5, g1, e3_ok, e5, ixn16 (by omega), b1_so]
        have r30 : f_Y_readsSwap J m = (if bI (wN N u 3 = 1) = 0 then (l_Y_readsSwap_63 J2 m (nI v) (nI u)) else (if nI u = nI v then (l_Y_readsSwap_63 J2 m (nI v) (nI u)) else (l_Y_readsSwap_67 J2 m (nI v) (nI u)))) := by
          rw [rpre]
          unfold l_Y_readsSwap_29 l_Y_readsSwap_30
          rw [rf_0 h2.2.2, b1_so, c1, b1_so, hh2, b2_so, if_pos c2.2.2.1.1, gO2, b1_so]
        by_cases hbad : ¬ wN N u 3 = 1 ∨ u = v
        · obtain ⟨I4, J4, w1, w2, w3, w4, w5⟩ := cf_step g2 (c := 3) (by decide)
          refine Out.er (I1 := I3) (k := 2) ?_ (by decide) w2 (Cq.refl.it S2) (Bm.it S2) ?_ w4 (((Jq.refl.jt a3).jt c3).jf w5)
          · have e60 : ∀ x, l_X5_readSwap_68 I3 2 r (nI v) (wN N v 4) (nI u) x = some (.error eIA, I4, 2) := fun x => by
              unfold l_X5_readSwap_68 l_X5_readSwap_69
              rw [show (3 : Int32) = nI 3 from rfl, w1, e2_er]
            rw [c30]
            by_cases e : wN N u 3 = 1
            · rw [if_neg (by rw [R3.w5n hu]; exact fun z => z e), if_pos (by rw [hbad.resolve_left (fun z => z e)]), e60]
            · rw [if_pos (by rw [R3.w5n hu]; exact e), e60]
          · have e69 : l_Y_readsSwap_63 J2 m (nI v) (nI u) = some J4 := by
              unfold l_Y_readsSwap_63 l_Y_readsSwap_68
              rw [rf_1 g2.2.2 (by decide), show (3 : Int32) = nI 3 from rfl, w3, b1_so, b1_so, fs_goes w4, b1_so, if_neg w4.l0]
            rw [r30, e69]
            by_cases e : wN N u 3 = 1
            · rw [bI_t e, if_neg (by decide), if_pos (by rw [hbad.resolve_left (fun z => z e)])]
            · rw [bI_f e, if_pos rfl]
        · have hou : wN N u 3 = 1 := Classical.byContradiction fun z => hbad (Or.inl z)
          have hne : v ≠ u := fun z => hbad (Or.inr z.symm)
          have e5u : I3 (r + 3 + 15 + u) 5 = wN N u 4 := by rw [R3.w5 hu, if_pos hou]
          obtain ⟨I4, q1, q2, q3, q4⟩ := mv_row (I := I3) (a := r + 3 + 15 + v) (x := -1) (y := wN N u 4)
          obtain ⟨I5, x1, x2, x3, x4⟩ := mv_row (I := I4) (a := r + 3 + 15 + u) (x := -1) (y := wN N v 4)
          have R4 := R3.sw hv hu hne ho hou q2 q3 q4 x2 x3 x4
          have IF : ∀ a, (a < r + 3 ∨ r + 33 < a) → I5 a = I3 a := fun a ha => (x2 a (by omega)).trans (q2 a (by omega))
          obtain ⟨J3, z1, z2, z3⟩ := g2.goes
          have hN3 : J3 (m + 1) = N := (z3.1 _ (by omega)).trans hN2
          have gv : f_Y_ofWish (sM J3 m N) m (nI v) 4 = some (wN N v 4) := r_ofWish (k := 4) (by omega) (by omega)
          have gu : f_Y_ofWish (sM J3 m N) m (nI u) 4 = some (wN N u 4) := r_ofWish (k := 4) (by omega) (by omega)
          have pv : f_Y_putsWish (sM J3 m N) m (nI v) 4 (wN N u 4) = some (sM J3 m (upd N (115 + 15 * v + 4) (wN N u 4))) := r_putsWish (k := 4) (by omega) (by decide)
          rw [sM_e hN3] at gv gu pv
          have pu' : f_Y_putsWish (sM J3 m (upd N (115 + 15 * v + 4) (wN N u 4))) m (nI u) 4 (wN N v 4) = some (sM J3 m (upd (upd N (115 + 15 * v + 4) (wN N u 4)) (115 + 15 * u + 4) (wN N v 4))) := r_putsWish (k := 4) (by omega) (by decide)
          have f1 := r_forgets (I := J3) (m := m) (N := upd (upd N (115 + 15 * v + 4) (wN N u 4)) (115 + 15 * u + 4) (wN N v 4)) (w := v) (by omega)
          have f2 := r_forgets (I := J3) (m := m) (N := sFg (upd (upd N (115 + 15 * v + 4) (wN N u 4)) (115 + 15 * u + 4) (wN N v 4)) v) (w := u) (by omega)
          refine Out.go (v := ()) (I1 := I5) (J1 := sM J3 m (sSw N v u)) (N := sSw N v u) (D := D) (k := 2) ?_ ?_ (by decide) ((z2.cl (IF _ (by omega)) (IF _ (by omega))).sm) (((fs_1 hk).trans h5).trans g5) ⟨⟨R4, ((Bm.it S2).mv q2 q3).mv x2 x3⟩, sM_s, G.sw b1' b2' b3' hne, ⟨?_, ?_⟩, d3⟩ ⟨fun a ha => (IF a (by omega)).trans (S2 a (by omega)), fun j _ => by rw [IF r (by omega), S2 r (by omega)]⟩ ((((Jq.refl.jt a3).jt c3).jt z3).sm)
          · rw [c30, if_neg (by rw [R3.w5n hu]; exact fun z => z hou), if_neg (by rw [nJ_i (by omega) (by omega)]; omega), e5u]
            unfold l_X5_readSwap_69
            rw [req_ok, e2_ok, ixn16 (by omega), b1_so, q1, b1_so, ixn16 (by omega), b1_so, x1, b1_so]
          · rw [r30, bI_t hou, if_neg (by decide), if_neg (by rw [nJ_i (by omega) (by omega)]; omega)]
            unfold l_Y_readsSwap_67 l_Y_readsSwap_68
            rw [rf_0 g2.2.2, b1_so, z1, b1_so, if_pos (by rw [z2.2.2.1.1]; decide), gv, b1_so, gu, b1_so, pv, b1_so, pu', b1_so, f1, b1_so, f2, b1_so]
            rfl
          · rw [IF r (by omega), S2 r (by omega)]; exact d1
          · rw [sM_n (by omega), z3.2 18 (by decide), c3.2 18 (by decide), a3.2 18 (by decide)]; exact d2
      · rw [g4] at hh2
        refine Out.er (I1 := I2) ?_ k7 g3 (Cq.refl.it h3) (Bm.it h3) ?_ g5 (((Jq.refl.jt a3).jt c3).jf g6)
        · rw [cpre]
          unfold l_X5_readSwap_29
          rw [req_ok, e2_ok, rwi_eq, R2.h5, g2, e3_er]
        · rw [rpre]
          unfold l_Y_readsSwap_29 l_Y_readsSwap_30
          rw [rf_0 h2.2.2, b1_so, c1, b1_so, hh2, b2_so, if_neg g5.n0]
          unfold l_Y_readsSwap_67
          exact tail2 g5
    · obtain ⟨I4, J4, w1, w2, w3, w4, w5⟩ := cf_step h2 (c := 3) (by decide)
      refine Out.er (I1 := I2) (k := 2) ?_ (by decide) w2 (Cq.refl.it h3) (Bm.it h3) ?_ w4 ((Jq.refl.jt a3).jf w5)
      · rw [cpre, if_pos (by rw [R2.w5n hv]; exact ho)]
        unfold l_X5_readSwap_29
        rw [show (3 : Int32) = nI 3 from rfl, w1, e2_er]
      · rw [rpre, bI_f ho, if_pos rfl]
        unfold l_Y_readsSwap_30
        rw [rf_1 h2.2.2 (by decide), show (3 : Int32) = nI 3 from rfl, w3, b1_so, b1_so, fs_goes w4, b1_so, fs_wish w4, b2_so, if_neg w4.n0]
        unfold l_Y_readsSwap_67
        exact tail2 w4
  · rw [h4] at hh
    refine Out.er ?_ k7 h3 Cq.refl Bm ?_ h5 ((Jq.refl.jt a3).jf h6)
    · unfold f_X5_readSwap
      rw [rwi_eq, R.h5, h2, e3_er]
    · unfold f_Y_readsSwap
      rw [a1, b1_so, hh, b2_so, if_neg h5.n0]
      unfold l_Y_readsSwap_29
      exact tailF h5
end IT2

