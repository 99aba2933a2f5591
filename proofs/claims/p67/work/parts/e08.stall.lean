/-! items: a stall -/
section IT3
variable {I J I1 I2 I3 J1 J2 J3 I' J' : Mem} {B : Nat → Int32} {n p r k m c s np ns nw D : Nat} {N N' : Nat → Int32}
theorem pp_row {w k : Nat} {x : Int32} (hw : w < 6) (hk : k < 14) : f_Y_putsPerson J m (nI w) (nI k) x = some (sM J m (upd (J (m + 1)) (11 + 14 * w + k) x)) := by
  have := r_putsPerson (I := J) (m := m) (N := J (m + 1)) (x := x) hw hk
  rwa [sM_i] at this
theorem pw_row {w k : Nat} {x : Int32} (hw : w < 16) (hk : k < 15) : f_Y_putsWish J m (nI w) (nI k) x = some (sM J m (upd (J (m + 1)) (115 + 15 * w + k) x)) := by
  have := r_putsWish (I := J) (m := m) (N := J (m + 1)) (x := x) hw hk
  rwa [sM_i] at this
theorem ps_row {w k : Nat} {x : Int32} (hw : w < 5) (hk : k < 4) : f_Y_putsStall J m (nI w) (nI k) x = some (sM J m (upd (J (m + 1)) (95 + 4 * w + k) x)) := by
  have := r_putsStall (I := J) (m := m) (N := J (m + 1)) (x := x) hw hk
  rwa [sM_i] at this
theorem fg_row {w : Nat} (hw : w < 16) : f_Y_forgets J m (nI w) = some (sM J m (sFg (J (m + 1)) w)) := by
  have := r_forgets (I := J) (m := m) (N := J (m + 1)) hw
  rwa [sM_i] at this
theorem op_row {w k : Nat} (hw : w < 6) (hk : k < 14) : f_Y_ofPerson J m (nI w) (nI k) = some (pN (J (m + 1)) w k) := by
  have := r_ofPerson (I := J) (m := m) (N := J (m + 1)) hw hk
  rwa [sM_i] at this
theorem ix7 : ix 7 355 = some 7 := ix_n (j := 7) (by decide) (by decide)
/-- an item that makes something begins -/
theorem beg_ok {j cap cnt : Nat} (h : Ld I J r m B n p) (hN : J (m + 1) = N) (hj : j < 355) (hc : N j = nI cnt) (h1 : cnt < cap) (h2 : cap < 1000) : ∃ J', f_Y_begins J m (nI j) (nI cap) = some J' ∧ Af I J' r m B n (tE B n p) ∧ Jt J J' m := by
  obtain ⟨J1, a1, a2, a3⟩ := h.goes
  refine ⟨J1, ?_, a2, a3⟩
  unfold f_Y_begins
  rw [ix_n hj (by decide), b1_so, hN, hc, if_neg (by rw [nJ_i (by omega) (by omega)]; omega)]
  unfold l_Y_begins_15
  rw [a1, b1_so]
theorem beg_er {j cap : Nat} (h : Ld I J r m B n p) (hN : J (m + 1) = N) (hj : j < 355) (hc : N j = nI cap) : ∃ I' J', f_X5_require I r 0 4 = some (.error eIA, I') ∧ Ce I I' r 4 (tS B n p) ∧ f_Y_begins J m (nI j) (nI cap) = some J' ∧ Flt J' m 4 (tS B n p) ∧ Jf J J' m := by
  obtain ⟨I', J', q1, q2, q3, q4, q5⟩ := cf_step h (c := 4) (by decide)
  refine ⟨I', J', q1, q2, ?_, q4, q5⟩
  unfold f_Y_begins
  rw [ix_n hj (by decide), b1_so, hN, hc, if_pos rfl, show (4 : Int32) = nI 4 from rfl, q3, b1_so]
  unfold l_Y_begins_15
  rw [fs_goes q4, b1_so]
theorem RM.addS {q : Nat} (R : RM I q N np ns nw) (h5 : ns < 5) (hN : ∀ j, j ≠ 3 → j ≠ 7 → (j < 95 + 4 * ns ∨ 95 + 4 * ns + 3 < j) → N' j = N j) (n3 : N' 3 = nI (ns + 1)) (hs : RS (I' (q + 10 + ns)) N' ns) (hc : ∃ c t g, (sN N' ns 0 = nI c ∧ c ≤ 8) ∧ (sN N' ns 2 = nI t ∧ t ≤ 50) ∧ (sN N' ns 3 = nI g ∧ g ≤ 100))
    (hI : ∀ a, q < a → a ≠ q + 10 + ns → a ≤ q + 30 → I' a = I a) (hq : ∀ j, j ≠ 4 → j ≠ 13 → I' q j = I q j) (q4 : I' q 4 = nI (ns + 1)) (q13 : I' q 13 = N' 7) : RM I' q N' np (ns + 1) nw := by
  have b1 := R.f.p.2
  have b2 := R.f.s.2
  have b3 := R.f.w.2
  have W := R.f
  obtain ⟨y, y1, y2⟩ := R.2.1
  have hw : ∀ w k, w < 16 → k < 15 → wN N' w k = wN N w k := fun w k h1 h2 => hN _ (by omega) (by omega) (by omega)
  have hp : ∀ p k, p < 6 → k < 14 → pN N' p k = pN N p k := fun p k h1 h2 => hN _ (by omega) (by omega) (by omega)
  have hs' : ∀ s k, s < ns → k < 4 → sN N' s k = sN N s k := fun s k h1 h2 => hN _ (by omega) (by omega) (by omega)
  have cS : ∀ x : Int32, sStock N' nw x = sStock N nw x := fun x => sCnt_eq fun i hi => by rw [hw i 3 (by omega) (by decide), hw i 4 (by omega) (by decide)]
  have cO : ∀ x : Int32, sOwns N' nw x = sOwns N nw x := fun x => sCnt_eq fun i hi => by rw [hw i 3 (by omega) (by decide), hw i 4 (by omega) (by decide)]
  have c0 : sStock N nw (nI ns) = 0 := by
    have : ∀ i, i ≤ nw → sStock N i (nI ns) = 0 := by
      intro i
      induction i with
      | zero => intro _; rfl
      | succ i ih =>
        intro hi
        show sStock N i (nI ns) + (if wN N i 3 = 0 ∧ wN N i 4 = nI ns then 1 else 0) = 0
        rw [ih (by omega), if_neg]
        rintro ⟨z1, z2⟩
        obtain ⟨z3, z4⟩ := W.a0 (show i < nw by omega) z1
        rw [z3, nJ_i (by omega) (by omega)] at z2
        omega
    exact this nw (Nat.le_refl _)
  refine ⟨⟨⟨⟨(hN 2 (by decide) (by decide) (by omega)).trans W.p.1, W.p.2⟩, ⟨n3, by omega⟩, ⟨(hN 4 (by decide) (by decide) (by omega)).trans W.w.1, W.w.2⟩⟩, by rw [hN 0 (by decide) (by decide) (by omega)]; exact W.y, fun w h => ?_, fun w h => ?_, fun s h => ?_, fun p h => ?_⟩, ⟨y, (hN 0 (by decide) (by decide) (by omega)).trans y1, y2⟩, ?_, fun p h => ?_, fun s h => ?_, fun w h => ?_⟩
  · have := W.2.2.1 w h
    unfold WY aT sE at this ⊢
    rw [hw w 3 (by omega) (by decide), hw w 4 (by omega) (by decide), hw w 5 (by omega) (by decide), hw w 7 (by omega) (by decide)]
    exact ⟨fun z => ⟨(this.1 z).1, Nat.lt_succ_of_lt (this.1 z).2⟩, this.2.1, fun z z2 => ⟨(this.2.2 z z2).1, Nat.lt_succ_of_lt (this.2.2 z z2).2⟩⟩
  · have := W.2.2.2.1 w h
    rw [hw w 0 (by omega) (by decide), hw w 2 (by omega) (by decide), hw w 3 (by omega) (by decide)]
    exact this
  · rw [cS]
    by_cases e : s = ns
    · subst e
      obtain ⟨c, t, g, k1, k2, k3⟩ := hc
      exact ⟨c, t, g, k1, k2, k3, by rw [c0]; exact Nat.zero_le _⟩
    · have := W.2.2.2.2.1 s (by omega)
      rw [hs' s 0 (by omega) (by decide), hs' s 2 (by omega) (by decide), hs' s 3 (by omega) (by decide)]
      exact this
  · have := W.2.2.2.2.2 p h
    rw [cO, hp p 5 (by omega) (by decide), hp p 6 (by omega) (by decide)]
    exact this
  · have := R.h
    unfold RH at this ⊢
    rw [hq 3 (by decide) (by decide), q4, n3, hq 5 (by decide) (by decide), hq 6 (by decide) (by decide), hq 7 (by decide) (by decide), hq 8 (by decide) (by decide), hq 9 (by decide) (by decide), hq 10 (by decide) (by decide), hq 11 (by decide) (by decide), hq 12 (by decide) (by decide), q13, hN 2 (by decide) (by decide) (by omega), hN 4 (by decide) (by decide) (by omega), hN 1 (by decide) (by decide) (by omega), hN 0 (by decide) (by decide) (by omega), hN 5 (by decide) (by decide) (by omega), hN 6 (by decide) (by decide) (by omega), hN 8 (by decide) (by decide) (by omega), hN 9 (by decide) (by decide) (by omega), hN 10 (by decide) (by decide) (by omega)]
    exact ⟨⟨this.1.1, rfl, this.1.2.2⟩, this.2.1, this.2.2.1, this.2.2.2.1, this.2.2.2.2.1, rfl⟩
  · have := R.p h
    have e : sNm N' (11 + 14 * p + 7) = sNm N (11 + 14 * p + 7) := by
      unfold sNm
      rw [hN _ (by omega) (by omega) (by omega), hN _ (by omega) (by omega) (by omega), hN _ (by omega) (by omega) (by omega), hN _ (by omega) (by omega) (by omega), hN _ (by omega) (by omega) (by omega), hN _ (by omega) (by omega) (by omega), hN _ (by omega) (by omega) (by omega)]
    unfold RP at this ⊢
    rw [hI _ (by omega) (by omega) (by omega), e, hp p 0 (by omega) (by decide), hp p 1 (by omega) (by decide), hp p 2 (by omega) (by decide), hp p 3 (by omega) (by decide), hp p 4 (by omega) (by decide), hp p 5 (by omega) (by decide), hp p 6 (by omega) (by decide)]
    exact this
  · by_cases e : s = ns
    · rw [e]; exact hs
    · have := R.s (show s < ns by omega)
      unfold RS at this ⊢
      rw [hI _ (by omega) (by omega) (by omega), hs' s 0 (by omega) (by decide), hs' s 1 (by omega) (by decide), hs' s 2 (by omega) (by decide), hs' s 3 (by omega) (by decide)]
      exact this
  · have := R.w h
    have e : sNm N' (115 + 15 * w + 8) = sNm N (115 + 15 * w + 8) := by
      unfold sNm
      rw [hN _ (by omega) (by omega) (by omega), hN _ (by omega) (by omega) (by omega), hN _ (by omega) (by omega) (by omega), hN _ (by omega) (by omega) (by omega), hN _ (by omega) (by omega) (by omega), hN _ (by omega) (by omega) (by omega), hN _ (by omega) (by omega) (by omega)]
    unfold RW at this ⊢
    rw [hI _ (by omega) (by omega) (by omega), e, hw w 0 (by omega) (by decide), hw w 1 (by omega) (by decide), hw w 2 (by omega) (by decide), hw w 3 (by omega) (by decide), hw w 4 (by omega) (by decide), hw w 5 (by omega) (by decide), hw w 6 (by omega) (by decide), hw w 7 (by omega) (by decide)]
    exact this
theorem PG.addS (G : PG N np ns nw D) (b1 : np ≤ 6) (h5 : ns < 5) (b3 : nw ≤ 16) (hN : ∀ j, j ≠ 3 → j ≠ 7 → (j < 95 + 4 * ns ∨ 95 + 4 * ns + 3 < j) → N' j = N j) {v : Nat} (hv : sN N' ns 1 = nI v) (h9 : v ≤ 999) : PG N' np (ns + 1) nw D := by
  obtain ⟨⟨⟨y, f1, f2, f3, f4⟩, f5, f6⟩, ⟨d, h2, h3⟩, ⟨c1, c2, c3⟩, hX⟩ := G
  have hp : ∀ p k, p < 6 → k < 14 → pN N' p k = pN N p k := fun p k h1 h2 => hN _ (by omega) (by omega) (by omega)
  have hs' : ∀ s k, s < ns → k < 4 → sN N' s k = sN N s k := fun s k h1 h2 => hN _ (by omega) (by omega) (by omega)
  have ek : kSum N' (ns + 1) = kSum N ns + v := by
    show kSum N' ns + nT (sN N' ns 1) = _
    rw [kSum_eq ns (fun s hs => hs' s 1 hs (by decide)), hv, nT_n (by omega)]
  refine ⟨⟨⟨y, (hN 0 (by decide) (by decide) (by omega)).trans f1, f2, f3, fun p h => ?_⟩, fun p h => (f5 p h).cg fun j _ _ => hN j (by omega) (by omega) (by omega), fun w h => (f6 w h).cg fun j _ _ => hN j (by omega) (by omega) (by omega)⟩, ⟨d, (hN 1 (by decide) (by decide) (by omega)).trans h2, h3⟩, ⟨fun p h => ?_, fun s h => ?_, ?_⟩, hX.congr (hN 6 (by decide) (by decide) (by omega)) (hN 10 (by decide) (by decide) (by omega)) (fun w h => ⟨hN _ (by omega) (by omega) (by omega), hN _ (by omega) (by omega) (by omega), hN _ (by omega) (by omega) (by omega)⟩)⟩
  · obtain ⟨b, e1, e2⟩ := f4 p h
    exact ⟨b, (hp p 1 (by omega) (by decide)).trans e1, e2⟩
  · rw [hp p 0 (by omega) (by decide)]; exact c1 p h
  · by_cases e : s = ns
    · rw [e, hv, nT_n (by omega)]
    · rw [hs' s 1 (by omega) (by decide)]; exact c2 s (by omega)
  · rw [ek, cSum_eq np (fun p h => hp p 0 (by omega) (by decide))]
    omega
theorem it_Stall (k7' : k < 7) (h : Ld I J r m B n p) (hk : tK B n p = 1) (P : PM I J r m N np ns nw D) : Out I J r m B n p (f_X5_readStall I k r) (f_Y_readsStall J m) := by
  obtain ⟨⟨R, Bm⟩, hN, G, ⟨d1, d2⟩, d3⟩ := P
  have b1' := R.f.p.2
  have b2' := R.f.s.2
  have b3' := R.f.w.2
  have tail : ∀ {J' : Mem} {c s : Nat}, Flt J' m c s → (b2 (f_Y_readNumber J' m 1 8) fun v3 I4 => b2 (f_Y_readNumber I4 m 0 999) fun v6 I7 => b2 (f_Y_readNumber I7 m 0 50) fun v9 I10 => b2 (f_Y_readNumber I10 m 0 100) fun v12 I13 => if (I13 m 10) ≤ 0 then (b1 (ix 3 355) fun j15 => b1 (ix 3 355) fun j16 => b1 (ix 3 355) fun j17 => b1 (pu I13 (m + 1) j17 ((I13 (m + 1) j16) + 1)) fun I18 => b1 (f_Y_putsStall I18 m (I13 (m + 1) j15) 0 v3) fun I19 => b1 (f_Y_putsStall I19 m (I13 (m + 1) j15) 1 v6) fun I21 => b1 (f_Y_putsStall I21 m (I13 (m + 1) j15) 2 v9) fun I23 => b1 (f_Y_putsStall I23 m (I13 (m + 1) j15) 3 v12) fun I25 => b1 (ix 7 355) fun j27 => b1 (ix 7 355) fun j28 => b1 (pu I25 (m + 1) j28 ((I25 (m + 1) j27) + v6)) fun I29 => some (I29)) else (some (I13))) = some J' := fun {J' c s} F => by
    rw [fs_rdn F, b2_so, fs_rdn F, b2_so, fs_rdn F, b2_so, fs_rdn F, b2_so, if_neg F.l0]
  by_cases h5 : ns < 5
  · obtain ⟨J1, a1, a2, a3⟩ := beg_ok (j := 3) (cap := 5) h hN (by decide) R.f.s.1 h5 (by decide)
    have a1 : f_Y_begins J m 3 5 = some J1 := a1
    have hN1 : J1 (m + 1) = N := (a3.1 _ (by omega)).trans hN
    have cpre : f_X5_readStall I k r = (e3 (f_X5_readNumber I k r 1 8) (fun E I6 k7 => some (.error E, I6, k7)) fun v5 I6 k7 => b1 (pu I6 ((r + 3) + 10 + ns) 0 v5) fun I9 => e3 (f_X5_readNumber I9 k7 r 0 999) (fun E I11 k12 => some (.error E, I11, k12)) fun v10 I11 k12 => b1 (pu I11 ((r + 3) + 10 + ns) 1 v10) fun I14 => e3 (f_X5_readNumber I14 k12 r 0 50) (fun E I16 k17 => some (.error E, I16, k17)) fun v15 I16 k17 => b1 (pu I16 ((r + 3) + 10 + ns) 2 v15) fun I19 => e3 (f_X5_readNumber I19 k17 r 0 100) (fun E I21 k22 => some (.error E, I21, k22)) fun v20 I21 k22 => b1 (pu I21 ((r + 3) + 10 + ns) 3 v20) fun I24 => b1 (pu I24 (r + 3) 4 ((I24 (r + 3) 4) + 1)) fun I25 => b1 (pu I25 (r + 3) 13 ((I25 (r + 3) 13) + (I25 ((r + 3) + 10 + ns) 1))) fun I26 => some (.ok (), I26, k22)) := by
      unfold f_X5_readStall l_X5_readStall_17
      rw [R.h4, if_neg (show ¬ (5 : Int32) ≤ nI ns from by rw [show (5 : Int32) = nI 5 from rfl, ile (by omega) (by omega)]; omega), req_ok, e2_ok, R.h4, ixn5 h5, b1_so]
    unfold f_Y_readsStall
    rw [cpre, a1, b1_so]
    clear cpre
    rcases rdn_step (k := k) (lo := 1) (hi := 8) a2 with ⟨v0, A0, K0, e01, ⟨e02, e03, e04, e05⟩, ⟨e06, e07, e08⟩, e09⟩ | ⟨c, A0, K0, k2, k7, e01, e02, e03, e04, e05⟩
    · have q0A : Af (u2 A0 (r + 3 + 10 + ns) 0 (nI v0)) K0 r m B n _ := e02.cl (u2_a (by omega)) (u2_a (by omega))
      rcases rdn_step (k := 2) (lo := 0) (hi := 999) q0A with ⟨v1, A1, K1, e11, ⟨e12, e13, e14, e15⟩, ⟨e16, e17, e18⟩, e19⟩ | ⟨c, A1, K1, k2, k7, e11, e12, e13, e14, e15⟩
      · have q1A : Af (u2 A1 (r + 3 + 10 + ns) 1 (nI v1)) K1 r m B n _ := e12.cl (u2_a (by omega)) (u2_a (by omega))
        rcases rdn_step (k := 2) (lo := 0) (hi := 50) q1A with ⟨v2, A2, K2, e21, ⟨e22, e23, e24, e25⟩, ⟨e26, e27, e28⟩, e29⟩ | ⟨c, A2, K2, k2, k7, e21, e22, e23, e24, e25⟩
        · have q2A : Af (u2 A2 (r + 3 + 10 + ns) 2 (nI v2)) K2 r m B n _ := e22.cl (u2_a (by omega)) (u2_a (by omega))
          rcases rdn_step (k := 2) (lo := 0) (hi := 100) q2A with ⟨v3, A3, K3, e31, ⟨e32, e33, e34, e35⟩, ⟨e36, e37, e38⟩, e39⟩ | ⟨c, A3, K3, k2, k7, e31, e32, e33, e34, e35⟩
          · have q3A : Af (u2 A3 (r + 3 + 10 + ns) 3 (nI v3)) K3 r m B n _ := e32.cl (u2_a (by omega)) (u2_a (by omega))
            have hN4 : K3 (m + 1) = N := (e34.1 _ (by omega)).trans ((e24.1 _ (by omega)).trans ((e14.1 _ (by omega)).trans ((e04.1 _ (by omega)).trans hN1)))
            have CQ : Cq I (u2 A3 (r + 3 + 10 + ns) 3 (nI v3)) r := ((((((((Cq.refl.it e03).u (a := r + 3 + 10 + ns) (j := 0) (x := nI v0) (by omega)).it e13).u (a := r + 3 + 10 + ns) (j := 1) (x := nI v1) (by omega)).it e23).u (a := r + 3 + 10 + ns) (j := 2) (x := nI v2) (by omega)).it e33).u (a := r + 3 + 10 + ns) (j := 3) (x := nI v3) (by omega))
            have BQ : BM (u2 A3 (r + 3 + 10 + ns) 3 (nI v3)) (r + 3) := ((((((((Bm.it e03).uf (a := r + 3 + 10 + ns) (i := 0) (x := nI v0) (by decide)).it e13).uf (a := r + 3 + 10 + ns) (i := 1) (x := nI v1) (by decide)).it e23).uf (a := r + 3 + 10 + ns) (i := 2) (x := nI v2) (by decide)).it e33).uf (a := r + 3 + 10 + ns) (i := 3) (x := nI v3) (by decide))
            have o : ∀ a j, a ≠ r + 1 → a ≠ r + 3 + 10 + ns → (u2 A3 (r + 3 + 10 + ns) 3 (nI v3)) a j = I a j := fun a j z1 z2 => by rw [u2_a z2, e33 a z1, u2_a z2, e23 a z1, u2_a z2, e13 a z1, u2_a z2, e03 a z1]
            have s3 : (u2 A3 (r + 3 + 10 + ns) 3 (nI v3)) (r + 3 + 10 + ns) 3 = nI v3 := u2_s
            have s2 : (u2 A3 (r + 3 + 10 + ns) 3 (nI v3)) (r + 3 + 10 + ns) 2 = nI v2 := by rw [u2_k (by decide), e33 _ (by omega), u2_s]
            have s1 : (u2 A3 (r + 3 + 10 + ns) 3 (nI v3)) (r + 3 + 10 + ns) 1 = nI v1 := by rw [u2_k (by decide), e33 _ (by omega), u2_k (by decide), e23 _ (by omega), u2_s]
            have s0 : (u2 A3 (r + 3 + 10 + ns) 3 (nI v3)) (r + 3 + 10 + ns) 0 = nI v0 := by rw [u2_k (by decide), e33 _ (by omega), u2_k (by decide), e23 _ (by omega), u2_k (by decide), e13 _ (by omega), u2_s]
            generalize hX : u2 A3 (r + 3 + 10 + ns) 3 (nI v3) = X at CQ BQ o s0 s1 s2 s3 q3A
            have x4 : X (r + 3) 4 = nI ns := (o (r + 3) 4 (by omega) (by omega)).trans R.h4
            have x13 : X (r + 3) 13 = N 7 := (o (r + 3) 13 (by omega) (by omega)).trans R.h13
            obtain ⟨M, hM⟩ : ∃ M, M = upd (upd (upd (upd (upd (upd N 3 (nI (ns + 1))) (95 + 4 * ns + 0) (nI v0)) (95 + 4 * ns + 1) (nI v1)) (95 + 4 * ns + 2) (nI v2)) (95 + 4 * ns + 3) (nI v3)) 7 (N 7 + nI v1) := ⟨_, rfl⟩
            have hMo : ∀ j, j ≠ 3 → j ≠ 7 → (j < 95 + 4 * ns ∨ 95 + 4 * ns + 3 < j) → M j = N j := fun j z1 z2 z3 => by rw [hM, upd_n z2, upd_n (by omega), upd_n (by omega), upd_n (by omega), upd_n (by omega), upd_n z1]
            have m3 : M 3 = nI (ns + 1) := by rw [hM, upd_n (by decide), upd_n (by omega), upd_n (by omega), upd_n (by omega), upd_n (by omega), upd_s]
            have m7 : M 7 = N 7 + nI v1 := by rw [hM, upd_s]
            have t3 : sN M ns 3 = nI v3 := by rw [hM]; show upd _ _ _ (95 + 4 * ns + 3) = _; rw [upd_n (by omega), upd_s]
            have t2 : sN M ns 2 = nI v2 := by rw [hM]; show upd _ _ _ (95 + 4 * ns + 2) = _; rw [upd_n (by omega), upd_n (by omega), upd_s]
            have t1 : sN M ns 1 = nI v1 := by rw [hM]; show upd _ _ _ (95 + 4 * ns + 1) = _; rw [upd_n (by omega), upd_n (by omega), upd_n (by omega), upd_s]
            have t0 : sN M ns 0 = nI v0 := by rw [hM]; show upd _ _ _ (95 + 4 * ns + 0) = _; rw [upd_n (by omega), upd_n (by omega), upd_n (by omega), upd_n (by omega), upd_s]
            refine Out.go (v := ()) (I1 := u2 (u2 X (r + 3) 4 (nI (ns + 1))) (r + 3) 13 (N 7 + nI v1)) (J1 := sM K3 m M) (N := M) (D := D) (k := 2) ?_ ?_ (by decide) ((q3A.cl (by rw [u2_a (by omega), u2_a (by omega)]) (by rw [u2_a (by omega), u2_a (by omega)])).sm) (((((fs_1 hk).trans e05).trans e15).trans e25).trans e35) ⟨⟨R.addS h5 hMo m3 ?_ ⟨v0, v2, v3, ⟨t0, rng_n e06 (by decide) e08⟩, ⟨t2, rng_n e26 (by decide) e28⟩, t3, rng_n e36 (by decide) e38⟩ (fun a z1 z2 z3 => ?_) (fun j z1 z2 => ?_) ?_ ?_, ?_⟩, sM_s, G.addS b1' h5 b3' hMo t1 (rng_n e16 (by decide) e18), ⟨?_, ?_⟩, d3⟩ ((CQ.u (by omega)).u (by omega)) (((((Jq.refl.jt a3).jt e04).jt e14).jt e24).jt e34).sm
            · rw [e01, e3_ok, pu_so, b1_so, e11, e3_ok, pu_so, b1_so, e21, e3_ok, pu_so, b1_so, e31, e3_ok, pu_so, b1_so, hX, pu_so, b1_so, x4, nI_s1, pu_so, b1_so, u2_k (by decide), x13, u2_a (by omega), s1]
            · rw [e09, b2_so, e19, b2_so, e29, b2_so, e39, b2_so, if_pos (by rw [e32.2.2.1.1]; decide), ix3, b1_so, b1_so, b1_so, hN4, R.f.s.1, nI_s1, pu_so, b1_so, u2_sM hN4]
              have w0 : f_Y_putsStall (sM K3 m (upd N 3 (nI (ns + 1)))) m (nI ns) 0 (nI v0) = some (sM K3 m (upd (upd N 3 (nI (ns + 1))) (95 + 4 * ns + 0) (nI v0))) := r_putsStall (k := 0) h5 (by decide)
              have w1 : f_Y_putsStall (sM K3 m (upd (upd N 3 (nI (ns + 1))) (95 + 4 * ns + 0) (nI v0))) m (nI ns) 1 (nI v1) = some (sM K3 m (upd (upd (upd N 3 (nI (ns + 1))) (95 + 4 * ns + 0) (nI v0)) (95 + 4 * ns + 1) (nI v1))) := r_putsStall (k := 1) h5 (by decide)
              have w2 : f_Y_putsStall (sM K3 m (upd (upd (upd N 3 (nI (ns + 1))) (95 + 4 * ns + 0) (nI v0)) (95 + 4 * ns + 1) (nI v1))) m (nI ns) 2 (nI v2) = some (sM K3 m (upd (upd (upd (upd N 3 (nI (ns + 1))) (95 + 4 * ns + 0) (nI v0)) (95 + 4 * ns + 1) (nI v1)) (95 + 4 * ns + 2) (nI v2))) := r_putsStall (k := 2) h5 (by decide)
              have w3 : f_Y_putsStall (sM K3 m (upd (upd (upd (upd N 3 (nI (ns + 1))) (95 + 4 * ns + 0) (nI v0)) (95 + 4 * ns + 1) (nI v1)) (95 + 4 * ns + 2) (nI v2))) m (nI ns) 3 (nI v3) = some (sM K3 m (upd (upd (upd (upd (upd N 3 (nI (ns + 1))) (95 + 4 * ns + 0) (nI v0)) (95 + 4 * ns + 1) (nI v1)) (95 + 4 * ns + 2) (nI v2)) (95 + 4 * ns + 3) (nI v3))) := r_putsStall (k := 3) h5 (by decide)
              have e7 : (upd (upd (upd (upd (upd N 3 (nI (ns + 1))) (95 + 4 * ns + 0) (nI v0)) (95 + 4 * ns + 1) (nI v1)) (95 + 4 * ns + 2) (nI v2)) (95 + 4 * ns + 3) (nI v3)) 7 = N 7 := by rw [upd_n (by omega), upd_n (by omega), upd_n (by omega), upd_n (by omega), upd_n (by decide)]
              rw [w0, b1_so, w1, b1_so, w2, b1_so, w3, b1_so, ix7, b1_so, b1_so, sM_s, e7, pu_sM, b1_so, hM]
            · unfold RS
              rw [u2_a (by omega), u2_a (by omega), s0, s1, s2, s3, t0, t1, t2, t3]
              exact ⟨rfl, rfl, rfl, rfl⟩
            · rw [u2_a (by omega), u2_a (by omega)]
              exact funext fun j => o a j (by omega) (by omega)
            · rw [u2_k z2, u2_k z1]
              exact o _ j (by omega) (by omega)
            · rw [u2_k (by decide), u2_s]
            · rw [u2_s, m7]
            · exact BQ.uh.uh
            · rw [u2_a (by omega), u2_a (by omega), o r 7 (by omega) (by omega)]; exact d1
            · rw [sM_n (by omega), e34.2 18 (by decide), e24.2 18 (by decide), e14.2 18 (by decide), e04.2 18 (by decide), a3.2 18 (by decide)]; exact d2
          · refine Out.er (I1 := u2 A2 (r + 3 + 10 + ns) 2 (nI v2)) ?_ k7 e32 ((((((Cq.refl.it e03).u (a := r + 3 + 10 + ns) (j := 0) (x := nI v0) (by omega)).it e13).u (a := r + 3 + 10 + ns) (j := 1) (x := nI v1) (by omega)).it e23).u (a := r + 3 + 10 + ns) (j := 2) (x := nI v2) (by omega)) ((((((Bm.it e03).uf (a := r + 3 + 10 + ns) (i := 0) (x := nI v0) (by decide)).it e13).uf (a := r + 3 + 10 + ns) (i := 1) (x := nI v1) (by decide)).it e23).uf (a := r + 3 + 10 + ns) (i := 2) (x := nI v2) (by decide)) ?_ e34 (((((Jq.refl.jt a3).jt e04).jt e14).jt e24).jf e35)
            · rw [e01, e3_ok, pu_so, b1_so, e11, e3_ok, pu_so, b1_so, e21, e3_ok, pu_so, b1_so, e31, e3_er]
            · rw [e09, b2_so, e19, b2_so, e29, b2_so, e33, b2_so, if_neg e34.l0]
        · refine Out.er (I1 := u2 A1 (r + 3 + 10 + ns) 1 (nI v1)) ?_ k7 e22 ((((Cq.refl.it e03).u (a := r + 3 + 10 + ns) (j := 0) (x := nI v0) (by omega)).it e13).u (a := r + 3 + 10 + ns) (j := 1) (x := nI v1) (by omega)) ((((Bm.it e03).uf (a := r + 3 + 10 + ns) (i := 0) (x := nI v0) (by decide)).it e13).uf (a := r + 3 + 10 + ns) (i := 1) (x := nI v1) (by decide)) ?_ e24 ((((Jq.refl.jt a3).jt e04).jt e14).jf e25)
          · rw [e01, e3_ok, pu_so, b1_so, e11, e3_ok, pu_so, b1_so, e21, e3_er]
          · rw [e09, b2_so, e19, b2_so, e23, b2_so, fs_rdn e24, b2_so, if_neg e24.l0]
      · refine Out.er (I1 := u2 A0 (r + 3 + 10 + ns) 0 (nI v0)) ?_ k7 e12 ((Cq.refl.it e03).u (a := r + 3 + 10 + ns) (j := 0) (x := nI v0) (by omega)) ((Bm.it e03).uf (a := r + 3 + 10 + ns) (i := 0) (x := nI v0) (by decide)) ?_ e14 (((Jq.refl.jt a3).jt e04).jf e15)
        · rw [e01, e3_ok, pu_so, b1_so, e11, e3_er]
        · rw [e09, b2_so, e13, b2_so, fs_rdn e14, b2_so, fs_rdn e14, b2_so, if_neg e14.l0]
    · refine Out.er (I1 := I) ?_ k7 e02 Cq.refl Bm ?_ e04 ((Jq.refl.jt a3).jf e05)
      · rw [e01, e3_er]
      · rw [e03, b2_so, fs_rdn e04, b2_so, fs_rdn e04, b2_so, fs_rdn e04, b2_so, if_neg e04.l0]
  · have h5' : ns = 5 := by omega
    obtain ⟨I4, J4, q1, q2, q3, q4, q5⟩ := beg_er (j := 3) (cap := 5) h hN (by decide) (by rw [R.f.s.1, h5'])
    have q3 : f_Y_begins J m 3 5 = some J4 := q3
    refine Out.er (I1 := I) (k := k) ?_ k7' q2 Cq.refl Bm ?_ q4 (Jq.refl.jf q5)
    · unfold f_X5_readStall l_X5_readStall_17
      rw [R.h4, h5', if_pos (by decide), q1, e2_er]
    · unfold f_Y_readsStall
      rw [q3, b1_so]
      exact tail q4
end IT3

