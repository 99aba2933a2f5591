/-! items: a wish -/
section IT6
variable {I J I1 I2 I3 J1 J2 J3 I' J' : Mem} {B : Nat → Int32} {n p r k m c s np ns nw D : Nat} {N N' M : Nat → Int32}
theorem WF.sl (H : WF N np ns nw) (h5 : nw < 16) (hN : ∀ j, (j < 115 + 15 * nw ∨ 115 + 15 * nw + 14 < j) → M j = N j) : WF M np ns nw := by
  have b1 := H.p.2
  have b2 := H.s.2
  exact H.congr (hN 0 (by omega)) (hN 2 (by omega)) (hN 3 (by omega)) (hN 4 (by omega)) (fun i _ => hN _ (by omega)) (fun i _ => hN _ (by omega)) (fun i _ => hN _ (by omega)) (fun i _ => hN _ (by omega)) (fun i _ => hN _ (by omega)) (fun i _ => hN _ (by omega)) (fun i _ => hN _ (by omega)) (fun i hi => by
    have e : sN M i 2 = sN N i 2 := hN _ (by omega)
    rw [e]; exact H.st hi) (fun i hi => by
    have e : sN M i 3 = sN N i 3 := hN _ (by omega)
    rw [e]; exact H.mg hi) (fun i _ => hN _ (by omega)) (fun i _ => hN _ (by omega))
theorem RM.addW {q : Nat} {h a : Int32} (R : RM I q N np ns nw) (h5 : nw < 16) (hN : ∀ j, j ≠ 4 → (j < 115 + 15 * nw ∨ 115 + 15 * nw + 14 < j) → N' j = N j) (n3 : N' 4 = nI (nw + 1)) (hs : RW (I' (q + 15 + nw)) N' nw)
    (hb : ∃ b e, (wN N' nw 0 = nI b ∧ 1 ≤ b ∧ b ≤ 99) ∧ wN N' nw 2 = nI e ∧ e ≤ 9) (k3 : wN N' nw 3 = h) (k4 : wN N' nw 4 = a) (k5 : wN N' nw 5 = -1)
    (hp : (h = 0 ∧ ∃ s c, s < ns ∧ a = nI s ∧ sN N s 0 = nI c ∧ c ≤ 8 ∧ sStock N nw (nI s) < c) ∨ (h = 1 ∧ ∃ p, p < np ∧ a = nI p ∧ sOwns N nw (nI p) < 4))
    (hI : ∀ a, q < a → a ≠ q + 15 + nw → a ≤ q + 30 → I' a = I a) (hq : ∀ j, j ≠ 5 → I' q j = I q j) (q5 : I' q 5 = nI (nw + 1)) : RM I' q N' np ns (nw + 1) := by
  have b1 := R.f.p.2
  have b2 := R.f.s.2
  have b3 := R.f.w.2
  have W := R.f
  obtain ⟨y, y1, y2⟩ := R.2.1
  have hw : ∀ w k, w < nw → k < 15 → wN N' w k = wN N w k := fun w k h1 h2 => hN _ (by omega) (by omega)
  have hpp : ∀ p k, p < 6 → k < 14 → pN N' p k = pN N p k := fun p k h1 h2 => hN _ (by omega) (by omega)
  have hs' : ∀ s k, s < 5 → k < 4 → sN N' s k = sN N s k := fun s k h1 h2 => hN _ (by omega) (by omega)
  have cS : ∀ x : Int32, sStock N' (nw + 1) x = sStock N nw x + (if h = 0 ∧ a = x then 1 else 0) := fun x => by
    show sStock N' nw x + (if wN N' nw 3 = 0 ∧ wN N' nw 4 = x then 1 else 0) = _
    rw [k3, k4]
    congr 1
    exact sCnt_eq fun i hi => by rw [hw i 3 (by omega) (by decide), hw i 4 (by omega) (by decide)]
  have cO : ∀ x : Int32, sOwns N' (nw + 1) x = sOwns N nw x + (if h = 1 ∧ a = x then 1 else 0) := fun x => by
    show sOwns N' nw x + (if wN N' nw 3 = 1 ∧ wN N' nw 4 = x then 1 else 0) = _
    rw [k3, k4]
    congr 1
    exact sCnt_eq fun i hi => by rw [hw i 3 (by omega) (by decide), hw i 4 (by omega) (by decide)]
  have h01 : h = 0 ∨ h = 1 := hp.elim (fun z => Or.inl z.1) (fun z => Or.inr z.1)
  refine ⟨⟨⟨⟨(hN 2 (by decide) (by omega)).trans W.p.1, W.p.2⟩, ⟨(hN 3 (by decide) (by omega)).trans W.s.1, W.s.2⟩, ⟨n3, by omega⟩⟩, by rw [hN 0 (by decide) (by omega)]; exact W.y, fun w hlt => ?_, fun w hlt => ?_, fun s hlt => ?_, fun p hlt => ?_⟩, ⟨y, (hN 0 (by decide) (by omega)).trans y1, y2⟩, ?_, fun p hlt => ?_, fun s hlt => ?_, fun w hlt => ?_⟩
  · by_cases e : w = nw
    · subst e
      unfold WY aT sE
      rw [k3, k4, k5]
      refine ⟨fun z => ?_, fun z => ?_, fun z z2 => absurd rfl z2⟩
      · rcases hp with ⟨-, s, c, g1, g2, -⟩ | ⟨g0, -⟩
        · exact idx_of g2 g1 (by omega)
        · rw [g0] at z; exact absurd z (by decide)
      · rcases hp with ⟨g0, -⟩ | ⟨-, p, g1, g2, -⟩
        · rw [g0] at z; exact absurd z (by decide)
        · exact idx_of g2 g1 (by omega)
    · have := W.2.2.1 w (by omega)
      unfold WY aT sE at this ⊢
      rw [hw w 3 (by omega) (by decide), hw w 4 (by omega) (by decide), hw w 5 (by omega) (by decide), hw w 7 (by omega) (by decide)]
      exact this
  · by_cases e : w = nw
    · subst e
      obtain ⟨b, e, g1, g2, g3⟩ := hb
      rw [k3]
      exact ⟨h01.elim Or.inl (fun z => Or.inr (Or.inl z)), b, e, g1, ⟨g2, by omega⟩, fun _ => g3⟩
    · have := W.2.2.2.1 w (by omega)
      rw [hw w 0 (by omega) (by decide), hw w 2 (by omega) (by decide), hw w 3 (by omega) (by decide)]
      exact this
  · obtain ⟨c, t, g, g1, g2, g3, g4⟩ := W.2.2.2.2.1 s hlt
    rw [cS, hs' s 0 (by omega) (by decide), hs' s 2 (by omega) (by decide), hs' s 3 (by omega) (by decide)]
    refine ⟨c, t, g, g1, g2, g3, ?_⟩
    by_cases e : h = 0 ∧ a = nI s
    · rw [if_pos e]
      rcases hp with ⟨-, s', c', x1, x2, x3, x4, x5⟩ | ⟨x0, -⟩
      · have : s' = s := by
          rw [x2, nJ_i (by omega) (by omega)] at e
          exact e.2
        subst this
        rw [x3, nJ_i (by omega) (by omega)] at g1
        omega
      · rw [x0] at e
        exact absurd e.1 (by decide)
    · rw [if_neg e]
      exact g4
  · obtain ⟨g1, g2⟩ := W.2.2.2.2.2 p hlt
    rw [cO, hpp p 5 (by omega) (by decide), hpp p 6 (by omega) (by decide)]
    refine ⟨?_, g2⟩
    by_cases e : h = 1 ∧ a = nI p
    · rw [if_pos e]
      rcases hp with ⟨x0, -⟩ | ⟨-, p', x1, x2, x3⟩
      · rw [x0] at e
        exact absurd e.1 (by decide)
      · have : p' = p := by
          rw [x2, nJ_i (by omega) (by omega)] at e
          exact e.2
        subst this
        omega
    · rw [if_neg e]
      exact g1
  · have := R.h
    unfold RH at this ⊢
    rw [hq 3 (by decide), hq 4 (by decide), q5, n3, hq 6 (by decide), hq 7 (by decide), hq 8 (by decide), hq 9 (by decide), hq 10 (by decide), hq 11 (by decide), hq 12 (by decide), hq 13 (by decide), hN 2 (by decide) (by omega), hN 3 (by decide) (by omega), hN 1 (by decide) (by omega), hN 0 (by decide) (by omega), hN 5 (by decide) (by omega), hN 6 (by decide) (by omega), hN 7 (by decide) (by omega), hN 8 (by decide) (by omega), hN 9 (by decide) (by omega), hN 10 (by decide) (by omega)]
    exact ⟨⟨this.1.1, this.1.2.1, rfl⟩, this.2⟩
  · have := R.p hlt
    have e2 : sNm N' (11 + 14 * p + 7) = sNm N (11 + 14 * p + 7) := by
      unfold sNm
      rw [hN _ (by omega) (by omega), hN _ (by omega) (by omega), hN _ (by omega) (by omega), hN _ (by omega) (by omega), hN _ (by omega) (by omega), hN _ (by omega) (by omega), hN _ (by omega) (by omega)]
    unfold RP at this ⊢
    rw [hI _ (by omega) (by omega) (by omega), e2, hpp p 0 (by omega) (by decide), hpp p 1 (by omega) (by decide), hpp p 2 (by omega) (by decide), hpp p 3 (by omega) (by decide), hpp p 4 (by omega) (by decide), hpp p 5 (by omega) (by decide), hpp p 6 (by omega) (by decide)]
    exact this
  · have := R.s hlt
    unfold RS at this ⊢
    rw [hI _ (by omega) (by omega) (by omega), hs' s 0 (by omega) (by decide), hs' s 1 (by omega) (by decide), hs' s 2 (by omega) (by decide), hs' s 3 (by omega) (by decide)]
    exact this
  · by_cases e : w = nw
    · rw [e]; exact hs
    · have := R.w (show w < nw by omega)
      have e : sNm N' (115 + 15 * w + 8) = sNm N (115 + 15 * w + 8) := by
        unfold sNm
        rw [hN _ (by omega) (by omega), hN _ (by omega) (by omega), hN _ (by omega) (by omega), hN _ (by omega) (by omega), hN _ (by omega) (by omega), hN _ (by omega) (by omega), hN _ (by omega) (by omega)]
      unfold RW at this ⊢
      rw [hI _ (by omega) (by omega) (by omega), e, hw w 0 (by omega) (by decide), hw w 1 (by omega) (by decide), hw w 2 (by omega) (by decide), hw w 3 (by omega) (by decide), hw w 4 (by omega) (by decide), hw w 5 (by omega) (by decide), hw w 6 (by omega) (by decide), hw w 7 (by omega) (by decide)]
      exact this
theorem PG.addW (G : PG N np ns nw D) (b1 : np ≤ 6) (b2 : ns ≤ 5) (h5 : nw < 16) (hN : ∀ j, j ≠ 4 → (j < 115 + 15 * nw ∨ 115 + 15 * nw + 14 < j) → N' j = N j) (hn : NmOk N' (115 + 15 * nw + 8)) (k5 : wN N' nw 5 = -1) : PG N' np ns (nw + 1) D := by
  obtain ⟨⟨⟨y', f1, f2, f3, f4⟩, f5, f6⟩, ⟨d, h2, h3⟩, c, hX⟩ := G
  have hw : ∀ w k, w < nw → k < 15 → wN N' w k = wN N w k := fun w k h1 h2 => hN _ (by omega) (by omega)
  have hpp : ∀ p k, p < 6 → k < 14 → pN N' p k = pN N p k := fun p k h1 h2 => hN _ (by omega) (by omega)
  have hs' : ∀ s k, s < 5 → k < 4 → sN N' s k = sN N s k := fun s k h1 h2 => hN _ (by omega) (by omega)
  refine ⟨⟨⟨y', (hN 0 (by decide) (by omega)).trans f1, f2, f3, fun p h => ?_⟩, fun p h => (f5 p h).cg fun j _ _ => hN j (by omega) (by omega), fun w h => ?_⟩, ⟨d, (hN 1 (by decide) (by omega)).trans h2, h3⟩, c.congr (fun p h => hpp p 0 (by omega) (by decide)) (fun s h => hs' s 1 (by omega) (by decide)), ?_, ?_, fun w h z1 z2 => ?_⟩
  · obtain ⟨b, e1, e2⟩ := f4 p h
    exact ⟨b, (hpp p 1 (by omega) (by decide)).trans e1, e2⟩
  · by_cases e : w = nw
    · rw [e]; exact hn
    · exact (f6 w (by omega)).cg fun j _ _ => hN j (by omega) (by omega)
  · rw [hN 6 (by decide) (by omega)]; exact hX.1
  · rw [hN 10 (by decide) (by omega)]; exact hX.2.1
  · by_cases e : w = nw
    · rw [e] at z2; exact absurd k5 z2
    · rw [hw w 3 (by omega) (by decide)] at z1
      rw [hw w 5 (by omega) (by decide)] at z2
      rw [hw w 6 (by omega) (by decide)]
      exact hX.2.2 w (by omega) z1 z2
/-! the place -/
theorem pq3 (h : nw < 16) {x : Int32} : f_Y_putsWish J m (nI nw) 3 x = some (sM J m (upd (J (m + 1)) (115 + 15 * nw + 3) x)) := pw_row (k := 3) h (by decide)
theorem pq4 (h : nw < 16) {x : Int32} : f_Y_putsWish J m (nI nw) 4 x = some (sM J m (upd (J (m + 1)) (115 + 15 * nw + 4) x)) := pw_row (k := 4) h (by decide)
theorem pl91 (h : nw < 16) {x3 y0 : Int32} : l_Y_readsPlace_91 J m (nI nw) x3 y0 3 (nI nw) = some (sM J m (upd (upd (J (m + 1)) (115 + 15 * nw + 3) y0) (115 + 15 * nw + 4) x3)) := by
  unfold l_Y_readsPlace_91
  rw [pq3 h, b1_so, pq4 h, b1_so, sM_s, sM_sM]
theorem pl72F (h : nw < 16) {x2 x3 y0 : Int32} (F : Flt J m c s) : ∃ M, l_Y_readsPlace_72 J m (nI nw) x2 x3 y0 = some (sM J m M) ∧ ∀ j, j ≠ 115 + 15 * nw + 3 → j ≠ 115 + 15 * nw + 4 → M j = J (m + 1) j := by
  unfold l_Y_readsPlace_72
  rw [fs_ref F, b1_so, fs_goes F, b1_so, pl91 h, pl91 h]
  split
  · exact ⟨_, rfl, fun j h1 h2 => by rw [upd_n h2, upd_n h1]⟩
  · exact ⟨_, rfl, fun j h1 h2 => by rw [upd_n h2, upd_n h1]⟩
theorem pl44F (h : nw < 16) (W : WF (J (m + 1)) np ns nw) {x2 : Int32} (F : Flt J m c s) : ∃ M, l_Y_readsPlace_44 J m (nI nw) x2 0 = some (sM J m M) ∧ ∀ j, j ≠ 115 + 15 * nw + 3 → j ≠ 115 + 15 * nw + 4 → M j = J (m + 1) j := by
  have gO := r_owns (I := J) (m := m) (N := J (m + 1)) (p := 0) W.w
  have gF := r_isFull (I := J) (m := m) W (s := 0) (by decide)
  rw [sM_i] at gO gF
  have gF : f_Y_isFull J m 0 = _ := gF
  unfold l_Y_readsPlace_44
  rw [gO, b1_so, gF, b1_so]
  split
  · split
    · exact pl72F h F
    · exact pl72F h F
  · exact pl72F h F
theorem plF (h : nw < 16) (W : WF (J (m + 1)) np ns nw) (F : Flt J m c s) : ∃ M, l_Y_readsPlace_25 J m (nI nw) 0 = some (sM J m M) ∧ ∀ j, j ≠ 115 + 15 * nw + 3 → j ≠ 115 + 15 * nw + 4 → M j = J (m + 1) j := by
  obtain ⟨M, h1, h2⟩ := pl44F h W (x2 := 0) F
  refine ⟨M, ?_, h2⟩
  unfold l_Y_readsPlace_25
  rw [fs_goes F, b1_so, if_pos rfl, fs_pers F, b2_so, h1]
theorem plF0 (h : nw < 16) (W : WF (J (m + 1)) np ns nw) (F : Flt J m c s) : ∃ M, f_Y_readsPlace J m (nI nw) = some (sM J m M) ∧ ∀ j, j ≠ 115 + 15 * nw + 3 → j ≠ 115 + 15 * nw + 4 → M j = J (m + 1) j := by
  obtain ⟨M, h1, h2⟩ := plF h W F
  refine ⟨M, ?_, h2⟩
  unfold f_Y_readsPlace
  rw [fs_word F, b1_so, if_pos rfl, fs_word F, b1_so, if_pos rfl, fs_flt F, b1_so, h1]
def PlO (np ns nw : Nat) (N : Nat → Int32) (I J : Mem) (r m : Nat) (B : Nat → Int32) (n p : Nat) (C : Option (Except String Unit × Mem × Nat)) (R : Option Mem) : Prop :=
    (∃ I' J' k' p' h a, (C = some (.ok (), I', k') ∧ R = some J' ∧ k' < 7) ∧ (Af I' J' r m B n p' ∧ Fl B p p') ∧ ((∀ x, x ≠ r + 1 → x ≠ (r + 3 + 15 + nw) → I' x = I x) ∧ ∀ j, j < 4 ∨ j = 6 ∨ j = 7 ∨ 10 < j → I' (r + 3 + 15 + nw) j = I (r + 3 + 15 + nw) j) ∧ (I' (r + 3 + 15 + nw) 4 = (if h = 0 then a else -1) ∧ I' (r + 3 + 15 + nw) 5 = (if h = 1 then a else -1) ∧ I' (r + 3 + 15 + nw) 8 = -1 ∧ I' (r + 3 + 15 + nw) 9 = -1 ∧ I' (r + 3 + 15 + nw) 10 = -1) ∧ (Jq J J' m ∧ ∀ j, j ≠ 115 + 15 * nw + 3 → j ≠ 115 + 15 * nw + 4 → J' (m + 1) j = J (m + 1) j) ∧ (wN (J' (m + 1)) nw 3 = h ∧ wN (J' (m + 1)) nw 4 = a) ∧ ((h = 0 ∧ ∃ s c, s < ns ∧ a = nI s ∧ sN N s 0 = nI c ∧ c ≤ 8 ∧ sStock N nw (nI s) < c) ∨ (h = 1 ∧ ∃ p, p < np ∧ a = nI p ∧ sOwns N nw (nI p) < 4))) ∨
    (∃ c s I' J' k', (C = some (.error eIA, I', k') ∧ R = some J' ∧ k' < 7) ∧ (Ce I I' r c s ∧ Flt J' m c s) ∧ (Jq J J' m ∧ ∀ j, j ≠ 115 + 15 * nw + 3 → j ≠ 115 + 15 * nw + 4 → J' (m + 1) j = J (m + 1) j))
theorem Ce.it (h : It I I1 r) (e : Ce I1 I2 r c s) : Ce I I2 r c s := ⟨fun a h1 h2 => (e.1 a h1 h2).trans (h a h2), e.2⟩
theorem place_step (h5 : nw < 16) (A : Af I J r m B n p) (R : RM I (r + 3) N np ns nw) (W : WF (J (m + 1)) np ns nw) (hM : ∀ j, (j < 115 + 15 * nw ∨ 115 + 15 * nw + 14 < j) → J (m + 1) j = N j) : PlO np ns nw N I J r m B n p (f_X5_readPlace I k r (r + 3 + 15 + nw)) (f_Y_readsPlace J m (nI nw)) := by
  have b1' := R.f.p.2
  have b2' := R.f.s.2
  have k7 := tK_7 (B := B) (n := n) (p := p)
  have cO : ∀ x : Int32, sCnt (fun w => wN (J (m + 1)) w 3 = 1 ∧ wN (J (m + 1)) w 4 = x) nw = sOwns N nw x := fun x => sCnt_eq fun i hi => by rw [show wN (J (m + 1)) i 3 = wN N i 3 from hM _ (by omega), show wN (J (m + 1)) i 4 = wN N i 4 from hM _ (by omega)]
  have cS : ∀ x : Int32, sStock (J (m + 1)) nw x = sStock N nw x := fun x => sCnt_eq fun i hi => by rw [show wN (J (m + 1)) i 3 = wN N i 3 from hM _ (by omega), show wN (J (m + 1)) i 4 = wN N i 4 from hM _ (by omega)]
  obtain ⟨I1, g1, g2, g3⟩ := A.scan (k := k)
  have R1 : RM I1 (r + 3) N np ns nw := R.it g3
  have Jof : ∀ {J1 : Mem}, Jt J J1 m → J1 (m + 1) = J (m + 1) := fun z => z.1 _ (by omega)
  unfold f_X5_readPlace f_Y_readsPlace
  rw [g1, b2_so]
  by_cases w22 : Wd B n p 22
  · rw [g2.word (by decide) w22, b3_so, A.2.2.word A.1 (by decide) w22, b1_so, if_neg (show ¬ (1 : Int32) = 0 from by decide), if_neg (show ¬ (1 : Int32) = 0 from by decide)]
    unfold l_X5_readPlace_36 l_X5_readPlace_41 l_Y_readsPlace_25
    obtain ⟨J1, c1, c2, c3⟩ := g2.goes
    have hN1 : J1 (m + 1) = J (m + 1) := Jof c3
    have hh := here_s hN1 W
    rw [req_ok, e2_ok, c1, b1_so, if_neg (show ¬ (1 : Int32) = 0 from by decide), if_neg (show ¬ (1 : Int32) = 0 from by decide), R1.h4]
    rcases num_step (k := tK B n p) (lo := 0) (hi := nI ns - 1) c2 with ⟨v, I2, h1, ⟨h2, h3, h6⟩, ⟨v0, v1, v2⟩, h7⟩ | ⟨c, I2, J2, k2, k7', h1, h3, h4, h5', h6⟩
    · rw [h7] at hh
      have hv := idx_lt (by omega) v0 v2
      have R2 : RM I2 (r + 3) N np ns nw := R1.it h3
      have hc := h_stockOf R2 (s := v) (by omega)
      have gF := r_isFull (I := J1) (m := m) W (s := v) (by omega)
      rw [← hN1, sM_i, hN1, cS, show sN (J (m + 1)) v 0 = sN N v 0 from hM _ (by omega)] at gF
      obtain ⟨cc, t, g, x1, x2, x3, x4⟩ := R.f.2.2.2.2.1 v hv
      rw [h1, e3_ok, hc, b1_so, ixn5 (by omega), b1_so, R2.s0 hv, x1.1, hh, b2_so]
      unfold l_Y_readsPlace_44
      rw [if_neg (show ¬ (1 : Int32) = 0 from by decide), gF, b1_so, x1.1]
      by_cases hfull : sStock N nw (nI v) = cc
      · obtain ⟨I4, J4, w1, w2, w3, w4, w5⟩ := cf_step h2 (c := 3) (by decide)
        obtain ⟨M, m1, m2⟩ := pl72F h5 (x2 := 1) (x3 := nI v) (y0 := 1) w4
        rw [if_pos (by rw [ile (by omega) (by omega)]; omega), bI_t (by rw [hfull])]
        unfold l_X5_readPlace_93
        have r72 : l_Y_readsPlace_72 J1 m (nI nw) 1 (nI v) 1 = some (sM J4 m M) := by
          rw [← m1]
          unfold l_Y_readsPlace_72
          rw [rf_1 h2.2.2 (by decide), show (3 : Int32) = nI 3 from rfl, w3, b1_so, b1_so, fs_ref w4, b1_so]
        rw [show (3 : Int32) = nI 3 from rfl, w1, e2_er, r72]
        exact Or.inr ⟨3, _, I4, _, 2, ⟨rfl, rfl, by decide⟩, ⟨w2.it (g3.trans h3), w4.sm⟩, ((Jq.refl.jt c3).jf w5).sm, fun j z1 z2 => by rw [sM_s, m2 j z1 z2, w5.1 _ (by omega), hN1]⟩
      · obtain ⟨I4, q1, q2, q3, q4, q5, q6, q7, q8⟩ := mv_row (I := I2) (a := (r + 3 + 15 + nw)) (x := nI v) (y := -1)
        obtain ⟨J3, z1, z2, z3⟩ := h2.goes
        have hN3 : J3 (m + 1) = J (m + 1) := (Jof (J1 := J3) (c3.trans z3))
        rw [if_neg (by rw [ile (by omega) (by omega)]; omega), bI_f (by rw [nJ_i (by omega) (by omega)]; exact hfull)]
        unfold l_X5_readPlace_93 l_Y_readsPlace_72
        rw [req_ok, e2_ok, q1, b1_so, rf_0 h2.2.2, b1_so, z1, b1_so, if_neg (show ¬ (1 : Int32) = 0 from by decide), pl91 h5]
        refine Or.inl ⟨I4, _, 2, _, 0, nI v, ⟨rfl, rfl, by decide⟩, ⟨(z2.cl (q2 _ (by omega)) (q2 _ (by omega))).sm, (fl_1 w22.1).trans h6⟩, ⟨fun x y1 y2 => (q2 x y2).trans ((g3.trans h3) x y1), fun j hj => (q3 j hj).trans (by rw [(g3.trans h3) _ (by omega)])⟩, ⟨by rw [q4, if_pos rfl], by rw [q5, if_neg (by decide)], q6, q7, q8⟩, ⟨((Jq.refl.jt c3).jt z3).sm, fun j y1 y2 => by rw [sM_s, upd_n y2, upd_n y1, hN3]⟩, ⟨?_, ?_⟩, Or.inl ⟨rfl, v, cc, hv, rfl, x1.1, x1.2, by omega⟩⟩
        · rw [sM_s]; show upd _ _ _ (115 + 15 * nw + 3) = _; rw [upd_n (by omega), upd_s]
        · rw [sM_s]; exact upd_s
    · rw [h4] at hh
      have hN2 : J2 (m + 1) = J (m + 1) := (h6.1 _ (by omega)).trans hN1
      obtain ⟨M, m1, m2⟩ := pl44F h5 (J := J2) (np := np) (ns := ns) (by rw [hN2]; exact W) (x2 := 1) h5'
      rw [h1, e3_er, hh, b2_so, m1]
      exact Or.inr ⟨c, _, I2, _, k2, ⟨rfl, rfl, k7'⟩, ⟨h3.it g3, h5'.sm⟩, ((Jq.refl.jt c3).jf h6).sm, fun j z1 z2 => by rw [sM_s, m2 j z1 z2, hN2]⟩
  · rw [g2.noword (by decide) w22, b3_so, if_pos rfl, A.2.2.noword A.1 (by decide) w22, b1_so, if_pos rfl]
    by_cases w23 : Wd B n p 23
    · rw [g2.word (by decide) w23, b3_so, A.2.2.word A.1 (by decide) w23, b1_so, if_neg (show ¬ (1 : Int32) = 0 from by decide), if_neg (show ¬ (1 : Int32) = 0 from by decide)]
      unfold l_X5_readPlace_36 l_X5_readPlace_41 l_Y_readsPlace_25
      obtain ⟨J1, c1, c2, c3⟩ := g2.goes
      have hN1 : J1 (m + 1) = J (m + 1) := Jof c3
      have hh := here_p hN1 W
      rw [req_ok, e2_ok, c1, b1_so, if_pos rfl, if_pos rfl, R1.h3]
      rcases num_step (k := tK B n p) (lo := 0) (hi := nI np - 1) c2 with ⟨v, I2, h1, ⟨h2, h3, h6⟩, ⟨v0, v1, v2⟩, h7⟩ | ⟨c, I2, J2, k2, k7', h1, h3, h4, h5', h6⟩
      · rw [h7] at hh
        have hv := idx_lt (by omega) v0 v2
        have R2 : RM I2 (r + 3) N np ns nw := R1.it h3
        have hc := h_ownedBy R2 (p := v) (by omega)
        have gO := r_owns (I := J1) (m := m) (N := J (m + 1)) (p := nI v) W.w
        rw [← hN1, sM_i, hN1, cO] at gO
        have hle : sOwns N nw (nI v) ≤ 4 := (R.f.2.2.2.2.2 v hv).1
        rw [h1, e3_ok, hc, b1_so, hh, b2_so]
        unfold l_Y_readsPlace_44
        rw [if_pos rfl, gO, b1_so]
        by_cases hfull : sOwns N nw (nI v) = 4
        · obtain ⟨I4, J4, w1, w2, w3, w4, w5⟩ := cf_step h2 (c := 3) (by decide)
          obtain ⟨M, m1, m2⟩ := pl72F h5 (x2 := 0) (x3 := nI v) (y0 := 1) w4
          rw [if_pos (show (4 : Int32) ≤ nI _ from by rw [show (4 : Int32) = nI 4 from rfl, ile (by omega) (by omega)]; omega), if_pos (by rw [hfull]; rfl)]
          unfold l_X5_readPlace_139
          have r72 : l_Y_readsPlace_72 J1 m (nI nw) 0 (nI v) 1 = some (sM J4 m M) := by
            rw [← m1]
            unfold l_Y_readsPlace_72
            rw [rf_1 h2.2.2 (by decide), show (3 : Int32) = nI 3 from rfl, w3, b1_so, b1_so, fs_ref w4, b1_so]
          rw [show (3 : Int32) = nI 3 from rfl, w1, e2_er, r72]
          exact Or.inr ⟨3, _, I4, _, 2, ⟨rfl, rfl, by decide⟩, ⟨w2.it (g3.trans h3), w4.sm⟩, ((Jq.refl.jt c3).jf w5).sm, fun j z1 z2 => by rw [sM_s, m2 j z1 z2, w5.1 _ (by omega), hN1]⟩
        · obtain ⟨I4, q1, q2, q3, q4, q5, q6, q7, q8⟩ := mv_row (I := I2) (a := (r + 3 + 15 + nw)) (x := -1) (y := nI v)
          obtain ⟨J3, z1, z2, z3⟩ := h2.goes
          have hN3 : J3 (m + 1) = J (m + 1) := (Jof (J1 := J3) (c3.trans z3))
          rw [if_neg (show ¬ (4 : Int32) ≤ nI _ from by rw [show (4 : Int32) = nI 4 from rfl, ile (by omega) (by omega)]; omega), if_neg (show ¬ nI _ = (4 : Int32) from by rw [show (4 : Int32) = nI 4 from rfl, nJ_i (by omega) (by omega)]; exact hfull)]
          unfold l_X5_readPlace_139 l_Y_readsPlace_72
          rw [req_ok, e2_ok, q1, b1_so, rf_0 h2.2.2, b1_so, z1, b1_so, if_pos rfl, pl91 h5]
          refine Or.inl ⟨I4, _, 2, _, 1, nI v, ⟨rfl, rfl, by decide⟩, ⟨(z2.cl (q2 _ (by omega)) (q2 _ (by omega))).sm, (fl_1 w23.1).trans h6⟩, ⟨fun x y1 y2 => (q2 x y2).trans ((g3.trans h3) x y1), fun j hj => (q3 j hj).trans (by rw [(g3.trans h3) _ (by omega)])⟩, ⟨by rw [q4, if_neg (by decide)], by rw [q5, if_pos rfl], q6, q7, q8⟩, ⟨((Jq.refl.jt c3).jt z3).sm, fun j y1 y2 => by rw [sM_s, upd_n y2, upd_n y1, hN3]⟩, ⟨?_, ?_⟩, Or.inr ⟨rfl, v, hv, rfl, by omega⟩⟩
          · rw [sM_s]; show upd _ _ _ (115 + 15 * nw + 3) = _; rw [upd_n (by omega), upd_s]
          · rw [sM_s]; exact upd_s
      · rw [h4] at hh
        have hN2 : J2 (m + 1) = J (m + 1) := (h6.1 _ (by omega)).trans hN1
        obtain ⟨M, m1, m2⟩ := pl44F h5 (J := J2) (np := np) (ns := ns) (by rw [hN2]; exact W) (x2 := 0) h5'
        rw [h1, e3_er, hh, b2_so, m1]
        exact Or.inr ⟨c, _, I2, _, k2, ⟨rfl, rfl, k7'⟩, ⟨h3.it g3, h5'.sm⟩, ((Jq.refl.jt c3).jf h6).sm, fun j z1 z2 => by rw [sM_s, m2 j z1 z2, hN2]⟩
    · obtain ⟨I4, J4, w1, w2, w3, w4, w5⟩ := cf_step g2 (c := 1) (by decide)
      have hN4 : J4 (m + 1) = J (m + 1) := w5.1 _ (by omega)
      obtain ⟨M, m1, m2⟩ := plF h5 (J := J4) (np := np) (ns := ns) (by rw [hN4]; exact W) w4
      rw [g2.noword (by decide) w23, b3_so, if_pos rfl, A.2.2.noword A.1 (by decide) w23, b1_so, if_pos rfl, show (1 : Int32) = nI 1 from rfl, w3, b1_so, m1]
      unfold l_X5_readPlace_41
      rw [show (1 : Int32) = nI 1 from rfl, w1, e2_er]
      exact Or.inr ⟨1, _, I4, _, _, ⟨rfl, rfl, k7⟩, ⟨w2.it g3, w4.sm⟩, (Jq.refl.jf w5).sm, fun j z1 z2 => by rw [sM_s, m2 j z1 z2, hN4]⟩
end IT6

