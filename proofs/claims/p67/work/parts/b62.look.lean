/-! numbers that agree as far as the array goes -/
def EqN (N N' : Nat → Int32) : Prop := ∀ k, k < 355 → N' k = N k
theorem WF.eqN {N N' : Nat → Int32} {np ns nw : Nat} (H : WF N np ns nw) (E : EqN N N') : WF N' np ns nw := by
  have b1 := H.p.2
  have b2 := H.s.2
  have b3 := H.w.2
  refine H.congr (E _ (by decide)) (E _ (by decide)) (E _ (by decide)) (E _ (by decide)) (fun w hw => E _ (by omega)) (fun w hw => E _ (by omega)) (fun w hw => E _ (by omega)) (fun w hw => E _ (by omega)) (fun w hw => E _ (by omega)) (fun w hw => E _ (by omega)) (fun s h => E _ (by omega)) (fun s h => ?_) (fun s h => ?_) (fun p h => E _ (by omega)) (fun p h => E _ (by omega))
  · obtain ⟨t, t1, t2⟩ := H.st h
    exact ⟨t, (E _ (by omega)).trans t1, t2⟩
  · obtain ⟨t, t1, t2⟩ := H.mg h
    exact ⟨t, (E _ (by omega)).trans t1, t2⟩
theorem RM.eqN {I : Mem} {q np ns nw : Nat} {N N' : Nat → Int32} (R : RM I q N np ns nw) (E : EqN N N') : RM I q N' np ns nw := by
  have b1 := R.f.p.2
  have b2 := R.f.s.2
  have b3 := R.f.w.2
  obtain ⟨y, y1, y2⟩ := R.2.1
  have en : ∀ a, a + 6 < 355 → sNm N' a = sNm N a := fun a ha => by
    unfold sNm
    rw [E a (by omega), E (a + 1) (by omega), E (a + 2) (by omega), E (a + 3) (by omega), E (a + 4) (by omega), E (a + 5) (by omega), E (a + 6) (by omega)]
  have ep : ∀ p k, p < 6 → k < 14 → pN N' p k = pN N p k := fun p k a b => E _ (by omega)
  have es : ∀ p k, p < 5 → k < 4 → sN N' p k = sN N p k := fun p k a b => E _ (by omega)
  have ew : ∀ p k, p < 16 → k < 15 → wN N' p k = wN N p k := fun p k a b => E _ (by omega)
  refine ⟨R.f.eqN E, ⟨y, (E 0 (by decide)).trans y1, y2⟩, ?_, fun p hp => ?_, fun s hs => ?_, fun w hw => ?_⟩
  · have := R.h
    unfold RH at this ⊢
    rw [E 0 (by decide), E 1 (by decide), E 2 (by decide), E 3 (by decide), E 4 (by decide), E 5 (by decide), E 6 (by decide), E 7 (by decide), E 8 (by decide), E 9 (by decide), E 10 (by decide)]
    exact this
  · have := R.p hp
    unfold RP at this ⊢
    rw [en _ (by omega), ep p 0 (by omega) (by decide), ep p 1 (by omega) (by decide), ep p 2 (by omega) (by decide), ep p 3 (by omega) (by decide), ep p 4 (by omega) (by decide), ep p 5 (by omega) (by decide), ep p 6 (by omega) (by decide)]
    exact this
  · have := R.s hs
    unfold RS at this ⊢
    rw [es s 0 (by omega) (by decide), es s 1 (by omega) (by decide), es s 2 (by omega) (by decide), es s 3 (by omega) (by decide)]
    exact this
  · have := R.w hw
    unfold RW at this ⊢
    rw [en _ (by omega), ew w 0 (by omega) (by decide), ew w 1 (by omega) (by decide), ew w 2 (by omega) (by decide), ew w 3 (by omega) (by decide), ew w 4 (by omega) (by decide), ew w 5 (by omega) (by decide), ew w 6 (by omega) (by decide), ew w 7 (by omega) (by decide)]
    exact this
/-! the calls that only look -/
abbrev eIS : String := "java/lang/IllegalStateException"
abbrev eIX : String := "java/lang/IndexOutOfBoundsException"
abbrev eIA : String := "java/lang/IllegalArgumentException"
/-- what the law compares: the number of what was thrown, and the answer if nothing was -/
def Oc (es : List String) (r : Except String Int32) (t b : Int32) : Prop := match r with
  | .ok v => t = 0 ∧ b = v
  | .error E => ∃ i, es[i]? = some E ∧ i < 3 ∧ t = nI (i + 1) ∧ ∀ j, j < i → es[j]? ≠ some E
def BR (I : Mem) (w m : Nat) (L : Prop) [Decidable L] (np ns nw : Nat) : Prop := (I w 7 = bI L ∧ I m 6 = bI L) ∧ (L → RM I (w + 37) (I (m + 1)) np ns nw)
section LK
variable {I : Mem} {w m np ns nw : Nat}
theorem sMt {t : Int32} : sM (u2 I m 0 t) m (I (m + 1)) = u2 I m 0 t := by
  have e : u2 I m 0 t (m + 1) = I (m + 1) := u2_a (by omega)
  rw [← e]
  exact sM_i
theorem th_0 {a b : Prop} [Decidable a] [Decidable b] (ha : a) (hb : b) : th3 a b True = 0 := by simp [th3, ha, hb]
theorem th_1 {a b : Prop} [Decidable a] [Decidable b] (ha : ¬ a) : th3 a b True = 1 := by simp [th3, ha]
theorem th_2 {a b : Prop} [Decidable a] [Decidable b] (ha : a) (hb : ¬ b) : th3 a b True = 2 := by simp [th3, ha, hb]
theorem Oc.is {b : Int32} {es : List String} : Oc (eIS :: es) (.error eIS) 1 b := ⟨0, rfl, by decide, rfl, fun j hj => absurd hj (Nat.not_lt_zero _)⟩
theorem Oc.ix {b : Int32} {es : List String} : Oc (eIS :: eIX :: es) (.error eIX) 2 b := ⟨1, rfl, by decide, rfl, fun j hj => by
  have : j = 0 := by omega
  subst this
  exact (show (some eIS : Option String) ≠ some eIX from by decide)⟩
theorem r_isPerson {L : Prop} [Decidable L] (B : BR I w m L np ns nw) {x : Int32} : f_Y_isPerson I m x = some (bI (L ∧ ¬ x < 0 ∧ x < nI np)) := by
  unfold f_Y_isPerson
  rw [B.1.2]
  by_cases hL : L
  · have R := B.2 hL
    have b := R.f.p.2
    have e := R.f.p.1
    rw [bI_t hL, if_neg (by decide), ix2, b1_so, e, r_inIx (by omega), b1_so]
    by_cases h : ¬ x < 0 ∧ x < nI np
    · rw [bI_t h, if_neg (by decide), bI_t ⟨hL, h⟩]
    · rw [bI_f h, if_pos rfl, bI_f (fun h9 => h h9.2)]
  · rw [bI_f hL, if_pos rfl, bI_f (fun h9 => hL h9.1)]
theorem r_mayPerson {L : Prop} [Decidable L] (B : BR I w m L np ns nw) {x : Int32} : f_Y_mayPerson I m x = some (bI (L ∧ L ∧ ¬ x < 0 ∧ x < nI np), u2 I m 0 (th3 L (L ∧ ¬ x < 0 ∧ x < nI np) True)) := by
  unfold f_Y_mayPerson
  rw [r_isPerson B, b1_so, B.1.2, r_mayTwo, b2_so, cB_bI, b1_so]
theorem h_personAt {L : Prop} [Decidable L] (B : BR I w m L np ns nw) {x : Int32} : f_X9_personAt I w x = if L then (if ¬ x < 0 ∧ x < nI np then b1 (ix x 6) (fun j => some (.ok (w + 37 + 4 + j))) else some (.error eIX)) else some (.error eIS) := by
  unfold f_X9_personAt
  rw [h_checkPerson B.1.1 (n := np) (fun hL => (B.2 hL).h3)]
  by_cases hL : L
  · rw [if_pos hL, if_pos hL]
    by_cases h : ¬ x < 0 ∧ x < nI np
    · rw [if_pos h, if_pos h, e1_ok]
    · rw [if_neg h, if_neg h, e1_er]
  · rw [if_neg hL, if_neg hL, e1_er]
theorem r_isStall {L : Prop} [Decidable L] (B : BR I w m L np ns nw) {x : Int32} : f_Y_isStall I m x = some (bI (L ∧ ¬ x < 0 ∧ x < nI ns)) := by
  unfold f_Y_isStall
  rw [B.1.2]
  by_cases hL : L
  · have R := B.2 hL
    have b := R.f.s.2
    have e := R.f.s.1
    rw [bI_t hL, if_neg (by decide), ix3, b1_so, e, r_inIx (by omega), b1_so]
    by_cases h : ¬ x < 0 ∧ x < nI ns
    · rw [bI_t h, if_neg (by decide), bI_t ⟨hL, h⟩]
    · rw [bI_f h, if_pos rfl, bI_f (fun h9 => h h9.2)]
  · rw [bI_f hL, if_pos rfl, bI_f (fun h9 => hL h9.1)]
theorem r_mayStall {L : Prop} [Decidable L] (B : BR I w m L np ns nw) {x : Int32} : f_Y_mayStall I m x = some (bI (L ∧ L ∧ ¬ x < 0 ∧ x < nI ns), u2 I m 0 (th3 L (L ∧ ¬ x < 0 ∧ x < nI ns) True)) := by
  unfold f_Y_mayStall
  rw [r_isStall B, b1_so, B.1.2, r_mayTwo, b2_so, cB_bI, b1_so]
theorem h_stallAt {L : Prop} [Decidable L] (B : BR I w m L np ns nw) {x : Int32} : f_X9_stallAt I w x = if L then (if ¬ x < 0 ∧ x < nI ns then b1 (ix x 5) (fun j => some (.ok (w + 37 + 10 + j))) else some (.error eIX)) else some (.error eIS) := by
  unfold f_X9_stallAt
  rw [h_checkStall B.1.1 (n := ns) (fun hL => (B.2 hL).h4)]
  by_cases hL : L
  · rw [if_pos hL, if_pos hL]
    by_cases h : ¬ x < 0 ∧ x < nI ns
    · rw [if_pos h, if_pos h, e1_ok]
    · rw [if_neg h, if_neg h, e1_er]
  · rw [if_neg hL, if_neg hL, e1_er]
theorem r_isWish {L : Prop} [Decidable L] (B : BR I w m L np ns nw) {x : Int32} : f_Y_isWish I m x = some (bI (L ∧ ¬ x < 0 ∧ x < nI nw)) := by
  unfold f_Y_isWish
  rw [B.1.2]
  by_cases hL : L
  · have R := B.2 hL
    have b := R.f.w.2
    have e := R.f.w.1
    rw [bI_t hL, if_neg (by decide), ix4, b1_so, e, r_inIx (by omega), b1_so]
    by_cases h : ¬ x < 0 ∧ x < nI nw
    · rw [bI_t h, if_neg (by decide), bI_t ⟨hL, h⟩]
    · rw [bI_f h, if_pos rfl, bI_f (fun h9 => h h9.2)]
  · rw [bI_f hL, if_pos rfl, bI_f (fun h9 => hL h9.1)]
theorem r_mayWish {L : Prop} [Decidable L] (B : BR I w m L np ns nw) {x : Int32} : f_Y_mayWish I m x = some (bI (L ∧ L ∧ ¬ x < 0 ∧ x < nI nw), u2 I m 0 (th3 L (L ∧ ¬ x < 0 ∧ x < nI nw) True)) := by
  unfold f_Y_mayWish
  rw [r_isWish B, b1_so, B.1.2, r_mayTwo, b2_so, cB_bI, b1_so]
theorem h_wishAt {L : Prop} [Decidable L] (B : BR I w m L np ns nw) {x : Int32} : f_X9_wishAt I w x = if L then (if ¬ x < 0 ∧ x < nI nw then b1 (ix x 16) (fun j => some (.ok (w + 37 + 15 + j))) else some (.error eIX)) else some (.error eIS) := by
  unfold f_X9_wishAt
  rw [h_checkWish B.1.1 (n := nw) (fun hL => (B.2 hL).h5)]
  by_cases hL : L
  · rw [if_pos hL, if_pos hL]
    by_cases h : ¬ x < 0 ∧ x < nI nw
    · rw [if_pos h, if_pos h, e1_ok]
    · rw [if_neg h, if_neg h, e1_er]
  · rw [if_neg hL, if_neg hL, e1_er]
theorem u_coins {L : Prop} [Decidable L] (B : BR I w m L np ns nw) {x : Int32} : ∃ r t b, f_X9_coins I w x = some r ∧ f_Y_coins I m x = some (b, u2 I m 0 t) ∧ Oc [eIS, eIX] r t b := by
  by_cases hL : L
  · have R := B.2 hL
    have b1 := R.f.p.2
    have b2 := R.f.s.2
    have b3 := R.f.w.2
    by_cases hx : ¬ x < 0 ∧ x < nI np
    · obtain ⟨p, rfl, hp⟩ := okI_of hx (by omega)
      have hr := rfp0 (I := u2 I m 0 0) (m := m) (N := I (m + 1)) (w := p) (by omega)
      rw [sMt] at hr
      refine ⟨.ok (pN (I (m + 1)) p 0), 0, pN (I (m + 1)) p 0, ?_, ?_, rfl, rfl⟩
      · unfold f_X9_coins
        rw [h_personAt B, if_pos hL, if_pos hx, ixn6 (by omega), b1_so, e1_ok, ckA_n (by omega), b1_so, R.p1 hp]
      · unfold f_Y_coins
        rw [r_mayPerson B, b2_so, bI_t ⟨hL, hL, hx⟩, if_neg (by decide), th_0 hL ⟨hL, hx⟩, hr, b1_so]
    · refine ⟨.error eIX, 2, 0, ?_, ?_, Oc.ix⟩
      · unfold f_X9_coins
        rw [h_personAt B, if_pos hL, if_neg hx, e1_er]
      · unfold f_Y_coins
        rw [r_mayPerson B, b2_so, bI_f (fun h => hx h.2.2), if_pos rfl, th_2 hL (fun h => hx h.2)]
  · refine ⟨.error eIS, 1, 0, ?_, ?_, Oc.is⟩
    · unfold f_X9_coins
      rw [h_personAt B, if_neg hL, e1_er]
    · unfold f_Y_coins
      rw [r_mayPerson B, b2_so, bI_f (fun h => hL h.1), if_pos rfl, th_1 hL]
theorem u_birthday {L : Prop} [Decidable L] (B : BR I w m L np ns nw) {x : Int32} : ∃ r t b, f_X9_birthday I w x = some r ∧ f_Y_birthday I m x = some (b, u2 I m 0 t) ∧ Oc [eIS, eIX] r t b := by
  by_cases hL : L
  · have R := B.2 hL
    have b1 := R.f.p.2
    have b2 := R.f.s.2
    have b3 := R.f.w.2
    by_cases hx : ¬ x < 0 ∧ x < nI np
    · obtain ⟨p, rfl, hp⟩ := okI_of hx (by omega)
      have hr := rfp1 (I := u2 I m 0 0) (m := m) (N := I (m + 1)) (w := p) (by omega)
      rw [sMt] at hr
      refine ⟨.ok (pN (I (m + 1)) p 1), 0, pN (I (m + 1)) p 1, ?_, ?_, rfl, rfl⟩
      · unfold f_X9_birthday
        rw [h_personAt B, if_pos hL, if_pos hx, ixn6 (by omega), b1_so, e1_ok, ckA_n (by omega), b1_so, R.p2 hp]
      · unfold f_Y_birthday
        rw [r_mayPerson B, b2_so, bI_t ⟨hL, hL, hx⟩, if_neg (by decide), th_0 hL ⟨hL, hx⟩, hr, b1_so]
    · refine ⟨.error eIX, 2, 0, ?_, ?_, Oc.ix⟩
      · unfold f_X9_birthday
        rw [h_personAt B, if_pos hL, if_neg hx, e1_er]
      · unfold f_Y_birthday
        rw [r_mayPerson B, b2_so, bI_f (fun h => hx h.2.2), if_pos rfl, th_2 hL (fun h => hx h.2)]
  · refine ⟨.error eIS, 1, 0, ?_, ?_, Oc.is⟩
    · unfold f_X9_birthday
      rw [h_personAt B, if_neg hL, e1_er]
    · unfold f_Y_birthday
      rw [r_mayPerson B, b2_so, bI_f (fun h => hL h.1), if_pos rfl, th_1 hL]
theorem u_candles {L : Prop} [Decidable L] (B : BR I w m L np ns nw) {x : Int32} : ∃ r t b, f_X9_candles I w x = some r ∧ f_Y_candles I m x = some (b, u2 I m 0 t) ∧ Oc [eIS, eIX] r t b := by
  by_cases hL : L
  · have R := B.2 hL
    have b1 := R.f.p.2
    have b2 := R.f.s.2
    have b3 := R.f.w.2
    by_cases hx : ¬ x < 0 ∧ x < nI np
    · obtain ⟨p, rfl, hp⟩ := okI_of hx (by omega)
      have hr := rfp2 (I := u2 I m 0 0) (m := m) (N := I (m + 1)) (w := p) (by omega)
      rw [sMt] at hr
      refine ⟨.ok (pN (I (m + 1)) p 2), 0, pN (I (m + 1)) p 2, ?_, ?_, rfl, rfl⟩
      · unfold f_X9_candles
        rw [h_personAt B, if_pos hL, if_pos hx, ixn6 (by omega), b1_so, e1_ok, ckA_n (by omega), b1_so, R.p3 hp]
      · unfold f_Y_candles
        rw [r_mayPerson B, b2_so, bI_t ⟨hL, hL, hx⟩, if_neg (by decide), th_0 hL ⟨hL, hx⟩, hr, b1_so]
    · refine ⟨.error eIX, 2, 0, ?_, ?_, Oc.ix⟩
      · unfold f_X9_candles
        rw [h_personAt B, if_pos hL, if_neg hx, e1_er]
      · unfold f_Y_candles
        rw [r_mayPerson B, b2_so, bI_f (fun h => hx h.2.2), if_pos rfl, th_2 hL (fun h => hx h.2)]
  · refine ⟨.error eIS, 1, 0, ?_, ?_, Oc.is⟩
    · unfold f_X9_candles
      rw [h_personAt B, if_neg hL, e1_er]
    · unfold f_Y_candles
      rw [r_mayPerson B, b2_so, bI_f (fun h => hL h.1), if_pos rfl, th_1 hL]
theorem u_happiness {L : Prop} [Decidable L] (B : BR I w m L np ns nw) {x : Int32} : ∃ r t b, f_X9_happiness I w x = some r ∧ f_Y_happiness I m x = some (b, u2 I m 0 t) ∧ Oc [eIS, eIX] r t b := by
  by_cases hL : L
  · have R := B.2 hL
    have b1 := R.f.p.2
    have b2 := R.f.s.2
    have b3 := R.f.w.2
    by_cases hx : ¬ x < 0 ∧ x < nI np
    · obtain ⟨p, rfl, hp⟩ := okI_of hx (by omega)
      have hr := rfp3 (I := u2 I m 0 0) (m := m) (N := I (m + 1)) (w := p) (by omega)
      rw [sMt] at hr
      refine ⟨.ok (pN (I (m + 1)) p 3), 0, pN (I (m + 1)) p 3, ?_, ?_, rfl, rfl⟩
      · unfold f_X9_happiness
        rw [h_personAt B, if_pos hL, if_pos hx, ixn6 (by omega), b1_so, e1_ok, ckA_n (by omega), b1_so, R.p4 hp]
      · unfold f_Y_happiness
        rw [r_mayPerson B, b2_so, bI_t ⟨hL, hL, hx⟩, if_neg (by decide), th_0 hL ⟨hL, hx⟩, hr, b1_so]
    · refine ⟨.error eIX, 2, 0, ?_, ?_, Oc.ix⟩
      · unfold f_X9_happiness
        rw [h_personAt B, if_pos hL, if_neg hx, e1_er]
      · unfold f_Y_happiness
        rw [r_mayPerson B, b2_so, bI_f (fun h => hx h.2.2), if_pos rfl, th_2 hL (fun h => hx h.2)]
  · refine ⟨.error eIS, 1, 0, ?_, ?_, Oc.is⟩
    · unfold f_X9_happiness
      rw [h_personAt B, if_neg hL, e1_er]
    · unfold f_Y_happiness
      rw [r_mayPerson B, b2_so, bI_f (fun h => hL h.1), if_pos rfl, th_1 hL]
theorem u_shoppingLimit {L : Prop} [Decidable L] (B : BR I w m L np ns nw) {x : Int32} : ∃ r t b, f_X9_shoppingLimit I w x = some r ∧ f_Y_shoppingLimit I m x = some (b, u2 I m 0 t) ∧ Oc [eIS, eIX] r t b := by
  by_cases hL : L
  · have R := B.2 hL
    have b1 := R.f.p.2
    have b2 := R.f.s.2
    have b3 := R.f.w.2
    by_cases hx : ¬ x < 0 ∧ x < nI np
    · obtain ⟨p, rfl, hp⟩ := okI_of hx (by omega)
      have hr := rfp4 (I := u2 I m 0 0) (m := m) (N := I (m + 1)) (w := p) (by omega)
      rw [sMt] at hr
      refine ⟨.ok (pN (I (m + 1)) p 4), 0, pN (I (m + 1)) p 4, ?_, ?_, rfl, rfl⟩
      · unfold f_X9_shoppingLimit
        rw [h_personAt B, if_pos hL, if_pos hx, ixn6 (by omega), b1_so, e1_ok, ckA_n (by omega), b1_so, R.p5 hp]
      · unfold f_Y_shoppingLimit
        rw [r_mayPerson B, b2_so, bI_t ⟨hL, hL, hx⟩, if_neg (by decide), th_0 hL ⟨hL, hx⟩, hr, b1_so]
    · refine ⟨.error eIX, 2, 0, ?_, ?_, Oc.ix⟩
      · unfold f_X9_shoppingLimit
        rw [h_personAt B, if_pos hL, if_neg hx, e1_er]
      · unfold f_Y_shoppingLimit
        rw [r_mayPerson B, b2_so, bI_f (fun h => hx h.2.2), if_pos rfl, th_2 hL (fun h => hx h.2)]
  · refine ⟨.error eIS, 1, 0, ?_, ?_, Oc.is⟩
    · unfold f_X9_shoppingLimit
      rw [h_personAt B, if_neg hL, e1_er]
    · unfold f_Y_shoppingLimit
      rw [r_mayPerson B, b2_so, bI_f (fun h => hL h.1), if_pos rfl, th_1 hL]
theorem u_cash {L : Prop} [Decidable L] (B : BR I w m L np ns nw) {x : Int32} : ∃ r t b, f_X9_cash I w x = some r ∧ f_Y_cash I m x = some (b, u2 I m 0 t) ∧ Oc [eIS, eIX] r t b := by
  by_cases hL : L
  · have R := B.2 hL
    have b1 := R.f.p.2
    have b2 := R.f.s.2
    have b3 := R.f.w.2
    by_cases hx : ¬ x < 0 ∧ x < nI ns
    · obtain ⟨p, rfl, hp⟩ := okI_of hx (by omega)
      have hr := rfs1 (I := u2 I m 0 0) (m := m) (N := I (m + 1)) (w := p) (by omega)
      rw [sMt] at hr
      refine ⟨.ok (sN (I (m + 1)) p 1), 0, sN (I (m + 1)) p 1, ?_, ?_, rfl, rfl⟩
      · unfold f_X9_cash
        rw [h_stallAt B, if_pos hL, if_pos hx, ixn5 (by omega), b1_so, e1_ok, ckA_n (by omega), b1_so, R.s1 hp]
      · unfold f_Y_cash
        rw [r_mayStall B, b2_so, bI_t ⟨hL, hL, hx⟩, if_neg (by decide), th_0 hL ⟨hL, hx⟩, hr, b1_so]
    · refine ⟨.error eIX, 2, 0, ?_, ?_, Oc.ix⟩
      · unfold f_X9_cash
        rw [h_stallAt B, if_pos hL, if_neg hx, e1_er]
      · unfold f_Y_cash
        rw [r_mayStall B, b2_so, bI_f (fun h => hx h.2.2), if_pos rfl, th_2 hL (fun h => hx h.2)]
  · refine ⟨.error eIS, 1, 0, ?_, ?_, Oc.is⟩
    · unfold f_X9_cash
      rw [h_stallAt B, if_neg hL, e1_er]
    · unfold f_Y_cash
      rw [r_mayStall B, b2_so, bI_f (fun h => hL h.1), if_pos rfl, th_1 hL]
theorem u_stars {L : Prop} [Decidable L] (B : BR I w m L np ns nw) {x : Int32} : ∃ r t b, f_X9_stars I w x = some r ∧ f_Y_stars I m x = some (b, u2 I m 0 t) ∧ Oc [eIS, eIX] r t b := by
  by_cases hL : L
  · have R := B.2 hL
    have b1 := R.f.p.2
    have b2 := R.f.s.2
    have b3 := R.f.w.2
    by_cases hx : ¬ x < 0 ∧ x < nI ns
    · obtain ⟨p, rfl, hp⟩ := okI_of hx (by omega)
      have hr := rfs2 (I := u2 I m 0 0) (m := m) (N := I (m + 1)) (w := p) (by omega)
      rw [sMt] at hr
      refine ⟨.ok (sN (I (m + 1)) p 2), 0, sN (I (m + 1)) p 2, ?_, ?_, rfl, rfl⟩
      · unfold f_X9_stars
        rw [h_stallAt B, if_pos hL, if_pos hx, ixn5 (by omega), b1_so, e1_ok, ckA_n (by omega), b1_so, R.s2 hp]
      · unfold f_Y_stars
        rw [r_mayStall B, b2_so, bI_t ⟨hL, hL, hx⟩, if_neg (by decide), th_0 hL ⟨hL, hx⟩, hr, b1_so]
    · refine ⟨.error eIX, 2, 0, ?_, ?_, Oc.ix⟩
      · unfold f_X9_stars
        rw [h_stallAt B, if_pos hL, if_neg hx, e1_er]
      · unfold f_Y_stars
        rw [r_mayStall B, b2_so, bI_f (fun h => hx h.2.2), if_pos rfl, th_2 hL (fun h => hx h.2)]
  · refine ⟨.error eIS, 1, 0, ?_, ?_, Oc.is⟩
    · unfold f_X9_stars
      rw [h_stallAt B, if_neg hL, e1_er]
    · unfold f_Y_stars
      rw [r_mayStall B, b2_so, bI_f (fun h => hL h.1), if_pos rfl, th_1 hL]
theorem u_margin {L : Prop} [Decidable L] (B : BR I w m L np ns nw) {x : Int32} : ∃ r t b, f_X9_margin I w x = some r ∧ f_Y_margin I m x = some (b, u2 I m 0 t) ∧ Oc [eIS, eIX] r t b := by
  by_cases hL : L
  · have R := B.2 hL
    have b1 := R.f.p.2
    have b2 := R.f.s.2
    have b3 := R.f.w.2
    by_cases hx : ¬ x < 0 ∧ x < nI ns
    · obtain ⟨p, rfl, hp⟩ := okI_of hx (by omega)
      have hr := rfs3 (I := u2 I m 0 0) (m := m) (N := I (m + 1)) (w := p) (by omega)
      rw [sMt] at hr
      refine ⟨.ok (sN (I (m + 1)) p 3), 0, sN (I (m + 1)) p 3, ?_, ?_, rfl, rfl⟩
      · unfold f_X9_margin
        rw [h_stallAt B, if_pos hL, if_pos hx, ixn5 (by omega), b1_so, e1_ok, ckA_n (by omega), b1_so, R.s3 hp]
      · unfold f_Y_margin
        rw [r_mayStall B, b2_so, bI_t ⟨hL, hL, hx⟩, if_neg (by decide), th_0 hL ⟨hL, hx⟩, hr, b1_so]
    · refine ⟨.error eIX, 2, 0, ?_, ?_, Oc.ix⟩
      · unfold f_X9_margin
        rw [h_stallAt B, if_pos hL, if_neg hx, e1_er]
      · unfold f_Y_margin
        rw [r_mayStall B, b2_so, bI_f (fun h => hx h.2.2), if_pos rfl, th_2 hL (fun h => hx h.2)]
  · refine ⟨.error eIS, 1, 0, ?_, ?_, Oc.is⟩
    · unfold f_X9_margin
      rw [h_stallAt B, if_neg hL, e1_er]
    · unfold f_Y_margin
      rw [r_mayStall B, b2_so, bI_f (fun h => hL h.1), if_pos rfl, th_1 hL]
theorem u_baseValue {L : Prop} [Decidable L] (B : BR I w m L np ns nw) {x : Int32} : ∃ r t b, f_X9_baseValue I w x = some r ∧ f_Y_baseValue I m x = some (b, u2 I m 0 t) ∧ Oc [eIS, eIX] r t b := by
  by_cases hL : L
  · have R := B.2 hL
    have b1 := R.f.p.2
    have b2 := R.f.s.2
    have b3 := R.f.w.2
    by_cases hx : ¬ x < 0 ∧ x < nI nw
    · obtain ⟨p, rfl, hp⟩ := okI_of hx (by omega)
      have hr := rfw0 (I := u2 I m 0 0) (m := m) (N := I (m + 1)) (w := p) (by omega)
      rw [sMt] at hr
      refine ⟨.ok (wN (I (m + 1)) p 0), 0, wN (I (m + 1)) p 0, ?_, ?_, rfl, rfl⟩
      · unfold f_X9_baseValue
        rw [h_wishAt B, if_pos hL, if_pos hx, ixn16 (by omega), b1_so, e1_ok, ckA_n (by omega), b1_so, R.w1 hp]
      · unfold f_Y_baseValue
        rw [r_mayWish B, b2_so, bI_t ⟨hL, hL, hx⟩, if_neg (by decide), th_0 hL ⟨hL, hx⟩, hr, b1_so]
    · refine ⟨.error eIX, 2, 0, ?_, ?_, Oc.ix⟩
      · unfold f_X9_baseValue
        rw [h_wishAt B, if_pos hL, if_neg hx, e1_er]
      · unfold f_Y_baseValue
        rw [r_mayWish B, b2_so, bI_f (fun h => hx h.2.2), if_pos rfl, th_2 hL (fun h => hx h.2)]
  · refine ⟨.error eIS, 1, 0, ?_, ?_, Oc.is⟩
    · unfold f_X9_baseValue
      rw [h_wishAt B, if_neg hL, e1_er]
    · unfold f_Y_baseValue
      rw [r_mayWish B, b2_so, bI_f (fun h => hL h.1), if_pos rfl, th_1 hL]
theorem u_strength {L : Prop} [Decidable L] (B : BR I w m L np ns nw) {x : Int32} : ∃ r t b, f_X9_strength I w x = some r ∧ f_Y_strength I m x = some (b, u2 I m 0 t) ∧ Oc [eIS, eIX] r t b := by
  by_cases hL : L
  · have R := B.2 hL
    have b1 := R.f.p.2
    have b2 := R.f.s.2
    have b3 := R.f.w.2
    by_cases hx : ¬ x < 0 ∧ x < nI nw
    · obtain ⟨p, rfl, hp⟩ := okI_of hx (by omega)
      have hr := rfw1 (I := u2 I m 0 0) (m := m) (N := I (m + 1)) (w := p) (by omega)
      rw [sMt] at hr
      refine ⟨.ok (wN (I (m + 1)) p 1), 0, wN (I (m + 1)) p 1, ?_, ?_, rfl, rfl⟩
      · unfold f_X9_strength
        rw [h_wishAt B, if_pos hL, if_pos hx, ixn16 (by omega), b1_so, e1_ok, ckA_n (by omega), b1_so, R.w2 hp]
      · unfold f_Y_strength
        rw [r_mayWish B, b2_so, bI_t ⟨hL, hL, hx⟩, if_neg (by decide), th_0 hL ⟨hL, hx⟩, hr, b1_so]
    · refine ⟨.error eIX, 2, 0, ?_, ?_, Oc.ix⟩
      · unfold f_X9_strength
        rw [h_wishAt B, if_pos hL, if_neg hx, e1_er]
      · unfold f_Y_strength
        rw [r_mayWish B, b2_so, bI_f (fun h => hx h.2.2), if_pos rfl, th_2 hL (fun h => hx h.2)]
  · refine ⟨.error eIS, 1, 0, ?_, ?_, Oc.is⟩
    · unfold f_X9_strength
      rw [h_wishAt B, if_neg hL, e1_er]
    · unfold f_Y_strength
      rw [r_mayWish B, b2_so, bI_f (fun h => hL h.1), if_pos rfl, th_1 hL]
theorem u_wear {L : Prop} [Decidable L] (B : BR I w m L np ns nw) {x : Int32} : ∃ r t b, f_X9_wear I w x = some r ∧ f_Y_wear I m x = some (b, u2 I m 0 t) ∧ Oc [eIS, eIX] r t b := by
  by_cases hL : L
  · have R := B.2 hL
    have b1 := R.f.p.2
    have b2 := R.f.s.2
    have b3 := R.f.w.2
    by_cases hx : ¬ x < 0 ∧ x < nI nw
    · obtain ⟨p, rfl, hp⟩ := okI_of hx (by omega)
      have hr := rfw2 (I := u2 I m 0 0) (m := m) (N := I (m + 1)) (w := p) (by omega)
      rw [sMt] at hr
      refine ⟨.ok (wN (I (m + 1)) p 2), 0, wN (I (m + 1)) p 2, ?_, ?_, rfl, rfl⟩
      · unfold f_X9_wear
        rw [h_wishAt B, if_pos hL, if_pos hx, ixn16 (by omega), b1_so, e1_ok, ckA_n (by omega), b1_so, R.w3 hp]
      · unfold f_Y_wear
        rw [r_mayWish B, b2_so, bI_t ⟨hL, hL, hx⟩, if_neg (by decide), th_0 hL ⟨hL, hx⟩, hr, b1_so]
    · refine ⟨.error eIX, 2, 0, ?_, ?_, Oc.ix⟩
      · unfold f_X9_wear
        rw [h_wishAt B, if_pos hL, if_neg hx, e1_er]
      · unfold f_Y_wear
        rw [r_mayWish B, b2_so, bI_f (fun h => hx h.2.2), if_pos rfl, th_2 hL (fun h => hx h.2)]
  · refine ⟨.error eIS, 1, 0, ?_, ?_, Oc.is⟩
    · unfold f_X9_wear
      rw [h_wishAt B, if_neg hL, e1_er]
    · unfold f_Y_wear
      rw [r_mayWish B, b2_so, bI_f (fun h => hL h.1), if_pos rfl, th_1 hL]
theorem u_purchaseDay {L : Prop} [Decidable L] (B : BR I w m L np ns nw) {x : Int32} : ∃ r t b, f_X9_purchaseDay I w x = some r ∧ f_Y_purchaseDay I m x = some (b, u2 I m 0 t) ∧ Oc [eIS, eIX] r t b := by
  by_cases hL : L
  · have R := B.2 hL
    have b1 := R.f.p.2
    have b2 := R.f.s.2
    have b3 := R.f.w.2
    by_cases hx : ¬ x < 0 ∧ x < nI nw
    · obtain ⟨p, rfl, hp⟩ := okI_of hx (by omega)
      have hr := rfw5 (I := u2 I m 0 0) (m := m) (N := I (m + 1)) (w := p) (by omega)
      rw [sMt] at hr
      refine ⟨.ok (wN (I (m + 1)) p 5), 0, wN (I (m + 1)) p 5, ?_, ?_, rfl, rfl⟩
      · unfold f_X9_purchaseDay
        rw [h_wishAt B, if_pos hL, if_pos hx, ixn16 (by omega), b1_so, e1_ok, ckA_n (by omega), b1_so, R.w8 hp]
      · unfold f_Y_purchaseDay
        rw [r_mayWish B, b2_so, bI_t ⟨hL, hL, hx⟩, if_neg (by decide), th_0 hL ⟨hL, hx⟩, hr, b1_so]
    · refine ⟨.error eIX, 2, 0, ?_, ?_, Oc.ix⟩
      · unfold f_X9_purchaseDay
        rw [h_wishAt B, if_pos hL, if_neg hx, e1_er]
      · unfold f_Y_purchaseDay
        rw [r_mayWish B, b2_so, bI_f (fun h => hx h.2.2), if_pos rfl, th_2 hL (fun h => hx h.2)]
  · refine ⟨.error eIS, 1, 0, ?_, ?_, Oc.is⟩
    · unfold f_X9_purchaseDay
      rw [h_wishAt B, if_neg hL, e1_er]
    · unfold f_Y_purchaseDay
      rw [r_mayWish B, b2_so, bI_f (fun h => hL h.1), if_pos rfl, th_1 hL]
theorem u_purchasePrice {L : Prop} [Decidable L] (B : BR I w m L np ns nw) {x : Int32} : ∃ r t b, f_X9_purchasePrice I w x = some r ∧ f_Y_purchasePrice I m x = some (b, u2 I m 0 t) ∧ Oc [eIS, eIX] r t b := by
  by_cases hL : L
  · have R := B.2 hL
    have b1 := R.f.p.2
    have b2 := R.f.s.2
    have b3 := R.f.w.2
    by_cases hx : ¬ x < 0 ∧ x < nI nw
    · obtain ⟨p, rfl, hp⟩ := okI_of hx (by omega)
      have hr := rfw6 (I := u2 I m 0 0) (m := m) (N := I (m + 1)) (w := p) (by omega)
      rw [sMt] at hr
      refine ⟨.ok (wN (I (m + 1)) p 6), 0, wN (I (m + 1)) p 6, ?_, ?_, rfl, rfl⟩
      · unfold f_X9_purchasePrice
        rw [h_wishAt B, if_pos hL, if_pos hx, ixn16 (by omega), b1_so, e1_ok, ckA_n (by omega), b1_so, R.w9 hp]
      · unfold f_Y_purchasePrice
        rw [r_mayWish B, b2_so, bI_t ⟨hL, hL, hx⟩, if_neg (by decide), th_0 hL ⟨hL, hx⟩, hr, b1_so]
    · refine ⟨.error eIX, 2, 0, ?_, ?_, Oc.ix⟩
      · unfold f_X9_purchasePrice
        rw [h_wishAt B, if_pos hL, if_neg hx, e1_er]
      · unfold f_Y_purchasePrice
        rw [r_mayWish B, b2_so, bI_f (fun h => hx h.2.2), if_pos rfl, th_2 hL (fun h => hx h.2)]
  · refine ⟨.error eIS, 1, 0, ?_, ?_, Oc.is⟩
    · unfold f_X9_purchasePrice
      rw [h_wishAt B, if_neg hL, e1_er]
    · unfold f_Y_purchasePrice
      rw [r_mayWish B, b2_so, bI_f (fun h => hL h.1), if_pos rfl, th_1 hL]
end LK
