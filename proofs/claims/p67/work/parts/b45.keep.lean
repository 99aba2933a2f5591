/-! what is always so stays so -/
section RE
variable {N N' : Nat → Int32} {np ns nw : Nat}
theorem sCnt_eq {P Q : Nat → Prop} [DecidablePred P] [DecidablePred Q] : ∀ {n : Nat}, (∀ i, i < n → (P i ↔ Q i)) → sCnt P n = sCnt Q n
  | 0, _ => rfl
  | n + 1, h => by
    have h1 := sCnt_eq (n := n) (fun i hi => h i (by omega))
    have h2 := h n (Nat.lt_succ_self n)
    unfold sCnt
    by_cases hp : P n
    · rw [if_pos hp, if_pos (h2.mp hp), h1]
    · rw [if_neg hp, if_neg (fun hq => hp (h2.mpr hq)), h1]
/-- one differs -/
theorem sCnt_one {P Q : Nat → Prop} [DecidablePred P] [DecidablePred Q] {w : Nat} : ∀ {n : Nat}, (∀ i, i < n → i ≠ w → (P i → Q i)) → sCnt P n ≤ sCnt Q n + (if P w then 1 else 0)
  | 0, _ => Nat.zero_le _
  | n + 1, h => by
    have h1 := sCnt_one (n := n) (w := w) (P := P) (Q := Q) (fun i hi => h i (by omega))
    by_cases hw : n = w
    · have h3 : sCnt P n ≤ sCnt Q n := by
        have key : ∀ k, k ≤ n → sCnt P k ≤ sCnt Q k := by
          intro k
          induction k with
          | zero => intro _; exact Nat.le_refl 0
          | succ k ih =>
            intro hk
            have h5 := ih (by omega)
            have h6 := h k (by omega) (by omega)
            unfold sCnt
            by_cases hp : P k
            · rw [if_pos hp, if_pos (h6 hp)]; omega
            · rw [if_neg hp]; omega
        exact key n (Nat.le_refl n)
      subst hw
      unfold sCnt
      omega
    · have h2 := h n (Nat.lt_succ_self n) hw
      unfold sCnt
      by_cases hp : P n
      · rw [if_pos hp, if_pos (h2 hp)]; omega
      · rw [if_neg hp]; omega
theorem WF.congr (H : WF N np ns nw) (e0 : N' 0 = N 0) (e2 : N' 2 = N 2) (e3 : N' 3 = N 3) (e4 : N' 4 = N 4) (w0 : ∀ w, w < nw → wN N' w 0 = wN N w 0) (w2 : ∀ w, w < nw → wN N' w 2 = wN N w 2) (w3 : ∀ w, w < nw → wN N' w 3 = wN N w 3) (w4 : ∀ w, w < nw → wN N' w 4 = wN N w 4) (w5 : ∀ w, w < nw → wN N' w 5 = wN N w 5) (w7 : ∀ w, w < nw → wN N' w 7 = wN N w 7)
    (s0 : ∀ s, s < ns → sN N' s 0 = sN N s 0) (s2 : ∀ s, s < ns → ∃ t, sN N' s 2 = nI t ∧ t ≤ 50) (s3 : ∀ s, s < ns → ∃ t, sN N' s 3 = nI t ∧ t ≤ 100) (p5 : ∀ p, p < np → pN N' p 5 = pN N p 5) (p6 : ∀ p, p < np → pN N' p 6 = pN N p 6) : WF N' np ns nw := by
  obtain ⟨⟨h1, h2, h3⟩, hy, hw, hx, hs, hp⟩ := H
  have ho : ∀ p, sOwns N' nw p = sOwns N nw p := fun p => sCnt_eq (fun i hi => by rw [w3 i hi, w4 i hi])
  have ht : ∀ p, sStock N' nw p = sStock N nw p := fun p => sCnt_eq (fun i hi => by rw [w3 i hi, w4 i hi])
  refine ⟨⟨⟨by rw [e2]; exact h1.1, h1.2⟩, ⟨by rw [e3]; exact h2.1, h2.2⟩, ⟨by rw [e4]; exact h3.1, h3.2⟩⟩, by rw [e0]; exact hy, fun w hw9 => ?_, fun w hw9 => ?_, fun s hs9 => ?_, fun p hp9 => ?_⟩
  · have := hw w hw9
    unfold WY aT sE at this ⊢
    rw [w3 w hw9, w4 w hw9, w5 w hw9, w7 w hw9]
    exact this
  · rw [w3 w hw9, w0 w hw9, w2 w hw9]
    exact hx w hw9
  · obtain ⟨c, t, g, a1, a2, a3, a4⟩ := hs s hs9
    obtain ⟨t', b1, b2⟩ := s2 s hs9
    obtain ⟨g', d1, d2⟩ := s3 s hs9
    exact ⟨c, t', g', by rw [s0 s hs9]; exact a1, ⟨b1, b2⟩, ⟨d1, d2⟩, by rw [ht]; exact a4⟩
  · rw [ho, p5 p hp9, p6 p hp9]
    exact hp p hp9
theorem WF.st (H : WF N np ns nw) {s : Nat} (hs : s < ns) : ∃ t, sN N s 2 = nI t ∧ t ≤ 50 := by
  obtain ⟨c, t, g, a1, a2, a3, a4⟩ := H.2.2.2.2.1 s hs
  exact ⟨t, a2⟩
theorem WF.mg (H : WF N np ns nw) {s : Nat} (hs : s < ns) : ∃ t, sN N s 3 = nI t ∧ t ≤ 100 := by
  obtain ⟨c, t, g, a1, a2, a3, a4⟩ := H.2.2.2.2.1 s hs
  exact ⟨g, a3⟩
/-- a place that nothing of it rests on: coins, candles, happiness, limit; cash; purchase price; the day -/
theorem WF.free (H : WF N np ns nw) {j : Nat} {x : Int32} (hj : (∃ p k, p < 6 ∧ k < 5 ∧ j = 11 + 14 * p + k) ∨ (∃ s, s < 5 ∧ j = 95 + 4 * s + 1) ∨ j = 1 ∨ (4 < j ∧ j < 11)) : WF (upd N j x) np ns nw := by
  have h1 := H.p.2
  have h2 := H.s.2
  have h3 := H.w.2
  have hn : ∀ i, i ≠ j → upd N j x i = N i := fun i hi => upd_n hi
  have hj2 : j < 115 ∧ j ≠ 0 ∧ j ≠ 2 ∧ j ≠ 3 ∧ j ≠ 4 := by
    rcases hj with ⟨p, k, a, b, c⟩ | ⟨s, a, b⟩ | a | a <;> omega
  have hs : ∀ s k, s < ns → k ≠ 1 → k < 4 → 95 + 4 * s + k ≠ j := by
    intro s k a b c
    rcases hj with ⟨p, k, a, b, c⟩ | ⟨s, a, b⟩ | a | a <;> omega
  have hp : ∀ p k, p < np → 5 ≤ k → k < 14 → 11 + 14 * p + k ≠ j := by
    intro p k a b c
    rcases hj with ⟨p, k, a, b, c⟩ | ⟨s, a, b⟩ | a | a <;> omega
  refine H.congr (hn _ (by omega)) (hn _ (by omega)) (hn _ (by omega)) (hn _ (by omega)) (fun w hw => wN_n (by omega)) (fun w hw => wN_n (by omega)) (fun w hw => wN_n (by omega)) (fun w hw => wN_n (by omega)) (fun w hw => wN_n (by omega)) (fun w hw => wN_n (by omega)) (fun s h => sN_n (hs s 0 h (by decide) (by decide))) (fun s h => ?_) (fun s h => ?_) (fun p h => pN_n (hp p 5 h (by decide) (by decide))) (fun p h => pN_n (hp p 6 h (by decide) (by decide)))
  · rw [sN_n (hs s 2 h (by decide) (by decide))]; exact H.st h
  · rw [sN_n (hs s 3 h (by decide) (by decide))]; exact H.mg h
theorem WF.pay (H : WF N np ns nw) {s p : Nat} {c : Int32} (hs : s < 5) (hp : p < 6) : WF (sPay N s p c) np ns nw :=
  (H.free (Or.inr (Or.inl ⟨s, hs, rfl⟩))).free (Or.inl ⟨p, 0, hp, by decide, rfl⟩)
theorem WF.star (H : WF N np ns nw) {s t : Nat} {x : Int32} (hs : s < 5) (hx : x = nI t) (ht : t ≤ 50) : WF (upd N (95 + 4 * s + 2) x) np ns nw := by
  have h1 := H.p.2
  have h2 := H.s.2
  have h3 := H.w.2
  refine H.congr (upd_n (by omega)) (upd_n (by omega)) (upd_n (by omega)) (upd_n (by omega)) (fun w hw => wN_n (by omega)) (fun w hw => wN_n (by omega)) (fun w hw => wN_n (by omega)) (fun w hw => wN_n (by omega)) (fun w hw => wN_n (by omega)) (fun w hw => wN_n (by omega)) (fun s' h => sN_n (by omega)) (fun s' h => ?_) (fun s' h => ?_) (fun p h => pN_n (by omega)) (fun p h => pN_n (by omega))
  · by_cases e : s' = s
    · subst e; exact ⟨t, by rw [sN_s]; exact hx, ht⟩
    · rw [sN_n (by omega)]; exact H.st h
  · rw [sN_n (by omega)]; exact H.mg h
theorem WF.marg (H : WF N np ns nw) {s t : Nat} {x : Int32} (hs : s < 5) (hx : x = nI t) (ht : t ≤ 100) : WF (upd N (95 + 4 * s + 3) x) np ns nw := by
  have h1 := H.p.2
  have h2 := H.s.2
  have h3 := H.w.2
  refine H.congr (upd_n (by omega)) (upd_n (by omega)) (upd_n (by omega)) (upd_n (by omega)) (fun w hw => wN_n (by omega)) (fun w hw => wN_n (by omega)) (fun w hw => wN_n (by omega)) (fun w hw => wN_n (by omega)) (fun w hw => wN_n (by omega)) (fun w hw => wN_n (by omega)) (fun s' h => sN_n (by omega)) (fun s' h => ?_) (fun s' h => ?_) (fun p h => pN_n (by omega)) (fun p h => pN_n (by omega))
  · rw [sN_n (by omega)]; exact H.st h
  · by_cases e : s' = s
    · subst e; exact ⟨t, by rw [sN_s]; exact hx, ht⟩
    · rw [sN_n (by omega)]; exact H.mg h
/-- a wish moves -/
def sMv (N : Nat → Int32) (w : Nat) (h a x5 x6 x7 : Int32) : Nat → Int32 := upd (upd (upd (upd (upd N (115 + 15 * w + 3) h) (115 + 15 * w + 4) a) (115 + 15 * w + 5) x5) (115 + 15 * w + 6) x6) (115 + 15 * w + 7) x7
theorem sGo_mv {w : Nat} {h a : Int32} : sGo N w h a = sMv N w h a (-1) (-1) (-1) := rfl
theorem upd_upd {f : Nat → Int32} {k : Nat} {x y : Int32} : upd (upd f k x) k y = upd f k y := by
  funext j
  by_cases h : j = k
  · subst h; rw [upd_s, upd_s]
  · rw [upd_n h, upd_n h, upd_n h]
theorem upd_cm {f : Nat → Int32} {k j : Nat} {x y : Int32} (h : k ≠ j) : upd (upd f k x) j y = upd (upd f j y) k x := by
  funext i
  by_cases h1 : i = k
  · subst h1; rw [upd_s, upd_n h, upd_s]
  · by_cases h2 : i = j
    · subst h2; rw [upd_s, upd_n h1, upd_s]
    · rw [upd_n h2, upd_n h1, upd_n h1, upd_n h2]
theorem sGet_mv {p w : Nat} {c : Int32} : sGet N p w c = sMv (sPay N (aT N w) p (-c)) w 1 (nI p) (N 1) c (nI (aT N w)) := by
  unfold sGet sGo sFg sMv
  rw [upd_cm (k := 115 + 15 * w + 7) (j := 115 + 15 * w + 5) (by omega), upd_cm (k := 115 + 15 * w + 6) (j := 115 + 15 * w + 5) (by omega), upd_upd, upd_cm (k := 115 + 15 * w + 7) (j := 115 + 15 * w + 6) (by omega), upd_upd, upd_upd]
theorem WF.mv (H : WF N np ns nw) {w : Nat} {h a x5 x6 x7 : Int32} (hw : w < nw) (ht : wN N w 3 = 0 ∨ wN N w 3 = 1)
    (hl : (h = 0 ∧ ∃ s c, s < ns ∧ a = nI s ∧ sN N s 0 = nI c ∧ c ≤ 8 ∧ sStock N nw (nI s) < c) ∨ (h = 1 ∧ ∃ p, p < np ∧ a = nI p ∧ sOwns N nw (nI p) < 4 ∧ (¬ x5 = -1 → ∃ s, s < ns ∧ x7 = nI s)) ∨ h = 2 ∨ h = 3) : WF (sMv N w h a x5 x6 x7) np ns nw := by
  obtain ⟨⟨h1, h2, h3⟩, hy, hw1, hx, hs, hp⟩ := H
  have b1 := h1.2
  have b2 := h2.2
  have b3 := h3.2
  have hn : ∀ i, i < 115 → sMv N w h a x5 x6 x7 i = N i := fun i hi => by
    unfold sMv
    rw [upd_n (by omega), upd_n (by omega), upd_n (by omega), upd_n (by omega), upd_n (by omega)]
  have ho : ∀ w' k, w' ≠ w → k < 15 → wN (sMv N w h a x5 x6 x7) w' k = wN N w' k := fun w' k h9 hk => by
    unfold sMv
    rw [wN_n (by omega), wN_n (by omega), wN_n (by omega), wN_n (by omega), wN_n (by omega)]
  have hk : ∀ k, k < 3 → wN (sMv N w h a x5 x6 x7) w k = wN N w k := fun k hk => by
    unfold sMv
    rw [wN_n (by omega), wN_n (by omega), wN_n (by omega), wN_n (by omega), wN_n (by omega)]
  have k3 : wN (sMv N w h a x5 x6 x7) w 3 = h := by
    unfold sMv
    rw [wN_n (by omega), wN_n (by omega), wN_n (by omega), wN_n (by omega), wN_w]
  have k4 : wN (sMv N w h a x5 x6 x7) w 4 = a := by
    unfold sMv
    rw [wN_n (by omega), wN_n (by omega), wN_n (by omega), wN_w]
  have k5 : wN (sMv N w h a x5 x6 x7) w 5 = x5 := by
    unfold sMv
    rw [wN_n (by omega), wN_n (by omega), wN_w]
  have k7 : wN (sMv N w h a x5 x6 x7) w 7 = x7 := by
    unfold sMv
    rw [wN_w]
  have hst : ∀ s k, s < ns → k < 4 → sN (sMv N w h a x5 x6 x7) s k = sN N s k := fun s k a b => hn _ (by omega)
  have hpn : ∀ p k, p < np → k < 14 → pN (sMv N w h a x5 x6 x7) p k = pN N p k := fun p k a b => hn _ (by omega)
  have co : ∀ (z p : Int32), sCnt (fun i => wN (sMv N w h a x5 x6 x7) i 3 = z ∧ wN (sMv N w h a x5 x6 x7) i 4 = p) nw ≤ sCnt (fun i => wN N i 3 = z ∧ wN N i 4 = p) nw + (if h = z ∧ a = p then 1 else 0) := fun z p => by
    have h9 := sCnt_one (P := fun i => wN (sMv N w h a x5 x6 x7) i 3 = z ∧ wN (sMv N w h a x5 x6 x7) i 4 = p) (Q := fun i => wN N i 3 = z ∧ wN N i 4 = p) (w := w) (n := nw) (fun i hi hne hP => by
      rw [ho i 3 hne (by decide), ho i 4 hne (by decide)] at hP
      exact hP)
    simp only [k3, k4] at h9
    exact h9
  refine ⟨⟨⟨(hn 2 (by decide)).trans h1.1, h1.2⟩, ⟨(hn 3 (by decide)).trans h2.1, h2.2⟩, ⟨(hn 4 (by decide)).trans h3.1, h3.2⟩⟩, by rw [hn 0 (by decide)]; exact hy, fun i hi => ?_, fun i hi => ?_, fun s hs9 => ?_, fun p hp9 => ?_⟩
  · by_cases e : i = w
    · subst e
      unfold WY aT sE
      rw [k3, k4, k5, k7]
      refine ⟨fun z => ?_, fun z => ?_, fun z z5 => ?_⟩
      · rcases hl with ⟨-, s, c, l1, l2, -⟩ | ⟨l0, -⟩ | l0 | l0
        · exact idx_of l2 l1 (by omega)
        · rw [l0] at z; exact absurd z (by decide)
        · rw [l0] at z; exact absurd z (by decide)
        · rw [l0] at z; exact absurd z (by decide)
      · rcases hl with ⟨l0, -⟩ | ⟨-, p, l1, l2, -⟩ | l0 | l0
        · rw [l0] at z; exact absurd z (by decide)
        · exact idx_of l2 l1 (by omega)
        · rw [l0] at z; exact absurd z (by decide)
        · rw [l0] at z; exact absurd z (by decide)
      · rcases hl with ⟨l0, -⟩ | ⟨-, p, l1, l2, l3, l4⟩ | l0 | l0
        · rw [l0] at z; exact absurd z (by decide)
        · obtain ⟨s, g1, g2⟩ := l4 z5
          exact idx_of g2 g1 (by omega)
        · rw [l0] at z; exact absurd z (by decide)
        · rw [l0] at z; exact absurd z (by decide)
    · have := hw1 i hi
      unfold WY aT sE at this ⊢
      rw [ho i 3 e (by decide), ho i 4 e (by decide), ho i 5 e (by decide), ho i 7 e (by decide)]
      exact this
  · by_cases e : i = w
    · subst e
      rw [k3, hk 0 (by decide), hk 2 (by decide)]
      obtain ⟨-, b, e9, g1, g2, g3⟩ := hx i hi
      refine ⟨?_, b, e9, g1, g2, fun _ => g3 ht⟩
      rcases hl with ⟨l0, -⟩ | ⟨l0, -⟩ | l0 | l0
      · exact Or.inl l0
      · exact Or.inr (Or.inl l0)
      · exact Or.inr (Or.inr (Or.inl l0))
      · exact Or.inr (Or.inr (Or.inr l0))
    · rw [ho i 3 e (by decide), ho i 0 e (by decide), ho i 2 e (by decide)]
      exact hx i hi
  · obtain ⟨c, t, g, a1, a2, a3, a4⟩ := hs s hs9
    refine ⟨c, t, g, by rw [hst s 0 hs9 (by decide)]; exact a1, by rw [hst s 2 hs9 (by decide)]; exact a2, by rw [hst s 3 hs9 (by decide)]; exact a3, ?_⟩
    have h9 := co 0 (nI s)
    unfold sStock at a4 ⊢
    by_cases e : h = 0 ∧ a = nI s
    · rw [if_pos e] at h9
      rcases hl with ⟨-, s', c', l1, l2, l3, l4, l5⟩ | ⟨l0, -⟩ | l0 | l0
      · have e1 : s' = s := by
          rw [e.2, nJ_i (by omega) (by omega)] at l2
          exact l2.symm
        subst e1
        rw [a1.1, nJ_i (by omega) (by omega)] at l3
        unfold sStock at l5
        omega
      · rw [l0] at e; exact absurd e.1 (by decide)
      · rw [l0] at e; exact absurd e.1 (by decide)
      · rw [l0] at e; exact absurd e.1 (by decide)
    · rw [if_neg e] at h9
      omega
  · obtain ⟨a1, a2, a3⟩ := hp p hp9
    rw [hpn p 5 hp9 (by decide), hpn p 6 hp9 (by decide)]
    refine ⟨?_, a2, a3⟩
    have h9 := co 1 (nI p)
    unfold sOwns at a1 ⊢
    by_cases e : h = 1 ∧ a = nI p
    · rw [if_pos e] at h9
      rcases hl with ⟨l0, -⟩ | ⟨-, p', l1, l2, l3, -⟩ | l0 | l0
      · rw [l0] at e; exact absurd e.1 (by decide)
      · have e1 : p' = p := by
          rw [e.2, nJ_i (by omega) (by omega)] at l2
          exact l2.symm
        subst e1
        unfold sOwns at l3
        omega
      · rw [l0] at e; exact absurd e.1 (by decide)
      · rw [l0] at e; exact absurd e.1 (by decide)
    · rw [if_neg e] at h9
      omega
end RE
