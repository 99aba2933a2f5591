/-! what holds of the numbers between the law's items -/
section IVX
variable {I0 : Mem} {np ns nw s y i a b c d e l k p : Nat} {N N' M : Nat → Int32} {x u : Int32}
def IV (I0 : Mem) (ns y : Nat) (N : Nat → Int32) (np s nw : Nat) : Prop :=
  (WF N np s nw ∧ PG N np s nw 0) ∧ N 0 = nI y ∧ (∀ i, i < s → sN N i 0 = I0 (419 + 2 * i) 0) ∧ (∀ p, p < np → N (18 + 14 * p + 1) = nI (97 + p)) ∧
  (∀ w, w < nw → N (123 + 15 * w + 1) = nI (112 + w) ∧ wN N w 3 = (if I0 (wd ns w) 3 < 0 then 1 else 0) ∧ wN N w 4 = (if I0 (wd ns w) 3 < 0 then I0 (wd ns w) 4 else I0 (wd ns w) 3)) ∧ iT N np s = N 7
theorem NmOk.of0 (h : NmOk N a) (g : ∀ j, a ≤ j → j ≤ a + 6 → N' j = N j) : NmOk N' a := h.cg g
/-- the beginning -/
theorem IV.mk (hB : NB M) (hy : 4 ≤ y ∧ y ≤ 60) : IV I0 ns y (upd M 0 (nI y)) 0 0 0 := by
  obtain ⟨⟨n1, n2, n3, n4⟩, ⟨n5, n6, n8, n9⟩, n10, n7⟩ := hB
  have hu : ∀ j, j ≠ 0 → (upd M 0 (nI y)) j = M j := fun j hj => upd_n hj
  refine ⟨⟨⟨⟨⟨(hu 2 (by decide)).trans n2, by decide⟩, ⟨(hu 3 (by decide)).trans n3, by decide⟩, ⟨(hu 4 (by decide)).trans n4, by decide⟩⟩, by rw [upd_s]; exact nI_ne0 (by omega) (by omega), fun w h => absurd h (Nat.not_lt_zero w), fun w h => absurd h (Nat.not_lt_zero w), fun w h => absurd h (Nat.not_lt_zero w), fun w h => absurd h (Nat.not_lt_zero w)⟩, ⟨⟨⟨y, upd_s, hy.1, hy.2, fun p h => absurd h (Nat.not_lt_zero p)⟩, fun p h => absurd h (Nat.not_lt_zero p), fun p h => absurd h (Nat.not_lt_zero p)⟩, ⟨0, (hu 1 (by decide)).trans n1, Nat.le_refl _⟩, ⟨fun p h => absurd h (Nat.not_lt_zero p), fun p h => absurd h (Nat.not_lt_zero p), ⟨Nat.zero_le _, by decide⟩⟩, ⟨10, (hu 6 (by decide)).trans n6, by decide⟩, ⟨0, (hu 10 (by decide)).trans n10, by decide⟩, fun p h => absurd h (Nat.not_lt_zero p)⟩⟩, upd_s, fun i h => absurd h (Nat.not_lt_zero i), fun i h => absurd h (Nat.not_lt_zero i), fun i h => absurd h (Nat.not_lt_zero i), ?_⟩
  show (0 : Int32) = _
  rw [hu 7 (by decide), n7]
theorem IV.w (V : IV I0 ns y N np s nw) : WF N np s nw := V.1.1
theorem IV.g (V : IV I0 ns y N np s nw) : PG N np s nw 0 := V.1.2
/-- a number of the head -/
theorem IV.hu {j : Nat} (V : IV I0 ns y N np s nw) (hj : 5 ≤ j ∧ j ≤ 10 ∧ j ≠ 7) (h6 : j = 6 → ∃ f, x = nI f ∧ f ≤ 50) (h10 : j = 10 → ∃ f, x = nI f ∧ f ≤ 50) : IV I0 ns y (upd N j x) np s nw := by
  have b1 := V.w.p.2
  have b2 := V.w.s.2
  have b3 := V.w.w.2
  obtain ⟨⟨W, G⟩, v0, v1, v2, v3, v4⟩ := V
  have hu : ∀ i, (i < 5 ∨ i = 7 ∨ 10 < i) → upd N j x i = N i := fun i hi => upd_n (by clear h6 h10; omega)
  refine ⟨⟨W.free (Or.inr (Or.inr (Or.inr (by omega)))), G.hu b1 b2 b3 ⟨hj.1, hj.2.1⟩ h6 h10⟩, (hu 0 (by omega)).trans v0, fun i h => (hu _ (by omega)).trans (v1 i h), fun i h => (hu _ (by omega)).trans (v2 i h), fun i h => ⟨(hu _ (by omega)).trans (v3 i h).1, (hu _ (by omega)).trans (v3 i h).2.1, (hu _ (by omega)).trans (v3 i h).2.2⟩, ?_⟩
  have eP : pT (upd N j x) np = pT N np := pT_eq np fun p hp => hu (11 + 14 * p + 0) (Or.inr (Or.inr (by omega)))
  have eK : ∀ b, kT (upd N j x) b s = kT N b s := fun b => kT_eq s fun p hp => hu (95 + 4 * p + 1) (Or.inr (Or.inr (by omega)))
  rw [hu 7 (by omega), ← v4]
  unfold iT
  rw [eP, eK]
/-- a limit -/
theorem IV.lim (V : IV I0 ns y N np s nw) (hp : p < np) : IV I0 ns y (upd N (11 + 14 * p + 4) x) np s nw := by
  have b1 := V.w.p.2
  have b2 := V.w.s.2
  have b3 := V.w.w.2
  obtain ⟨⟨W, G⟩, v0, v1, v2, v3, v4⟩ := V
  have hu : ∀ i, i ≠ 11 + 14 * p + 4 → upd N (11 + 14 * p + 4) x i = N i := fun i hi => upd_n hi
  refine ⟨⟨W.free (Or.inl ⟨p, 4, by omega, by decide, rfl⟩), G.pu b1 b3 (nfx_p (by omega) (by omega)) (fun q _ => by omega) (fun q _ => by omega) b2 (by omega)⟩, (hu 0 (by omega)).trans v0, fun i h => (hu _ (by omega)).trans (v1 i h), fun i h => (hu _ (by omega)).trans (v2 i h), fun i h => ⟨(hu _ (by omega)).trans (v3 i h).1, (hu _ (by omega)).trans (v3 i h).2.1, (hu _ (by omega)).trans (v3 i h).2.2⟩, ?_⟩
  have eP : pT (upd N (11 + 14 * p + 4) x) np = pT N np := pT_eq np fun q hq => hu (11 + 14 * q + 0) (by omega)
  have eK : ∀ b, kT (upd N (11 + 14 * p + 4) x) b s = kT N b s := fun b => kT_eq s fun q hq => hu (95 + 4 * q + 1) (by omega)
  rw [hu 7 (by omega), ← v4]
  unfold iT
  rw [eP, eK]
/-- a stall -/
theorem IV.stall (V : IV I0 ns y N np s nw) (hs : s < 5) (hN : ∀ j, j ≠ 3 → j ≠ 7 → (j < 95 + 4 * s ∨ 95 + 4 * s + 3 < j) → N' j = N j) (n3 : N' 3 = nI (s + 1)) (k0 : sN N' s 0 = nI a ∧ sN N' s 1 = nI b ∧ sN N' s 2 = nI c ∧ sN N' s 3 = nI d) (n7 : N' 7 = N 7 + nI b) (ha : a ≤ 8) (hb : b ≤ 999) (hc : c ≤ 50) (hd : d ≤ 100) (hI : I0 (419 + 2 * s) 0 = nI a) : IV I0 ns y N' np (s + 1) nw := by
  have b1 := V.w.p.2
  have b2 := V.w.s.2
  have b3 := V.w.w.2
  obtain ⟨⟨W, G⟩, v0, v1, v2, v3, v4⟩ := V
  obtain ⟨k0, k1, k2, k3⟩ := k0
  refine ⟨⟨W.addS hs hN n3 ⟨a, c, d, ⟨k0, ha⟩, ⟨k2, hc⟩, k3, hd⟩, G.addS b1 hs b3 hN k1 hb⟩, (hN 0 (by omega) (by omega) (by omega)).trans v0, fun i h => ?_, fun i h => (hN _ (by omega) (by omega) (by omega)).trans (v2 i h), fun i h => ⟨(hN _ (by omega) (by omega) (by omega)).trans (v3 i h).1, (hN _ (by omega) (by omega) (by omega)).trans (v3 i h).2.1, (hN _ (by omega) (by omega) (by omega)).trans (v3 i h).2.2⟩, ?_⟩
  · by_cases e : i = s
    · subst e
      rw [k0, hI]
    · exact (hN _ (by omega) (by omega) (by omega)).trans (v1 i (by omega))
  · rw [n7, ← v4]
    unfold iT
    show kT N' (pT N' np) s + sN N' s 1 = _
    rw [k1, pT_eq np (fun p _ => hN _ (by omega) (by omega) (by omega)), kT_eq s (fun p _ => hN _ (by omega) (by omega) (by omega))]
/-- a person -/
theorem IV.person (V : IV I0 ns y N np s nw) (hn : np < 6) (hN : ∀ j, j ≠ 2 → j ≠ 7 → (j < 11 + 14 * np ∨ 11 + 14 * np + 13 < j) → N' j = N j) (n2 : N' 2 = nI (np + 1)) (k0 : pN N' np 0 = nI a ∧ pN N' np 1 = nI b) (hf : (pN N' np 5 = 0 ∨ pN N' np 5 = 1) ∧ (pN N' np 6 = 0 ∨ pN N' np 6 = 1)) (hm : NmOk N' (11 + 14 * np + 7) ∧ N' (18 + 14 * np + 1) = nI (97 + np)) (n7 : N' 7 = N 7 + nI a) (ha : a ≤ 999) (hb : b < y) (hy : y ≤ 60) : IV I0 ns y N' (np + 1) s nw := by
  have b1 := V.w.p.2
  have b2 := V.w.s.2
  have b3 := V.w.w.2
  obtain ⟨⟨W, G⟩, v0, v1, v2, v3, v4⟩ := V
  obtain ⟨k0, k1⟩ := k0
  refine ⟨⟨W.addP hn hN n2 hf, G.addP hn b2 b3 hN k0 ha k1 v0 hy hb hm.1⟩, (hN 0 (by omega) (by omega) (by omega)).trans v0, fun i h => (hN _ (by omega) (by omega) (by omega)).trans (v1 i h), fun i h => ?_, fun i h => ⟨(hN _ (by omega) (by omega) (by omega)).trans (v3 i h).1, (hN _ (by omega) (by omega) (by omega)).trans (v3 i h).2.1, (hN _ (by omega) (by omega) (by omega)).trans (v3 i h).2.2⟩, ?_⟩
  · by_cases e : i = np
    · rw [e]; exact hm.2
    · exact (hN _ (by omega) (by omega) (by omega)).trans (v2 i (by omega))
  · rw [n7, ← v4]
    unfold iT
    show kT N' (pT N' np + pN N' np 0) s = _
    rw [k0, kT_b, pT_eq np (fun p _ => hN _ (by omega) (by omega) (by omega)), kT_eq s (fun p _ => hN _ (by omega) (by omega) (by omega))]
/-- the place of a wish -/
def vH (I0 : Mem) (ns k : Nat) : Int32 := if I0 (wd ns k) 3 < 0 then 1 else 0
def vX (I0 : Mem) (ns k : Nat) : Nat := if I0 (wd ns k) 3 < 0 then vN I0 (wd ns k) 4 else vN I0 (wd ns k) 3
theorem IV.stk (V : IV I0 ns y N np ns nw) (hV : ∀ i, i < nw → VW I0 ns i) (hn : ns ≤ 2) {t : Nat} (ht : t < ns) : sStock N nw (nI t) = stk I0 ns t nw := by
  refine sCnt_eq fun j hj => ?_
  obtain ⟨-, w3, w4⟩ := V.2.2.2.2.1 j hj
  obtain ⟨q0, q1, q2, -, -, -, wp, -⟩ := hV j hj
  rw [w3, w4]
  rcases wp with ⟨t', ht', e3, e4, -⟩ | ⟨e3, o, e4, ho⟩
  · rw [e3, if_neg (nln (by omega)), if_neg (nln (by omega))]
    exact ⟨fun z => z.2, fun z => ⟨rfl, z⟩⟩
  · rw [e3, if_pos lt_m1, if_pos lt_m1]
    refine ⟨fun z => absurd z.1 (by decide), fun z => ?_⟩
    have z2 := congrArg Int32.toInt z
    rw [nI_toInt (by omega), show (-1 : Int32).toInt = -1 from rfl] at z2
    omega
theorem IV.place (V : IV I0 ns y N 2 ns nw) (hV : ∀ i, i ≤ nw → VW I0 ns i) (hn : 1 ≤ ns ∧ ns ≤ 2) (hw : nw < 4) : hPl N 2 ns nw (vH I0 ns nw) (vX I0 ns nw) ∧ ((vH I0 ns nw = 0 ∧ ∃ s c, s < ns ∧ nI (vX I0 ns nw) = nI s ∧ sN N s 0 = nI c ∧ c ≤ 8 ∧ sStock N nw (nI s) < c) ∨ (vH I0 ns nw = 1 ∧ ∃ p, p < 2 ∧ nI (vX I0 ns nw) = nI p ∧ sOwns N nw (nI p) < 4)) := by
  obtain ⟨q0, q1, q2, -, -, -, wp, -⟩ := hV nw (Nat.le_refl _)
  unfold vH vX
  rcases wp with ⟨t', ht', e3, e4, e5⟩ | ⟨e3, o, e4, ho⟩
  · have hs := V.stk (fun i hi => hV i (by omega)) hn.2 ht'
    obtain ⟨cc, t, g, x1, x2, x3, x4⟩ := V.w.2.2.2.2.1 t' ht'
    have hc := V.2.2.1 t' ht'
    rw [if_neg (by rw [e3]; exact nln (by omega)), if_neg (by rw [e3]; exact nln (by omega)), vN_e e3 (by omega)]
    have hne : ¬ nI (sStock N nw (nI t')) = sN N t' 0 := fun z => by
      rw [hs, hc] at z
      exact e5 (by rw [← z]; exact Int32.le_refl _)
    refine ⟨Or.inl ⟨rfl, ht', hne⟩, Or.inl ⟨rfl, t', cc, ht', rfl, x1.1, x1.2, ?_⟩⟩
    have : sStock N nw (nI t') ≠ cc := fun z => hne (by rw [z, x1.1])
    omega
  · have hle : sOwns N nw (nI o) < 4 := Nat.lt_of_le_of_lt (sCnt_le _) hw
    rw [if_pos (by rw [e3]; exact lt_m1), if_pos (by rw [e3]; exact lt_m1), vN_e e4 (by omega)]
    exact ⟨Or.inr ⟨rfl, ho, hle⟩, Or.inr ⟨rfl, o, ho, rfl, hle⟩⟩
theorem vX_e (hV : VW I0 ns k) (hn : ns ≤ 2) : nI (vX I0 ns k) = (if I0 (wd ns k) 3 < 0 then I0 (wd ns k) 4 else I0 (wd ns k) 3) ∧ vX I0 ns k < 2 := by
  obtain ⟨q0, q1, q2, -, -, -, wp, -⟩ := hV
  unfold vX
  rcases wp with ⟨t', ht', e3, e4, e5⟩ | ⟨e3, o, e4, ho⟩
  · rw [if_neg (by rw [e3]; exact nln (by omega)), if_neg (by rw [e3]; exact nln (by omega)), vN_e e3 (by omega), e3]
    exact ⟨rfl, by omega⟩
  · rw [if_pos (by rw [e3]; exact lt_m1), if_pos (by rw [e3]; exact lt_m1), vN_e e4 (by omega), e4]
    exact ⟨rfl, ho⟩
/-- a wish -/
theorem IV.wish (V : IV I0 ns y N 2 ns nw) (hV : ∀ i, i ≤ nw → VW I0 ns i) (hn : 1 ≤ ns ∧ ns ≤ 2) (hw : nw < 4) (hN : ∀ j, j ≠ 4 → (j < 115 + 15 * nw ∨ 115 + 15 * nw + 14 < j) → N' j = N j) (n4 : N' 4 = nI (nw + 1)) (k0 : wN N' nw 0 = nI a ∧ wN N' nw 2 = nI e) (k3 : wN N' nw 3 = vH I0 ns nw ∧ wN N' nw 4 = nI (vX I0 ns nw) ∧ wN N' nw 5 = -1) (hm : NmOk N' (115 + 15 * nw + 8) ∧ N' (123 + 15 * nw + 1) = nI (112 + nw)) (ha : 1 ≤ a ∧ a ≤ 99) (he : e ≤ 9) : IV I0 ns y N' 2 ns (nw + 1) := by
  have b1 := V.w.p.2
  have b2 := V.w.s.2
  have b3 := V.w.w.2
  have hp := (V.place hV hn hw).2
  obtain ⟨⟨W, G⟩, v0, v1, v2, v3, v4⟩ := V
  obtain ⟨k3, k4, k5⟩ := k3
  refine ⟨⟨W.addW (by omega) hN n4 ⟨a, e, ⟨k0.1, ha⟩, k0.2, he⟩ k3 k4 k5 hp, G.addW b1 b2 (by omega) hN hm.1 k5⟩, (hN 0 (by omega) (by omega)).trans v0, fun i h => (hN _ (by omega) (by omega)).trans (v1 i h), fun i h => (hN _ (by omega) (by omega)).trans (v2 i h), fun i h => ?_, ?_⟩
  · by_cases e : i = nw
    · subst e
      exact ⟨hm.2, k3, k4.trans (vX_e (hV i (Nat.le_refl _)) hn.2).1⟩
    · exact ⟨(hN _ (by omega) (by omega)).trans (v3 i (by omega)).1, (hN _ (by omega) (by omega)).trans (v3 i (by omega)).2.1, (hN _ (by omega) (by omega)).trans (v3 i (by omega)).2.2⟩
  · rw [hN 7 (by omega) (by omega), ← v4]
    unfold iT
    rw [pT_eq 2 (fun p _ => hN _ (by omega) (by omega)), kT_eq ns (fun p _ => hN _ (by omega) (by omega))]
end IVX
