/-! what an item adds, over the numbers alone -/
section ADD
variable {np ns nw y : Nat} {N N' : Nat → Int32}
theorem WF.addS (W : WF N np ns nw) (h5 : ns < 5) (hN : ∀ j, j ≠ 3 → j ≠ 7 → (j < 95 + 4 * ns ∨ 95 + 4 * ns + 3 < j) → N' j = N j) (n3 : N' 3 = nI (ns + 1)) (hc : ∃ c t g, (sN N' ns 0 = nI c ∧ c ≤ 8) ∧ (sN N' ns 2 = nI t ∧ t ≤ 50) ∧ (sN N' ns 3 = nI g ∧ g ≤ 100)) : WF N' np (ns + 1) nw := by
  have b1 := W.p.2
  have b2 := W.s.2
  have b3 := W.w.2
  have hw : ∀ w k, w < 16 → k < 15 → wN N' w k = wN N w k := fun w k h1 h2 => hN _ (by omega) (by omega) (by omega)
  have hp : ∀ p k, p < 6 → k < 14 → pN N' p k = pN N p k := fun p k h1 h2 => hN _ (by omega) (by omega) (by omega)
  have hs' : ∀ s k, s < ns → k < 4 → sN N' s k = sN N s k := fun s k h1 h2 => hN _ (by omega) (by omega) (by omega)
  have cS : ∀ x : Int32, sStock N' nw x = sStock N nw x := fun x => sCnt_eq fun i hi => by rw [hw i 3 (by omega) (by decide), hw i 4 (by omega) (by decide)]
  have cO : ∀ x : Int32, sOwns N' nw x = sOwns N nw x := fun x => sCnt_eq fun i hi => by rw [hw i 3 (by omega) (by decide), hw i 4 (by omega) (by decide)]
  have c0 : sStock N nw (nI ns) = 0 := by
    have : ∀ i, i ≤ nw → sStock N i (nI ns) = 0 := by
      intro i
      induction i with
      | zero => intro _; rfl
      | succ i ih =>
        intro hi
        show sStock N i (nI ns) + (if wN N i 3 = 0 ∧ wN N i 4 = nI ns then 1 else 0) = 0
        rw [ih (by omega), if_neg]
        rintro ⟨z1, z2⟩
        obtain ⟨z3, z4⟩ := W.a0 (show i < nw by omega) z1
        rw [z3, nJ_i (by omega) (by omega)] at z2
        omega
    exact this nw (Nat.le_refl _)
  refine ⟨⟨⟨(hN 2 (by decide) (by decide) (by omega)).trans W.p.1, W.p.2⟩, ⟨n3, by omega⟩, ⟨(hN 4 (by decide) (by decide) (by omega)).trans W.w.1, W.w.2⟩⟩, by rw [hN 0 (by decide) (by decide) (by omega)]; exact W.y, fun w h => ?_, fun w h => ?_, fun s h => ?_, fun p h => ?_⟩
  · have := W.2.2.1 w h
    unfold WY aT sE at this ⊢
    rw [hw w 3 (by omega) (by decide), hw w 4 (by omega) (by decide), hw w 5 (by omega) (by decide), hw w 7 (by omega) (by decide)]
    exact ⟨fun z => ⟨(this.1 z).1, Nat.lt_succ_of_lt (this.1 z).2⟩, this.2.1, fun z z2 => ⟨(this.2.2 z z2).1, Nat.lt_succ_of_lt (this.2.2 z z2).2⟩⟩
  · have := W.2.2.2.1 w h
    rw [hw w 0 (by omega) (by decide), hw w 2 (by omega) (by decide), hw w 3 (by omega) (by decide)]
    exact this
  · rw [cS]
    by_cases e : s = ns
    · subst e
      obtain ⟨c, t, g, k1, k2, k3⟩ := hc
      exact ⟨c, t, g, k1, k2, k3, by rw [c0]; exact Nat.zero_le _⟩
    · have := W.2.2.2.2.1 s (by omega)
      rw [hs' s 0 (by omega) (by decide), hs' s 2 (by omega) (by decide), hs' s 3 (by omega) (by decide)]
      exact this
  · have := W.2.2.2.2.2 p h
    rw [cO, hp p 5 (by omega) (by decide), hp p 6 (by omega) (by decide)]
    exact this
theorem WF.addP (W : WF N np ns nw) (h5 : np < 6) (hN : ∀ j, j ≠ 2 → j ≠ 7 → (j < 11 + 14 * np ∨ 11 + 14 * np + 13 < j) → N' j = N j) (n3 : N' 2 = nI (np + 1)) (hf : (pN N' np 5 = 0 ∨ pN N' np 5 = 1) ∧ (pN N' np 6 = 0 ∨ pN N' np 6 = 1)) : WF N' (np + 1) ns nw := by
  have b1 := W.p.2
  have b2 := W.s.2
  have b3 := W.w.2
  have hw : ∀ w k, w < 16 → k < 15 → wN N' w k = wN N w k := fun w k h1 h2 => hN _ (by omega) (by omega) (by omega)
  have hp : ∀ p k, p < np → k < 14 → pN N' p k = pN N p k := fun p k h1 h2 => hN _ (by omega) (by omega) (by omega)
  have hs' : ∀ s k, s < 5 → k < 4 → sN N' s k = sN N s k := fun s k h1 h2 => hN _ (by omega) (by omega) (by omega)
  have cS : ∀ x : Int32, sStock N' nw x = sStock N nw x := fun x => sCnt_eq fun i hi => by rw [hw i 3 (by omega) (by decide), hw i 4 (by omega) (by decide)]
  have cO : ∀ x : Int32, sOwns N' nw x = sOwns N nw x := fun x => sCnt_eq fun i hi => by rw [hw i 3 (by omega) (by decide), hw i 4 (by omega) (by decide)]
  have c0 : sOwns N nw (nI np) = 0 := by
    have : ∀ i, i ≤ nw → sOwns N i (nI np) = 0 := by
      intro i
      induction i with
      | zero => intro _; rfl
      | succ i ih =>
        intro hi
        show sOwns N i (nI np) + (if wN N i 3 = 1 ∧ wN N i 4 = nI np then 1 else 0) = 0
        rw [ih (by omega), if_neg]
        rintro ⟨z1, z2⟩
        obtain ⟨z3, z4⟩ := W.a1 (show i < nw by omega) z1
        rw [z3, nJ_i (by omega) (by omega)] at z2
        omega
    exact this nw (Nat.le_refl _)
  refine ⟨⟨⟨n3, by omega⟩, ⟨(hN 3 (by decide) (by decide) (by omega)).trans W.s.1, W.s.2⟩, ⟨(hN 4 (by decide) (by decide) (by omega)).trans W.w.1, W.w.2⟩⟩, by rw [hN 0 (by decide) (by decide) (by omega)]; exact W.y, fun w h => ?_, fun w h => ?_, fun s h => ?_, fun p h => ?_⟩
  · have := W.2.2.1 w h
    unfold WY aT sE at this ⊢
    rw [hw w 3 (by omega) (by decide), hw w 4 (by omega) (by decide), hw w 5 (by omega) (by decide), hw w 7 (by omega) (by decide)]
    exact ⟨this.1, fun z => ⟨(this.2.1 z).1, Nat.lt_succ_of_lt (this.2.1 z).2⟩, this.2.2⟩
  · have := W.2.2.2.1 w h
    rw [hw w 0 (by omega) (by decide), hw w 2 (by omega) (by decide), hw w 3 (by omega) (by decide)]
    exact this
  · have := W.2.2.2.2.1 s h
    rw [cS, hs' s 0 (by omega) (by decide), hs' s 2 (by omega) (by decide), hs' s 3 (by omega) (by decide)]
    exact this
  · rw [cO]
    by_cases e : p = np
    · subst e
      rw [c0]
      exact ⟨Nat.zero_le _, hf⟩
    · have := W.2.2.2.2.2 p (by omega)
      rw [hp p 5 (by omega) (by decide), hp p 6 (by omega) (by decide)]
      exact this
theorem WF.addW {h a : Int32} (W : WF N np ns nw) (h5 : nw < 16) (hN : ∀ j, j ≠ 4 → (j < 115 + 15 * nw ∨ 115 + 15 * nw + 14 < j) → N' j = N j) (n3 : N' 4 = nI (nw + 1))
    (hb : ∃ b e, (wN N' nw 0 = nI b ∧ 1 ≤ b ∧ b ≤ 99) ∧ wN N' nw 2 = nI e ∧ e ≤ 9) (k3 : wN N' nw 3 = h) (k4 : wN N' nw 4 = a) (k5 : wN N' nw 5 = -1)
    (hp : (h = 0 ∧ ∃ s c, s < ns ∧ a = nI s ∧ sN N s 0 = nI c ∧ c ≤ 8 ∧ sStock N nw (nI s) < c) ∨ (h = 1 ∧ ∃ p, p < np ∧ a = nI p ∧ sOwns N nw (nI p) < 4)) : WF N' np ns (nw + 1) := by
  have b1 := W.p.2
  have b2 := W.s.2
  have b3 := W.w.2
  have hw : ∀ w k, w < nw → k < 15 → wN N' w k = wN N w k := fun w k h1 h2 => hN _ (by omega) (by omega)
  have hpp : ∀ p k, p < 6 → k < 14 → pN N' p k = pN N p k := fun p k h1 h2 => hN _ (by omega) (by omega)
  have hs' : ∀ s k, s < 5 → k < 4 → sN N' s k = sN N s k := fun s k h1 h2 => hN _ (by omega) (by omega)
  have cS : ∀ x : Int32, sStock N' (nw + 1) x = sStock N nw x + (if h = 0 ∧ a = x then 1 else 0) := fun x => by
    show sStock N' nw x + (if wN N' nw 3 = 0 ∧ wN N' nw 4 = x then 1 else 0) = _
    rw [k3, k4]
    congr 1
    exact sCnt_eq fun i hi => by rw [hw i 3 (by omega) (by decide), hw i 4 (by omega) (by decide)]
  have cO : ∀ x : Int32, sOwns N' (nw + 1) x = sOwns N nw x + (if h = 1 ∧ a = x then 1 else 0) := fun x => by
    show sOwns N' nw x + (if wN N' nw 3 = 1 ∧ wN N' nw 4 = x then 1 else 0) = _
    rw [k3, k4]
    congr 1
    exact sCnt_eq fun i hi => by rw [hw i 3 (by omega) (by decide), hw i 4 (by omega) (by decide)]
  have h01 : h = 0 ∨ h = 1 := hp.elim (fun z => Or.inl z.1) (fun z => Or.inr z.1)
  refine ⟨⟨⟨(hN 2 (by decide) (by omega)).trans W.p.1, W.p.2⟩, ⟨(hN 3 (by decide) (by omega)).trans W.s.1, W.s.2⟩, ⟨n3, by omega⟩⟩, by rw [hN 0 (by decide) (by omega)]; exact W.y, fun w hlt => ?_, fun w hlt => ?_, fun s hlt => ?_, fun p hlt => ?_⟩
  · by_cases e : w = nw
    · subst e
      unfold WY aT sE
      rw [k3, k4, k5]
      refine ⟨fun z => ?_, fun z => ?_, fun z z2 => absurd rfl z2⟩
      · rcases hp with ⟨-, s, c, g1, g2, -⟩ | ⟨g0, -⟩
        · exact idx_of g2 g1 (by omega)
        · rw [g0] at z; exact absurd z (by decide)
      · rcases hp with ⟨g0, -⟩ | ⟨-, p, g1, g2, -⟩
        · rw [g0] at z; exact absurd z (by decide)
        · exact idx_of g2 g1 (by omega)
    · have := W.2.2.1 w (by omega)
      unfold WY aT sE at this ⊢
      rw [hw w 3 (by omega) (by decide), hw w 4 (by omega) (by decide), hw w 5 (by omega) (by decide), hw w 7 (by omega) (by decide)]
      exact this
  · by_cases e : w = nw
    · subst e
      obtain ⟨b, e, g1, g2, g3⟩ := hb
      rw [k3]
      exact ⟨h01.elim Or.inl (fun z => Or.inr (Or.inl z)), b, e, g1, ⟨g2, by omega⟩, fun _ => g3⟩
    · have := W.2.2.2.1 w (by omega)
      rw [hw w 0 (by omega) (by decide), hw w 2 (by omega) (by decide), hw w 3 (by omega) (by decide)]
      exact this
  · obtain ⟨c, t, g, g1, g2, g3, g4⟩ := W.2.2.2.2.1 s hlt
    rw [cS, hs' s 0 (by omega) (by decide), hs' s 2 (by omega) (by decide), hs' s 3 (by omega) (by decide)]
    refine ⟨c, t, g, g1, g2, g3, ?_⟩
    by_cases e : h = 0 ∧ a = nI s
    · rw [if_pos e]
      rcases hp with ⟨-, s', c', x1, x2, x3, x4, x5⟩ | ⟨x0, -⟩
      · have : s' = s := by
          rw [x2, nJ_i (by omega) (by omega)] at e
          exact e.2
        subst this
        rw [x3, nJ_i (by omega) (by omega)] at g1
        omega
      · rw [x0] at e
        exact absurd e.1 (by decide)
    · rw [if_neg e]
      exact g4
  · obtain ⟨g1, g2⟩ := W.2.2.2.2.2 p hlt
    rw [cO, hpp p 5 (by omega) (by decide), hpp p 6 (by omega) (by decide)]
    refine ⟨?_, g2⟩
    by_cases e : h = 1 ∧ a = nI p
    · rw [if_pos e]
      rcases hp with ⟨x0, -⟩ | ⟨-, p', x1, x2, x3⟩
      · rw [x0] at e
        exact absurd e.1 (by decide)
      · have : p' = p := by
          rw [x2, nJ_i (by omega) (by omega)] at e
          exact e.2
        subst this
        omega
    · rw [if_neg e]
      exact g1
end ADD
