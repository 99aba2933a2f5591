/-! items: a person -/
section IT4
variable {I J I1 I2 I3 J1 J2 J3 I' J' : Mem} {B : Nat → Int32} {n p r k m c s np ns nw D : Nat} {N N' M : Nat → Int32}
/-- rows that do not count may change -/
theorem RM.sk {q : Nat} (R : RM I q N np ns nw) (h0 : I' q = I q) (h1 : ∀ p, p < np → I' (q + 4 + p) = I (q + 4 + p)) (h2 : ∀ s, s < ns → I' (q + 10 + s) = I (q + 10 + s)) (h3 : ∀ w, w < nw → I' (q + 15 + w) = I (q + 15 + w)) : RM I' q N np ns nw :=
  ⟨R.1, R.2.1, by rw [h0]; exact R.h, fun p h => by rw [h1 p h]; exact R.p h, fun s h => by rw [h2 s h]; exact R.s h, fun w h => by rw [h3 w h]; exact R.w h⟩
theorem RM.addP {q : Nat} (R : RM I q N np ns nw) (h5 : np < 6) (hN : ∀ j, j ≠ 2 → j ≠ 7 → (j < 11 + 14 * np ∨ 11 + 14 * np + 13 < j) → N' j = N j) (n3 : N' 2 = nI (np + 1)) (hs : RP (I' (q + 4 + np)) N' np) (hf : (pN N' np 5 = 0 ∨ pN N' np 5 = 1) ∧ (pN N' np 6 = 0 ∨ pN N' np 6 = 1))
    (hI : ∀ a, q < a → a ≠ q + 4 + np → a ≤ q + 30 → I' a = I a) (hq : ∀ j, j ≠ 3 → j ≠ 13 → I' q j = I q j) (q4 : I' q 3 = nI (np + 1)) (q13 : I' q 13 = N' 7) : RM I' q N' (np + 1) ns nw := by
  have b1 := R.f.p.2
  have b2 := R.f.s.2
  have b3 := R.f.w.2
  have W := R.f
  obtain ⟨y, y1, y2⟩ := R.2.1
  have hw : ∀ w k, w < 16 → k < 15 → wN N' w k = wN N w k := fun w k h1 h2 => hN _ (by omega) (by omega) (by omega)
  have hp : ∀ p k, p < np → k < 14 → pN N' p k = pN N p k := fun p k h1 h2 => hN _ (by omega) (by omega) (by omega)
  have hs' : ∀ s k, s < 5 → k < 4 → sN N' s k = sN N s k := fun s k h1 h2 => hN _ (by omega) (by omega) (by omega)
  have cS : ∀ x : Int32, sStock N' nw x = sStock N nw x := fun x => sCnt_eq fun i hi => by rw [hw i 3 (by omega) (by decide), hw i 4 (by omega) (by decide)]
  have cO : ∀ x : Int32, sOwns N' nw x = sOwns N nw x := fun x => sCnt_eq fun i hi => by rw [hw i 3 (by omega) (by decide), hw i 4 (by omega) (by decide)]
  have c0 : sOwns N nw (nI np) = 0 := by
    have : ∀ i, i ≤ nw → sOwns N i (nI np) = 0 := by
      intro i
      induction i with
      | zero => intro _; rfl
      | succ i ih =>
        intro hi
        show sOwns N i (nI np) + (if wN N i 3 = 1 ∧ wN N i 4 = nI np then 1 else 0) = 0
        rw [ih (by omega), if_neg]
        rintro ⟨z1, z2⟩
        obtain ⟨z3, z4⟩ := W.a1 (show i < nw by omega) z1
        rw [z3, nJ_i (by omega) (by omega)] at z2
        omega
    exact this nw (Nat.le_refl _)
  refine ⟨⟨⟨⟨n3, by omega⟩, ⟨(hN 3 (by decide) (by decide) (by omega)).trans W.s.1, W.s.2⟩, ⟨(hN 4 (by decide) (by decide) (by omega)).trans W.w.1, W.w.2⟩⟩, by rw [hN 0 (by decide) (by decide) (by omega)]; exact W.y, fun w h => ?_, fun w h => ?_, fun s h => ?_, fun p h => ?_⟩, ⟨y, (hN 0 (by decide) (by decide) (by omega)).trans y1, y2⟩, ?_, fun p h => ?_, fun s h => ?_, fun w h => ?_⟩
  · have := W.2.2.1 w h
    unfold WY aT sE at this ⊢
    rw [hw w 3 (by omega) (by decide), hw w 4 (by omega) (by decide), hw w 5 (by omega) (by decide), hw w 7 (by omega) (by decide)]
    exact ⟨this.1, fun z => ⟨(this.2.1 z).1, Nat.lt_succ_of_lt (this.2.1 z).2⟩, this.2.2⟩
  · have := W.2.2.2.1 w h
    rw [hw w 0 (by omega) (by decide), hw w 2 (by omega) (by decide), hw w 3 (by omega) (by decide)]
    exact this
  · have := W.2.2.2.2.1 s h
    rw [cS, hs' s 0 (by omega) (by decide), hs' s 2 (by omega) (by decide), hs' s 3 (by omega) (by decide)]
    exact this
  · rw [cO]
    by_cases e : p = np
    · subst e
      rw [c0]
      exact ⟨Nat.zero_le _, hf⟩
    · have := W.2.2.2.2.2 p (by omega)
      rw [hp p 5 (by omega) (by decide), hp p 6 (by omega) (by decide)]
      exact this
  · have := R.h
    unfold RH at this ⊢
    rw [hq 4 (by decide) (by decide), q4, n3, hq 5 (by decide) (by decide), hq 6 (by decide) (by decide), hq 7 (by decide) (by decide), hq 8 (by decide) (by decide), hq 9 (by decide) (by decide), hq 10 (by decide) (by decide), hq 11 (by decide) (by decide), hq 12 (by decide) (by decide), q13, hN 3 (by decide) (by decide) (by omega), hN 4 (by decide) (by decide) (by omega), hN 1 (by decide) (by decide) (by omega), hN 0 (by decide) (by decide) (by omega), hN 5 (by decide) (by decide) (by omega), hN 6 (by decide) (by decide) (by omega), hN 8 (by decide) (by decide) (by omega), hN 9 (by decide) (by decide) (by omega), hN 10 (by decide) (by decide) (by omega)]
    exact ⟨⟨rfl, this.1.2⟩, this.2.1, this.2.2.1, this.2.2.2.1, this.2.2.2.2.1, rfl⟩
  · by_cases e : p = np
    · rw [e]; exact hs
    · have := R.p (show p < np by omega)
      have e2 : sNm N' (11 + 14 * p + 7) = sNm N (11 + 14 * p + 7) := by
        unfold sNm
        rw [hN _ (by omega) (by omega) (by omega), hN _ (by omega) (by omega) (by omega), hN _ (by omega) (by omega) (by omega), hN _ (by omega) (by omega) (by omega), hN _ (by omega) (by omega) (by omega), hN _ (by omega) (by omega) (by omega), hN _ (by omega) (by omega) (by omega)]
      unfold RP at this ⊢
      rw [hI _ (by omega) (by omega) (by omega), e2, hp p 0 (by omega) (by decide), hp p 1 (by omega) (by decide), hp p 2 (by omega) (by decide), hp p 3 (by omega) (by decide), hp p 4 (by omega) (by decide), hp p 5 (by omega) (by decide), hp p 6 (by omega) (by decide)]
      exact this
  · have := R.s h
    unfold RS at this ⊢
    rw [hI _ (by omega) (by omega) (by omega), hs' s 0 (by omega) (by decide), hs' s 1 (by omega) (by decide), hs' s 2 (by omega) (by decide), hs' s 3 (by omega) (by decide)]
    exact this
  · have := R.w h
    have e : sNm N' (115 + 15 * w + 8) = sNm N (115 + 15 * w + 8) := by
      unfold sNm
      rw [hN _ (by omega) (by omega) (by omega), hN _ (by omega) (by omega) (by omega), hN _ (by omega) (by omega) (by omega), hN _ (by omega) (by omega) (by omega), hN _ (by omega) (by omega) (by omega), hN _ (by omega) (by omega) (by omega), hN _ (by omega) (by omega) (by omega)]
    unfold RW at this ⊢
    rw [hI _ (by omega) (by omega) (by omega), e, hw w 0 (by omega) (by decide), hw w 1 (by omega) (by decide), hw w 2 (by omega) (by decide), hw w 3 (by omega) (by decide), hw w 4 (by omega) (by decide), hw w 5 (by omega) (by decide), hw w 6 (by omega) (by decide), hw w 7 (by omega) (by decide)]
    exact this
theorem PG.addP (G : PG N np ns nw D) (h5 : np < 6) (b2 : ns ≤ 5) (b3 : nw ≤ 16) (hN : ∀ j, j ≠ 2 → j ≠ 7 → (j < 11 + 14 * np ∨ 11 + 14 * np + 13 < j) → N' j = N j) {v u y : Nat} (hv : pN N' np 0 = nI v) (h9 : v ≤ 999) (hu : pN N' np 1 = nI u) (hy : N 0 = nI y) (hy6 : y ≤ 60) (huy : u < y) (hn : NmOk N' (11 + 14 * np + 7)) : PG N' (np + 1) ns nw D := by
  obtain ⟨⟨⟨y', f1, f2, f3, f4⟩, f5, f6⟩, ⟨d, h2, h3⟩, ⟨c1, c2, c3⟩, hX⟩ := G
  have hp : ∀ p k, p < np → k < 14 → pN N' p k = pN N p k := fun p k h1 h2 => hN _ (by omega) (by omega) (by omega)
  have hs' : ∀ s k, s < ns → k < 4 → sN N' s k = sN N s k := fun s k h1 h2 => hN _ (by omega) (by omega) (by omega)
  have ek : cSum N' (np + 1) = cSum N np + v := by
    show cSum N' np + nT (pN N' np 0) = _
    rw [cSum_eq np (fun p hs => hp p 0 hs (by decide)), hv, nT_n (by omega)]
  refine ⟨⟨⟨y', (hN 0 (by decide) (by decide) (by omega)).trans f1, f2, f3, fun p h => ?_⟩, fun p h => ?_, fun w h => (f6 w h).cg fun j _ _ => hN j (by omega) (by omega) (by omega)⟩, ⟨d, (hN 1 (by decide) (by decide) (by omega)).trans h2, h3⟩, ⟨fun p h => ?_, fun s h => ?_, ?_⟩, hX.congr (hN 6 (by decide) (by decide) (by omega)) (hN 10 (by decide) (by decide) (by omega)) (fun w h => ⟨hN _ (by omega) (by omega) (by omega), hN _ (by omega) (by omega) (by omega), hN _ (by omega) (by omega) (by omega)⟩)⟩
  · by_cases e : p = np
    · rw [e]
      have e9 : y = y' := by
        rw [f1, nJ_i (by omega) (by omega)] at hy
        exact hy.symm
      exact ⟨u, hu, by omega⟩
    · obtain ⟨b, e1, e2⟩ := f4 p (by omega)
      exact ⟨b, (hp p 1 (by omega) (by decide)).trans e1, e2⟩
  · by_cases e : p = np
    · rw [e]; exact hn
    · exact (f5 p (by omega)).cg fun j _ _ => hN j (by omega) (by omega) (by omega)
  · by_cases e : p = np
    · rw [e, hv, nT_n (by omega)]
    · rw [hp p 0 (by omega) (by decide)]; exact c1 p (by omega)
  · rw [hs' s 1 (by omega) (by decide)]; exact c2 s h
  · rw [ek, kSum_eq ns (fun s h => hs' s 1 h (by decide))]
    omega
/-! habits -/
theorem sif_y {x : Nat} (h : Af I J r m B n p) (hx : x < 25) (hw : Wd B n p x) : ∃ I', f_X7_scanIfWord I k (r + 1) x = some (1, I', tK B n p) ∧ Ld I' J r m B n p ∧ It I I' r := by
  obtain ⟨I1, g1, g2, g3⟩ := h.scan (k := k)
  refine ⟨I1, ?_, g2, g3⟩
  unfold f_X7_scanIfWord
  rw [g1, b2_so, g2.word hx hw, b3_so, if_neg (by decide)]
theorem sif_n {x : Nat} (h : Af I J r m B n p) (hx : x < 25) (hw : ¬ Wd B n p x) : ∃ I', f_X7_scanIfWord I k (r + 1) x = some (0, I', tK B n p) ∧ Af I' J r m B n p ∧ It I I' r := by
  obtain ⟨I1, g1, g2, g3⟩ := h.scan (k := k)
  refine ⟨u2 I1 (r + 1) 3 (nI p), ?_, ⟨h.1, ⟨⟨?_, u2_s⟩, fun i hi => ?_⟩, h.2.2⟩, fun a ha => by rw [u2_a ha]; exact g3 a ha⟩
  · unfold f_X7_scanIfWord
    rw [g1, b2_so, g2.noword hx hw, b3_so, if_pos rfl, h.2.1.1.2, pu_so, b1_so]
  · rw [u2_k (by decide)]; exact g2.2.1.1.1.1
  · rw [u2_a (by omega)]; exact g2.2.1.1.2 i hi
theorem fs_hab {y : Nat} (h : Flt J m c s) : f_Y_readsHabits J m (nI y) = some J := by
  obtain ⟨F, hF⟩ := FU8
  unfold f_Y_readsHabits
  rw [hF]
  show (b1 (f_Y_isWord J m 20) fun v1 => if v1 = 0 then (b1 (f_Y_isWord J m 21) fun v13 => if v13 = 0 then (some J) else _) else _) = _
  rw [fs_word h, b1_so, if_pos rfl, fs_word h, b1_so, if_pos rfl]
/-- how the habits end -/
def HbO (np : Nat) (I J : Mem) (r m : Nat) (B : Nat → Int32) (n p : Nat) (C : Option (Except String Unit × Mem × Nat)) (R : Option Mem) : Prop :=
    (∃ I' J' k' p' a' b', (C = some (.ok (), I', k') ∧ R = some J' ∧ k' < 7) ∧ (Af I' J' r m B n p' ∧ Fl B p p') ∧ ((∀ x, x ≠ r + 1 → x ≠ r + 3 + 4 + np → I' x = I x) ∧ ∀ j, j ≠ 6 → j ≠ 7 → I' (r + 3 + 4 + np) j = I (r + 3 + 4 + np) j) ∧ (Jq J J' m ∧ ∀ j, j ≠ 11 + 14 * np + 5 → j ≠ 11 + 14 * np + 6 → J' (m + 1) j = J (m + 1) j) ∧ (a' ≤ 1 ∧ b' ≤ 1) ∧ (I' (r + 3 + 4 + np) 6 = nI a' ∧ I' (r + 3 + 4 + np) 7 = nI b') ∧ pN (J' (m + 1)) np 5 = nI a' ∧ pN (J' (m + 1)) np 6 = nI b') ∨
    (∃ c s I' J' k', (C = some (.error eIA, I', k') ∧ R = some J' ∧ k' < 7) ∧ (I' r 2 = nI c ∧ I' r 3 = nI s ∧ Flt J' m c s) ∧ ((∀ x, x ≠ r → x ≠ r + 1 → x ≠ r + 3 + 4 + np → I' x = I x) ∧ (cB (I' (r + 3 + 4 + np) 6) = some () ∧ cB (I' (r + 3 + 4 + np) 7) = some ())) ∧ Jq J J' m)
theorem Jq.trans (h : Jq J J1 m) (g : Jq J1 J2 m) : Jq J J2 m := ⟨fun a h1 h2 => (g.1 a h1 h2).trans (h.1 a h1 h2), fun j hj => (g.2 j hj).trans (h.2 j hj)⟩
theorem HbO.of {q : Nat} {C : Option (Except String Unit × Mem × Nat)} {R : Option Mem} (h : HbO np I1 J1 r m B n q C R) (hF : Fl B p q) (h1 : (∀ x, x ≠ r + 1 → x ≠ r + 3 + 4 + np → I1 x = I x) ∧ ∀ j, j ≠ 6 → j ≠ 7 → I1 (r + 3 + 4 + np) j = I (r + 3 + 4 + np) j) (h2 : Jq J J1 m ∧ ∀ j, j ≠ 11 + 14 * np + 5 → j ≠ 11 + 14 * np + 6 → J1 (m + 1) j = J (m + 1) j) : HbO np I J r m B n p C R := by
  rcases h with ⟨I', J', k', p', a', b', g1, ⟨g2, g3⟩, g4, g5, g6⟩ | ⟨c, s, I', J', k', g1, g2, ⟨g3, g4⟩, g5⟩
  · exact Or.inl ⟨I', J', k', p', a', b', g1, ⟨g2, hF.trans g3⟩, ⟨fun x z1 z2 => (g4.1 x z1 z2).trans (h1.1 x z1 z2), fun j z1 z2 => (g4.2 j z1 z2).trans (h1.2 j z1 z2)⟩, ⟨h2.1.trans g5.1, fun j z1 z2 => (g5.2 j z1 z2).trans (h2.2 j z1 z2)⟩, g6⟩
  · exact Or.inr ⟨c, s, I', J', k', g1, g2, ⟨fun x z1 z2 z3 => (g3 x z1 z2 z3).trans (h1.1 x z2 z3), g4⟩, h2.1.trans g5⟩
theorem hb_d {g : Nat} {x2 : Int32} (hk : ∀ (c s : Nat) (J : Mem), Flt J m c s → l_Y_readsHabits_0 g J m (nI np) = some J) (hnp : np < 6) {J : Mem} {c s kk : Nat} (hx : x2 = nI kk) (hkk : kk < 14) (h : Flt J m c s) : l_Y_readsHabits_49 (l_Y_readsHabits_0 g) J m (nI np) x2 = some (sM J m (upd (J (m + 1)) (11 + 14 * np + kk) 1)) := by
  unfold l_Y_readsHabits_49
  rw [hx, pp_row hnp hkk, b1_so, fs_goes h.sm, b1_so, hk c s _ h.sm]
theorem hab_go (hnp : np < 6) : ∀ d a b : Nat, a ≤ 1 → b ≤ 1 → a + b + d = 2 → ∀ f f', d + 1 < f → d + 1 < f' → ∀ I J k p, k < 7 → Af I J r m B n p → I (r + 3 + 4 + np) 6 = nI a → I (r + 3 + 4 + np) 7 = nI b → pN (J (m + 1)) np 5 = nI a → pN (J (m + 1)) np 6 = nI b →
    HbO np I J r m B n p (l_X5_readHabits_4 f I k r (r + 3 + 4 + np) 1 (nI (a + b))) (l_Y_readsHabits_0 f' J m (nI np)) := by
  have hcb : ∀ a, a ≤ 1 → cB (nI a) = some () := by decide
  intro d
  induction d using Nat.strongRecOn with
  | _ d ih =>
    intro a b ha hb hd f f' hf hf' I J k p k7 A i6 i7 q5 q6
    obtain ⟨f, rfl⟩ : ∃ g, f = g + 1 := ⟨f - 1, by omega⟩
    obtain ⟨f', rfl⟩ : ∃ g, f' = g + 1 := ⟨f' - 1, by omega⟩
    have kt := tK_7 (B := B) (n := n) (p := p)
    have e2 : ¬ (2 : Int32) < nI (a + b) := by
      rw [show (2 : Int32) = nI 2 from rfl, ilt (by omega) (by omega)]
      omega
    have hfl : ∀ (c s : Nat) (J : Mem), Flt J m c s → l_Y_readsHabits_0 f' J m (nI np) = some J := fun c s J F => by
      obtain ⟨g, rfl⟩ : ∃ g, f' = g + 1 := ⟨f' - 1, by omega⟩
      show (b1 (f_Y_isWord J m 20) fun v1 => if v1 = 0 then (b1 (f_Y_isWord J m 21) fun v13 => if v13 = 0 then (some J) else _) else _) = _
      rw [fs_word F, b1_so, if_pos rfl, fs_word F, b1_so, if_pos rfl]
    have cpre : l_X5_readHabits_4 (f + 1) I k r (r + 3 + 4 + np) 1 (nI (a + b)) = (b3 (f_X7_scanIfWord I k (r + 1) 20) fun v1 I2 k3 => if v1 = 0 then (b3 (f_X7_scanIfWord I2 k3 (r + 1) 21) fun v5 I6 k7 => if v5 = 0 then (l_X5_readHabits_4 f I6 k7 r (r + 3 + 4 + np) 0 (nI (a + b) + 1)) else (if (I6 (r + 3 + 4 + np) 7) = 0 then (l_X5_readHabits_77 (l_X5_readHabits_4 f) I6 k7 r (r + 3 + 4 + np) 1 (nI (a + b)) 1) else (l_X5_readHabits_77 (l_X5_readHabits_4 f) I6 k7 r (r + 3 + 4 + np) 1 (nI (a + b)) 0))) else (if (I2 (r + 3 + 4 + np) 6) = 0 then (l_X5_readHabits_39 (l_X5_readHabits_4 f) I2 k3 r (r + 3 + 4 + np) 1 (nI (a + b)) 1) else (l_X5_readHabits_39 (l_X5_readHabits_4 f) I2 k3 r (r + 3 + 4 + np) 1 (nI (a + b)) 0))) := by
      show (if (1 : Int32) = 0 then _ else (if 2 < nI (a + b) then _ else _)) = _
      rw [if_neg (by decide), if_neg e2]
    have rpre : l_Y_readsHabits_0 (f' + 1) J m (nI np) = (b1 (f_Y_isWord J m 20) fun v1 => if v1 = 0 then (b1 (f_Y_isWord J m 21) fun v13 => if v13 = 0 then (some (J)) else (l_Y_readsHabits_18 (l_Y_readsHabits_0 f') J m (nI np))) else (l_Y_readsHabits_18 (l_Y_readsHabits_0 f') J m (nI np))) := rfl
    rw [cpre, rpre]
    have o5 := op_row (J := J) (m := m) (w := np) (k := 5) hnp (by decide)
    have o6 := op_row (J := J) (m := m) (w := np) (k := 6) hnp (by decide)
    rw [q5] at o5
    rw [q6] at o6
    have o5 : f_Y_ofPerson J m (nI np) 5 = some (nI a) := o5
    have o6 : f_Y_ofPerson J m (nI np) 6 = some (nI b) := o6
    by_cases w20 : Wd B n p 20
    · obtain ⟨I2, g1, g2, g3⟩ := sif_y (k := k) A (by decide) w20
      have rw20 := A.2.2.word A.1 (by decide) w20
      have j6 : I2 (r + 3 + 4 + np) 6 = nI a := by rw [g3 _ (by omega)]; exact i6
      have j7 : I2 (r + 3 + 4 + np) 7 = nI b := by rw [g3 _ (by omega)]; exact i7
      rw [g1, b3_so, if_neg (show ¬ (1 : Int32) = 0 from by decide), rw20, b1_so, if_neg (show ¬ (1 : Int32) = 0 from by decide)]
      unfold l_Y_readsHabits_18
      rw [rw20, b1_so, if_neg (show ¬ (1 : Int32) = 0 from by decide)]
      unfold l_Y_readsHabits_33
      rw [o5, b1_so, j6]
      by_cases h0 : a = 0
      · subst h0
        rw [if_pos (show nI 0 = 0 from rfl), if_neg (by decide)]
        unfold l_X5_readHabits_39 l_Y_readsHabits_49
        have L4 : Ld (u2 I2 (r + 3 + 4 + np) 6 1) (sM J m (upd (J (m + 1)) (11 + 14 * np + 5) 1)) r m B n p := (g2.cl (u2_a (by omega)) (u2_a (by omega))).sm
        obtain ⟨J4, z1, z2, z3⟩ := L4.goes
        have pp : f_Y_putsPerson J m (nI np) 5 1 = some (sM J m (upd (J (m + 1)) (11 + 14 * np + 5) 1)) := pp_row (k := 5) hnp (by decide)
        have hJ4 : J4 (m + 1) = upd (J (m + 1)) (11 + 14 * np + 5) 1 := (z3.1 _ (by omega)).trans sM_s
        rw [req_ok, e2_ok, pu_so, b1_so, pp, b1_so, z1, b1_so, nI_s1, show 0 + b + 1 = 1 + b by omega]
        refine (ih (d - 1) (by omega) 1 b (Nat.le_refl _) hb (by omega) f f' (by omega) (by omega) _ J4 _ _ kt z2 u2_s (by rw [u2_k (by decide)]; exact j7) (by rw [hJ4]; exact upd_s) (by rw [hJ4]; show upd _ _ _ (11 + 14 * np + 6) = _; rw [upd_n (by omega)]; exact q6)).of (fl_1 w20.1) ⟨fun x z1 z2 => by rw [u2_a z2, g3 x z1], fun j z1 z2 => by rw [u2_k z1, g3 _ (by omega)]⟩ ⟨Jq.refl.sm.jt z3, fun j z1 z2 => by rw [hJ4, upd_n z1]⟩
      · have h1 : a = 1 := by omega
        subst h1
        obtain ⟨I4, J4, w1, w2, w3, w4, w5⟩ := cf_step g2 (c := 3) (by decide)
        rw [if_neg (by decide), if_pos (show nI 1 = 1 from rfl), show (3 : Int32) = nI 3 from rfl, w3, b1_so, hb_d (x2 := 5) hfl hnp (kk := 5) rfl (by decide) w4]
        unfold l_X5_readHabits_39
        rw [show (3 : Int32) = nI 3 from rfl, w1, e2_er]
        refine Or.inr ⟨3, tS B n p, I4, _, tK B n p, ⟨rfl, rfl, kt⟩, ⟨w2.2.1, w2.2.2, w4.sm⟩, ⟨fun x z1 z2 z3 => (w2.1 x z1 z2).trans (g3 x z2), ?_, ?_⟩, (Jq.refl.jf w5).sm⟩
        · rw [w2.1 _ (by omega) (by omega), j6]; exact hcb 1 (by decide)
        · rw [w2.1 _ (by omega) (by omega), j7]; exact hcb b hb
    · obtain ⟨I2, g1, g2, g3⟩ := sif_n (k := k) A (by decide) w20
      have rw20 := A.2.2.noword A.1 (by decide) w20
      rw [g1, b3_so, if_pos rfl, rw20, b1_so, if_pos rfl]
      by_cases w21 : Wd B n p 21
      · obtain ⟨I3, x1, x2, x3⟩ := sif_y (k := tK B n p) g2 (by decide) w21
        have rw21 := A.2.2.word A.1 (by decide) w21
        have S3 : It I I3 r := g3.trans x3
        have j6 : I3 (r + 3 + 4 + np) 6 = nI a := by rw [S3 _ (by omega)]; exact i6
        have j7 : I3 (r + 3 + 4 + np) 7 = nI b := by rw [S3 _ (by omega)]; exact i7
        rw [x1, b3_so, if_neg (show ¬ (1 : Int32) = 0 from by decide), rw21, b1_so, if_neg (show ¬ (1 : Int32) = 0 from by decide)]
        unfold l_Y_readsHabits_18
        rw [rw20, b1_so, if_pos rfl]
        unfold l_Y_readsHabits_33
        rw [o6, b1_so, j7]
        by_cases h0 : b = 0
        · subst h0
          rw [if_pos (show nI 0 = 0 from rfl), if_neg (by decide)]
          unfold l_X5_readHabits_77 l_Y_readsHabits_49
          have L4 : Ld (u2 I3 (r + 3 + 4 + np) 7 1) (sM J m (upd (J (m + 1)) (11 + 14 * np + 6) 1)) r m B n p := (x2.cl (u2_a (by omega)) (u2_a (by omega))).sm
          obtain ⟨J4, z1, z2, z3⟩ := L4.goes
          have pp : f_Y_putsPerson J m (nI np) 6 1 = some (sM J m (upd (J (m + 1)) (11 + 14 * np + 6) 1)) := pp_row (k := 6) hnp (by decide)
          have hJ4 : J4 (m + 1) = upd (J (m + 1)) (11 + 14 * np + 6) 1 := (z3.1 _ (by omega)).trans sM_s
          rw [req_ok, e2_ok, pu_so, b1_so, pp, b1_so, z1, b1_so, nI_s1, show a + 0 + 1 = a + 1 by omega]
          refine (ih (d - 1) (by omega) a 1 ha (Nat.le_refl _) (by omega) f f' (by omega) (by omega) _ J4 _ _ kt z2 (by rw [u2_k (by decide)]; exact j6) u2_s (by rw [hJ4]; show upd _ _ _ (11 + 14 * np + 5) = _; rw [upd_n (by omega)]; exact q5) (by rw [hJ4]; exact upd_s)).of (fl_1 w21.1) ⟨fun x z1 z2 => by rw [u2_a z2, S3 x z1], fun j z1 z2 => by rw [u2_k z2, S3 _ (by omega)]⟩ ⟨Jq.refl.sm.jt z3, fun j z1 z2 => by rw [hJ4, upd_n z2]⟩
        · have h1 : b = 1 := by omega
          subst h1
          obtain ⟨I4, J4, w1, w2, w3, w4, w5⟩ := cf_step x2 (c := 3) (by decide)
          rw [if_neg (by decide), if_pos (show nI 1 = 1 from rfl), show (3 : Int32) = nI 3 from rfl, w3, b1_so, hb_d (x2 := 6) hfl hnp (kk := 6) rfl (by decide) w4]
          unfold l_X5_readHabits_77
          rw [show (3 : Int32) = nI 3 from rfl, w1, e2_er]
          refine Or.inr ⟨3, tS B n p, I4, _, tK B n p, ⟨rfl, rfl, kt⟩, ⟨w2.2.1, w2.2.2, w4.sm⟩, ⟨fun x z1 z2 z3 => (w2.1 x z1 z2).trans (S3 x z2), ?_, ?_⟩, (Jq.refl.jf w5).sm⟩
          · rw [w2.1 _ (by omega) (by omega), j6]; exact hcb a ha
          · rw [w2.1 _ (by omega) (by omega), j7]; exact hcb 1 (by decide)
      · obtain ⟨I3, x1, x2, x3⟩ := sif_n (k := tK B n p) g2 (by decide) w21
        have rw21 := A.2.2.noword A.1 (by decide) w21
        have S3 : It I I3 r := g3.trans x3
        obtain ⟨f, rfl⟩ : ∃ g, f = g + 1 := ⟨f - 1, by omega⟩
        have e0 : l_X5_readHabits_4 (f + 1) I3 (tK B n p) r (r + 3 + 4 + np) 0 (nI (a + b) + 1) = some (.ok (), I3, tK B n p) := if_pos rfl
        rw [x1, b3_so, if_pos rfl, rw21, b1_so, if_pos rfl, e0]
        exact Or.inl ⟨I3, J, tK B n p, p, a, b, ⟨rfl, rfl, kt⟩, ⟨x2, Fl.refl⟩, ⟨fun x z1 _ => S3 x z1, fun j _ _ => by rw [S3 _ (by omega)]⟩, ⟨Jq.refl, fun _ _ _ => rfl⟩, ⟨ha, hb⟩, ⟨by rw [S3 _ (by omega)]; exact i6, by rw [S3 _ (by omega)]; exact i7⟩, q5, q6⟩
end IT4

