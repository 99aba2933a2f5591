/-! names: the class packs them, the reference keeps the letters -/
section NMS
variable {I J I1 J1 : Mem} {B : Nat → Int32} {n p r k m a b : Nat} {N M : Nat → Int32}
theorem sm_eq (H : NmOk N a) (G : NmOk M b) : sNm N a = sNm M b ↔ (N a = M b ∧ ∀ i, i < (N a).toInt.toNat → N (a + 1 + i) = M (b + 1 + i)) := by
  constructor
  · intro h
    obtain ⟨l1, a1, a2, a3, a4, a5, a6⟩ := lk_nm H
    obtain ⟨l2, c1, c2, c3, c4, c5, c6⟩ := lk_nm G
    have e : (N a).toInt.toNat = l1 := by
      rw [a1, nI_toInt (by omega)]
      omega
    have hk : ∀ k, k < 6 → sLt N a l1 k = sLt M b l2 k := fun k hk => by
      have h1 := a6 k hk
      rw [h, c6 k hk, nJ_i (by have := c4 k; omega) (by have := a4 k; omega)] at h1
      exact h1.symm
    have hl : l1 = l2 := by
      rcases Nat.lt_trichotomy l1 l2 with h1 | h1 | h1
      · have h2 := hk l1 (by omega)
        rw [a5 l1 (Nat.le_refl _)] at h2
        have := (c3 l1 h1).2
        omega
      · exact h1
      · have h2 := hk l2 (by omega)
        rw [c5 l2 (Nat.le_refl _)] at h2
        have := (a3 l2 h1).2
        omega
    refine ⟨by rw [a1, c1, hl], fun i hi => ?_⟩
    rw [(a3 i (by omega)).1, (c3 i (by omega)).1, hk i (by omega)]
  · rintro ⟨h1, h2⟩
    obtain ⟨l, e1, e2, e3, -⟩ := H
    have e : (N a).toInt.toNat = l := by
      rw [e1, nI_toInt (by omega)]
      omega
    have T : ∀ i, i < 6 → ∀ s, (if nI i < nI l then ((N (a + 1 + i) - 96) <<< s) else 0) = (if nI i < nI l then ((M (b + 1 + i) - 96) <<< s) else 0) := fun i hi s => by
      by_cases h : i < l
      · rw [h2 i (by omega)]
      · rw [if_neg (by rw [ilt (by omega) (by omega)]; exact h), if_neg (by rw [ilt (by omega) (by omega)]; exact h)]
    have T0 : (if nI 0 < nI l then (N (a + 1) - 96) else 0) = (if nI 0 < nI l then (M (b + 1) - 96) else 0) := by
      have := h2 0 (by omega)
      rw [show N (a + 1) = M (b + 1) from this]
    have t1 := T 1 (by decide) 5
    have t2 := T 2 (by decide) 10
    have t3 := T 3 (by decide) 15
    have t4 := T 4 (by decide) 20
    have t5 := T 5 (by decide) 25
    unfold sNm sNmF
    rw [← h1, e1]
    have C : ∀ {x0 x1 x2 x3 x4 x5 y0 y1 y2 y3 y4 y5 : Int32}, x0 = y0 → x1 = y1 → x2 = y2 → x3 = y3 → x4 = y4 → x5 = y5 → (((((x0 ||| x1) ||| x2) ||| x3) ||| x4) ||| x5) = (((((y0 ||| y1) ||| y2) ||| y3) ||| y4) ||| y5) := by
      intro x0 x1 x2 x3 x4 x5 y0 y1 y2 y3 y4 y5 h0 h1 h2 h3 h4 h5
      rw [h0, h1, h2, h3, h4, h5]
    exact C T0 t1 t2 t3 t4 t5
/-- the name that a word is -/
def tN (B : Nat → Int32) (n p : Nat) : Nat → Int32 := fun j => if j = 0 then nI (tE B n p - tS B n p) else B (tS B n p + (j - 1))
theorem tN_0 : tN B n p 0 = nI (tE B n p - tS B n p) := rfl
theorem tN_s {i : Nat} : tN B n p (0 + 1 + i) = B (tS B n p + i) := by
  unfold tN
  rw [if_neg (by omega)]
  congr 1
  omega
theorem tN_ok (hk : tK B n p = 1) (hl : tE B n p - tS B n p ≤ 6) : NmOk (tN B n p) 0 := by
  obtain ⟨h1, h2, h3⟩ := tK_1 hk
  refine ⟨tE B n p - tS B n p, tN_0, by omega, hl, fun i hi => ?_⟩
  rw [tN_s]
  exact ltr (rn_in (B := B) (lo := 97) (hi := 122) (n := n) (p := tS B n p) (by omega) (by show _ < tA B n p; omega)).2
theorem pk_step {f i l s : Nat} {x : Int32} (h3 : I (r + 1) 3 = nI (s + l)) (h4 : I (r + 1) 4 = nI s) (hs : s + l ≤ 500) (hi : i < 8) (hb : ∀ i, i < l → I (r + 1 + 1) (s + i) = B (s + i)) : l_X7_packedName_4 (f + 1) I (r + 1) x (nI i) = if i < l ∧ i < 6 then l_X7_packedName_4 f I (r + 1) (x ||| ((B (s + i) - 96) <<< nI (5 * i))) (nI (i + 1)) else some x := by
  show (if 6 ≤ nI i then some x else (b1 (f_X7_tokenLength I (r + 1)) fun v1 => if v1 ≤ nI i then (some x) else (b1 (ix ((I (r + 1) 4) + nI i) 500) fun j3 => l_X7_packedName_4 f I (r + 1) (x ||| (((I (r + 1 + 1) j3) - 96) <<< ((nI i * 5) &&& 31))) (nI i + 1)))) = _
  by_cases h6 : i < 6
  · rw [if_neg (show ¬ (6 : Int32) ≤ nI i from by rw [show (6 : Int32) = nI 6 from rfl, ile (by omega) (by omega)]; omega)]
    unfold f_X7_tokenLength
    rw [b1_so, h3, h4, pk_sub (by omega), show s + l - s = l by omega]
    by_cases hl : i < l
    · rw [if_neg (by rw [ile (by omega) (by omega)]; omega), nI_add, ix_n (by omega) (by decide), b1_so, hb i hl, lk_am i h6, nI_s1, if_pos ⟨hl, h6⟩]
    · rw [if_pos (by rw [ile (by omega) (by omega)]; omega), if_neg (fun z => hl z.1)]
  · rw [if_pos (show (6 : Int32) ≤ nI i from by rw [show (6 : Int32) = nI 6 from rfl, ile (by omega) (by omega)]; omega), if_neg (fun z => h6 z.2)]
theorem sh0 {x : Int32} : x <<< nI (5 * 0) = x := shl0
theorem pk_row (h : Ld I J r m B n p) (hk : tK B n p = 1) (hl : tE B n p - tS B n p ≤ 6) : f_X7_packedName I (r + 1) = some (sNm (tN B n p) 0) := by
  obtain ⟨⟨hn, hp⟩, ⟨⟨⟨-, h3⟩, hb⟩, h4⟩, -⟩ := h
  obtain ⟨q1, q2, q3⟩ := tK_1 hk
  have e2 := tE_le (B := B) hp
  obtain ⟨F, hF⟩ := FU8
  obtain ⟨l, hl0⟩ : ∃ l, tE B n p - tS B n p = l := ⟨_, rfl⟩
  obtain ⟨s, hs0⟩ : ∃ s, tS B n p = s := ⟨_, rfl⟩
  have h3' : I (r + 1) 3 = nI (s + l) := by rw [h3]; congr 1; omega
  rw [hs0] at h4
  have st : ∀ {f i : Nat} {x : Int32}, i < 8 → l_X7_packedName_4 (f + 1) I (r + 1) x (nI i) = if i < l ∧ i < 6 then l_X7_packedName_4 f I (r + 1) (x ||| ((B (s + i) - 96) <<< nI (5 * i))) (nI (i + 1)) else some x := fun {f i x} hi => pk_step h3' h4 (by omega) hi (fun i hi => hb _ (by omega))
  have er : sNm (tN B n p) 0 = sNmF (nI l) (B (s + 0)) (B (s + 1)) (B (s + 2)) (B (s + 3)) (B (s + 4)) (B (s + 5)) := by
    unfold sNm tN
    rw [hl0, hs0]
    rfl
  unfold f_X7_packedName
  rw [er, hF, show (0 : Int32) = nI 0 from rfl]
  unfold sNmF
  have o0 : ∀ {x : Int32}, nI 0 ||| x = x := fun {x} => Int32.zero_or
  have i1 : nI 1 = 1 := rfl
  rcases (show l = 1 ∨ l = 2 ∨ l = 3 ∨ l = 4 ∨ l = 5 ∨ l = 6 by omega) with e | e | e | e | e | e <;> rw [e] at st ⊢
  · rw [st (by decide), if_pos (by decide), st (by decide), if_neg (by decide), o0, sh0]
    rw [if_pos (show (0 : Int32) < nI 1 by decide), if_neg (show ¬ (1 : Int32) < nI 1 by decide), if_neg (show ¬ (2 : Int32) < nI 1 by decide), if_neg (show ¬ (3 : Int32) < nI 1 by decide), if_neg (show ¬ (4 : Int32) < nI 1 by decide), if_neg (show ¬ (5 : Int32) < nI 1 by decide)]
    simp only [Int32.or_zero]
  · rw [st (by decide), if_pos (by decide), st (by decide), if_pos (by decide), st (by decide), if_neg (by decide), o0, sh0]
    rw [if_pos (show (0 : Int32) < nI 2 by decide), if_pos (show (1 : Int32) < nI 2 by decide), if_neg (show ¬ (2 : Int32) < nI 2 by decide), if_neg (show ¬ (3 : Int32) < nI 2 by decide), if_neg (show ¬ (4 : Int32) < nI 2 by decide), if_neg (show ¬ (5 : Int32) < nI 2 by decide)]
    simp only [Int32.or_zero]
    rfl
  · rw [st (by decide), if_pos (by decide), st (by decide), if_pos (by decide), st (by decide), if_pos (by decide), st (by decide), if_neg (by decide), o0, sh0]
    rw [if_pos (show (0 : Int32) < nI 3 by decide), if_pos (show (1 : Int32) < nI 3 by decide), if_pos (show (2 : Int32) < nI 3 by decide), if_neg (show ¬ (3 : Int32) < nI 3 by decide), if_neg (show ¬ (4 : Int32) < nI 3 by decide), if_neg (show ¬ (5 : Int32) < nI 3 by decide)]
    simp only [Int32.or_zero]
    rfl
  · rw [st (by decide), if_pos (by decide), st (by decide), if_pos (by decide), st (by decide), if_pos (by decide), st (by decide), if_pos (by decide), st (by decide), if_neg (by decide), o0, sh0]
    rw [if_pos (show (0 : Int32) < nI 4 by decide), if_pos (show (1 : Int32) < nI 4 by decide), if_pos (show (2 : Int32) < nI 4 by decide), if_pos (show (3 : Int32) < nI 4 by decide), if_neg (show ¬ (4 : Int32) < nI 4 by decide), if_neg (show ¬ (5 : Int32) < nI 4 by decide)]
    simp only [Int32.or_zero]
    rfl
  · rw [st (by decide), if_pos (by decide), st (by decide), if_pos (by decide), st (by decide), if_pos (by decide), st (by decide), if_pos (by decide), st (by decide), if_pos (by decide), st (by decide), if_neg (by decide), o0, sh0]
    rw [if_pos (show (0 : Int32) < nI 5 by decide), if_pos (show (1 : Int32) < nI 5 by decide), if_pos (show (2 : Int32) < nI 5 by decide), if_pos (show (3 : Int32) < nI 5 by decide), if_pos (show (4 : Int32) < nI 5 by decide), if_neg (show ¬ (5 : Int32) < nI 5 by decide)]
    simp only [Int32.or_zero]
    rfl
  · rw [st (by decide), if_pos (by decide), st (by decide), if_pos (by decide), st (by decide), if_pos (by decide), st (by decide), if_pos (by decide), st (by decide), if_pos (by decide), st (by decide), if_pos (by decide), st (by decide), if_neg (by decide), o0, sh0]
    rw [if_pos (show (0 : Int32) < nI 6 by decide), if_pos (show (1 : Int32) < nI 6 by decide), if_pos (show (2 : Int32) < nI 6 by decide), if_pos (show (3 : Int32) < nI 6 by decide), if_pos (show (4 : Int32) < nI 6 by decide), if_pos (show (5 : Int32) < nI 6 by decide)]
    rfl
/-- the class has read a name, the reference looks at it -/
theorem name_step (h : Af I J r m B n p) :
    (∃ I', f_X5_readName I k r = some (.ok (sNm (tN B n p) 0), I', 1) ∧ (Ld I' J r m B n p ∧ It I I' r ∧ Fl B p (tE B n p)) ∧ (tK B n p = 1 ∧ tE B n p - tS B n p ≤ 6) ∧ f_Y_looksAtName J m = some J) ∨
    (∃ c I' J' k', k' < 7 ∧ f_X5_readName I k r = some (.error eIA, I', k') ∧ Ce I I' r c (tS B n p) ∧ f_Y_looksAtName J m = some J' ∧ Flt J' m c (tS B n p) ∧ Jf J J' m) := by
  obtain ⟨I1, g1, g2, g3⟩ := h.scan (k := k)
  have R := g2.2.2
  have h500 := g2.1
  have k7 := tK_7 (B := B) (n := n) (p := p)
  have i2 := is_row R (k := 1) (by decide)
  have e1 := tE_ge (B := B) (n := n) (p := p)
  have e2 := tE_le (B := B) h500.2
  rw [show nI (kc 1) = (2 : Int32) from rfl] at i2
  by_cases hk : tK B n p = 1
  · rw [bI_t hk] at i2
    have tl : f_X7_tokenLength I1 (r + 1) = some (nI (tE B n p - tS B n p)) := by
      unfold f_X7_tokenLength
      rw [g2.2.1.1.1.2, g2.2.1.2, pk_sub e1]
    have c26 : f_X5_readName I k r = (if 6 < nI (tE B n p - tS B n p) then (l_X5_readName_48 I1 1 r 0) else (l_X5_readName_48 I1 1 r 1)) := by
      unfold f_X5_readName l_X5_readName_26
      rw [g1, b2_so, ckK_n k7, b1_so, hk, if_pos rfl, req_ok, e2_ok, tl, b1_so]
    have rr : f_Y_looksAtName J m = (if nI (tE B n p - tS B n p) ≤ 6 then (some (J)) else (b1 (f_Y_faults J m 2) fun I3 => some (I3))) := by
      unfold f_Y_looksAtName
      rw [i2, b1_so, if_neg (by decide), R.2.1.1, R.2.1.2, pk_sub e1]
    by_cases hl : tE B n p - tS B n p ≤ 6
    · refine Or.inl ⟨I1, ?_, ⟨g2, g3, fl_1 hk⟩, ⟨hk, hl⟩, ?_⟩
      · rw [c26, if_neg (show ¬ (6 : Int32) < nI _ from by rw [show (6 : Int32) = nI 6 from rfl, ilt (by omega) (by omega)]; omega)]
        unfold l_X5_readName_48
        rw [req_ok, e2_ok, pk_row g2 hk hl, b1_so]
      · rw [rr, if_pos (show nI _ ≤ (6 : Int32) from by rw [show (6 : Int32) = nI 6 from rfl, ile (by omega) (by omega)]; exact hl)]
    · obtain ⟨J', f1, f2, f3⟩ := flt_row R (c := 2) (by decide)
      obtain ⟨I', q1, q2, q3⟩ := req_er (c := 2) g2.2.1.2
      refine Or.inr ⟨2, I', J', 1, by decide, ?_, ⟨fun a h1 h2 => (q2.1 a h1).trans (g3 a h2), q2.2⟩, ?_, f2, f3⟩
      · rw [c26, if_pos (show (6 : Int32) < nI _ from by rw [show (6 : Int32) = nI 6 from rfl, ilt (by omega) (by omega)]; omega)]
        unfold l_X5_readName_48
        rw [show (2 : Int32) = nI 2 from rfl, q1, e2_er]
      · rw [rr, if_neg (show ¬ nI _ ≤ (6 : Int32) from by rw [show (6 : Int32) = nI 6 from rfl, ile (by omega) (by omega)]; exact hl), show (2 : Int32) = nI 2 from rfl, f1, b1_so]
  · rw [bI_f hk] at i2
    obtain ⟨J', f1, f2, f3⟩ := flt_row R (c := 1) (by decide)
    obtain ⟨I', q1, q2, q3⟩ := req_er (c := 1) g2.2.1.2
    refine Or.inr ⟨1, I', J', tK B n p, k7, ?_, ⟨fun a h1 h2 => (q2.1 a h1).trans (g3 a h2), q2.2⟩, ?_, f2, f3⟩
    · unfold f_X5_readName l_X5_readName_26
      rw [g1, b2_so, ckK_n k7, b1_so, if_neg hk, show (1 : Int32) = nI 1 from rfl, q1, e2_er]
    · unfold f_Y_looksAtName
      rw [i2, b1_so, if_pos rfl, show (1 : Int32) = nI 1 from rfl, f1, b1_so]
/-! is the name taken? -/
theorem in_go {s l : Nat} (hs : s + l ≤ 500) (h14 : J m 14 = nI s) (ha : a + 6 < 355) (hl : l ≤ 6) : ∀ d i, i + d = l → ∀ f, d < f → ∃ v, l_Y_isNamed_14 f J m (nI a) (nI l) (nI i) = some v ∧ ((v = 1 ∧ ∀ j, i ≤ j → j < l → J (m + 1) (a + 1 + j) = J (m + 6) (s + j)) ∨ (v = 0 ∧ ¬ ∀ j, i ≤ j → j < l → J (m + 1) (a + 1 + j) = J (m + 6) (s + j))) := by
  intro d
  induction d with
  | zero =>
    intro i hi f hf
    obtain ⟨f, rfl⟩ : ∃ g, f = g + 1 := ⟨f - 1, by omega⟩
    refine ⟨1, ?_, Or.inl ⟨rfl, fun j h1 h2 => by omega⟩⟩
    show (if nI l ≤ nI i then _ else _) = _
    rw [if_pos (by rw [ile (by omega) (by omega)]; omega)]
  | succ d ih =>
    intro i hi f hf
    obtain ⟨f, rfl⟩ : ∃ g, f = g + 1 := ⟨f - 1, by omega⟩
    have head : l_Y_isNamed_14 (f + 1) J m (nI a) (nI l) (nI i) = if J (m + 1) (a + 1 + i) = J (m + 6) (s + i) then l_Y_isNamed_14 f J m (nI a) (nI l) (nI (i + 1)) else some 0 := by
      show (if nI l ≤ nI i then _ else (b1 (ix ((nI a + 1) + nI i) 355) fun j2 => b1 (ix ((J m 14) + nI i) 500) fun j3 => if (J (m + 1) j2) = (J (m + 6) j3) then (l_Y_isNamed_14 f J m (nI a) (nI l) (nI i + 1)) else (some (0)))) = _
      rw [if_neg (by rw [ile (by omega) (by omega)]; omega), nI_s1, nI_add, ix_n (by omega) (by decide), b1_so, h14, nI_add, ix_n (by omega) (by decide), b1_so, nI_s1]
    rw [head]
    by_cases he : J (m + 1) (a + 1 + i) = J (m + 6) (s + i)
    · rw [if_pos he]
      obtain ⟨v, g1, g2⟩ := ih (i + 1) (by omega) f (by omega)
      have e : (∀ j, i ≤ j → j < l → J (m + 1) (a + 1 + j) = J (m + 6) (s + j)) ↔ (∀ j, i + 1 ≤ j → j < l → J (m + 1) (a + 1 + j) = J (m + 6) (s + j)) := ⟨fun h j h1 h2 => h j (by omega) h2, fun h j h1 h2 => by
        by_cases e : j = i
        · rw [e]; exact he
        · exact h j (by omega) h2⟩
      exact ⟨v, g1, by rw [e]; exact g2⟩
    · rw [if_neg he]
      exact ⟨0, rfl, Or.inr ⟨rfl, fun h => he (h i (Nat.le_refl _) (by omega))⟩⟩
/-- the reference: has the slot the current word as its name -/
def Nmd (J : Mem) (m a s e : Nat) : Prop := J (m + 1) a = nI (e - s) ∧ ∀ j, j < e - s → J (m + 1) (a + 1 + j) = J (m + 6) (s + j)
theorem in_row {s e : Nat} (h13 : J m 13 = nI e) (h14 : J m 14 = nI s) (hs : s ≤ e ∧ e ≤ 500) (ha : a + 6 < 355) (H : NmOk (J (m + 1)) a) : ∃ v, f_Y_isNamed J m (nI a) ((J m 13) - (J m 14)) = some v ∧ ((v = 1 ∧ Nmd J m a s e) ∨ (v = 0 ∧ ¬ Nmd J m a s e)) := by
  obtain ⟨⟨h1, h2, h3⟩, h4⟩ := nm_c H
  unfold f_Y_isNamed
  rw [h13, h14, pk_sub hs.1, ix_n (by omega) (by decide), b1_so]
  by_cases hl : J (m + 1) a = nI (e - s)
  · have hl2 : (J (m + 1) a).toInt.toNat = e - s := by
      rw [hl, nI_toInt (by omega)]
      omega
    rw [if_pos hl]
    obtain ⟨v, g1, g2⟩ := in_go (J := J) (m := m) (a := a) (s := s) (l := e - s) (by omega) h14 ha (by omega) (e - s) 0 (Nat.zero_add _) FU (FU_up (by omega))
    refine ⟨v, g1, ?_⟩
    rcases g2 with ⟨g2, g3⟩ | ⟨g2, g3⟩
    · exact Or.inl ⟨g2, hl, fun j hj => g3 j (Nat.zero_le _) hj⟩
    · exact Or.inr ⟨g2, fun z => g3 fun j _ hj => z.2 j hj⟩
  · rw [if_neg hl]
    exact ⟨0, rfl, Or.inr ⟨rfl, fun z => hl z.1⟩⟩
theorem tk_go {s e ba st cnt : Nat} {x4 : Int32} (h13 : J m 13 = nI e) (h14 : J m 14 = nI s) (hs : s ≤ e ∧ e ≤ 500) (ha : ∀ i, i < cnt → ba + st * i + 6 < 355) (hc : cnt ≤ 16) (H : ∀ i, i < cnt → NmOk (J (m + 1)) (ba + st * i)) : ∀ d i, i + d = cnt → ∀ f, d < f → ∃ v, l_Y_isTaken_3 f J m (nI cnt) (nI ba) (nI st) x4 (nI i) = some v ∧ ((v = 1 ∧ ∃ j, (i ≤ j ∧ j < cnt) ∧ nI j ≠ x4 ∧ Nmd J m (ba + st * j) s e) ∨ (v = 0 ∧ ∀ j, i ≤ j → j < cnt → nI j ≠ x4 → ¬ Nmd J m (ba + st * j) s e)) := by
  intro d
  induction d with
  | zero =>
    intro i hi f hf
    obtain ⟨f, rfl⟩ : ∃ g, f = g + 1 := ⟨f - 1, by omega⟩
    refine ⟨0, ?_, Or.inr ⟨rfl, fun j h1 h2 => by omega⟩⟩
    show (if nI cnt ≤ nI i then _ else _) = _
    rw [if_pos (by rw [ile (by omega) (by omega)]; omega)]
  | succ d ih =>
    intro i hi f hf
    obtain ⟨f, rfl⟩ : ∃ g, f = g + 1 := ⟨f - 1, by omega⟩
    obtain ⟨v, g1, g2⟩ := ih (i + 1) (by omega) f (by omega)
    have rest : (nI i = x4 ∨ ¬ Nmd J m (ba + st * i) s e) → l_Y_isTaken_3 (f + 1) J m (nI cnt) (nI ba) (nI st) x4 (nI i) = l_Y_isTaken_3 f J m (nI cnt) (nI ba) (nI st) x4 (nI (i + 1)) → ∃ v, l_Y_isTaken_3 (f + 1) J m (nI cnt) (nI ba) (nI st) x4 (nI i) = some v ∧ ((v = 1 ∧ ∃ j, (i ≤ j ∧ j < cnt) ∧ nI j ≠ x4 ∧ Nmd J m (ba + st * j) s e) ∨ (v = 0 ∧ ∀ j, i ≤ j → j < cnt → nI j ≠ x4 → ¬ Nmd J m (ba + st * j) s e)) := fun hq he => by
      refine ⟨v, he.trans g1, ?_⟩
      rcases g2 with ⟨g2, j, j1, j2, j3⟩ | ⟨g2, g3⟩
      · exact Or.inl ⟨g2, j, ⟨by omega, j1.2⟩, j2, j3⟩
      · refine Or.inr ⟨g2, fun j k1 k2 k3 k4 => ?_⟩
        by_cases e : j = i
        · subst e
          exact hq.elim k3 (fun z => z k4)
        · exact g3 j (by omega) k2 k3 k4
    by_cases hx : nI i = x4
    · refine rest (Or.inl hx) ?_
      show (if nI cnt ≤ nI i then _ else (if nI i = x4 then (l_Y_isTaken_3 f J m (nI cnt) (nI ba) (nI st) x4 (nI i + 1)) else _)) = _
      rw [if_neg (by rw [ile (by omega) (by omega)]; omega), if_pos hx, nI_s1]
    · obtain ⟨u, k1, k2⟩ := in_row h13 h14 hs (ha i (by omega)) (H i (by omega))
      have head : l_Y_isTaken_3 (f + 1) J m (nI cnt) (nI ba) (nI st) x4 (nI i) = if u = 0 then (l_Y_isTaken_3 f J m (nI cnt) (nI ba) (nI st) x4 (nI (i + 1))) else some 1 := by
        show (if nI cnt ≤ nI i then _ else (if nI i = x4 then _ else (b1 (f_Y_isNamed J m (nI ba + (nI st * nI i)) ((J m 13) - (J m 14))) fun v1 => if v1 = 0 then (l_Y_isTaken_3 f J m (nI cnt) (nI ba) (nI st) x4 (nI i + 1)) else (some (1))))) = _
        rw [if_neg (by rw [ile (by omega) (by omega)]; omega), if_neg hx, pk_mul, nI_add, k1, b1_so, nI_s1]
      rcases k2 with ⟨rfl, k3⟩ | ⟨rfl, k3⟩
      · exact ⟨1, by rw [head, if_neg (by decide)], Or.inl ⟨rfl, i, ⟨Nat.le_refl _, by omega⟩, hx, k3⟩⟩
      · exact rest (Or.inr k3) (by rw [head, if_pos rfl])
/-- and the class -/
theorem hp_go {q np : Nat} {y : Int32} (h3 : I q 3 = nI np) (hc : np ≤ 6) : ∀ d i, i + d = np → ∀ f, d < f → ∃ v, l_X3_hasPersonNamed_2 f I q y (nI i) = some v ∧ ((v = 1 ∧ ∃ j, (i ≤ j ∧ j < np) ∧ I (q + 4 + j) 0 = y) ∨ (v = 0 ∧ ∀ j, i ≤ j → j < np → ¬ I (q + 4 + j) 0 = y)) := by
  intro d
  induction d with
  | zero =>
    intro i hi f hf
    obtain ⟨f, rfl⟩ : ∃ g, f = g + 1 := ⟨f - 1, by omega⟩
    refine ⟨0, ?_, Or.inr ⟨rfl, fun j h1 h2 => by omega⟩⟩
    show (if I q 3 ≤ nI i then _ else _) = _
    rw [h3, if_pos (by rw [ile (by omega) (by omega)]; omega)]
  | succ d ih =>
    intro i hi f hf
    obtain ⟨f, rfl⟩ : ∃ g, f = g + 1 := ⟨f - 1, by omega⟩
    obtain ⟨v, g1, g2⟩ := ih (i + 1) (by omega) f (by omega)
    have head : l_X3_hasPersonNamed_2 (f + 1) I q y (nI i) = if I (q + 4 + i) 0 = y then some 1 else l_X3_hasPersonNamed_2 f I q y (nI (i + 1)) := by
      show (if I q 3 ≤ nI i then _ else (b1 (ix (nI i) 6) fun j1 => if (I (q + 4 + j1) 0) = y then (some (1)) else (l_X3_hasPersonNamed_2 f I q y (nI i + 1)))) = _
      rw [h3, if_neg (by rw [ile (by omega) (by omega)]; omega), ixn6 (by omega), b1_so, nI_s1]
    by_cases he : I (q + 4 + i) 0 = y
    · exact ⟨1, by rw [head, if_pos he], Or.inl ⟨rfl, i, ⟨Nat.le_refl _, by omega⟩, he⟩⟩
    · refine ⟨v, by rw [head, if_neg he, g1], ?_⟩
      rcases g2 with ⟨g2, j, j1, j2⟩ | ⟨g2, g3⟩
      · exact Or.inl ⟨g2, j, ⟨by omega, j1.2⟩, j2⟩
      · refine Or.inr ⟨g2, fun j k1 k2 => ?_⟩
        by_cases e : j = i
        · rw [e]; exact he
        · exact g3 j (by omega) k2
theorem hw_go {q nw : Nat} {y x4 : Int32} (h3 : I q 5 = nI nw) (hc : nw ≤ 16) : ∀ d i, i + d = nw → ∀ f, d < f → ∃ v, l_X3_hasWishNamed_2 f I q y x4 (nI i) = some v ∧ ((v = 1 ∧ ∃ j, (i ≤ j ∧ j < nw) ∧ nI j ≠ x4 ∧ I (q + 15 + j) 0 = y) ∨ (v = 0 ∧ ∀ j, i ≤ j → j < nw → nI j ≠ x4 → ¬ I (q + 15 + j) 0 = y)) := by
  intro d
  induction d with
  | zero =>
    intro i hi f hf
    obtain ⟨f, rfl⟩ : ∃ g, f = g + 1 := ⟨f - 1, by omega⟩
    refine ⟨0, ?_, Or.inr ⟨rfl, fun j h1 h2 => by omega⟩⟩
    show (if I q 5 ≤ nI i then _ else _) = _
    rw [h3, if_pos (by rw [ile (by omega) (by omega)]; omega)]
  | succ d ih =>
    intro i hi f hf
    obtain ⟨f, rfl⟩ : ∃ g, f = g + 1 := ⟨f - 1, by omega⟩
    obtain ⟨v, g1, g2⟩ := ih (i + 1) (by omega) f (by omega)
    have head : l_X3_hasWishNamed_2 (f + 1) I q y x4 (nI i) = if nI i = x4 then l_X3_hasWishNamed_2 f I q y x4 (nI (i + 1)) else if I (q + 15 + i) 0 = y then some 1 else l_X3_hasWishNamed_2 f I q y x4 (nI (i + 1)) := by
      show (if I q 5 ≤ nI i then _ else (if nI i = x4 then (l_X3_hasWishNamed_2 f I q y x4 (nI i + 1)) else (b1 (ix (nI i) 16) fun j1 => if (I (q + 15 + j1) 0) = y then (some (1)) else (l_X3_hasWishNamed_2 f I q y x4 (nI i + 1))))) = _
      rw [h3, if_neg (by rw [ile (by omega) (by omega)]; omega), ixn16 (by omega), b1_so, nI_s1]
    by_cases hx : nI i = x4
    · refine ⟨v, by rw [head, if_pos hx, g1], ?_⟩
      rcases g2 with ⟨g2, j, j1, j2, j3⟩ | ⟨g2, g3⟩
      · exact Or.inl ⟨g2, j, ⟨by omega, j1.2⟩, j2, j3⟩
      · refine Or.inr ⟨g2, fun j k1 k2 k3 => ?_⟩
        by_cases e : j = i
        · rw [e] at k3; exact absurd hx k3
        · exact g3 j (by omega) k2 k3
    · by_cases he : I (q + 15 + i) 0 = y
      · exact ⟨1, by rw [head, if_neg hx, if_pos he], Or.inl ⟨rfl, i, ⟨Nat.le_refl _, by omega⟩, hx, he⟩⟩
      · refine ⟨v, by rw [head, if_neg hx, if_neg he, g1], ?_⟩
        rcases g2 with ⟨g2, j, j1, j2, j3⟩ | ⟨g2, g3⟩
        · exact Or.inl ⟨g2, j, ⟨by omega, j1.2⟩, j2, j3⟩
        · refine Or.inr ⟨g2, fun j k1 k2 k3 => ?_⟩
          by_cases e : j = i
          · rw [e]; exact he
          · exact g3 j (by omega) k2 k3
/-- both say the same of the current word -/
theorem nmd_iff (R : RTok J m B n p) (hk : tK B n p = 1) (hl : tE B n p - tS B n p ≤ 6) (hp : p ≤ n) (H : NmOk (J (m + 1)) a) : Nmd J m a (tS B n p) (tE B n p) ↔ sNm (J (m + 1)) a = sNm (tN B n p) 0 := by
  rw [sm_eq H (tN_ok hk hl)]
  have e2 := tE_le (B := B) hp
  have e0 := tE_ge (B := B) (n := n) (p := p)
  unfold Nmd
  rw [tN_0]
  constructor
  · rintro ⟨h1, h2⟩
    refine ⟨h1, fun i hi => ?_⟩
    have h5 := ((nm_c H).1).2.2
    rw [h1, nI_toInt (by omega)] at hi
    rw [tN_s, h2 i (by omega), R.1.2.2 _ (by omega)]
  · rintro ⟨h1, h2⟩
    refine ⟨h1, fun i hi => ?_⟩
    have h3 := h2 i (by rw [h1, nI_toInt (by omega)]; omega)
    rw [h3, tN_s, R.1.2.2 _ (by omega)]
/-- the reference writes the name down -/
theorem nw_go {s l : Nat} (hs : s + l ≤ 500) (ha : a + 6 < 355) (hl : l ≤ 6) : ∀ d i, i + d = l → ∀ f, d < f → ∀ J : Mem, J m 13 = nI (s + l) → J m 14 = nI s → ∃ M, l_Y_names_17 f J m (nI a) (nI i) = some (sM J m M) ∧ (∀ j, (j < a + 1 + i ∨ a + 1 + l ≤ j) → M j = J (m + 1) j) ∧ ∀ j, i ≤ j → j < l → M (a + 1 + j) = J (m + 6) (s + j) := by
  intro d
  induction d with
  | zero =>
    intro i hi f hf J h13 h14
    obtain ⟨f, rfl⟩ : ∃ g, f = g + 1 := ⟨f - 1, by omega⟩
    refine ⟨J (m + 1), ?_, fun j _ => rfl, fun j h1 h2 => by omega⟩
    show (if ((J m 13) - (J m 14)) ≤ nI i then _ else _) = _
    rw [h13, h14, pk_sub (by omega), if_pos (by rw [ile (by omega) (by omega)]; omega), sM_i]
  | succ d ih =>
    intro i hi f hf J h13 h14
    obtain ⟨f, rfl⟩ : ∃ g, f = g + 1 := ⟨f - 1, by omega⟩
    obtain ⟨M, g1, g2, g3⟩ := ih (i + 1) (by omega) f (by omega) (u2 J (m + 1) (a + 1 + i) (J (m + 6) (s + i))) (by rw [u2_a (by omega)]; exact h13) (by rw [u2_a (by omega)]; exact h14)
    have hsm : sM (u2 J (m + 1) (a + 1 + i) (J (m + 6) (s + i))) m M = sM J m M := by
      funext b
      by_cases hb : b = m + 1
      · rw [hb, sM_s, sM_s]
      · rw [sM_n hb, sM_n hb, u2_a hb]
    rw [hsm] at g1
    refine ⟨M, ?_, fun j hj => ?_, fun j h1 h2 => ?_⟩
    · show (if ((J m 13) - (J m 14)) ≤ nI i then _ else (b1 (ix ((J m 14) + nI i) 500) fun j3 => b1 (ix ((nI a + 1) + nI i) 355) fun j4 => b1 (pu J (m + 1) j4 (J (m + 6) j3)) fun I5 => l_Y_names_17 f I5 m (nI a) (nI i + 1))) = _
      rw [h13, h14, pk_sub (by omega), if_neg (by rw [ile (by omega) (by omega)]; omega), nI_add, ix_n (by omega) (by decide), b1_so, nI_s1, nI_add, ix_n (by omega) (by decide), b1_so, pu_so, b1_so, nI_s1, g1]
    · rw [g2 j (by omega), u2_k (by omega)]
    · by_cases e : j = i
      · rw [e, g2 (a + 1 + i) (by omega), u2_s]
      · rw [g3 j (by omega) h2, u2_a (by omega)]
theorem names_row (R : RTok J m B n p) (hn : n ≤ 500 ∧ p ≤ n) (hk : tK B n p = 1) (hl : tE B n p - tS B n p ≤ 6) (ha : a + 6 < 355) : ∃ M, f_Y_names J m (nI a) = some (sM J m M) ∧ (∀ j, (j < a ∨ a + 6 < j) → M j = J (m + 1) j) ∧ NmOk M a ∧ sNm M a = sNm (tN B n p) 0 := by
  have e2 := tE_le (B := B) hn.2
  have e0 := tE_ge (B := B) (n := n) (p := p)
  obtain ⟨q1, q2, q3⟩ := tK_1 hk
  obtain ⟨M, g1, g2, g3⟩ := nw_go (m := m) (a := a) (s := tS B n p) (l := tE B n p - tS B n p) (by omega) ha hl (tE B n p - tS B n p) 0 (Nat.zero_add _) FU (FU_up (by omega)) (u2 J (m + 1) a (nI (tE B n p - tS B n p))) (by rw [u2_a (by omega), R.2.1.1]; congr 1; omega) (by rw [u2_a (by omega)]; exact R.2.1.2)
  have hsm : sM (u2 J (m + 1) a (nI (tE B n p - tS B n p))) m M = sM J m M := by
    funext b
    by_cases hb : b = m + 1
    · rw [hb, sM_s, sM_s]
    · rw [sM_n hb, sM_n hb, u2_a hb]
  rw [hsm] at g1
  have h0 : M a = nI (tE B n p - tS B n p) := by rw [g2 a (by omega), u2_s]
  have hj : ∀ j, j < tE B n p - tS B n p → M (a + 1 + j) = B (tS B n p + j) := fun j hj => by rw [g3 j (Nat.zero_le _) hj, u2_a (by omega)]; exact R.1.2.2 _ (by omega)
  have hok : NmOk M a := by
    obtain ⟨l, l1, l2, l3, l4⟩ := tN_ok hk hl
    rw [tN_0, nJ_i (by omega) (by omega)] at l1
    refine ⟨tE B n p - tS B n p, h0, by omega, hl, fun i hi => ?_⟩
    obtain ⟨c, c1, c2⟩ := l4 i (by omega)
    rw [tN_s] at c1
    exact ⟨c, (hj i hi).trans c1, c2⟩
  refine ⟨M, ?_, fun j hj => ?_, hok, ?_⟩
  · unfold f_Y_names
    rw [ix_n (by omega) (by decide), b1_so, R.2.1.1, R.2.1.2, pk_sub e0, pu_so, b1_so]
    exact g1
  · rw [g2 j (by omega), u2_k (by omega)]
  · rw [sm_eq hok (tN_ok hk hl)]
    refine ⟨h0, fun i hi => ?_⟩
    rw [h0, nI_toInt (by omega)] at hi
    rw [tN_s, hj i (by omega)]
end NMS

