/-! letters of names -/
theorem lk_sh : ∀ i, i < 6 → ∀ k, k < 6 → ∀ d, d < 32 → (((nI d <<< nI (5 * i)) >>> nI (5 * k)) &&& (31 : Int32)) = if i = k then nI d else 0 := by decide +kernel
theorem lk_s0 : ∀ d, d < 32 → nI d = nI d <<< nI (5 * 0) := by decide +kernel
theorem lk_0 : ∀ i, i < 6 → (0 : Int32) = nI 0 <<< nI (5 * i) := by decide +kernel
theorem lk_am : ∀ k, k < 6 → ((nI k * 5) &&& (31 : Int32)) = nI (5 * k) := by decide +kernel
theorem lk_and {x y : Int32} : (x ||| y) &&& (31 : Int32) = (x &&& 31) ||| (y &&& 31) := Int32.toBitVec_inj.1 (by
  rw [Int32.toBitVec_and, Int32.toBitVec_or, Int32.toBitVec_or, Int32.toBitVec_and, Int32.toBitVec_and]
  exact BitVec.and_or_distrib_right)
theorem lk_or {x y s : Int32} : ((x ||| y) >>> s) &&& (31 : Int32) = ((x >>> s) &&& 31) ||| ((y >>> s) &&& 31) := by rw [Int32.shiftRight_or, lk_and]
section LKa
variable {N : Nat → Int32} {a : Nat}
/-- the numbers of the letters -/
def sLt (N : Nat → Int32) (a l i : Nat) : Nat := if i < l then (N (a + 1 + i) - 96).toInt.toNat else 0
theorem lk_lt (H : NmOk N a) : ∃ l, N a = nI l ∧ (1 ≤ l ∧ l ≤ 6) ∧ (∀ i, i < l → N (a + 1 + i) - 96 = nI (sLt N a l i) ∧ N (a + 1 + i) = 96 + nI (sLt N a l i) ∧ 1 ≤ sLt N a l i) ∧ (∀ i, sLt N a l i < 32) ∧ ∀ i, l ≤ i → sLt N a l i = 0 := by
  obtain ⟨l, h1, h2, h3, h4⟩ := H
  refine ⟨l, h1, ⟨h2, h3⟩, fun i hi => ?_, fun i => ?_, fun i hi => if_neg (by omega)⟩
  · obtain ⟨c, k1, k2, k3⟩ := h4 i hi
    have e : N (a + 1 + i) - 96 = nI (c - 96) := by
      rw [k1]
      exact pk_sub (a := c) (b := 96) (by omega)
    have e2 : sLt N a l i = c - 96 := by
      unfold sLt
      rw [if_pos hi, e, nI_toInt (by omega)]
      omega
    refine ⟨by rw [e, e2], ?_, by omega⟩
    rw [e2, k1, show (96 : Int32) = nI 96 from rfl, nI_add]
    congr 1
    omega
  · unfold sLt
    by_cases hi : i < l
    · obtain ⟨c, k1, k2, k3⟩ := h4 i hi
      have e : N (a + 1 + i) - 96 = nI (c - 96) := by
        rw [k1]
        exact pk_sub (a := c) (b := 96) (by omega)
      rw [if_pos hi, e, nI_toInt (by omega)]
      omega
    · rw [if_neg hi]
      omega
theorem lk_tm {l i : Nat} (hi : i < 6) (hl : l ≤ 6) {x : Int32} (hx : i < l → x - 96 = nI (sLt N a l i)) (h0 : l ≤ i → sLt N a l i = 0) : (if nI i < nI l then ((x - 96) <<< nI (5 * i)) else 0) = nI (sLt N a l i) <<< nI (5 * i) := by
  by_cases h : i < l
  · rw [if_pos (by rw [ltn (by omega), nI_toInt (by omega)]; omega), hx h]
  · rw [if_neg (by rw [ltn (by omega), nI_toInt (by omega)]; omega), h0 (by omega)]
    exact lk_0 i hi
theorem lk_nm (H : NmOk N a) : ∃ l, N a = nI l ∧ (1 ≤ l ∧ l ≤ 6) ∧ (∀ i, i < l → N (a + 1 + i) = 96 + nI (sLt N a l i) ∧ 1 ≤ sLt N a l i) ∧ (∀ i, sLt N a l i < 32) ∧ (∀ i, l ≤ i → sLt N a l i = 0) ∧ ∀ k, k < 6 → ((sNm N a >>> nI (5 * k)) &&& (31 : Int32)) = nI (sLt N a l k) := by
  obtain ⟨l, h1, h2, h3, h4, h5⟩ := lk_lt H
  refine ⟨l, h1, h2, fun i hi => (h3 i hi).2, h4, h5, fun k hk => ?_⟩
  have t0 := lk_tm (N := N) (a := a) (l := l) (i := 0) (by omega) (by omega) (x := N (a + 1)) (fun h => (h3 0 h).1) (h5 0)
  have t1 := lk_tm (N := N) (a := a) (l := l) (i := 1) (by omega) (by omega) (x := N (a + 2)) (fun h => (h3 1 h).1) (h5 1)
  have t2 := lk_tm (N := N) (a := a) (l := l) (i := 2) (by omega) (by omega) (x := N (a + 3)) (fun h => (h3 2 h).1) (h5 2)
  have t3 := lk_tm (N := N) (a := a) (l := l) (i := 3) (by omega) (by omega) (x := N (a + 4)) (fun h => (h3 3 h).1) (h5 3)
  have t4 := lk_tm (N := N) (a := a) (l := l) (i := 4) (by omega) (by omega) (x := N (a + 5)) (fun h => (h3 4 h).1) (h5 4)
  have t5 := lk_tm (N := N) (a := a) (l := l) (i := 5) (by omega) (by omega) (x := N (a + 6)) (fun h => (h3 5 h).1) (h5 5)
  have e0 : (if (0 : Int32) < nI l then (N (a + 1) - 96) else 0) = nI (sLt N a l 0) <<< nI (5 * 0) := by
    have e := h3 0 (by omega)
    rw [if_pos (show (0 : Int32) < nI l from by rw [show (0 : Int32) = nI 0 from rfl, ltn (by omega), nI_toInt (by omega)]; omega)]
    exact e.1.trans (lk_s0 _ (h4 0))
  unfold sNm sNmF
  rw [h1, e0]
  have T : ∀ {A B C D E F : Int32}, (nI (sLt N a l 0) <<< nI (5 * 0)) = A → (nI (sLt N a l 1) <<< nI (5 * 1)) = B → (nI (sLt N a l 2) <<< nI (5 * 2)) = C → (nI (sLt N a l 3) <<< nI (5 * 3)) = D → (nI (sLt N a l 4) <<< nI (5 * 4)) = E → (nI (sLt N a l 5) <<< nI (5 * 5)) = F → ((((((A ||| B) ||| C) ||| D) ||| E) ||| F) >>> nI (5 * k)) &&& (31 : Int32) = nI (sLt N a l k) := by
    intro A B C D E F g0 g1 g2 g3 g4 g5
    subst g0; subst g1; subst g2; subst g3; subst g4; subst g5
    rw [lk_or, lk_or, lk_or, lk_or, lk_or, lk_sh 0 (by omega) k hk _ (h4 0), lk_sh 1 (by omega) k hk _ (h4 1), lk_sh 2 (by omega) k hk _ (h4 2), lk_sh 3 (by omega) k hk _ (h4 3), lk_sh 4 (by omega) k hk _ (h4 4), lk_sh 5 (by omega) k hk _ (h4 5)]
    obtain rfl | rfl | rfl | rfl | rfl | rfl : k = 0 ∨ k = 1 ∨ k = 2 ∨ k = 3 ∨ k = 4 ∨ k = 5 := by omega
    all_goals simp
  exact T rfl t1.symm t2.symm t3.symm t4.symm t5.symm
theorem lk_ng {d : Nat} (h : d < 32) : (nI d = 0) = (d = 0) := by
  revert h
  revert d
  decide +kernel
/-- both sides find the same letter -/
theorem lk_row {I : Mem} {m : Nat} (h0 : I (m + 1) = N) (H : NmOk N a) (ha : a + 6 < 355) (x : Int32) : ∃ v, f_X9_letterOf (sNm N a) x = some v ∧ f_X10_letter I m (nI a) x = some v := by
  obtain ⟨l, h1, h2, h3, h4, h5, h6⟩ := lk_nm H
  have e1 : f_X10_letter I m (nI a) x = if (¬ x < 0 ∧ x < nI l) then (b1 (ix ((nI a + 1) + x) 355) fun j4 => some (N j4)) else some (-1) := by
    unfold f_X10_letter
    rw [ix_n (by omega) (by decide), b1_so, h0, h1, r_inIx (by omega), b1_so]
    by_cases h : ¬ x < 0 ∧ x < nI l
    · rw [bI_t h, if_neg (by decide), if_pos h]
    · rw [bI_f h, if_pos rfl, if_neg h]
  rw [e1]
  unfold f_X9_letterOf
  by_cases k0 : x < 0
  · exact ⟨-1, by rw [if_pos k0], by rw [if_neg (fun h => h.1 k0)]⟩
  rw [if_neg k0]
  by_cases k6 : x < 6
  · rw [if_pos k6]
    obtain ⟨k, rfl, hk⟩ := okI_of (n := 6) ⟨k0, k6⟩ (by omega)
    rw [lk_am k hk, h6 k hk]
    by_cases hl : k < l
    · obtain ⟨q1, q2⟩ := h3 k hl
      refine ⟨96 + nI (sLt N a l k), ?_, ?_⟩
      · rw [if_neg]
        rw [lk_ng (h4 k)]
        omega
      · rw [if_pos ⟨k0, by rw [ltn (by omega), nI_toInt (by omega)]; omega⟩, show nI a + 1 + nI k = nI (a + 1 + k) from by rw [nI_s1, nI_add], ix_n (by omega) (by decide), b1_so, q1]
    · refine ⟨-1, ?_, ?_⟩
      · rw [if_pos]
        rw [h5 k (by omega)]
        rfl
      · rw [if_neg]
        intro h
        have := h.2
        rw [ltn (by omega), nI_toInt (by omega)] at this
        omega
  · rw [if_neg k6]
    refine ⟨-1, rfl, ?_⟩
    rw [if_neg]
    intro h
    apply k6
    have := h.2
    rw [ltn (by omega)] at this
    rw [show (6 : Int32) = nI 6 from rfl, ltn (by omega)]
    omega
end LKa
section LKp
variable {I : Mem} {w m np ns nw : Nat}
theorem lk_ap {p : Nat} (h : p < 100) : (11 + 14 * nI p) + 7 = nI (11 + 14 * p + 7) := by
  rw [show (14 : Int32) = nI 14 from rfl, pk_mul, show (11 : Int32) = nI 11 from rfl, nI_add, show (7 : Int32) = nI 7 from rfl, nI_add]
theorem lk_aw {p : Nat} (h : p < 100) : (115 + 15 * nI p) + 8 = nI (115 + 15 * p + 8) := by
  rw [show (15 : Int32) = nI 15 from rfl, pk_mul, show (115 : Int32) = nI 115 from rfl, nI_add, show (8 : Int32) = nI 8 from rfl, nI_add]
theorem u_personLetter {L : Prop} [Decidable L] (B : BR I w m L np ns nw) (F : L → FX (I (m + 1)) np nw) {x y : Int32} : ∃ r t b, f_X9_personLetter I w x y = some r ∧ f_X10_personLetter I m x y = some (b, u2 I m 0 t) ∧ Oc [eIS, eIX] r t b := by
  by_cases hL : L
  · have R := B.2 hL
    have k1 := R.f.p.2
    have k2 := R.f.s.2
    have k3 := R.f.w.2
    by_cases hx : ¬ x < 0 ∧ x < nI np
    · obtain ⟨p, rfl, hp⟩ := okI_of hx (by omega)
      have em : u2 I m 0 0 (m + 1) = I (m + 1) := u2_a (by omega)
      obtain ⟨v, g1, g2⟩ := lk_row (I := u2 I m 0 0) em ((F hL).2.1 p hp) (by omega) y
      refine ⟨.ok v, 0, v, ?_, ?_, rfl, rfl⟩
      · unfold f_X9_personLetter
        rw [h_personAt B, if_pos hL, if_pos hx, ixn6 (by omega), b1_so, e1_ok, ckA_n (by omega), b1_so, (R.p hp).1.1, g1, b1_so]
      · unfold f_X10_personLetter
        rw [r_mayPerson B, b2_so, bI_t ⟨hL, hL, hx⟩, if_neg (by decide), th_0 hL ⟨hL, hx⟩, lk_ap (by omega), g2, b1_so]
    · refine ⟨.error eIX, 2, 0, ?_, ?_, Oc.ix⟩
      · unfold f_X9_personLetter
        rw [h_personAt B, if_pos hL, if_neg hx, e1_er]
      · unfold f_X10_personLetter
        rw [r_mayPerson B, b2_so, bI_f (fun h => hx h.2.2), if_pos rfl, th_2 hL (fun h => hx h.2)]
  · refine ⟨.error eIS, 1, 0, ?_, ?_, Oc.is⟩
    · unfold f_X9_personLetter
      rw [h_personAt B, if_neg hL, e1_er]
    · unfold f_X10_personLetter
      rw [r_mayPerson B, b2_so, bI_f (fun h => hL h.1), if_pos rfl, th_1 hL]
theorem lc_personLetter {K : Kt} {kb gb D : Nat} (S : ST I K w m kb gb D) (x y : Int32) : LC (mX9_personLetter 9) cX9_personLetter (mX10_personLetter 3) cX10_personLetter [eIS, eIX] [.int x, .int y] I K w m kb gb (D + 300) := by
  obtain ⟨l, np, ns, nw, B, G⟩ := S.br
  obtain ⟨r, t, b, h1, h2, hO⟩ := u_personLetter B (fun hL => (G hL).1) (x := x) (y := y)
  exact lc_of S (c_X9_personLetter 0 S.lw h1) hO (fun Kj hM => c_X10_personLetter 0 hM h2)
theorem u_wishLetter {L : Prop} [Decidable L] (B : BR I w m L np ns nw) (F : L → FX (I (m + 1)) np nw) {x y : Int32} : ∃ r t b, f_X9_wishLetter I w x y = some r ∧ f_X10_wishLetter I m x y = some (b, u2 I m 0 t) ∧ Oc [eIS, eIX] r t b := by
  by_cases hL : L
  · have R := B.2 hL
    have k1 := R.f.p.2
    have k2 := R.f.s.2
    have k3 := R.f.w.2
    by_cases hx : ¬ x < 0 ∧ x < nI nw
    · obtain ⟨p, rfl, hp⟩ := okI_of hx (by omega)
      have em : u2 I m 0 0 (m + 1) = I (m + 1) := u2_a (by omega)
      obtain ⟨v, g1, g2⟩ := lk_row (I := u2 I m 0 0) em ((F hL).2.2 p hp) (by omega) y
      refine ⟨.ok v, 0, v, ?_, ?_, rfl, rfl⟩
      · unfold f_X9_wishLetter
        rw [h_wishAt B, if_pos hL, if_pos hx, ixn16 (by omega), b1_so, e1_ok, ckA_n (by omega), b1_so, (R.w hp).1.1, g1, b1_so]
      · unfold f_X10_wishLetter
        rw [r_mayWish B, b2_so, bI_t ⟨hL, hL, hx⟩, if_neg (by decide), th_0 hL ⟨hL, hx⟩, lk_aw (by omega), g2, b1_so]
    · refine ⟨.error eIX, 2, 0, ?_, ?_, Oc.ix⟩
      · unfold f_X9_wishLetter
        rw [h_wishAt B, if_pos hL, if_neg hx, e1_er]
      · unfold f_X10_wishLetter
        rw [r_mayWish B, b2_so, bI_f (fun h => hx h.2.2), if_pos rfl, th_2 hL (fun h => hx h.2)]
  · refine ⟨.error eIS, 1, 0, ?_, ?_, Oc.is⟩
    · unfold f_X9_wishLetter
      rw [h_wishAt B, if_neg hL, e1_er]
    · unfold f_X10_wishLetter
      rw [r_mayWish B, b2_so, bI_f (fun h => hL h.1), if_pos rfl, th_1 hL]
theorem lc_wishLetter {K : Kt} {kb gb D : Nat} (S : ST I K w m kb gb D) (x y : Int32) : LC (mX9_wishLetter 9) cX9_wishLetter (mX10_wishLetter 3) cX10_wishLetter [eIS, eIX] [.int x, .int y] I K w m kb gb (D + 300) := by
  obtain ⟨l, np, ns, nw, B, G⟩ := S.br
  obtain ⟨r, t, b, h1, h2, hO⟩ := u_wishLetter B (fun hL => (G hL).1) (x := x) (y := y)
  exact lc_of S (c_X9_wishLetter 0 S.lw h1) hO (fun Kj hM => c_X10_wishLetter 0 hM h2)
end LKp
