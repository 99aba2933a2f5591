section LK6
variable {I : Mem} {w m np ns nw : Nat} {N : Nat → Int32}
theorem sDay_n {d y : Nat} (hd : N 1 = nI d) (hy : N 0 = nI y) (h0 : 0 < y) (h1 : y < 1000) (h2 : d < 2147483648) : sDay N = nI (d % y) := by
  unfold sDay
  have h3 : d / y * y ≤ d := Nat.div_mul_le_self d y
  rw [hd, hy, pk_div (by omega) h0 (by omega), pk_mul, pk_sub h3]
  congr 1
  have := Nat.div_add_mod d y
  rw [Nat.mul_comm] at this
  omega
theorem wait_eq {b t y : Nat} (hb : b < y) (ht : t < y) (hy : y ≤ 60) : ((nI b + nI y) - nI t) - ((nI b + nI y) - nI t) / nI y * nI y = (if 0 ≤ nI b - nI t then nI b - nI t else nI b - nI t + nI y) := by
  have e1 : (nI b + nI y) - nI t = nI (b + y - t) := by rw [nI_add, pk_sub (by omega)]
  rw [e1, pk_div (by omega) (by omega) (by omega), pk_mul, pk_sub (Nat.div_mul_le_self _ _)]
  by_cases h : t ≤ b
  · rw [pk_sub h, if_pos (nI_pos' (by omega))]
    congr 1
    have h1 : (b + y - t) / y = 1 := by
      rw [show b + y - t = (b - t) + y by omega, Nat.add_div_right _ (by omega), Nat.div_eq_of_lt (by omega)]
    rw [h1]
    omega
  · have h1 : (b + y - t) / y = 0 := Nat.div_eq_of_lt (by omega)
    have h2 : ¬ (0 : Int32) ≤ nI b - nI t := by
      rw [Int32.le_iff_toInt_le, pk_sub_toInt (by omega) (by omega)]
      have : (0 : Int32).toInt = 0 := rfl
      omega
    rw [if_neg h2, h1, Nat.zero_mul, Nat.sub_zero, ← e1, Int32.sub_eq_add_neg, Int32.sub_eq_add_neg, Int32.add_assoc, Int32.add_comm (nI y), Int32.add_assoc]
theorem u_daysUntilBirthday {L : Prop} [Decidable L] (B : BR I w m L np ns nw) (F : L → FX (I (m + 1)) np nw ∧ ∃ d, I (m + 1) 1 = nI d ∧ d < 2147483648) {x : Int32} : ∃ r t b, f_X9_daysUntilBirthday I w x = some r ∧ f_Y_daysUntilBirthday I m x = some (b, u2 I m 0 t) ∧ Oc [eIS, eIX] r t b := by
  by_cases hL : L
  · have R := B.2 hL
    obtain ⟨⟨⟨y, y1, y2, y3, y4⟩, -⟩, d, d1, d2⟩ := F hL
    have b1 := R.f.p.2
    have b2 := R.f.s.2
    have b3 := R.f.w.2
    by_cases hx : ¬ x < 0 ∧ x < nI np
    · obtain ⟨p, rfl, hp⟩ := okI_of hx (by omega)
      obtain ⟨c, c1, c2⟩ := y4 p hp
      have es := sDay_n d1 y1 (by omega) (by omega) d2
      have hm : d % y < y := Nat.mod_lt _ (by omega)
      have g1 := rfp1 (I := u2 I m 0 0) (m := m) (N := (I (m + 1))) (w := p) (by omega)
      have gt := r_today (I := u2 I m 0 0) (m := m) R.f
      rw [sMt] at g1 gt
      have em : u2 I m 0 0 (m + 1) = I (m + 1) := u2_a (by omega)
      have ny : nz (I (m + 1) 0) = some () := nz_so R.f.y
      refine ⟨.ok (if 0 ≤ nI c - nI (d % y) then nI c - nI (d % y) else nI c - nI (d % y) + nI y), 0, (if 0 ≤ nI c - nI (d % y) then nI c - nI (d % y) else nI c - nI (d % y) + nI y), ?_, ?_, rfl, rfl⟩
      · unfold f_X9_daysUntilBirthday
        rw [h_personAt B, if_pos hL, if_pos hx, ixn6 (by omega), b1_so, e1_ok, ckA_n (by omega), b1_so, h_today R, b1_so, R.p2 hp, R.h7, c1, es, y1]
        split <;> rfl
      · unfold f_Y_daysUntilBirthday
        rw [r_mayPerson B, b2_so, bI_t ⟨hL, hL, hx⟩, if_neg (by decide), th_0 hL ⟨hL, hx⟩, g1, b1_so, ix0, b1_so, gt, b1_so, b1_so, em, ny, b1_so, c1, es, y1, wait_eq c2 hm y3]
    · refine ⟨.error eIX, 2, 0, ?_, ?_, Oc.ix⟩
      · unfold f_X9_daysUntilBirthday
        rw [h_personAt B, if_pos hL, if_neg hx, e1_er]
      · unfold f_Y_daysUntilBirthday
        rw [r_mayPerson B, b2_so, bI_f (fun h => hx h.2.2), if_pos rfl, th_2 hL (fun h => hx h.2)]
  · refine ⟨.error eIS, 1, 0, ?_, ?_, Oc.is⟩
    · unfold f_X9_daysUntilBirthday
      rw [h_personAt B, if_neg hL, e1_er]
    · unfold f_Y_daysUntilBirthday
      rw [r_mayPerson B, b2_so, bI_f (fun h => hL h.1), if_pos rfl, th_1 hL]
end LK6
