/-! one step of both readers -/
section PST
variable {I J I1 I2 J1 J2 : Mem} {B : Nat → Int32} {lo hi : Int32} {n p r k m x c s : Nat}
/-- no parenthesis between -/
def Fl (B : Nat → Int32) (p q : Nat) : Prop := p ≤ q ∧ ∀ t, p ≤ t → t < q → B t ≠ 40 ∧ B t ≠ 41
theorem Fl.refl : Fl B p p := ⟨Nat.le_refl _, fun t h1 h2 => by omega⟩
theorem Fl.trans {q t : Nat} (h : Fl B p q) (h2 : Fl B q t) : Fl B p t := ⟨Nat.le_trans h.1 h2.1, fun u h3 h4 => by
  by_cases h5 : u < q
  · exact h.2 u h3 h5
  · exact h2.2 u (by omega) h4⟩
theorem ne_of_in {i : Nat} (h : inR B lo hi i) {x : Int32} (hx : x < lo ∨ hi < x) : B i ≠ x := fun e => by
  rw [← e] at hx
  exact hx.elim h.1 h.2
theorem fl_run (h1 : (40 : Int32) < lo ∨ hi < 40) (h2 : (41 : Int32) < lo ∨ hi < 41) : Fl B p (rn B lo hi n p) := ⟨rn_ge, fun t h3 h4 => ⟨ne_of_in (rn_in h3 h4).2 h1, ne_of_in (rn_in h3 h4).2 h2⟩⟩
theorem fl_s : Fl B p (tS B n p) := fl_run (by decide) (by decide)
theorem fl_1 (h : tK B n p = 1) : Fl B p (tE B n p) := by
  rw [(tK_1 h).1]
  exact fl_s.trans (fl_run (by decide) (by decide))
theorem fl_2 (h : tK B n p = 2) : Fl B p (tE B n p) := by
  rw [(tK_2 h).1]
  exact fl_s.trans (fl_run (by decide) (by decide))
theorem tK_sg (h : 3 ≤ tK B n p ∧ tK B n p ≤ 5) : (tE B n p = tS B n p + 1 ∧ tS B n p < n) ∧ tK B n p = sgn (B (tS B n p)) := by
  obtain ⟨h1, h2⟩ := h
  revert h1 h2
  unfold tE tK
  split
  · split <;> intro h1 h2 <;> omega
  split
  · split <;> intro h1 h2 <;> omega
  split
  · intro h1 h2; omega
  · exact fun _ _ => ⟨⟨rfl, by omega⟩, rfl⟩
theorem fl_3 (h : tK B n p = 3) : Fl B p (tE B n p) := by
  obtain ⟨⟨h1, -⟩, h2⟩ := tK_sg (B := B) (n := n) (p := p) (by omega)
  rw [h1]
  refine fl_s.trans ⟨Nat.le_succ _, fun t h3 h4 => ?_⟩
  obtain rfl : t = tS B n p := by omega
  rw [h] at h2
  have h5 : B (tS B n p) = 59 := Classical.byContradiction fun h6 => by
    unfold sgn at h2
    rw [if_neg h6] at h2
    split at h2
    · omega
    · split at h2 <;> omega
  rw [h5]
  decide
def It (I I' : Mem) (r : Nat) : Prop := ∀ a, a ≠ r + 1 → I' a = I a
theorem It.refl : It I I r := fun _ _ => rfl
theorem It.trans (h : It I I1 r) (h2 : It I1 I2 r) : It I I2 r := fun a ha => (h2 a ha).trans (h a ha)
/-- in front of a token, which the reference has read; behind it -/
def Af (I J : Mem) (r m : Nat) (B : Nat → Int32) (n p : Nat) : Prop := (n ≤ 500 ∧ p ≤ n) ∧ CTok I r B n p ∧ RTok J m B n p
def Ld (I J : Mem) (r m : Nat) (B : Nat → Int32) (n p : Nat) : Prop := (n ≤ 500 ∧ p ≤ n) ∧ (CTok I r B n (tE B n p) ∧ I (r + 1) 4 = nI (tS B n p)) ∧ RTok J m B n p
theorem Af.scan (h : Af I J r m B n p) : ∃ I', f_X7_scan I k (r + 1) = some (I', tK B n p) ∧ Ld I' J r m B n p ∧ It I I' r := by
  obtain ⟨⟨h1, h2⟩, h3, h4⟩ := h
  obtain ⟨I', g1, g2⟩ := scan_row (k := k) h1 h2 h3
  exact ⟨I', g1, ⟨⟨h1, h2⟩, ⟨g2.tok h3, g2.2.2.2⟩, h4⟩, g2.1⟩
theorem Ld.goes (h : Ld I J r m B n p) : ∃ J', f_Y_goes J m = some J' ∧ Af I J' r m B n (tE B n p) ∧ Jt J J' m := by
  obtain ⟨⟨h1, h2⟩, ⟨h3, -⟩, h4⟩ := h
  obtain ⟨J', g1, g2, g3⟩ := goes_row h1 (tE_le h2) h4.bnd
  exact ⟨J', g1, ⟨⟨h1, tE_le h2⟩, h3, g2⟩, g3⟩
theorem Af.cl (h : Af I J r m B n p) (e1 : I1 (r + 1) = I (r + 1)) (e2 : I1 (r + 1 + 1) = I (r + 1 + 1)) : Af I1 J r m B n p := by
  refine ⟨h.1, ?_, h.2.2⟩
  unfold CTok
  rw [e1, e2]
  exact h.2.1
theorem Ld.cl (h : Ld I J r m B n p) (e1 : I1 (r + 1) = I (r + 1)) (e2 : I1 (r + 1 + 1) = I (r + 1 + 1)) : Ld I1 J r m B n p := by
  refine ⟨h.1, ?_, h.2.2⟩
  unfold CTok
  rw [e1, e2]
  exact h.2.1
theorem RTok.rf (h : RTok J m B n p) (e1 : ∀ j, 10 ≤ j → j ≤ 16 → J1 m j = J m j) (e2 : J1 (m + 6) = J (m + 6)) : RTok J1 m B n p := by
  unfold RTok
  rw [e2, e1 10 (by decide) (by decide), e1 11 (by decide) (by decide), e1 12 (by decide) (by decide), e1 13 (by decide) (by decide), e1 14 (by decide) (by decide), e1 15 (by decide) (by decide), e1 16 (by decide) (by decide)]
  exact h
theorem Af.rf (h : Af I J r m B n p) (e1 : ∀ j, 10 ≤ j → j ≤ 16 → J1 m j = J m j) (e2 : J1 (m + 6) = J (m + 6)) : Af I J1 r m B n p := ⟨h.1, h.2.1, h.2.2.rf e1 e2⟩
theorem Ld.rf (h : Ld I J r m B n p) (e1 : ∀ j, 10 ≤ j → j ≤ 16 → J1 m j = J m j) (e2 : J1 (m + 6) = J (m + 6)) : Ld I J1 r m B n p := ⟨h.1, h.2.1, h.2.2.rf e1 e2⟩
theorem Af.sm {N : Nat → Int32} (h : Af I J r m B n p) : Af I (sM J m N) r m B n p := h.rf (fun j _ _ => by rw [sM_n (by omega)]) (sM_n (by omega))
theorem Ld.sm {N : Nat → Int32} (h : Ld I J r m B n p) : Ld I (sM J m N) r m B n p := h.rf (fun j _ _ => by rw [sM_n (by omega)]) (sM_n (by omega))
/-! faults -/
def Ce (I I' : Mem) (r c s : Nat) : Prop := (∀ a, a ≠ r → a ≠ r + 1 → I' a = I a) ∧ I' r 2 = nI c ∧ I' r 3 = nI s
def Flt (J : Mem) (m c s : Nat) : Prop := (J m 10 = nI c ∧ J m 11 = nI s) ∧ 1 ≤ c ∧ c ≤ 4
def Jf (J J' : Mem) (m : Nat) : Prop := (∀ a, a ≠ m → J' a = J a) ∧ ∀ j, j ≠ 10 → j ≠ 11 → J' m j = J m j
theorem Flt.n0 (h : Flt J m c s) : ¬ J m 10 = 0 := by
  rw [h.1.1, show (0 : Int32) = nI 0 from rfl, nJ_i (by have := h.2; omega) (by decide)]
  have := h.2
  omega
theorem Flt.l0 (h : Flt J m c s) : ¬ J m 10 ≤ 0 := by
  rw [h.1.1, show (0 : Int32) = nI 0 from rfl, ile (by have := h.2; omega) (by decide)]
  have := h.2
  omega
theorem fs_goes (h : Flt J m c s) : f_Y_goes J m = some J := if_neg h.l0
theorem fs_is {y : Int32} (h : Flt J m c s) : f_Y_is J m y = some 0 := if_neg h.n0
theorem fs_flt {y : Int32} (h : Flt J m c s) : f_Y_faults J m y = some J := if_neg h.l0
theorem fs_ref {y : Int32} (h : Flt J m c s) : f_Y_refuses J m y = some J := if_neg h.n0
theorem fs_num (h : Flt J m c s) : f_Y_numberHere J m lo hi = some (lo, J) := by
  unfold f_Y_numberHere l_Y_numberHere_33
  rw [fs_is h, b1_so, if_pos rfl, fs_flt h, b1_so, if_neg h.l0]
theorem fs_rdn (h : Flt J m c s) : f_Y_readNumber J m lo hi = some (lo, J) := by
  unfold f_Y_readNumber
  rw [fs_num h, b2_so, fs_goes h, b1_so]
theorem fs_word {y : Nat} (h : Flt J m c s) : f_Y_isWord J m y = some 0 := by
  unfold f_Y_isWord
  rw [fs_is h, b1_so, if_pos rfl]
theorem fs_wish (h : Flt J m c s) : f_Y_wishHere J m = some (0, J) := by
  unfold f_Y_wishHere
  rw [ix4, b1_so, fs_num h, b2_so]
theorem fs_stall (h : Flt J m c s) : f_Y_stallHere J m = some (0, J) := by
  unfold f_Y_stallHere
  rw [ix3, b1_so, fs_num h, b2_so]
theorem fs_pers (h : Flt J m c s) : f_Y_personHere J m = some (0, J) := by
  unfold f_Y_personHere
  rw [ix2, b1_so, fs_num h, b2_so]
theorem fs_name (h : Flt J m c s) : f_Y_looksAtName J m = some J := by
  unfold f_Y_looksAtName
  rw [fs_is h, b1_so, if_pos rfl, fs_flt h, b1_so]
theorem Flt.sm {N : Nat → Int32} (h : Flt J m c s) : Flt (sM J m N) m c s := by
  unfold Flt
  rw [sM_n (by omega)]
  exact h
theorem is_row (h : RTok J m B n p) {k : Nat} (hk : k < 7) : f_Y_is J m (nI (kc k)) = some (bI (tK B n p = k)) := by
  have := tK_7 (B := B) (n := n) (p := p)
  have e : kc (tK B n p) = kc k ↔ tK B n p = k := by unfold kc; omega
  have e1 : kc (tK B n p) < 7 := by unfold kc; omega
  have e2 : kc k < 7 := by unfold kc; omega
  unfold f_Y_is
  rw [h.1.1, if_pos rfl, h.2.2.1]
  by_cases h9 : tK B n p = k
  · rw [bI_t h9, if_pos (by rw [h9])]
  · rw [bI_f h9, if_neg (by rw [nJ_i (by omega) (by omega), e]; exact h9)]
theorem flt_row (h : RTok J m B n p) (hc : 1 ≤ c ∧ c ≤ 4) : ∃ J', f_Y_faults J m (nI c) = some J' ∧ Flt J' m c (tS B n p) ∧ Jf J J' m := by
  refine ⟨u2 (u2 J m 10 (nI c)) m 11 (nI (tS B n p)), ?_, ⟨⟨by rw [u2_k (by decide), u2_s], u2_s⟩, hc⟩, fun a ha => by rw [u2_a ha, u2_a ha], fun j h1 h2 => by rw [u2_k h2, u2_k h1]⟩
  unfold f_Y_faults
  rw [h.1.1, if_pos (by decide), pu_so, b1_so, u2_k (by decide), h.2.1.2, pu_so, b1_so]
theorem req_ok {y : Int32} : f_X5_require I r 1 y = some (.ok (), I) := by
  unfold f_X5_require
  rw [if_neg (by decide)]
theorem req_er (h4 : I (r + 1) 4 = nI s) : ∃ I', f_X5_require I r 0 (nI c) = some (.error eIA, I') ∧ ((∀ a, a ≠ r → I' a = I a) ∧ I' r 2 = nI c ∧ I' r 3 = nI s) ∧ ∀ j, j ≠ 2 → j ≠ 3 → I' r j = I r j := by
  refine ⟨u2 (u2 I r 2 (nI c)) r 3 (nI s), ?_, ⟨fun a ha => by rw [u2_a ha, u2_a ha], by rw [u2_k (by decide), u2_s], u2_s⟩, fun j h2 h3 => by rw [u2_k h3, u2_k h2]⟩
  unfold f_X5_require
  rw [if_pos rfl, pu_so, b1_so, u2_a (by omega), h4, pu_so, b1_so]
/-! a number -/
theorem num_step (h : Af I J r m B n p) :
    (∃ v I', f_X5_readNumber I k r lo hi = some (.ok (nI v), I', 2) ∧ (Ld I' J r m B n p ∧ It I I' r ∧ Fl B p (tE B n p)) ∧ (v < 1000 ∧ ¬ nI v < lo ∧ ¬ hi < nI v) ∧ f_Y_numberHere J m lo hi = some (nI v, J)) ∨
    (∃ c I' J' k', k' < 7 ∧ f_X5_readNumber I k r lo hi = some (.error eIA, I', k') ∧ Ce I I' r c (tS B n p) ∧ f_Y_numberHere J m lo hi = some (lo, J') ∧ Flt J' m c (tS B n p) ∧ Jf J J' m) := by
  obtain ⟨I1, g1, g2, g3⟩ := h.scan (k := k)
  have R := g2.2.2
  have k7 := tK_7 (B := B) (n := n) (p := p)
  have i2 := is_row R (k := 2) (by decide)
  rw [show nI (kc 2) = (3 : Int32) from rfl] at i2
  by_cases hk : tK B n p = 2
  · have hv := number_row g2.1.1 g2.1.2 g2.2.1.1 g2.2.1.2 hk
    have e16 := R.2.2.2.1 hk
    have hb := tV_b hk
    rw [bI_t hk] at i2
    have c26 : f_X5_readNumber I k r lo hi = (if nI (tV B n p) < lo then (l_X5_readNumber_53 I1 2 r (nI (tV B n p))) else (if hi < nI (tV B n p) then (l_X5_readNumber_53 I1 2 r (nI (tV B n p))) else (l_X5_readNumber_54 I1 2 r (nI (tV B n p)) 1))) := by
      unfold f_X5_readNumber l_X5_readNumber_26
      rw [g1, b2_so, ckK_n k7, b1_so, hk, if_pos rfl, req_ok, e2_ok, hv, b1_so]
    have rr : f_Y_numberHere J m lo hi = (b1 (f_Y_in (nI (tV B n p)) lo hi) fun v3 => if v3 = 0 then (b1 (f_Y_faults J m 2) fun I5 => l_Y_numberHere_33 I5 m lo) else (l_Y_numberHere_33 J m lo)) := by
      unfold f_Y_numberHere
      rw [i2, b1_so, if_neg (by decide), e16]
    rw [r_in, b1_so] at rr
    by_cases hr : ¬ nI (tV B n p) < lo ∧ ¬ hi < nI (tV B n p)
    · refine Or.inl ⟨tV B n p, I1, ?_, ⟨g2, g3, fl_2 hk⟩, ⟨hb, hr⟩, ?_⟩
      · rw [c26, if_neg hr.1, if_neg hr.2]
        unfold l_X5_readNumber_54
        rw [req_ok, e2_ok]
      · rw [rr, bI_t hr, if_neg (by decide)]
        unfold l_Y_numberHere_33
        rw [R.1.1, if_pos (by decide), e16]
    · obtain ⟨J', f1, f2, f3⟩ := flt_row R (c := 2) (by decide)
      obtain ⟨I', q1, q2, q3⟩ := req_er (c := 2) g2.2.1.2
      have e53 : l_X5_readNumber_53 I1 2 r (nI (tV B n p)) = some (.error eIA, I', 2) := by
        unfold l_X5_readNumber_53 l_X5_readNumber_54
        rw [show (2 : Int32) = nI 2 from rfl, q1, e2_er]
      refine Or.inr ⟨2, I', J', 2, by decide, ?_, ⟨fun a h1 h2 => (q2.1 a h1).trans (g3 a h2), q2.2⟩, ?_, f2, f3⟩
      · rw [c26, e53]
        by_cases h1 : nI (tV B n p) < lo
        · rw [if_pos h1]
        · rw [if_neg h1, if_pos (Classical.byContradiction fun h2 => hr ⟨h1, h2⟩)]
      · rw [rr, bI_f hr, if_pos rfl, show (2 : Int32) = nI 2 from rfl, f1, b1_so]
        unfold l_Y_numberHere_33
        rw [if_neg f2.l0]
  · rw [bI_f hk] at i2
    obtain ⟨J', f1, f2, f3⟩ := flt_row R (c := 1) (by decide)
    obtain ⟨I', q1, q2, q3⟩ := req_er (c := 1) g2.2.1.2
    refine Or.inr ⟨1, I', J', tK B n p, k7, ?_, ⟨fun a h1 h2 => (q2.1 a h1).trans (g3 a h2), q2.2⟩, ?_, f2, f3⟩
    · unfold f_X5_readNumber l_X5_readNumber_26
      rw [g1, b2_so, ckK_n k7, b1_so, if_neg hk, show (1 : Int32) = nI 1 from rfl, q1, e2_er]
    · unfold f_Y_numberHere
      rw [i2, b1_so, if_pos rfl, show (1 : Int32) = nI 1 from rfl, f1, b1_so]
      unfold l_Y_numberHere_33
      rw [if_neg f2.l0]
theorem rdn_step (h : Af I J r m B n p) :
    (∃ v I' J', f_X5_readNumber I k r lo hi = some (.ok (nI v), I', 2) ∧ (Af I' J' r m B n (tE B n p) ∧ It I I' r ∧ Jt J J' m ∧ Fl B p (tE B n p)) ∧ (v < 1000 ∧ ¬ nI v < lo ∧ ¬ hi < nI v) ∧ f_Y_readNumber J m lo hi = some (nI v, J')) ∨
    (∃ c I' J' k', k' < 7 ∧ f_X5_readNumber I k r lo hi = some (.error eIA, I', k') ∧ Ce I I' r c (tS B n p) ∧ f_Y_readNumber J m lo hi = some (lo, J') ∧ Flt J' m c (tS B n p) ∧ Jf J J' m) := by
  rcases num_step (k := k) (lo := lo) (hi := hi) h with ⟨v, I', h1, ⟨h2, h3, h4⟩, h5, h6⟩ | ⟨c, I', J', k', h1, h2, h3, h4, h5, h6⟩
  · obtain ⟨J', g1, g2, g3⟩ := h2.goes
    refine Or.inl ⟨v, I', J', h1, ⟨g2, h3, g3, h4⟩, h5, ?_⟩
    unfold f_Y_readNumber
    rw [h6, b2_so, g1, b1_so]
  · refine Or.inr ⟨c, I', J', k', h1, h2, h3, ?_, h5, h6⟩
    unfold f_Y_readNumber
    rw [h4, b2_so, fs_goes h5, b1_so]
/-! words -/
def Wd (B : Nat → Int32) (n p x : Nat) : Prop := tK B n p = 1 ∧ tE B n p - tS B n p = lenT.getD x 0 ∧ ∀ i, i < lenT.getD x 0 → B (tS B n p + i) = (bytT.getD x []).getD i 0
theorem len_25 : ∀ x, x < 25 → lenT.getD x 0 ≤ 7 := by decide
theorem Wd_un : ∀ x, x < 25 → ∀ y, y < 25 → lenT.getD x 0 = lenT.getD y 0 → (∀ i, i < lenT.getD x 0 → (bytT.getD x []).getD i 0 = (bytT.getD y []).getD i 0) → x = y := by decide +kernel
theorem Wd.un {y : Nat} (h : Wd B n p x) (hx : x < 25) (hy : y < 25) (h2 : Wd B n p y) : x = y :=
  Wd_un x hx y hy (h.2.1.symm.trans h2.2.1) (fun i hi => (h.2.2 i hi).symm.trans (h2.2.2 i (by rw [← h2.2.1, h.2.1]; exact hi)))
theorem and0 : ((0 : Int32) &&& 31) = 0 := by decide
theorem shr0 {n : Nat} : nI n >>> (0 : Int32) = nI n := by simp
theorem ckS_n (hx : x < 25) : ckS x = some () := if_pos (by omega)
theorem js_len (hx : x < 25) : f_J0_length_8abf5 I x = some (nI (lenT.getD x 0)) := by
  unfold f_J0_length_8abf5 f_J0_coder_7d493
  rw [ckS_n hx, b1_so, b1_so, b1_so, if_neg (by decide), b1_so, b1_so, and0, shr0]
theorem js_tab : ∀ x, x < 25 → ∀ i, i < lenT.getD x 0 → (((((bytT.getD x []).getD i 0) &&& 255)).toUInt32 % 65536).toInt32 = (bytT.getD x []).getD i 0 ∧ cN .char ((bytT.getD x []).getD i 0) = some () := by decide +kernel
theorem js_chr (hx : x < 25) {i : Nat} (hi : i < lenT.getD x 0) : f_J0_charAt_5068e I x (nI i) = some ((bytT.getD x []).getD i 0) := by
  obtain ⟨t1, t2⟩ := js_tab x hx i hi
  have l7 := len_25 x hx
  have hck : f_J0_checkIndex_df160 (nI i) (nI (lenT.getD x 0)) = some () := by
    unfold f_J0_checkIndex_df160 f_J3_checkIndex_8e157
    rw [if_neg (by rw [lt0, nI_toInt (by omega)]; omega), if_pos (nI_lt hi (by omega)), b1_so]
  unfold f_J0_charAt_5068e f_J0_isLatin1_aae02 f_J1_charAt_3b067
  rw [ckS_n hx, b1_so, if_neg (by decide), b1_so, if_pos rfl, b1_so, if_neg (by decide), b1_so, b1_so, hck, b1_so, b1_so, ix_n hi (by omega), b1_so, t1, t2, b1_so, b1_so, t2, b1_so]
theorem cw_t (hx : x < 25) {s : Nat} (hs : s + lenT.getD x 0 ≤ 500) {k : Nat} (h4 : I (r + 1) 4 = nI s) (hb : ∀ i, i < lenT.getD x 0 → I (r + 1 + 1) (s + i) = (bytT.getD x []).getD i 0) : ∀ d i, i + d = lenT.getD x 0 → ∀ f, d < f → l_X7_isWord_25 f I k (r + 1) x (nI i) = some (1, I, k) := by
  have l7 := len_25 x hx
  intro d
  induction d with
  | zero =>
    intro i hi f hf
    obtain ⟨f, rfl⟩ : ∃ g, f = g + 1 := ⟨f - 1, by omega⟩
    show (b1 (ckS x) fun _ => b1 (f_J0_length_8abf5 I x) fun v6 => if v6 ≤ nI i then _ else _) = _
    rw [ckS_n hx, b1_so, js_len hx, b1_so, if_pos (by rw [ile (by omega) (by omega)]; omega)]
  | succ d ih =>
    intro i hi f hf
    obtain ⟨f, rfl⟩ : ∃ g, f = g + 1 := ⟨f - 1, by omega⟩
    show (b1 (ckS x) fun _ => b1 (f_J0_length_8abf5 I x) fun v6 => if v6 ≤ nI i then _ else (b1 (ix ((I (r + 1) 4) + nI i) 500) fun j8 => b1 (ckS x) fun _ => b1 (f_J0_charAt_5068e I x (nI i)) fun v9 => if (I (r + 1 + 1) j8) = v9 then (l_X7_isWord_25 f I k (r + 1) x (nI i + 1)) else _)) = _
    rw [ckS_n hx, b1_so, js_len hx, b1_so, if_neg (by rw [ile (by omega) (by omega)]; omega), h4, nI_add, ix_n (by omega) (by decide), b1_so, b1_so, js_chr hx (by omega), b1_so, if_pos (hb i (by omega)), nI_s1]
    exact ih (i + 1) (by omega) f (by omega)
theorem cw_f (hx : x < 25) {s : Nat} (hs : s + lenT.getD x 0 ≤ 500) {k : Nat} (h4 : I (r + 1) 4 = nI s) : ∀ d i, i + d = lenT.getD x 0 → (∃ j, i ≤ j ∧ j < lenT.getD x 0 ∧ I (r + 1 + 1) (s + j) ≠ (bytT.getD x []).getD j 0) → ∀ f, d < f → l_X7_isWord_25 f I k (r + 1) x (nI i) = some (0, I, k) := by
  have l7 := len_25 x hx
  intro d
  induction d with
  | zero =>
    intro i hi ⟨j, h1, h2, h3⟩ f hf
    omega
  | succ d ih =>
    intro i hi ⟨j, h1, h2, h3⟩ f hf
    obtain ⟨f, rfl⟩ : ∃ g, f = g + 1 := ⟨f - 1, by omega⟩
    show (b1 (ckS x) fun _ => b1 (f_J0_length_8abf5 I x) fun v6 => if v6 ≤ nI i then _ else (b1 (ix ((I (r + 1) 4) + nI i) 500) fun j8 => b1 (ckS x) fun _ => b1 (f_J0_charAt_5068e I x (nI i)) fun v9 => if (I (r + 1 + 1) j8) = v9 then (l_X7_isWord_25 f I k (r + 1) x (nI i + 1)) else (some (0, I, k)))) = _
    rw [ckS_n hx, b1_so, js_len hx, b1_so, if_neg (by rw [ile (by omega) (by omega)]; omega), h4, nI_add, ix_n (by omega) (by decide), b1_so, b1_so, js_chr hx (by omega), b1_so]
    by_cases he : I (r + 1 + 1) (s + i) = (bytT.getD x []).getD i 0
    · rw [if_pos he, nI_s1]
      exact ih (i + 1) (by omega) ⟨j, by
        rcases Nat.eq_or_lt_of_le h1 with e | e
        · subst e; exact absurd he h3
        · exact e, h2, h3⟩ f (by omega)
    · rw [if_neg he]
theorem Ld.word (h : Ld I J r m B n p) (hx : x < 25) (hw : Wd B n p x) : f_X7_isWord I (tK B n p) (r + 1) x = some (1, I, tK B n p) := by
  obtain ⟨⟨hn, hp⟩, ⟨⟨⟨-, h3⟩, hb⟩, h4⟩, -⟩ := h
  obtain ⟨w1, w2, w3⟩ := hw
  have l7 := len_25 x hx
  have e0 := tS_le (B := B) hp
  have e1 := tE_ge (B := B) (n := n) (p := p)
  have e2 := tE_le (B := B) hp
  unfold f_X7_isWord f_X7_tokenLength
  rw [ckK_n tK_7, b1_so, if_pos w1, ckS_n hx, b1_so, js_len hx, b1_so, b1_so, h3, h4, pk_sub e1, if_pos (by rw [w2])]
  exact cw_t hx (s := tS B n p) (by omega) h4 (fun i hi => by rw [hb _ (by omega)]; exact w3 i hi) _ 0 (Nat.zero_add _) FU (FU_up (by omega))
theorem Ld.noword (h : Ld I J r m B n p) (hx : x < 25) (hw : ¬ Wd B n p x) : f_X7_isWord I (tK B n p) (r + 1) x = some (0, I, tK B n p) := by
  obtain ⟨⟨hn, hp⟩, ⟨⟨⟨-, h3⟩, hb⟩, h4⟩, -⟩ := h
  have l7 := len_25 x hx
  have e0 := tS_le (B := B) hp
  have e1 := tE_ge (B := B) (n := n) (p := p)
  have e2 := tE_le (B := B) hp
  unfold f_X7_isWord f_X7_tokenLength
  rw [ckK_n tK_7, b1_so]
  by_cases w1 : tK B n p = 1
  · rw [if_pos w1, ckS_n hx, b1_so, js_len hx, b1_so, b1_so, h3, h4, pk_sub e1]
    by_cases w2 : tE B n p - tS B n p = lenT.getD x 0
    · rw [if_pos (by rw [w2])]
      refine cw_f hx (s := tS B n p) (by omega) h4 _ 0 (Nat.zero_add _) (Classical.byContradiction fun hne => hw ⟨w1, w2, fun i hi => Classical.byContradiction fun h9 => hne ⟨i, Nat.zero_le _, hi, ?_⟩⟩) FU (FU_up (by omega))
      rw [hb _ (by omega)]
      exact h9
    · rw [if_neg (by rw [nJ_i (by omega) (by omega)]; exact fun z => w2 z.symm)]
  · rw [if_neg w1]
theorem rw_t (hx : x < 25) {s : Nat} (hs : s + lenT.getD x 0 ≤ 500) (h4 : J m 14 = nI s) (hb : ∀ i, i < lenT.getD x 0 → J (m + 6) (s + i) = (bytT.getD x []).getD i 0) : ∀ d i, i + d = lenT.getD x 0 → ∀ f, d < f → l_Y_isWord_28 f J m x (nI i) = some 1 := by
  have l7 := len_25 x hx
  intro d
  induction d with
  | zero =>
    intro i hi f hf
    obtain ⟨f, rfl⟩ : ∃ g, f = g + 1 := ⟨f - 1, by omega⟩
    show (b1 (ckS x) fun _ => b1 (f_J0_length_8abf5 J x) fun v6 => if v6 ≤ nI i then _ else _) = _
    rw [ckS_n hx, b1_so, js_len hx, b1_so, if_pos (by rw [ile (by omega) (by omega)]; omega)]
  | succ d ih =>
    intro i hi f hf
    obtain ⟨f, rfl⟩ : ∃ g, f = g + 1 := ⟨f - 1, by omega⟩
    show (b1 (ckS x) fun _ => b1 (f_J0_length_8abf5 J x) fun v6 => if v6 ≤ nI i then _ else (b1 (ix ((J m 14) + nI i) 500) fun j8 => b1 (ckS x) fun _ => b1 (f_J0_charAt_5068e J x (nI i)) fun v9 => if (J (m + 6) j8) = v9 then (l_Y_isWord_28 f J m x (nI i + 1)) else _)) = _
    rw [ckS_n hx, b1_so, js_len hx, b1_so, if_neg (by rw [ile (by omega) (by omega)]; omega), h4, nI_add, ix_n (by omega) (by decide), b1_so, b1_so, js_chr hx (by omega), b1_so, if_pos (hb i (by omega)), nI_s1]
    exact ih (i + 1) (by omega) f (by omega)
theorem rw_f (hx : x < 25) {s : Nat} (hs : s + lenT.getD x 0 ≤ 500) (h4 : J m 14 = nI s) : ∀ d i, i + d = lenT.getD x 0 → (∃ j, i ≤ j ∧ j < lenT.getD x 0 ∧ J (m + 6) (s + j) ≠ (bytT.getD x []).getD j 0) → ∀ f, d < f → l_Y_isWord_28 f J m x (nI i) = some 0 := by
  have l7 := len_25 x hx
  intro d
  induction d with
  | zero =>
    intro i hi ⟨j, h1, h2, h3⟩ f hf
    omega
  | succ d ih =>
    intro i hi ⟨j, h1, h2, h3⟩ f hf
    obtain ⟨f, rfl⟩ : ∃ g, f = g + 1 := ⟨f - 1, by omega⟩
    show (b1 (ckS x) fun _ => b1 (f_J0_length_8abf5 J x) fun v6 => if v6 ≤ nI i then _ else (b1 (ix ((J m 14) + nI i) 500) fun j8 => b1 (ckS x) fun _ => b1 (f_J0_charAt_5068e J x (nI i)) fun v9 => if (J (m + 6) j8) = v9 then (l_Y_isWord_28 f J m x (nI i + 1)) else (some 0))) = _
    rw [ckS_n hx, b1_so, js_len hx, b1_so, if_neg (by rw [ile (by omega) (by omega)]; omega), h4, nI_add, ix_n (by omega) (by decide), b1_so, b1_so, js_chr hx (by omega), b1_so]
    by_cases he : J (m + 6) (s + i) = (bytT.getD x []).getD i 0
    · rw [if_pos he, nI_s1]
      exact ih (i + 1) (by omega) ⟨j, by
        rcases Nat.eq_or_lt_of_le h1 with e | e
        · subst e; exact absurd he h3
        · exact e, h2, h3⟩ f (by omega)
    · rw [if_neg he]
theorem RTok.word (h : RTok J m B n p) (hn : n ≤ 500 ∧ p ≤ n) (hx : x < 25) (hw : Wd B n p x) : f_Y_isWord J m x = some 1 := by
  obtain ⟨hn, hp⟩ := hn
  have i2 := is_row h (k := 1) (by decide)
  obtain ⟨⟨h10, h12, hb⟩, ⟨h3, h4⟩, -⟩ := h
  obtain ⟨w1, w2, w3⟩ := hw
  have l7 := len_25 x hx
  have e0 := tS_le (B := B) hp
  have e1 := tE_ge (B := B) (n := n) (p := p)
  have e2 := tE_le (B := B) hp
  rw [show nI (kc 1) = (2 : Int32) from rfl, bI_t w1] at i2
  unfold f_Y_isWord
  rw [i2, b1_so, if_neg (by decide), ckS_n hx, b1_so, js_len hx, b1_so, h3, h4, pk_sub e1, if_pos (by rw [w2])]
  exact rw_t hx (s := tS B n p) (by omega) h4 (fun i hi => by rw [hb _ (by omega)]; exact w3 i hi) _ 0 (Nat.zero_add _) FU (FU_up (by omega))
theorem RTok.noword (h : RTok J m B n p) (hn : n ≤ 500 ∧ p ≤ n) (hx : x < 25) (hw : ¬ Wd B n p x) : f_Y_isWord J m x = some 0 := by
  obtain ⟨hn, hp⟩ := hn
  have i2 := is_row h (k := 1) (by decide)
  obtain ⟨⟨h10, h12, hb⟩, ⟨h3, h4⟩, -⟩ := h
  have l7 := len_25 x hx
  have e0 := tS_le (B := B) hp
  have e1 := tE_ge (B := B) (n := n) (p := p)
  have e2 := tE_le (B := B) hp
  rw [show nI (kc 1) = (2 : Int32) from rfl] at i2
  unfold f_Y_isWord
  rw [i2, b1_so]
  by_cases w1 : tK B n p = 1
  · rw [bI_t w1, if_neg (by decide), ckS_n hx, b1_so, js_len hx, b1_so, h3, h4, pk_sub e1]
    by_cases w2 : tE B n p - tS B n p = lenT.getD x 0
    · rw [if_pos (by rw [w2])]
      refine rw_f hx (s := tS B n p) (by omega) h4 _ 0 (Nat.zero_add _) (Classical.byContradiction fun hne => hw ⟨w1, w2, fun i hi => Classical.byContradiction fun h9 => hne ⟨i, Nat.zero_le _, hi, ?_⟩⟩) FU (FU_up (by omega))
      rw [hb _ (by omega)]
      exact h9
    · rw [if_neg (by rw [nJ_i (by omega) (by omega)]; exact w2)]
  · rw [bI_f w1, if_pos rfl]
end PST

