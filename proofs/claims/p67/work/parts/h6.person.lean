/-! a person, read by the reference -/
section IZX
variable {J J1 : Mem} {B : Nat → Int32} {n m p q x y c v hi o D np ns nw s a b d e f : Nat} {L A R : List Nat} {N M : Nat → Int32}
theorem RT.rf (S : RT J m B n L N o D) : f_Y_refuses J m 0 = some J := by
  unfold f_Y_refuses
  rw [S.z10, if_pos rfl, if_pos rfl]
theorem RT.vgo (S : RT J m B n (A ++ L) N o D) (hne : A ≠ []) (hA : ∀ c, c ∈ A → 97 ≤ c ∧ c ≤ 122) (hl : A.length ≤ 7) (hL : NH 97 122 L) : ∃ J1, f_Y_goes J m = some J1 ∧ RT J1 m B n L N o D := (S.bh (k := 1) fun p hs => tk_w hne hA hl hL hs).go
/-- a habit, if there is one -/
def hP (u : Int32) (x : Nat) (L : List Nat) : List Nat := if u = 0 then L else 32 :: (sBy x ++ L)
theorem hP_0 {u : Int32} (h : u = 0) : hP u x L = L := if_pos h
theorem hP_1 {u : Int32} (h : ¬ u = 0) : hP u x L = 32 :: (sBy x ++ L) := if_neg h
theorem hP_h {u w : Int32} (hL : Nx L) {l k : Nat} (g : (59 < l ∨ k < 59) ∧ (32 < l ∨ k < 32)) : NH l k (hP u x (hP w y L)) := by
  by_cases h : u = 0
  · rw [hP_0 h]
    by_cases h2 : w = 0
    · rw [hP_0 h2]; exact hL.h (by omega)
    · rw [hP_1 h2]; exact NH.cs (by omega)
  · rw [hP_1 h]; exact NH.cs (by omega)
theorem hP_h1 {w : Int32} (hL : Nx L) {l k : Nat} (g : (59 < l ∨ k < 59) ∧ (32 < l ∨ k < 32)) : NH l k (hP w y L) := by
  by_cases h2 : w = 0
  · rw [hP_0 h2]; exact hL.h (by omega)
  · rw [hP_1 h2]; exact NH.cs (by omega)
theorem hb_20 (hnp : np < 6) (S : RT J m B n (sBy 20 ++ L) N o D) (hL : NH 97 122 L) (h5 : pN N np 5 = 0) : ∃ J', l_Y_readsHabits_0 (f + 1) J m (nI np) = l_Y_readsHabits_0 f J' m (nI np) ∧ RT J' m B n L (upd N (11 + 14 * np + 5) 1) o D := by
  have w20 := S.isy (by decide) (by decide) hL
  obtain ⟨J', g1, g2⟩ := (S.put (M := upd N (11 + 14 * np + 5) 1)).wgo (by decide) (by decide) hL
  have o5 := op_row (J := J) (m := m) (w := np) (k := 5) hnp (by decide)
  rw [S.eN, h5] at o5
  have o5 : f_Y_ofPerson J m (nI np) 5 = some 0 := o5
  have pp : f_Y_putsPerson J m (nI np) 5 1 = some (sM J m (upd (J (m + 1)) (11 + 14 * np + 5) 1)) := pp_row (k := 5) hnp (by decide)
  rw [S.eN] at pp
  refine ⟨J', ?_, g2⟩
  show (b1 (f_Y_isWord J m 20) fun v1 => if v1 = 0 then (b1 (f_Y_isWord J m 21) fun v13 => if v13 = 0 then (some (J)) else (l_Y_readsHabits_18 (l_Y_readsHabits_0 f) J m (nI np))) else (l_Y_readsHabits_18 (l_Y_readsHabits_0 f) J m (nI np))) = _
  unfold l_Y_readsHabits_18 l_Y_readsHabits_33 l_Y_readsHabits_49
  rw [w20, b1_so, if_neg (show ¬ (1 : Int32) = 0 from by decide), b1_so, if_neg (show ¬ (1 : Int32) = 0 from by decide), o5, b1_so, if_neg (by decide), pp, b1_so, g1, b1_so]
theorem hb_21 (hnp : np < 6) (S : RT J m B n (sBy 21 ++ L) N o D) (hL : NH 97 122 L) (h5 : pN N np 6 = 0) : ∃ J', l_Y_readsHabits_0 (f + 1) J m (nI np) = l_Y_readsHabits_0 f J' m (nI np) ∧ RT J' m B n L (upd N (11 + 14 * np + 6) 1) o D := by
  have w20 := S.isn (by decide) (by decide) hL (y := 20) (by decide) (by decide)
  have w21 := S.isy (by decide) (by decide) hL
  obtain ⟨J', g1, g2⟩ := (S.put (M := upd N (11 + 14 * np + 6) 1)).wgo (by decide) (by decide) hL
  have o5 := op_row (J := J) (m := m) (w := np) (k := 6) hnp (by decide)
  rw [S.eN, h5] at o5
  have o5 : f_Y_ofPerson J m (nI np) 6 = some 0 := o5
  have pp : f_Y_putsPerson J m (nI np) 6 1 = some (sM J m (upd (J (m + 1)) (11 + 14 * np + 6) 1)) := pp_row (k := 6) hnp (by decide)
  rw [S.eN] at pp
  refine ⟨J', ?_, g2⟩
  show (b1 (f_Y_isWord J m 20) fun v1 => if v1 = 0 then (b1 (f_Y_isWord J m 21) fun v13 => if v13 = 0 then (some (J)) else (l_Y_readsHabits_18 (l_Y_readsHabits_0 f) J m (nI np))) else (l_Y_readsHabits_18 (l_Y_readsHabits_0 f) J m (nI np))) = _
  unfold l_Y_readsHabits_18 l_Y_readsHabits_33 l_Y_readsHabits_49
  rw [w20, b1_so, if_pos rfl, w21, b1_so, if_neg (show ¬ (1 : Int32) = 0 from by decide), b1_so, if_pos rfl, o5, b1_so, if_neg (by decide), pp, b1_so, g1, b1_so]
theorem hb_0 (S : RT J m B n L N o D) (hL : Nx L) {z : Int32} : l_Y_readsHabits_0 (f + 1) J m z = some J := by
  show (b1 (f_Y_isWord J m 20) fun v1 => if v1 = 0 then (b1 (f_Y_isWord J m 21) fun v13 => if v13 = 0 then (some (J)) else (l_Y_readsHabits_18 (l_Y_readsHabits_0 f) J m z)) else (l_Y_readsHabits_18 (l_Y_readsHabits_0 f) J m z)) = _
  rw [S.xnw hL (by decide), b1_so, if_pos rfl, S.xnw hL (by decide), b1_so, if_pos rfl]
theorem y_hab {u w : Int32} (hnp : np < 6) (S : RT J m B n (hP u 20 (hP w 21 L)) N o D) (hL : Nx L) (h5 : pN N np 5 = 0) (h6 : pN N np 6 = 0) : ∃ J' N', f_Y_readsHabits J m (nI np) = some J' ∧ RT J' m B n L N' o D ∧ (∀ j, j ≠ 11 + 14 * np + 5 → j ≠ 11 + 14 * np + 6 → N' j = N j) ∧ (pN N' np 5 = 0 ∨ pN N' np 5 = 1) ∧ (pN N' np 6 = 0 ∨ pN N' np 6 = 1) := by
  have hF := FU_ge
  obtain ⟨f, hf⟩ : ∃ f, FU = f + 1 + 1 + 1 := ⟨FU - 3, by omega⟩
  unfold f_Y_readsHabits
  rw [hf]
  have k2 : ∀ (J : Mem) (N : Nat → Int32) (f : Nat), RT J m B n (hP w 21 L) N o D → pN N np 6 = 0 → ∃ J' N', l_Y_readsHabits_0 (f + 1 + 1) J m (nI np) = some J' ∧ RT J' m B n L N' o D ∧ (∀ j, j ≠ 11 + 14 * np + 6 → N' j = N j) ∧ (pN N' np 6 = 0 ∨ pN N' np 6 = 1) := fun J N f S h6 => by
    by_cases hw : w = 0
    · rw [hP_0 hw] at S
      exact ⟨J, N, hb_0 S hL, S, fun _ _ => rfl, Or.inl h6⟩
    · rw [hP_1 hw] at S
      obtain ⟨J', g1, g2⟩ := hb_21 (f := f + 1) hnp S.sp (hL.h (by omega)) h6
      exact ⟨J', _, g1.trans (hb_0 g2 hL), g2, fun j h => upd_n h, Or.inr upd_s⟩
  by_cases hu : u = 0
  · rw [hP_0 hu] at S
    obtain ⟨J', N', g1, g2, g3, g4⟩ := k2 J N (f + 1) S h6
    exact ⟨J', N', g1, g2, fun j _ h => g3 j h, Or.inl ((g3 _ (by omega)).trans h5), g4⟩
  · rw [hP_1 hu] at S
    obtain ⟨J', g1, g2⟩ := hb_20 (f := f + 1 + 1) hnp S.sp (hP_h1 hL (by omega)) h5
    obtain ⟨J2, N2, c1, c2, c3, c4⟩ := k2 J' _ f g2 ((upd_n (by omega)).trans h6)
    exact ⟨J2, N2, g1.trans c1, c2, fun j h1 h2 => (c3 j h2).trans (upd_n h1), Or.inr ((c3 _ (by omega)).trans upd_s), c4⟩
theorem y_person {u w : Int32} (S : RT J m B n (sBy 1 ++ (32 :: ((c :: A) ++ (32 :: (dig a ++ (32 :: (dig b ++ (32 :: (dig d ++ hP u 20 (hP w 21 L)))))))))) N o D) (hA : ∀ d, d ∈ (c :: A) → 97 ≤ d ∧ d ≤ 122) (hl : (c :: A).length ≤ 6) (h2 : N 2 = nI np) (hnp : np < 6) (h0 : N 0 = nI y) (hy : y < 1000) (ha : a ≤ 999) (hb : b < y) (hd : d ≤ 99) (hL : Nx L)
    (H : ∀ i, i < np → NmOk N (11 + 14 * i + 7)) (hf : ∀ i, i < np → ¬ N (18 + 14 * i + 1) = nI c) :
    ∃ J' N', f_Y_readsPerson J m = some J' ∧ RT J' m B n L N' o D ∧ (∀ j, j ≠ 2 → j ≠ 7 → (j < 11 + 14 * np ∨ 11 + 14 * np + 13 < j) → N' j = N j) ∧ N' 2 = nI (np + 1) ∧ (pN N' np 0 = nI a ∧ pN N' np 1 = nI b) ∧ ((pN N' np 5 = 0 ∨ pN N' np 5 = 1) ∧ (pN N' np 6 = 0 ∨ pN N' np 6 = 1)) ∧ (NmOk N' (11 + 14 * np + 7) ∧ N' (18 + 14 * np + 1) = nI c) ∧ N' 7 = N 7 + nI a := by
  obtain ⟨J1, a1, a2⟩ := S.bg (j := 2) (cap := 6) (by decide) (by decide) (NH.sp (by omega)) (by decide) h2 hnp (by decide)
  have a1 : f_Y_begins J m 2 6 = some J1 := a1
  have a3 := a2.sp
  have l1 := a3.lk (by simp) hA hl (NH.sp (by omega))
  have t1 := a3.tk (ba := 18) (st := 14) (cnt := np) hA hl (NH.sp (by omega)) (fun i hi => by omega) (by omega) (fun i hi => by rw [show 18 + 14 * i = 11 + 14 * i + 7 by omega]; exact H i hi) hf
  have t1 : f_Y_isTaken J1 m (nI np) 18 14 (-1) = some 0 := t1
  obtain ⟨M0, gf, u1, u2', u3⟩ := zp_go (m := m) hnp 14 0 (by decide) FU (FU_up (by decide)) J1
  rw [a3.eN] at u2'
  have u1 : l_Y_readsPerson_42 FU J1 m (nI np) 0 = _ := u1
  obtain ⟨M1, n1, n2, n3, n4⟩ := (a3.put (M := M0)).nm (a := 11 + 14 * np + 7) hA hl (NH.sp (by omega)) (by omega)
  rw [sM_sM] at n1
  have M1o : ∀ j, (j < 11 + 14 * np ∨ 11 + 14 * np + 13 < j) → M1 j = N j := fun j hj => (n2 j (by omega)).trans (u2' j (by omega))
  have M1z : ∀ k, k < 7 → pN M1 np k = 0 := fun k hk => (n2 _ (by omega)).trans (u3 _ (by omega) (by omega))
  obtain ⟨J2, b1', b2'⟩ := (a3.put (M := M1)).vgo (by simp) hA (by omega) (NH.sp (by omega))
  obtain ⟨J3, c1, c2⟩ := b2'.sp.rn (lo := 0) (hi := 999) (by omega) (Nat.zero_le _) ha (by omega) (NH.sp (by omega))
  have c1 : f_Y_readNumber J2 m 0 999 = some (nI a, J3) := c1
  have c3 := (c2.sp.put (M := upd M1 (11 + 14 * np + 0) (nI a)))
  obtain ⟨J4, d1, d2⟩ := c3.rn (lo := 0) (hi := y - 1) (by omega) (Nat.zero_le _) (by omega) (by omega) (NH.sp (by omega))
  have d1 : f_Y_readNumber (sM J3 m (upd M1 (11 + 14 * np + 0) (nI a))) m 0 (nI (y - 1)) = some (nI b, J4) := d1
  have d3 := (d2.sp.put (M := upd (upd M1 (11 + 14 * np + 0) (nI a)) (11 + 14 * np + 1) (nI b)))
  obtain ⟨J5, e1, e2⟩ := d3.rn (lo := 0) (hi := 99) (by omega) (Nat.zero_le _) (by omega) (by omega) (hP_h hL (by omega))
  have e1 : f_Y_readNumber (sM J4 m (upd (upd M1 (11 + 14 * np + 0) (nI a)) (11 + 14 * np + 1) (nI b))) m 0 99 = some (nI d, J5) := e1
  have e3 := e2.put (M := upd (upd (upd M1 (11 + 14 * np + 0) (nI a)) (11 + 14 * np + 1) (nI b)) (11 + 14 * np + 2) (nI d))
  have e4 : nI y - 1 = nI (y - 1) := pk_sub (b := 1) (by omega)
  have y0 : upd M1 (11 + 14 * np + 0) (nI a) 0 = nI y := by rw [upd_n (by omega), M1o 0 (by omega), h0]
  generalize hM3 : upd (upd (upd M1 (11 + 14 * np + 0) (nI a)) (11 + 14 * np + 1) (nI b)) (11 + 14 * np + 2) (nI d) = M3 at e3
  have m3 : ∀ j, j ≠ 11 + 14 * np + 0 → j ≠ 11 + 14 * np + 1 → j ≠ 11 + 14 * np + 2 → M3 j = M1 j := fun j k0 k1 k2 => by rw [← hM3, upd_n k2, upd_n k1, upd_n k0]
  have m30 : pN M3 np 0 = nI a := by
    show M3 (11 + 14 * np + 0) = _
    rw [← hM3, upd_n (by omega), upd_n (by omega), upd_s]
  have m31 : pN M3 np 1 = nI b := by
    show M3 (11 + 14 * np + 1) = _
    rw [← hM3, upd_n (by omega), upd_s]
  obtain ⟨J6, N4, g1, g2, g3, g4⟩ := y_hab hnp e3 hL ((m3 _ (by omega) (by omega) (by omega)).trans (M1z 5 (by decide))) ((m3 _ (by omega) (by omega) (by omega)).trans (M1z 6 (by decide)))
  have n42 : N4 2 = nI np := by rw [g3 _ (by omega) (by omega), m3 _ (by omega) (by omega) (by omega), M1o _ (by omega), h2]
  have n47 : N4 7 = N 7 := by rw [g3 _ (by omega) (by omega), m3 _ (by omega) (by omega) (by omega), M1o _ (by omega)]
  have n40 : pN N4 np 0 = nI a := (g3 _ (by omega) (by omega)).trans m30
  have n41 : pN N4 np 1 = nI b := (g3 _ (by omega) (by omega)).trans m31
  have nf : ∀ j, j ≠ 2 → j ≠ 7 → upd (upd N4 2 (nI (np + 1))) 7 (N 7 + nI a) j = N4 j := fun j h1 h2 => by rw [upd_n h2, upd_n h1]
  refine ⟨_, upd (upd N4 2 (nI (np + 1))) 7 (N 7 + nI a), ?_, g2.put, fun j h1 h2 h3 => ?_, ?_, ⟨?_, ?_⟩, ⟨?_, ?_⟩, ⟨?_, ?_⟩, upd_s⟩
  · unfold f_Y_readsPerson
    rw [a1, b1_so, ix2, b1_so, l1, b1_so, a2.eN, h2, t1, b1_so, a3.rf, b1_so, if_pos a3.l10, u1]
    unfold l_Y_readsPerson_42
    rw [if_pos (show (14 : Int32) ≤ nI 14 from by decide), lk_ap (by omega), n1, b1_so, b1', b1_so, c1, b2_so, pp0 hnp, b1_so, c2.eN, ix0, b1_so, sM_s, y0, e4, d1, b2_so, pp1 hnp, b1_so, d2.eN, e1, b2_so, pp2 hnp, b1_so, e2.eN, hM3, g1, b1_so, ix2, b1_so, b1_so, g2.eN, n42, nI_s1, pu_so, b1_so, u2_sM g2.eN, ix7, b1_so, op0 hnp, b1_so, b1_so, sM_s, show pN (upd N4 2 (nI (np + 1))) np 0 = nI a from (upd_n (by omega)).trans n40, upd_n (show (7 : Nat) ≠ 2 by decide), n47, pu_so, b1_so, u2_sM sM_s, sM_sM]
  · rw [nf j h1 h2, g3 j (by omega) (by omega), m3 j (by omega) (by omega) (by omega), M1o j h3]
  · rw [upd_n (by decide), upd_s]
  · exact (nf _ (by omega) (by omega)).trans n40
  · exact (nf _ (by omega) (by omega)).trans n41
  · exact g4.1.imp (fun z => (nf _ (by omega) (by omega)).trans z) (fun z => (nf _ (by omega) (by omega)).trans z)
  · exact g4.2.imp (fun z => (nf _ (by omega) (by omega)).trans z) (fun z => (nf _ (by omega) (by omega)).trans z)
  · exact n3.cg fun j h1 h2 => by rw [nf j (by omega) (by omega), g3 j (by omega) (by omega), m3 j (by omega) (by omega) (by omega)]
  · rw [nf _ (by omega) (by omega), g3 _ (by omega) (by omega), m3 _ (by omega) (by omega) (by omega), show 18 + 14 * np + 1 = 11 + 14 * np + 7 + 1 by omega, n4]
end IZX
