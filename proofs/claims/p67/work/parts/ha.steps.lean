/-! the law's text, item by item -/
section STX
variable {J J1 : Mem} {I0 : Mem} {B : Nat → Int32} {n m np ns nw s y i a b c d e f l k p : Nat} {N N' M : Nat → Int32} {L : List Nat} {v : Int32}
theorem q26 : sBy 26 = 59 :: (sBy 3 ++ [32]) := by decide
theorem q27 : sBy 27 = 59 :: (sBy 4 ++ [32]) := by decide
theorem q28 : sBy 28 = 59 :: (sBy 14 ++ [32]) := by decide
theorem q29 : sBy 29 = 59 :: (sBy 15 ++ [32]) := by decide
theorem q30 : sBy 30 = 59 :: (sBy 0 ++ [32]) := by decide
theorem q31 : sBy 31 = 59 :: (sBy 1 ++ [32]) := by decide
theorem q36 : sBy 36 = 59 :: (sBy 5 ++ [32]) := by decide
theorem q37 : sBy 37 = 59 :: (sBy 2 ++ [32]) := by decide
theorem q25 : sBy 25 = sBy 19 ++ [32] := by decide
theorem q38 : sBy 38 = 32 :: (sBy 22 ++ [32]) := by decide
theorem q39 : sBy 39 = 32 :: (sBy 23 ++ [32]) := by decide
theorem q40 : sBy 40 = 32 :: (sBy 24 ++ [32]) := by decide
theorem q34 : sBy 34 = 32 :: sBy 20 := by decide
theorem q35 : sBy 35 = 32 :: sBy 21 := by decide
theorem q18 : sBy 18 = [] := by decide
theorem q32 : sBy 32 = 97 :: [110, 110] := by decide
theorem q33 : sBy 33 = 98 :: [111, 98] := by decide
theorem q41 : sBy 41 = 59 :: (sBy 17 ++ (32 :: (dig 2 ++ (32 :: (40 :: (sBy 16 ++ (32 :: (dig 1 ++ (41 :: []))))))))) := by decide
theorem hP_a {u : Int32} {L : List Nat} : sBy (if u = 0 then 18 else 34) ++ L = hP u 20 L := by
  unfold hP
  split
  · rw [q18]; rfl
  · rw [q34]; rfl
theorem hP_b {u : Int32} {L : List Nat} : sBy (if u = 0 then 18 else 35) ++ L = hP u 21 L := by
  unfold hP
  split
  · rw [q18]; rfl
  · rw [q35]; rfl
theorem tSt_e : tSt I0 i ++ L = 59 :: (sBy 0 ++ (32 :: (dig (vN I0 (419 + 2 * i) 0) ++ (32 :: (dig (vN I0 (419 + 2 * i) 1) ++ (32 :: (dig (vN I0 (419 + 2 * i) 2) ++ (32 :: (dig (vN I0 (419 + 2 * i) 3) ++ L))))))))) := by
  unfold tSt
  rw [q30]
  simp only [List.append_assoc, List.cons_append, List.nil_append]
theorem tPe_e : tPe I0 ns i ++ L = 59 :: (sBy 1 ++ (32 :: (sBy (if i = 0 then 32 else 33) ++ (32 :: (dig (vN I0 (420 + ns + 2 * i) 0) ++ (32 :: (dig (vN I0 (420 + ns + 2 * i) 1) ++ (32 :: (dig (vN I0 (420 + ns + 2 * i) 2) ++ hP (I0 (420 + ns + 2 * i) 5) 20 (hP (I0 (420 + ns + 2 * i) 6) 21 (59 :: (sBy 5 ++ (32 :: (dig i ++ (32 :: (dig (vN I0 (420 + ns + 2 * i) 4) ++ L)))))))))))))))) := by
  unfold tPe
  rw [q31, q36]
  simp only [List.append_assoc, List.cons_append, List.nil_append]
  rw [hP_a, hP_b]
theorem tWi_e (hV : VW I0 ns k) : tWi I0 ns k ++ L = 59 :: (sBy 2 ++ (32 :: (((112 + k) :: []) ++ (32 :: (dig (vN I0 (wd ns k) 0) ++ (32 :: (dig (vN I0 (wd ns k) 1) ++ (32 :: tPl (vH I0 ns k) (vX I0 ns k) (tWr (vN I0 (wd ns k) 2) L))))))))) := by
  obtain ⟨q0, q1, q2, -, -, ⟨e2, e2'⟩, -⟩ := hV
  have eW : (if I0 (wd ns k) 2 ≤ 0 then [] else sBy 40 ++ dig (vN I0 (wd ns k) 2)) ++ L = tWr (vN I0 (wd ns k) 2) L := by
    have hle : (I0 (wd ns k) 2 ≤ 0) ↔ q2 = 0 := by
      rw [e2, show (0 : Int32) = nI 0 from rfl, ile (by omega) (by omega)]
      omega
    unfold tWr
    rw [vN_e e2 (by omega)]
    by_cases h : q2 = 0
    · rw [if_pos (hle.mpr h), if_pos h]; rfl
    · rw [if_neg (fun z => h (hle.mp z)), if_neg h, q40]
      simp only [List.append_assoc, List.cons_append, List.nil_append]
  have eP : ∀ T, (if I0 (wd ns k) 3 < 0 then sBy 39 ++ dig (vN I0 (wd ns k) 4) else sBy 38 ++ dig (vN I0 (wd ns k) 3)) ++ T = 32 :: tPl (vH I0 ns k) (vX I0 ns k) T := fun T => by
    unfold tPl vH vX
    by_cases h : I0 (wd ns k) 3 < 0
    · rw [if_pos h, if_pos h, if_pos h, if_neg (by decide), q39]
      simp only [List.append_assoc, List.cons_append, List.nil_append]
    · rw [if_neg h, if_neg h, if_neg h, if_pos rfl, q38]
      simp only [List.append_assoc, List.cons_append, List.nil_append]
  unfold tWi
  rw [q37]
  simp only [List.append_assoc, List.cons_append, List.nil_append]
  rw [eW, eP]
theorem Nx.st : Nx (tSt I0 i ++ L) := Or.inr ⟨_, tSt_e⟩
theorem Nx.pe : Nx (tPe I0 ns i ++ L) := Or.inr ⟨_, tPe_e⟩
theorem Nx.wi (hV : VW I0 ns k) : Nx (tWi I0 ns k ++ L) := Or.inr ⟨_, tWi_e hV⟩
/-- a stall is read -/
theorem st_stall (S : RT J m B n (tSt I0 s ++ L) N 0 0) (V : IV I0 ns y N 0 s 0) (hs : s < 2) (hV : VS (I0 (419 + 2 * s))) (hL : Nx L) : ∃ J', l_Y_readsText_36 rI0 (f + 1) J m = l_Y_readsText_36 rI0 f J' m ∧ ∃ N', RT J' m B n L N' 0 0 ∧ IV I0 ns y N' 0 (s + 1) 0 := by
  obtain ⟨a, b, c, d, ⟨e0, a0, a1⟩, ⟨e1, b1'⟩, ⟨e2, c1⟩, e3, d1⟩ := hV
  rw [tSt_e, vN_e e0 (by omega), vN_e e1 (by omega), vN_e e2 (by omega), vN_e e3 (by omega)] at S
  refine lp_go S fun J1 S1 => ?_
  obtain ⟨J', N', g1, g2, g3, g4, g5, g6⟩ := y_stall S1 V.w.s.1 (by omega) (by omega) (by omega) c1 d1 hL
  refine ⟨J', ?_, N', g2, V.stall (by omega) g3 g4 g5 g6 (by omega) (by omega) c1 d1 e0⟩
  unfold rI0
  rw [d_stall S1, g1]
/-- a person is read, and the limit -/
theorem st_person (S : RT J m B n (tPe I0 ns p ++ L) N 0 0) (V : IV I0 ns y N p s 0) (hp : p < 2) (hV : VP (I0 (420 + ns + 2 * p)) y) (hy : y ≤ 60) (hL : Nx L) : ∃ J', l_Y_readsText_36 rI0 (f + 1 + 1) J m = l_Y_readsText_36 rI0 f J' m ∧ ∃ N', RT J' m B n L N' 0 0 ∧ IV I0 ns y N' (p + 1) s 0 := by
  obtain ⟨a, b, d, l, ⟨⟨e0, a1⟩, ⟨e1, b1'⟩, e2, d1⟩, ⟨-, e4, l1⟩, -, -⟩ := hV
  rw [tPe_e, vN_e e0 (by omega), vN_e e1 (by omega), vN_e e2 (by omega), vN_e e4 (by omega)] at S
  obtain ⟨A, hA1, hA2, hA3⟩ : ∃ A, sBy (if p = 0 then 32 else 33) = (97 + p) :: A ∧ (∀ d, d ∈ (97 + p) :: A → 97 ≤ d ∧ d ≤ 122) ∧ ((97 + p) :: A).length ≤ 6 := by
    rcases (show p = 0 ∨ p = 1 by omega) with rfl | rfl
    · exact ⟨[110, 110], q32, by decide, by decide⟩
    · exact ⟨[111, 98], q33, by decide, by decide⟩
  rw [hA1] at S
  have hf : ∀ i, i < p → ¬ N (18 + 14 * i + 1) = nI (97 + p) := fun i hi z => by
    rw [V.2.2.2.1 i hi, nJ_i (by omega) (by omega)] at z
    omega
  have k1 : ∃ J', l_Y_readsText_36 rI0 (f + 1 + 1) J m = l_Y_readsText_36 rI0 (f + 1) J' m ∧ ∃ N', RT J' m B n (59 :: (sBy 5 ++ (32 :: (dig p ++ (32 :: (dig l ++ L)))))) N' 0 0 ∧ IV I0 ns y N' (p + 1) s 0 := by
    refine lp_go S fun J1 S1 => ?_
    obtain ⟨J', N', g1, g2, g3, g4, g5, g6, g7, g8⟩ := y_person S1 hA2 hA3 V.w.p.1 (by omega) V.2.1 (by omega) (by omega) b1' (by omega) (Or.inr ⟨_, rfl⟩) V.g.1.2.1 hf
    refine ⟨J', ?_, N', g2, V.person (by omega) g3 g4 g5 g6 g7 g8 (by omega) b1' hy⟩
    unfold rI0
    rw [d_person S1, g1]
  obtain ⟨J1, g1, N1, g2, g3⟩ := k1
  rw [g1]
  refine lp_go g2 fun J2 S2 => ?_
  obtain ⟨J', c1, c2⟩ := y_limit S2 g3.w.p.1 (by omega) (by omega) (by omega) hL
  refine ⟨J', ?_, _, c2, g3.lim (by omega)⟩
  unfold rI0
  rw [d_limit S2, c1]
/-- a wish is read -/
theorem st_wish (S : RT J m B n (tWi I0 ns nw ++ L) N 0 0) (V : IV I0 ns y N 2 ns nw) (hw : nw < 4) (hV : ∀ i, i ≤ nw → VW I0 ns i) (hn : 1 ≤ ns ∧ ns ≤ 2) (hL : Nx L) : ∃ J', l_Y_readsText_36 rI0 (f + 1) J m = l_Y_readsText_36 rI0 f J' m ∧ ∃ N', RT J' m B n L N' 0 0 ∧ IV I0 ns y N' 2 ns (nw + 1) := by
  have hv := hV nw (Nat.le_refl _)
  rw [tWi_e hv] at S
  have hpl := (V.place hV hn hw).1
  obtain ⟨a, b, e, ⟨e0, a0, a1⟩, ⟨e1, b1'⟩, ⟨e2, c1⟩, -⟩ := hv
  rw [vN_e e0 (by omega), vN_e e1 (by omega), vN_e e2 (by omega)] at S
  have hf : ∀ i, i < nw → ¬ N (123 + 15 * i + 1) = nI (112 + nw) := fun i hi z => by
    rw [(V.2.2.2.2.1 i hi).1, nJ_i (by omega) (by omega)] at z
    omega
  refine lp_go S fun J1 S1 => ?_
  obtain ⟨J', N', g1, g2, g3, g4, g5, g6, g7⟩ := y_wish S1 (fun d hd => by
    obtain rfl : d = 112 + nw := by simpa using hd
    omega) (by simp) V.w (by omega) (by omega) (by omega) (by omega) hL hpl V.g.1.2.2 hf
  refine ⟨J', ?_, N', g2, V.wish hV hn hw g3 g4 g5 g6 g7 (by omega) (by omega)⟩
  unfold rI0
  rw [d_wish S1, g1]
end STX
