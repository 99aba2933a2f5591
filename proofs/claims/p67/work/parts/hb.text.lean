/-! the reference takes the law's whole text -/
section ETX
variable {J J1 : Mem} {I0 : Mem} {B : Nat → Int32} {n m np ns nw s y i a b c d e f g l k p : Nat} {N N' M : Nat → Int32} {L X : List Nat} {v : Int32}
/-- it ends well -/
def Ed (ns m : Nat) (R : Option Mem) : Prop := ∃ J', R = some J' ∧ J' m 10 = 0 ∧ WF (J' (m + 1)) 2 ns 4 ∧ NV (J' (m + 1)) ns 2
theorem e_rep (hn : 1 ≤ ns ∧ ns ≤ 2) (S : RT J m B n (if v &&& 1 = 0 then sBy 41 else []) N 0 0) (V : IV I0 ns y N 2 ns 4) (hg : 2 < g) : Ed ns m (l_Y_readsText_36 rI0 g J m) := by
  obtain ⟨f, rfl⟩ : ∃ f, g = f + 1 + 1 := ⟨g - 2, by omega⟩
  have V0 : NV N ns 0 := ⟨V.g.1, V.g.2.1, V.2.2.2.2.2, hn⟩
  by_cases hv : v &&& 1 = 0
  · rw [if_pos hv, q41] at S
    have H1 := (r_passesMany (I := J) (m := m) V.w (d := 1) (by omega)).2
    have H2 := (r_passesMany (I := J) (m := m) H1 (d := 1) (by omega)).2
    obtain ⟨J', g1, g2⟩ := lp_go (f := f + 1) (a := rI0) (P := fun J2 => RT J2 m B n [] (sDays (sDays N 2 ns 4 1) 2 ns 4 1) 0 2) S fun J1 S1 => by
      obtain ⟨J2, c1, c2⟩ := y_repeat S1 V.w (Or.inl rfl)
      refine ⟨J2, ?_, c2⟩
      unfold rI0
      rw [d_repeat S1, c1]
    refine ⟨J', g1.trans (lp_end g2 H2.p.1 H2.s.1 (by omega) (by omega)), g2.z10, ?_⟩
    rw [g2.eN]
    exact ⟨H2, (V0.days V.w 1).days H1 1⟩
  · rw [if_neg hv] at S
    refine ⟨J, lp_end S V.w.p.1 V.w.s.1 (by omega) (by omega), S.z10, ?_⟩
    rw [S.eN]
    exact ⟨V.w, V0.1, V0.2.1.imp fun d z => ⟨z.1, by omega⟩, V0.2.2⟩
theorem Nx.z : Nx (if v &&& 1 = 0 then sBy 41 else []) := by
  split
  · exact Or.inr ⟨_, q41⟩
  · exact Or.inl rfl
/-- the wishes -/
theorem e_wish (hn : 1 ≤ ns ∧ ns ≤ 2) (hV : ∀ i, i < 4 → VW I0 ns i) (S : RT J m B n (tWi I0 ns 0 ++ (tWi I0 ns 1 ++ (tWi I0 ns 2 ++ (tWi I0 ns 3 ++ (if v &&& 1 = 0 then sBy 41 else []))))) N 0 0) (V : IV I0 ns y N 2 ns 0) (hg : 8 < g) : Ed ns m (l_Y_readsText_36 rI0 g J m) := by
  obtain ⟨f, rfl⟩ : ∃ f, g = f + 1 + 1 + 1 + 1 := ⟨g - 4, by omega⟩
  obtain ⟨J1, a1, N1, a2, a3⟩ := st_wish (f := f + 1 + 1 + 1) S V (by decide) (fun i hi => hV i (by omega)) hn (Nx.wi (hV 1 (by decide)))
  obtain ⟨J2, b1', N2, b2', b3'⟩ := st_wish (f := f + 1 + 1) a2 a3 (by decide) (fun i hi => hV i (by omega)) hn (Nx.wi (hV 2 (by decide)))
  obtain ⟨J3, c1, N3, c2, c3⟩ := st_wish (f := f + 1) b2' b3' (by decide) (fun i hi => hV i (by omega)) hn (Nx.wi (hV 3 (by decide)))
  obtain ⟨J4, d1, N4, d2, d3⟩ := st_wish (f := f) c2 c3 (by decide) (fun i hi => hV i (by omega)) hn Nx.z
  rw [a1, b1', c1, d1]
  exact e_rep hn d2 d3 (by omega)
/-- the persons -/
theorem e_pers (hn : 1 ≤ ns ∧ ns ≤ 2) (hy : y ≤ 7) (hP : ∀ i, i < 2 → VP (I0 (420 + ns + 2 * i)) y) (hV : ∀ i, i < 4 → VW I0 ns i) (S : RT J m B n (tPe I0 ns 0 ++ (tPe I0 ns 1 ++ (tWi I0 ns 0 ++ (tWi I0 ns 1 ++ (tWi I0 ns 2 ++ (tWi I0 ns 3 ++ (if v &&& 1 = 0 then sBy 41 else []))))))) N 0 0) (V : IV I0 ns y N 0 ns 0) (hg : 14 < g) : Ed ns m (l_Y_readsText_36 rI0 g J m) := by
  obtain ⟨f, rfl⟩ : ∃ f, g = f + 1 + 1 + 1 + 1 := ⟨g - 4, by omega⟩
  obtain ⟨J1, a1, N1, a2, a3⟩ := st_person (f := f + 1 + 1) S V (by decide) (hP 0 (by decide)) (by omega) Nx.pe
  obtain ⟨J2, b1', N2, b2', b3'⟩ := st_person (f := f) a2 a3 (by decide) (hP 1 (by decide)) (by omega) (Nx.wi (hV 0 (by decide)))
  rw [a1, b1']
  exact e_wish hn hV b2' b3' (by omega)
/-- the stalls -/
theorem e_stal (hn : 1 ≤ ns ∧ ns ≤ 2) (hy : y ≤ 7) (hS : ∀ i, i < ns → VS (I0 (419 + 2 * i))) (hP : ∀ i, i < 2 → VP (I0 (420 + ns + 2 * i)) y) (hV : ∀ i, i < 4 → VW I0 ns i) (S : RT J m B n (tUp (tSt I0) ns ++ (tPe I0 ns 0 ++ (tPe I0 ns 1 ++ (tWi I0 ns 0 ++ (tWi I0 ns 1 ++ (tWi I0 ns 2 ++ (tWi I0 ns 3 ++ (if v &&& 1 = 0 then sBy 41 else [])))))))) N 0 0) (V : IV I0 ns y N 0 0 0) (hg : 20 < g) : Ed ns m (l_Y_readsText_36 rI0 g J m) := by
  rcases (show ns = 1 ∨ ns = 2 by omega) with rfl | rfl
  · obtain ⟨f, rfl⟩ : ∃ f, g = f + 1 := ⟨g - 1, by omega⟩
    have S : RT J m B n (tSt I0 0 ++ _) N 0 0 := S
    obtain ⟨J1, a1, N1, a2, a3⟩ := st_stall (f := f) S V (by decide) (hS 0 (by decide)) Nx.pe
    rw [a1]
    exact e_pers hn hy hP hV a2 a3 (by omega)
  · obtain ⟨f, rfl⟩ : ∃ f, g = f + 1 + 1 := ⟨g - 2, by omega⟩
    have S : RT J m B n ((tSt I0 0 ++ tSt I0 1) ++ _) N 0 0 := S
    rw [List.append_assoc] at S
    obtain ⟨J1, a1, N1, a2, a3⟩ := st_stall (f := f + 1) S V (by decide) (hS 0 (by decide)) Nx.st
    obtain ⟨J2, b1', N2, b2', b3'⟩ := st_stall (f := f) a2 a3 (by decide) (hS 1 (by decide)) Nx.pe
    rw [a1, b1']
    exact e_pers hn hy hP hV b2' b3' (by omega)
/-- an item of the head -/
theorem st_set {j x hi : Nat} (R : Mem → Nat → Option Mem) (S : RT J m B n (59 :: (sBy x ++ (32 :: (dig k ++ L)))) N 0 0) (V : IV I0 ns y N 0 0 0) (hd : ∀ J1, RT J1 m B n (sBy x ++ (32 :: (dig k ++ L))) N 0 0 → rI0 J1 m = f_Y_readsSetting J1 m (nI j) (nI hi)) (hx : x < 25) (h8 : x ≠ 18) (hj : 5 ≤ j ∧ j ≤ 10 ∧ j ≠ 7 ∧ j ≠ 10) (hk : k ≤ hi) (hh : hi < 1000) (h50 : k ≤ 50) (hL : Nx L) : ∃ J', l_Y_readsText_36 rI0 (f + 1) J m = l_Y_readsText_36 rI0 f J' m ∧ ∃ N', RT J' m B n L N' 0 0 ∧ IV I0 ns y N' 0 0 0 := by
  refine lp_go S fun J1 S1 => ?_
  obtain ⟨J', c1, c2⟩ := y_set S1 hx h8 (by omega) hk hh hL (j := j)
  exact ⟨J', (hd J1 S1).trans c1, _, c2, V.hu (by omega) (fun _ => ⟨k, rfl, h50⟩) (fun z => absurd z hj.2.2.2)⟩
theorem st_tax (S : RT J m B n (59 :: (sBy 15 ++ (32 :: (dig a ++ (32 :: (dig b ++ L)))))) N 0 0) (V : IV I0 ns y N 0 0 0) (hy : y ≤ 7) (ha : a < y) (hb : b ≤ 31) (hL : Nx L) : ∃ J', l_Y_readsText_36 rI0 (f + 1) J m = l_Y_readsText_36 rI0 f J' m ∧ ∃ N', RT J' m B n L N' 0 0 ∧ IV I0 ns y N' 0 0 0 := by
  refine lp_go S fun J1 S1 => ?_
  obtain ⟨J', c1, c2⟩ := y_tax S1 V.2.1 (by omega) ha (by omega) hL
  refine ⟨J', ?_, _, c2, (V.hu (j := 9) (x := nI a) (by decide) (fun z => absurd z (by decide)) (fun z => absurd z (by decide))).hu (j := 10) (by decide) (fun z => absurd z (by decide)) (fun _ => ⟨b, rfl, by omega⟩)⟩
  unfold rI0
  rw [d_tax S1, c1]
theorem tUp_s (hn : 1 ≤ ns ∧ ns ≤ 2) : Nx (tUp (tSt I0) ns ++ L) := by
  rcases (show ns = 1 ∨ ns = 2 by omega) with rfl | rfl
  · exact Nx.st (i := 0)
  · show Nx ((tSt I0 0 ++ tSt I0 1) ++ L)
    rw [List.append_assoc]
    exact Nx.st
theorem tTa_n (hX : Nx X) : Nx (tTa I0 ++ X) := by
  unfold tTa
  split
  · exact hX
  · rw [q29]
    exact Or.inr ⟨_, rfl⟩
theorem tAu_n (hX : Nx X) : Nx (tAu I0 ++ X) := by
  unfold tAu
  split
  · exact hX
  · rw [q28]
    exact Or.inr ⟨_, rfl⟩
/-- the whole -/
theorem y_text (hn : 1 ≤ ns ∧ ns ≤ 2) (hB : NB M) (V : HV I0 ns ns 2 4 y) (S : RN J m B n (tAll I0 ns v) M 0 0) : Ed ns m (f_Y_readsText rI0 J m) := by
  obtain ⟨⟨⟨hy, hy1, hy2⟩, -, ⟨r, hr, hr2⟩, ⟨w, hw, hw2⟩, hau, hta⟩, hS, hP, hV⟩ := V
  obtain ⟨X2, hX2⟩ : ∃ X2, X2 = tPe I0 ns 0 ++ (tPe I0 ns 1 ++ (tWi I0 ns 0 ++ (tWi I0 ns 1 ++ (tWi I0 ns 2 ++ (tWi I0 ns 3 ++ (if v &&& 1 = 0 then sBy 41 else [])))))) := ⟨_, rfl⟩
  have eT : tAll I0 ns v = sBy 19 ++ (32 :: (dig y ++ (59 :: (sBy 3 ++ (32 :: (dig r ++ (59 :: (sBy 4 ++ (32 :: (dig w ++ (tAu I0 ++ (tTa I0 ++ (tUp (tSt I0) ns ++ X2))))))))))))) := by
    rw [hX2]
    unfold tAll tHd
    rw [show tUp (tPe I0 ns) 2 = tPe I0 ns 0 ++ tPe I0 ns 1 from rfl, show tUp (tWi I0 ns) 4 = ((tWi I0 ns 0 ++ tWi I0 ns 1) ++ tWi I0 ns 2) ++ tWi I0 ns 3 from rfl, q25, q26, q27, vN_e hy (by omega), vN_e hr (by omega), vN_e hw (by omega)]
    simp only [List.append_assoc, List.cons_append, List.nil_append]
  have fin : ∀ {J : Mem} {N : Nat → Int32} {g : Nat}, RT J m B n (tUp (tSt I0) ns ++ X2) N 0 0 → IV I0 ns y N 0 0 0 → 20 < g → Ed ns m (l_Y_readsText_36 rI0 g J m) := fun {J N g} S V hg => by
    rw [hX2] at S
    exact e_stal hn hy2 hS hP hV S V hg
  have nS : Nx (tUp (tSt I0) ns ++ X2) := tUp_s hn
  have finT : ∀ {J : Mem} {N : Nat → Int32} {g : Nat}, RT J m B n (tTa I0 ++ (tUp (tSt I0) ns ++ X2)) N 0 0 → IV I0 ns y N 0 0 0 → 21 < g → Ed ns m (l_Y_readsText_36 rI0 g J m) := fun {J N g} S V hg => by
    rcases hta with h | ⟨a, t, ⟨ha, ha2⟩, ht, ht2⟩
    · have hx : I0 415 5 < 0 := by rw [h]; exact lt_m1
      rw [show tTa I0 = [] from if_pos hx] at S
      exact fin S V (by omega)
    · have hx : ¬ I0 415 5 < 0 := by rw [ha]; exact nln (by omega)
      have et : tTa I0 ++ (tUp (tSt I0) ns ++ X2) = 59 :: (sBy 15 ++ (32 :: (dig a ++ (32 :: (dig t ++ (tUp (tSt I0) ns ++ X2)))))) := by
        unfold tTa
        rw [if_neg hx, vN_e ha (by omega), vN_e ht (by omega), q29]
        simp only [List.append_assoc, List.cons_append, List.nil_append]
      rw [et] at S
      obtain ⟨f, rfl⟩ : ∃ f, g = f + 1 := ⟨g - 1, by omega⟩
      obtain ⟨J1, a1, N1, a2, a3⟩ := st_tax (f := f) S V hy2 ha2 ht2 nS
      rw [a1]
      exact fin a2 a3 (by omega)
  have nT : Nx (tTa I0 ++ (tUp (tSt I0) ns ++ X2)) := tTa_n nS
  have finA : ∀ {J : Mem} {N : Nat → Int32} {g : Nat}, RT J m B n (tAu I0 ++ (tTa I0 ++ (tUp (tSt I0) ns ++ X2))) N 0 0 → IV I0 ns y N 0 0 0 → 22 < g → Ed ns m (l_Y_readsText_36 rI0 g J m) := fun {J N g} S V hg => by
    rcases hau with h | ⟨a, ha, ha2⟩
    · have hx : I0 415 4 < 0 := by rw [h]; exact lt_m1
      rw [show tAu I0 = [] from if_pos hx] at S
      exact finT S V (by omega)
    · have hx : ¬ I0 415 4 < 0 := by rw [ha]; exact nln (by omega)
      have et : tAu I0 ++ (tTa I0 ++ (tUp (tSt I0) ns ++ X2)) = 59 :: (sBy 14 ++ (32 :: (dig a ++ (tTa I0 ++ (tUp (tSt I0) ns ++ X2))))) := by
        unfold tAu
        rw [if_neg hx, vN_e ha (by omega), q28]
        simp only [List.append_assoc, List.cons_append, List.nil_append]
      rw [et] at S
      obtain ⟨f, rfl⟩ : ∃ f, g = f + 1 := ⟨g - 1, by omega⟩
      have v0 := V.2.1
      obtain ⟨J1, a1, N1, a2, a3⟩ := st_set (f := f) (j := 8) (hi := y - 1) rI0 S V (fun J1 S1 => by
        unfold rI0
        rw [d_auction S1, v0, show nI y - 1 = nI (y - 1) from pk_sub (b := 1) (by omega)]
        rfl) (by decide) (by decide) (by decide) (by omega) (by omega) (by omega) nT
      rw [a1]
      exact finT a2 a3 (by omega)
  have nA : Nx (tAu I0 ++ (tTa I0 ++ (tUp (tSt I0) ns ++ X2))) := tAu_n nT
  rw [eT] at S
  obtain ⟨J1, a1, S1⟩ := S.go
  have w19 := S1.isy (by decide) (by decide) (NH.sp (by omega))
  obtain ⟨J2, b1', S2⟩ := S1.wgo (by decide) (by decide) (NH.sp (by omega))
  obtain ⟨J3, c1, S3⟩ := S2.sp.rn (lo := 4) (hi := 60) (by omega) hy1 (by omega) (by omega) (NH.cs (by omega))
  have c1 : f_Y_readNumber J2 m 4 60 = some (nI y, J3) := c1
  have S4 := S3.put (M := upd M 0 (nI y))
  have V4 : IV I0 ns y (upd M 0 (nI y)) 0 0 0 := IV.mk hB (by omega)
  have hF := FU_ge
  obtain ⟨f, hf⟩ : ∃ f, FU = f + 1 + 1 := ⟨FU - 2, by omega⟩
  obtain ⟨J5, e1, N5, S5, V5⟩ := st_set (f := f + 1) (j := 5) (hi := 30) rI0 S4 V4 (fun J1 S1 => by
    unfold rI0
    rw [d_regret S1]
    rfl) (by decide) (by decide) (by decide) (by omega) (by omega) (by omega) (Or.inr ⟨_, rfl⟩)
  obtain ⟨J6, g1, N6, S6, V6⟩ := st_set (f := f) (j := 6) (hi := 50) rI0 S5 V5 (fun J1 S1 => by
    unfold rI0
    rw [d_fee S1]
    rfl) (by decide) (by decide) (by decide) (by omega) (by omega) (by omega) nA
  unfold f_Y_readsText
  rw [a1, b1_so, w19, b1_so, if_neg (by decide)]
  unfold l_Y_readsText_19
  rw [b1', b1_so, c1, b2_so, ix0, b1_so, pu_so, b1_so, u2_sM S3.eN, hf, e1, g1]
  exact finA S6 V6 (by omega)
end ETX
