/-! writeStall and writePerson -/
section WPG
variable {I I1 I2 J : Mem} {K K1 K2 : Kt} {w m kb gb D np ns nw : Nat} {L : List Nat} {N : Nat → Int32}
theorem ST.out (S : ST I K w m kb gb D) (hO : OS I1 K1 w m kb gb L) (hl : L.length ≤ 100) (hP : OP I2 m L) (f1 : Fo I I1 w m) (q1 : ∀ a, a ≠ m → a ≠ m + 7 → I2 a = I1 a) (q2 : ∀ j, j ≠ 0 → j ≠ 20 → I2 m j = I1 m j) : ST I2 K1 w m kb gb D := by
  have hlo := hO.lo
  have hv := hO.v
  have e : ∀ a, a < m + 10 → a ≠ w + 102 → a ≠ w + 103 → a ≠ m → a ≠ m + 7 → I2 a = I a := fun a h1 h2 h3 h4 h5 => (q1 a h4 h5).trans (f1 a h1 h2 h3)
  have em : ∀ j, j ≠ 0 → j ≠ 20 → I2 m j = I m j := fun j h1 h2 => (q2 j h1 h2).trans (by rw [f1 m (by omega) (by omega) (by omega)])
  obtain ⟨-, ⟨l, ⟨a1, a2⟩, a3⟩, hB, ⟨u, v, u0, ⟨u2, u3, u4⟩, u5⟩, hV, ⟨p1, p2⟩, ⟨f, ⟨f0, f2, f3⟩, f4⟩, -⟩ := S
  refine ⟨hO.1, ⟨l, ⟨by rw [e w (by omega) (by omega) (by omega) (by omega) (by omega)]; exact a1, by rw [em 6 (by decide) (by decide)]; exact a2⟩, fun h => ?_⟩, ⟨⟨hB.1.1.fr fun a _ _ => e a (by omega) (by omega) (by omega) (by omega) (by omega), hB.1.2.1.fr fun a _ _ => e a (by omega) (by omega) (by omega) (by omega) (by omega), hB.1.2.2.fr fun a _ _ => e a (by omega) (by omega) (by omega) (by omega) (by omega)⟩, fun i hi => (hB.2.1 i hi).fr fun a _ _ => e a (by omega) (by omega) (by omega) (by omega) (by omega), fun i hi => (hB.2.2 i hi).fr fun a _ _ => e a (by omega) (by omega) (by omega) (by omega) (by omega)⟩, ⟨u, v, u0, ⟨by rw [e w (by omega) (by omega) (by omega) (by omega) (by omega)]; exact u2, by rw [em 7 (by decide) (by decide)]; exact u3, by rw [e w (by omega) (by omega) (by omega) (by omega) (by omega)]; exact u4⟩, fun j hj => ?_⟩, fun i hi => ?_, ⟨by rw [e (w + 1) (by omega) (by omega) (by omega) (by omega) (by omega), em 10 (by decide) (by decide)]; exact p1, by rw [e (w + 1) (by omega) (by omega) (by omega) (by omega) (by omega), em 11 (by decide) (by decide)]; exact p2⟩, ⟨f, ⟨f0, by rw [e (w + 1 + 1) (by omega) (by omega) (by omega) (by omega) (by omega)]; exact f2, by rw [em 9 (by decide) (by decide)]; exact f3⟩, fun i hi => by rw [e (w + 1 + 2) (by omega) (by omega) (by omega) (by omega) (by omega), e (m + 6) (by omega) (by omega) (by omega) (by omega) (by omega)]; exact f4 i hi⟩, ⟨L.length, hl, ⟨by rw [q1 _ (by omega) (by omega)]; exact hO.len, hP.1, by rw [q1 _ (by omega) (by omega)]; exact hO.one⟩, hO.2.1.2.1, fun i hi => ?_⟩, fun i hi => by rw [q1 _ (by omega) (by omega)]; exact hO.2.2.1 i hi, hO.2.2.2⟩
  · rw [e (m + 1) (by omega) (by omega) (by omega) (by omega) (by omega)]
    exact (a3 h).fr fun a _ _ => e a (by omega) (by omega) (by omega) (by omega) (by omega)
  · rw [e (m + 3) (by omega) (by omega) (by omega) (by omega) (by omega)]
    exact (u5 j hj).fr fun a _ _ => e a (by omega) (by omega) (by omega) (by omega) (by omega)
  · rw [e (w + 101) (by omega) (by omega) (by omega) (by omega) (by omega), e (m + 5) (by omega) (by omega) (by omega) (by omega) (by omega), e (m + 4) (by omega) (by omega) (by omega) (by omega) (by omega)]
    rcases hV i hi with h | ⟨h, h2, h3⟩
    · exact Or.inl h
    · exact Or.inr ⟨h, h2, h3.fr fun a _ _ => e a (by omega) (by omega) (by omega) (by omega) (by omega)⟩
  · have hg : L[i]? = some L[i] := List.getElem?_eq_getElem hi
    have := hO.2.1.2.2 i _ hg
    exact ⟨L[i], this.1, by rw [q1 _ (by omega) (by omega)]; exact this.2, hP.2 i _ hg⟩
theorem len_row (h : OS I K w m kb gb L) : f_J4_length_8abf5 I K (w + 102) = some (nI L.length) := by
  unfold f_J4_length_8abf5 f_J5_length_8abf5
  rw [b1_so, h.len]
theorem RM.fo (R : RM I (w + 37) N np ns nw) (f : Fo I I1 w m) (h : w + 414 ≤ m) : RM I1 (w + 37) N np ns nw := R.fr fun a _ _ => f a (by omega) (by omega) (by omega)
/-- what a stall's page says -/
def stL (N : Nat → Int32) (s : Nat) : Nat → List Nat
  | 0 => []
  | i + 1 => if wN N i 3 = 0 ∧ wN N i 4 = nI s then (stL N s i ++ (if (stL N s i).length = 0 then [] else [32])) ++ nmL N (115 + 15 * i + 8) ++ [61] ++ dig (nT (sPrice N i)) else stL N s i
def stO (N : Nat → Int32) (s n : Nat) : List Nat := if (stL N s n).length = 0 then [45] else stL N s n
def peB (N : Nat → Int32) (p : Nat) : List Nat := nmL N (11 + 14 * p + 7) ++ [58] ++ dig (nT (pN N p 0))
def peL (N : Nat → Int32) (p : Nat) : Nat → List Nat
  | 0 => peB N p
  | i + 1 => if wN N i 3 = 1 ∧ wN N i 4 = nI p then peL N p i ++ [32] ++ nmL N (115 + 15 * i + 8) else peL N p i
theorem sCnt_mo {P : Nat → Prop} [DecidablePred P] {i : Nat} : ∀ n, i ≤ n → sCnt P i ≤ sCnt P n
  | 0, h => by
    obtain rfl : i = 0 := by omega
    exact Nat.le_refl _
  | n + 1, h => by
    by_cases e : i = n + 1
    · rw [e]; exact Nat.le_refl _
    · have := sCnt_mo (P := P) (i := i) n (by omega)
      show _ ≤ sCnt P n + (if P n then 1 else 0)
      omega
theorem nmL_6 {a : Nat} (H : NmOk N a) : (nmL N a).length ≤ 6 := by
  have := (nm_c H).1
  unfold nmL
  rw [nmT_l]
  omega
theorem pr_k (H : WF N np ns nw) {w : Nat} (hw : w < nw) (h3 : wN N w 3 = 0) : ∃ k, sPrice N w = nI k ∧ k < 1000 ∧ nT (sPrice N w) = k := by
  obtain ⟨k0, z1, z2⟩ := sPr_n H hw h3
  have hk : k0 < 1000 := by
    obtain ⟨-, b, e, q1, q2, q3⟩ := H.2.2.2.1 w hw
    obtain ⟨h1, h2⟩ := H.a0 hw h3
    obtain ⟨c, t, g, a1, a2, a3, a4⟩ := H.2.2.2.2.1 _ h2
    have c1 : b * (10 - e) ≤ 99 * 10 := Nat.mul_le_mul q1.2.2 (by omega)
    have c2 : b * (10 - e) * (100 + g) ≤ 99 * 10 * 200 := Nat.mul_le_mul c1 (by omega)
    have c3 : b * (10 - e) * (100 + g) * (50 + t) ≤ 99 * 10 * 200 * 100 := Nat.mul_le_mul c2 (by omega)
    have hu : sPr N w = nI (b * (10 - e) * (100 + g) * (50 + t) / 100000) := by
      unfold sPr
      rw [q1.1, q2.1, a2.1, a3.1, show (10 : Int32) = nI 10 from rfl, show (100 : Int32) = nI 100 from rfl, show (50 : Int32) = nI 50 from rfl, show (100000 : Int32) = nI 100000 from rfl, pk_sub (by omega), nI_add, nI_add, pk_mul, pk_mul, pk_mul, pk_div (by omega) (by decide) (by decide)]
    have hd := Nat.div_le_self (b * (10 - e) * (100 + g) * (50 + t)) 100000
    rw [z1, nJ_i (by omega) (by omega)] at hu
    omega
  have : ∃ k, sPrice N w = nI k ∧ k < 1000 := by
    unfold sPrice
    split
    · exact ⟨k0, z1, hk⟩
    · exact ⟨1, rfl, by decide⟩
  obtain ⟨k, h1, h2⟩ := this
  exact ⟨k, h1, h2, by rw [h1, nT_n (by omega)]⟩
theorem dig_3 {x : Nat} (h : x < 1000) : (dig x).length ≤ 3 := by
  unfold dig
  rw [dgs_l]
  have := lg_c (x := x) (by omega)
  omega
theorem stL_l (H : WF N np ns nw) (Hn : ∀ w, w < nw → NmOk N (115 + 15 * w + 8)) {s : Nat} : ∀ i, i ≤ nw → (stL N s i).length ≤ 11 * sStock N i (nI s)
  | 0, _ => Nat.zero_le _
  | i + 1, hi => by
    have h1 := stL_l H Hn (s := s) i (by omega)
    have e : sStock N (i + 1) (nI s) = sStock N i (nI s) + (if wN N i 3 = 0 ∧ wN N i 4 = nI s then 1 else 0) := rfl
    show (if wN N i 3 = 0 ∧ wN N i 4 = nI s then _ else stL N s i).length ≤ _
    rw [e]
    by_cases hc : wN N i 3 = 0 ∧ wN N i 4 = nI s
    · obtain ⟨k, k1, k2, k3⟩ := pr_k H (w := i) (by omega) hc.1
      have h2 := nmL_6 (Hn i (by omega))
      have h3 := dig_3 (x := nT (sPrice N i)) (by omega)
      rw [if_pos hc, if_pos hc, List.length_append, List.length_append, List.length_append, List.length_append]
      have h4 : (if (stL N s i).length = 0 then ([] : List Nat) else [32]).length ≤ 1 := by split <;> decide
      have h5 : [61].length = 1 := rfl
      omega
    · rw [if_neg hc, if_neg hc]
      omega
theorem stL_b (H : WF N np ns nw) (Hn : ∀ w, w < nw → NmOk N (115 + 15 * w + 8)) {s : Nat} (hs : s < ns) {i : Nat} (hi : i ≤ nw) : (stL N s i).length ≤ 88 := by
  obtain ⟨c, t, g, ⟨-, a1⟩, -, -, a4⟩ := H.2.2.2.2.1 s hs
  have h1 := stL_l H Hn (s := s) i hi
  have h2 : sStock N i (nI s) ≤ sStock N nw (nI s) := sCnt_mo nw hi
  omega
theorem stO_l (H : WF N np ns nw) (Hn : ∀ w, w < nw → NmOk N (115 + 15 * w + 8)) {s : Nat} (hs : s < ns) : (stO N s nw).length ≤ 88 := by
  have := stL_b H Hn hs (Nat.le_refl nw)
  unfold stO
  split
  · decide
  · exact this
theorem nI_le0 {n : Nat} (h : n < 1000) : (nI n ≤ 0) = (n = 0) := by
  rw [show (0 : Int32) = nI 0 from rfl, Int32.le_iff_toInt_le, nI_toInt (by omega), nI_toInt (by omega)]
  exact propext ⟨fun h => by omega, fun h => by omega⟩
/-- the class's page of a stall -/
theorem cs_62 (hK : m + 10 ≤ kb ∧ kb < 900000) (R : RM I (w + 37) N np ns nw) (Hn : ∀ w, w < nw → NmOk N (115 + 15 * w + 8)) {f s i : Nat} (hi : i < nw) (h3 : wN N i 3 = 0) (hO : OS I K w m kb gb L) (hl : L.length ≤ 89) {r : Except String Int32} {T : List Nat}
    (k : ∀ I' K', RM I' (w + 37) N np ns nw → OS I' K' w m kb gb (L ++ nmL N (115 + 15 * i + 8) ++ [61] ++ dig (nT (sPrice N i))) → ∃ I1 K1, l_X9_writeStall_15 f I' K' w (nI s) (nI (i + 1)) = some (r, I1, K1) ∧ OS I1 K1 w m kb gb T ∧ Fo I' I1 w m ∧ Gw K' K1) :
    ∃ I1 K1, l_X9_writeStall_62 (l_X9_writeStall_15 f) I K w (nI s) (nI i) = some (r, I1, K1) ∧ OS I1 K1 w m kb gb T ∧ Fo I I1 w m ∧ Gw K K1 := by
  have k3 := R.f.w.2
  have hlo := hO.lo
  have h6 := nmL_6 (Hn i hi)
  obtain ⟨x, x1, x2, x3⟩ := pr_k R.f hi h3
  obtain ⟨I1, K1, a1, a2, a3, a4⟩ := wn_row hK (Hn i hi) (by omega) hO
  obtain ⟨I2, K2, b1', b2', b3', b4'⟩ := app_row hK a2 (by rw [List.length_append]; omega) (c := 61) (by decide)
  have R2 : RM I2 (w + 37) N np ns nw := (R.fo a3 hlo).fo b3' hlo
  obtain ⟨I3, K3, c1, c2, c3, c4⟩ := num_row hK b2' (by rw [List.length_append, List.length_append]; show _ + _ + 1 ≤ 105; omega) (x := x) (by omega)
  rw [← x3] at c2
  obtain ⟨I4, K4, d1, d2, d3, d4⟩ := k I3 K3 (R2.fo c3 hlo) c2
  refine ⟨I4, K4, ?_, d2, ((a3.trans b3').trans c3).trans d3, ((a4.trans b4').trans c4).trans d4⟩
  unfold l_X9_writeStall_62
  rw [ixn16 (by omega), b1_so, (R.w hi).1.1, a1, b2_so, ckG_n ⟨a4, a2.b⟩, b1_so, show (61 : Int32) = nI 61 from rfl, b1', b3_so, ckG_n ⟨b4', b2'.b⟩, b1_so, h_priceOf R2 hi h3, b1_so, x1, c1, b3_so, ckG_n ⟨c4, c2.b⟩, b1_so, nI_s1, d1]
theorem cs_go (hK : m + 10 ≤ kb ∧ kb < 900000) (H : WF N np ns nw) (Hn : ∀ w, w < nw → NmOk N (115 + 15 * w + 8)) {s : Nat} (hs : s < ns) : ∀ k i, i + k = nw → ∀ f, k < f → ∀ I K, RM I (w + 37) N np ns nw → OS I K w m kb gb (stL N s i) → ∃ I1 K1, l_X9_writeStall_15 f I K w (nI s) (nI i) = some (.ok (nI (stO N s nw).length), I1, K1) ∧ OS I1 K1 w m kb gb (stO N s nw) ∧ Fo I I1 w m ∧ Gw K K1 := by
  have k2 := H.s.2
  have k3 := H.w.2
  intro k
  induction k with
  | zero =>
    intro i hi f hf I K R hO
    obtain ⟨f, rfl⟩ : ∃ g, f = g + 1 := ⟨f - 1, by omega⟩
    obtain rfl : i = nw := by omega
    have hb := stL_b H Hn hs (Nat.le_refl i)
    by_cases h0 : (stL N s i).length = 0
    · obtain ⟨I1, K1, a1, a2, a3, a4⟩ := app_row hK hO (by omega) (c := 45) (by decide)
      have e : stL N s i ++ [45] = stO N s i := by
        unfold stO
        rw [if_pos h0, List.eq_nil_of_length_eq_zero h0]
        rfl
      rw [e] at a2
      refine ⟨I1, K1, ?_, a2, a3, a4⟩
      show (if (I (w + 37) 5) ≤ nI i then (b1 (f_J4_length_8abf5 I K (w + 102)) fun v7 => if v7 = 0 then (b3 (f_J4_append_cf468 I K (w + 102) 45) fun v11 I12 K13 => b1 (ckG K K13 (w + 102)) fun _ => l_X9_writeStall_130 I12 K13 w) else (l_X9_writeStall_130 I K w)) else _) = _
      rw [R.h5, if_pos (Int32.le_refl _), len_row hO, b1_so, h0, if_pos (show nI 0 = 0 from rfl), show (45 : Int32) = nI 45 from rfl, a1, b3_so, ckG_n ⟨a4, a2.b⟩, b1_so]
      unfold l_X9_writeStall_130
      rw [len_row a2, b1_so]
    · have e : stL N s i = stO N s i := by
        unfold stO
        rw [if_neg h0]
      rw [e] at hO
      refine ⟨I, K, ?_, hO, Fo.refl, Gw.refl⟩
      show (if (I (w + 37) 5) ≤ nI i then (b1 (f_J4_length_8abf5 I K (w + 102)) fun v7 => if v7 = 0 then (b3 (f_J4_append_cf468 I K (w + 102) 45) fun v11 I12 K13 => b1 (ckG K K13 (w + 102)) fun _ => l_X9_writeStall_130 I12 K13 w) else (l_X9_writeStall_130 I K w)) else _) = _
      rw [R.h5, if_pos (Int32.le_refl _), len_row hO, b1_so, if_neg (nI_ne0 (by rw [← e]; omega) (by rw [← e]; omega))]
      unfold l_X9_writeStall_130
      rw [len_row hO, b1_so]
  | succ k ih =>
    intro i hi f hf I K R hO
    obtain ⟨f, rfl⟩ : ∃ g, f = g + 1 := ⟨f - 1, by omega⟩
    have hb := stL_b H Hn hs (show i ≤ nw by omega)
    have en : ¬ nI nw ≤ nI i := by
      rw [Int32.le_iff_toInt_le, nI_toInt (by omega), nI_toInt (by omega)]
      omega
    have hw4 := R.w4s (w := i) (s := s) (by omega) (by omega)
    by_cases hc : wN N i 3 = 0 ∧ wN N i 4 = nI s
    · have es : stL N s (i + 1) = (stL N s i ++ (if (stL N s i).length = 0 then [] else [32])) ++ nmL N (115 + 15 * i + 8) ++ [61] ++ dig (nT (sPrice N i)) := by
        show (if _ then _ else _) = _
        rw [if_pos hc]
      by_cases h0 : (stL N s i).length = 0
      · rw [if_pos h0, List.append_nil] at es
        obtain ⟨I1, K1, a1, a2, a3, a4⟩ := cs_62 hK R Hn (f := f) (s := s) (i := i) (by omega) hc.1 hO (by omega) (fun I' K' R' O' => ih (i + 1) (by omega) f (by omega) I' K' R' (by rw [es]; exact O'))
        refine ⟨I1, K1, ?_, a2, a3, a4⟩
        show (if (I (w + 37) 5) ≤ nI i then _ else (b1 (ix (nI i) 16) fun j16 => if (I ((w + 37) + 15 + j16) 4) = nI s then (b1 (f_J4_length_8abf5 I K (w + 102)) fun v17 => if v17 ≤ 0 then (l_X9_writeStall_62 (l_X9_writeStall_15 f) I K w (nI s) (nI i)) else _) else _)) = _
        rw [R.h5, if_neg en, ixn16 (by omega), b1_so, if_pos (hw4.mpr hc), len_row hO, b1_so, if_pos (by rw [nI_le0 (by omega)]; exact h0), a1]
      · obtain ⟨I0, K0, z1, z2, z3, z4⟩ := app_row hK hO (by omega) (c := 32) (by decide)
        rw [if_neg h0] at es
        obtain ⟨I1, K1, a1, a2, a3, a4⟩ := cs_62 hK (R.fo z3 hO.lo) Hn (f := f) (s := s) (i := i) (by omega) hc.1 z2 (by rw [List.length_append]; show _ + 1 ≤ 89; omega) (fun I' K' R' O' => ih (i + 1) (by omega) f (by omega) I' K' R' (by rw [es]; exact O'))
        refine ⟨I1, K1, ?_, a2, z3.trans a3, z4.trans a4⟩
        show (if (I (w + 37) 5) ≤ nI i then _ else (b1 (ix (nI i) 16) fun j16 => if (I ((w + 37) + 15 + j16) 4) = nI s then (b1 (f_J4_length_8abf5 I K (w + 102)) fun v17 => if v17 ≤ 0 then _ else (b3 (f_J4_append_cf468 I K (w + 102) 32) fun v36 I37 K38 => b1 (ckG K K38 (w + 102)) fun _ => l_X9_writeStall_62 (l_X9_writeStall_15 f) I37 K38 w (nI s) (nI i))) else _)) = _
        rw [R.h5, if_neg en, ixn16 (by omega), b1_so, if_pos (hw4.mpr hc), len_row hO, b1_so, if_neg (by rw [nI_le0 (by omega)]; exact h0), show (32 : Int32) = nI 32 from rfl, z1, b3_so, ckG_n ⟨z4, z2.b⟩, b1_so, a1]
    · have es : stL N s (i + 1) = stL N s i := by
        show (if _ then _ else _) = _
        rw [if_neg hc]
      obtain ⟨I1, K1, a1, a2, a3, a4⟩ := ih (i + 1) (by omega) f (by omega) I K R (by rw [es]; exact hO)
      refine ⟨I1, K1, ?_, a2, a3, a4⟩
      show (if (I (w + 37) 5) ≤ nI i then _ else (b1 (ix (nI i) 16) fun j16 => if (I ((w + 37) + 15 + j16) 4) = nI s then _ else (l_X9_writeStall_15 f I K w (nI s) (nI i + 1)))) = _
      rw [R.h5, if_neg en, ixn16 (by omega), b1_so, if_neg (fun z => hc (hw4.mp z)), nI_s1, a1]
/-- the reference's -/
theorem rs_61 (H : WF N np ns nw) (Hn : ∀ w, w < nw → NmOk N (115 + 15 * w + 8)) (hN : I (m + 1) = N) {f s i : Nat} (hi : i < nw) (h3 : wN N i 3 = 0) (hO : OP I m L) (hl : L.length ≤ 89) {r : Int32} {T : List Nat}
    (k : ∀ I', I' (m + 1) = N → OP I' m (L ++ nmL N (115 + 15 * i + 8) ++ [61] ++ dig (nT (sPrice N i))) → ∃ I1, l_X10_writeStall_17 f I' m (nI s) (nI (i + 1)) = some (r, I1) ∧ OP I1 m T ∧ Fp I' I1 m) :
    ∃ I1, l_X10_writeStall_61 (l_X10_writeStall_17 f) I m (nI s) (nI i) = some (r, I1) ∧ OP I1 m T ∧ Fp I I1 m := by
  have k3 := H.w.2
  have h6 := nmL_6 (Hn i hi)
  obtain ⟨x, x1, x2, x3⟩ := pr_k H hi h3
  obtain ⟨I1, a1, a2, a3⟩ := rn_row (Hn i hi) (by omega) (by omega) hN hO
  obtain ⟨I2, c1, c2, c3⟩ := wby_row a2 (by rw [List.length_append]; omega) (c := 61) (by decide)
  have hN2 : I2 (m + 1) = N := (c3.n.trans a3.n).trans hN
  obtain ⟨I3, d1, d2, d3⟩ := wnum_row c2 (by rw [List.length_append, List.length_append]; show _ + _ + 1 ≤ 180; omega) (x := x) (by omega)
  rw [← x3] at d2
  obtain ⟨I4, e1', e2', e3'⟩ := k I3 (d3.n.trans hN2) d2
  have hp := r_priceOf (I := I2) (m := m) H hi h3
  rw [← hN2, sM_i, hN2] at hp
  refine ⟨I4, ?_, e2', ((a3.trans c3).trans d3).trans e3'⟩
  unfold l_X10_writeStall_61 f_X10_writesWish
  rw [lk_aw (by omega), a1, b1_so, b1_so, show (61 : Int32) = nI 61 from rfl, c1, b1_so, hp, b1_so, x1, d1, b1_so, nI_s1, e1']
theorem rs_go (H : WF N np ns nw) (Hn : ∀ w, w < nw → NmOk N (115 + 15 * w + 8)) {s : Nat} (hs : s < ns) : ∀ k i, i + k = nw → ∀ f, k < f → ∀ I, I (m + 1) = N → OP I m (stL N s i) → ∃ I1, l_X10_writeStall_17 f I m (nI s) (nI i) = some (nI (stO N s nw).length, I1) ∧ OP I1 m (stO N s nw) ∧ Fp I I1 m := by
  have k2 := H.s.2
  have k3 := H.w.2
  have h4 := H.w.1
  intro k
  induction k with
  | zero =>
    intro i hi f hf I hN hO
    obtain ⟨f, rfl⟩ : ∃ g, f = g + 1 := ⟨f - 1, by omega⟩
    obtain rfl : i = nw := by omega
    have hb := stL_b H Hn hs (Nat.le_refl i)
    by_cases h0 : (stL N s i).length = 0
    · obtain ⟨I1, a1, a2, a3⟩ := wby_row hO (by omega) (c := 45) (by decide)
      have e : stL N s i ++ [45] = stO N s i := by
        unfold stO
        rw [if_pos h0, List.eq_nil_of_length_eq_zero h0]
        rfl
      rw [e] at a2
      refine ⟨I1, ?_, a2, a3⟩
      show (b1 (ix 4 355) fun j5 => if (I (m + 1) j5) ≤ nI i then (if (I m 20) = 0 then (b1 (f_X10_writesByte I m 45) fun I6 => some ((I6 m 20), I6)) else (some ((I m 20), I))) else _) = _
      rw [ix4, b1_so, hN, h4, if_pos (Int32.le_refl _), hO.1, h0, if_pos (show nI 0 = 0 from rfl), show (45 : Int32) = nI 45 from rfl, a1, b1_so, a2.1]
    · have e : stL N s i = stO N s i := by
        unfold stO
        rw [if_neg h0]
      rw [e] at hO
      refine ⟨I, ?_, hO, Fp.refl⟩
      show (b1 (ix 4 355) fun j5 => if (I (m + 1) j5) ≤ nI i then (if (I m 20) = 0 then (b1 (f_X10_writesByte I m 45) fun I6 => some ((I6 m 20), I6)) else (some ((I m 20), I))) else _) = _
      rw [ix4, b1_so, hN, h4, if_pos (Int32.le_refl _), hO.1, if_neg (nI_ne0 (by rw [← e]; omega) (by rw [← e]; omega))]
  | succ k ih =>
    intro i hi f hf I hN hO
    obtain ⟨f, rfl⟩ : ∃ g, f = g + 1 := ⟨f - 1, by omega⟩
    have hb := stL_b H Hn hs (show i ≤ nw by omega)
    have en : ¬ nI nw ≤ nI i := by
      rw [Int32.le_iff_toInt_le, nI_toInt (by omega), nI_toInt (by omega)]
      omega
    have g0 := r_isInStall (I := I) (m := m) (N := I (m + 1)) (w := i) (by omega)
    have gw : f_X10_ofWish (sM I m (I (m + 1))) m (nI i) 4 = some (wN (I (m + 1)) i 4) := r_ofWish (I := I) (m := m) (N := I (m + 1)) (w := i) (k := 4) (by omega) (by omega)
    rw [sM_i, hN] at g0 gw
    by_cases hc : wN N i 3 = 0 ∧ wN N i 4 = nI s
    · have es : stL N s (i + 1) = (stL N s i ++ (if (stL N s i).length = 0 then [] else [32])) ++ nmL N (115 + 15 * i + 8) ++ [61] ++ dig (nT (sPrice N i)) := by
        show (if _ then _ else _) = _
        rw [if_pos hc]
      rw [bI_t hc.1] at g0
      by_cases h0 : (stL N s i).length = 0
      · rw [if_pos h0, List.append_nil] at es
        obtain ⟨I1, a1, a2, a3⟩ := rs_61 H Hn hN (f := f) (s := s) (i := i) (by omega) hc.1 hO (by omega) (fun I' R' O' => ih (i + 1) (by omega) f (by omega) I' R' (by rw [es]; exact O'))
        refine ⟨I1, ?_, a2, a3⟩
        show (b1 (ix 4 355) fun j5 => if (I (m + 1) j5) ≤ nI i then _ else (b1 (f_X10_isInStall I m (nI i)) fun v8 => if v8 = 0 then _ else (b1 (f_X10_ofWish I m (nI i) 4) fun v10 => if v10 = nI s then (if (I m 20) ≤ 0 then (l_X10_writeStall_61 (l_X10_writeStall_17 f) I m (nI s) (nI i)) else _) else _))) = _
        rw [ix4, b1_so, hN, h4, if_neg en, g0, b1_so, if_neg (by decide), gw, b1_so, if_pos hc.2, hO.1, if_pos (by rw [nI_le0 (by omega)]; exact h0), a1]
      · obtain ⟨I0, z1, z2, z3⟩ := wby_row hO (by omega) (c := 32) (by decide)
        rw [if_neg h0] at es
        obtain ⟨I1, a1, a2, a3⟩ := rs_61 H Hn (z3.n.trans hN) (f := f) (s := s) (i := i) (by omega) hc.1 z2 (by rw [List.length_append]; show _ + 1 ≤ 89; omega) (fun I' R' O' => ih (i + 1) (by omega) f (by omega) I' R' (by rw [es]; exact O'))
        refine ⟨I1, ?_, a2, z3.trans a3⟩
        show (b1 (ix 4 355) fun j5 => if (I (m + 1) j5) ≤ nI i then _ else (b1 (f_X10_isInStall I m (nI i)) fun v8 => if v8 = 0 then _ else (b1 (f_X10_ofWish I m (nI i) 4) fun v10 => if v10 = nI s then (if (I m 20) ≤ 0 then _ else (b1 (f_X10_writesByte I m 32) fun I20 => l_X10_writeStall_61 (l_X10_writeStall_17 f) I20 m (nI s) (nI i))) else _))) = _
        rw [ix4, b1_so, hN, h4, if_neg en, g0, b1_so, if_neg (by decide), gw, b1_so, if_pos hc.2, hO.1, if_neg (by rw [nI_le0 (by omega)]; exact h0), show (32 : Int32) = nI 32 from rfl, z1, b1_so, a1]
    · have es : stL N s (i + 1) = stL N s i := by
        show (if _ then _ else _) = _
        rw [if_neg hc]
      obtain ⟨I1, a1, a2, a3⟩ := ih (i + 1) (by omega) f (by omega) I hN (by rw [es]; exact hO)
      refine ⟨I1, ?_, a2, a3⟩
      show (b1 (ix 4 355) fun j5 => if (I (m + 1) j5) ≤ nI i then _ else (b1 (f_X10_isInStall I m (nI i)) fun v8 => if v8 = 0 then (l_X10_writeStall_17 f I m (nI s) (nI i + 1)) else (b1 (f_X10_ofWish I m (nI i) 4) fun v10 => if v10 = nI s then _ else (l_X10_writeStall_17 f I m (nI s) (nI i + 1))))) = _
      rw [ix4, b1_so, hN, h4, if_neg en, g0, b1_so]
      by_cases h3 : wN N i 3 = 0
      · rw [bI_t h3, if_neg (by decide), gw, b1_so, if_neg (fun z => hc ⟨h3, z⟩), nI_s1, a1]
      · rw [bI_f h3, if_pos rfl, nI_s1, a1]
theorem lc_erG {M9 M10 : MD} {c9 c10 : ByteArray} {es : List String} {As : List Value} {E : String} {t b : Int32} (S : ST I K w m kb gb D) (c1 : CtG M9 c9 (cst (.error E : Except String Int32)) (cs6 (.error E : Except String Int32)) K (.ref w :: As) I K (Ro (rI (.error E)) I K)) (hE : Ec es (.error E : Except String Int32) t) (c3 : ∀ Kj, MK Kj m → Ct M10 c10 0 0 (.ref m :: As) I Kj (Ro (.inl (some (.int b))) (u2 I m 0 t) Kj)) : LC M9 c9 M10 c10 es As I K w m kb gb (D + 300) := by
  have c2 := c1.2
  rw [Nat.sub_self, Nat.add_zero, Nat.sub_self, Nat.add_zero] at c2
  exact lc_er S c2 hE c3
theorem BR.fo {L : Prop} [Decidable L] (B : BR I w m L np ns nw) (f : Fo I I1 w m) (h : w + 414 ≤ m) : BR I1 w m L np ns nw := by
  refine ⟨⟨by rw [f w (by omega) (by omega) (by omega)]; exact B.1.1, by rw [f m (by omega) (by omega) (by omega)]; exact B.1.2⟩, fun hL => ?_⟩
  rw [f (m + 1) (by omega) (by omega) (by omega)]
  exact (B.2 hL).fo f h
theorem lc_writeStall (S : ST I K w m kb gb D) (hK : m + 10 ≤ kb ∧ kb < 900000) (x : Int32) : LC (mX9_writeStall 10) cX9_writeStall (mX10_writeStall 3) cX10_writeStall [eIS, eIX] [.int x] I K w m kb gb (D + 300) := by
  obtain ⟨l, np, ns, nw, B, G⟩ := S.br
  have hlo := S.lo
  have hB := S.1.1.2.1
  by_cases hL : l = true
  · have R := B.2 hL
    have k2 := R.f.s.2
    have k3 := R.f.w.2
    have Hn : ∀ w, w < nw → NmOk (I (m + 1)) (115 + 15 * w + 8) := (G hL).1.2.2
    by_cases hx : ¬ x < 0 ∧ x < nI ns
    · obtain ⟨s, rfl, hs⟩ := okI_of hx (by omega)
      obtain ⟨I0, z1, z2, z3⟩ := set_row S
      obtain ⟨I1, K1, a1, a2, a3, a4⟩ := cs_go hK R.f Hn hs nw 0 (Nat.zero_add _) FU (FU_up (by omega)) I0 K (R.fo z3 hlo) z2
      have F1 : Fo I I1 w m := z3.trans a3
      have g1 : f_X9_writeStall I K w (nI s) = some (.ok (nI (stO (I (m + 1)) s nw).length), I1, K1) := by
        unfold f_X9_writeStall
        rw [h_checkStall B.1.1 (n := ns) (fun hL => (B.2 hL).h4), if_pos hL, if_pos hx, e1_ok, z1, b2_so, ckG_n ⟨Gw.refl, hB⟩, b1_so]
        exact a1
      have B1 := B.fo F1 hlo
      have hN1 : I1 (m + 1) = I (m + 1) := F1 _ (by omega) (by omega) (by omega)
      obtain ⟨I2, d1, d2, d3⟩ := rs_go (m := m) R.f Hn hs nw 0 (Nat.zero_add _) FU (FU_up (by omega)) (u2 (u2 I1 m 0 0) m 20 0) (by rw [u2_a (by omega), u2_a (by omega)]; exact hN1) ⟨u2_s, fun i c hi => by simp [stL] at hi⟩
      have g2 : f_X10_writeStall I1 m (nI s) = some (nI (stO (I (m + 1)) s nw).length, I2) := by
        unfold f_X10_writeStall
        rw [r_mayStall B1, b2_so, bI_t ⟨hL, hL, hx⟩, if_neg (by decide), th_0 hL ⟨hL, hx⟩, pu_so, b1_so]
        exact d1
      have C := c_X9_writeStall 0 ⟨S.lw, hB⟩ g1
      have q1 : ∀ a, a ≠ m → a ≠ m + 7 → I2 a = I1 a := fun a h1 h2 => by rw [d3.1 a h1 h2, u2_a h1, u2_a h1]
      have q2 : ∀ j, j ≠ 0 → j ≠ 20 → I2 m j = I1 m j := fun j h1 h2 => by rw [d3.2 j h2, u2_k h2, u2_k h1]
      exact ⟨.ok (nI (stO (I (m + 1)) s nw).length), 0, nI (stO (I (m + 1)) s nw).length, I1, I2, K1, _, _, ⟨C.2, Ec0, fun Kj hM => c_X10_writeStall 0 hM g2⟩, ⟨by rw [d3.2 0 (by decide), u2_k (by decide), u2_s], fun v h => by cases h; rfl⟩, (S.out a2 (Nat.le_trans (stO_l R.f Hn hs) (by decide)) d2 F1 q1 q2).le (Nat.le_add_right _ _), ⟨C.1, a4.ka⟩, by show 0 + _ ≤ 2 + _; omega, by show 0 + _ ≤ 12 + _; omega⟩
    · refine lc_erG (E := eIX) S (c_X9_writeStall 0 ⟨S.lw, hB⟩ (x := .error eIX) ?_) Ec2 (fun Kj hM => c_X10_writeStall 0 hM (v := 0) ?_)
      · unfold f_X9_writeStall
        rw [h_checkStall B.1.1 (n := ns) (fun hL => (B.2 hL).h4), if_pos hL, if_neg hx, e1_er]
      · unfold f_X10_writeStall
        rw [r_mayStall B, b2_so, bI_f (fun h => hx h.2.2), if_pos rfl, th_2 hL (fun h => hx h.2)]
  · refine lc_erG (E := eIS) S (c_X9_writeStall 0 ⟨S.lw, hB⟩ (x := .error eIS) ?_) Ec1 (fun Kj hM => c_X10_writeStall 0 hM (v := 0) ?_)
    · unfold f_X9_writeStall
      rw [h_checkStall B.1.1 (n := ns) (fun hL => (B.2 hL).h4), if_neg hL, e1_er]
    · unfold f_X10_writeStall
      rw [r_mayStall B, b2_so, bI_f (fun h => hL h.1), if_pos rfl, th_1 hL]
/-! a person -/
theorem peB_l {p : Nat} (Hp : NmOk N (11 + 14 * p + 7)) {c : Nat} (hc : nT (pN N p 0) = c) (h : c < 11000) : (peB N p).length ≤ 12 := by
  have h6 := nmL_6 Hp
  have l4 := lg_4 (x := c)
  unfold peB
  rw [hc, List.length_append, List.length_append]
  unfold dig
  rw [dgs_l]
  show _ + 1 + _ ≤ 12
  omega
theorem peL_l (Hn : ∀ w, w < nw → NmOk N (115 + 15 * w + 8)) {p : Nat} (hB : (peB N p).length ≤ 12) : ∀ i, i ≤ nw → (peL N p i).length ≤ 12 + 7 * sOwns N i (nI p)
  | 0, _ => hB
  | i + 1, hi => by
    have h1 := peL_l Hn hB i (by omega)
    have e : sOwns N (i + 1) (nI p) = sOwns N i (nI p) + (if wN N i 3 = 1 ∧ wN N i 4 = nI p then 1 else 0) := rfl
    show (if wN N i 3 = 1 ∧ wN N i 4 = nI p then _ else peL N p i).length ≤ _
    rw [e]
    by_cases hc : wN N i 3 = 1 ∧ wN N i 4 = nI p
    · have h2 := nmL_6 (Hn i (by omega))
      rw [if_pos hc, if_pos hc, List.length_append, List.length_append]
      have h5 : [32].length = 1 := rfl
      omega
    · rw [if_neg hc, if_neg hc]
      omega
theorem peL_b (H : WF N np ns nw) (Hn : ∀ w, w < nw → NmOk N (115 + 15 * w + 8)) {p : Nat} (hp : p < np) (hB : (peB N p).length ≤ 12) {i : Nat} (hi : i ≤ nw) : (peL N p i).length ≤ 40 := by
  have h0 := (H.2.2.2.2.2 p hp).1
  have h1 := peL_l Hn hB i hi
  have h2 : sOwns N i (nI p) ≤ sOwns N nw (nI p) := sCnt_mo nw hi
  omega
theorem cp_go (hK : m + 10 ≤ kb ∧ kb < 900000) (H : WF N np ns nw) (Hn : ∀ w, w < nw → NmOk N (115 + 15 * w + 8)) {p : Nat} (hp : p < np) (hB : (peB N p).length ≤ 12) : ∀ k i, i + k = nw → ∀ f, k < f → ∀ I K, RM I (w + 37) N np ns nw → OS I K w m kb gb (peL N p i) → ∃ I1 K1, l_X9_writePerson_46 f I K w (nI p) (nI i) = some (.ok (nI (peL N p nw).length), I1, K1) ∧ OS I1 K1 w m kb gb (peL N p nw) ∧ Fo I I1 w m ∧ Gw K K1 := by
  have k1 := H.p.2
  have k3 := H.w.2
  intro k
  induction k with
  | zero =>
    intro i hi f hf I K R hO
    obtain ⟨f, rfl⟩ : ∃ g, f = g + 1 := ⟨f - 1, by omega⟩
    obtain rfl : i = nw := by omega
    refine ⟨I, K, ?_, hO, Fo.refl, Gw.refl⟩
    show (if (I (w + 37) 5) ≤ nI i then (b1 (f_J4_length_8abf5 I K (w + 102)) fun v22 => some (Except.ok v22, I, K)) else _) = _
    rw [R.h5, if_pos (Int32.le_refl _), len_row hO, b1_so]
  | succ k ih =>
    intro i hi f hf I K R hO
    obtain ⟨f, rfl⟩ : ∃ g, f = g + 1 := ⟨f - 1, by omega⟩
    have hb := peL_b H Hn hp hB (show i ≤ nw by omega)
    have hlo := hO.lo
    have en : ¬ nI nw ≤ nI i := by
      rw [Int32.le_iff_toInt_le, nI_toInt (by omega), nI_toInt (by omega)]
      omega
    have hw5 := R.w5s (w := i) (s := p) (by omega) (by omega)
    by_cases hc : wN N i 3 = 1 ∧ wN N i 4 = nI p
    · have es : peL N p (i + 1) = peL N p i ++ [32] ++ nmL N (115 + 15 * i + 8) := by
        show (if _ then _ else _) = _
        rw [if_pos hc]
      obtain ⟨I0, K0, z1, z2, z3, z4⟩ := app_row hK hO (by omega) (c := 32) (by decide)
      obtain ⟨I1, K1, a1, a2, a3, a4⟩ := wn_row hK (Hn i (by omega)) (by rw [List.length_append]; show _ + 1 ≤ 100; omega) z2
      rw [← es] at a2
      obtain ⟨I2, K2, d1, d2, d3, d4⟩ := ih (i + 1) (by omega) f (by omega) I1 K1 ((R.fo z3 hlo).fo a3 hlo) a2
      refine ⟨I2, K2, ?_, d2, (z3.trans a3).trans d3, (z4.trans a4).trans d4⟩
      show (if (I (w + 37) 5) ≤ nI i then _ else (b1 (ix (nI i) 16) fun j24 => if (I ((w + 37) + 15 + j24) 5) = nI p then (b3 (f_J4_append_cf468 I K (w + 102) 32) fun v25 I26 K27 => b1 (ckG K K27 (w + 102)) fun _ => b1 (ix (nI i) 16) fun j30 => b2 (f_X9_writeName I26 K27 w (I26 ((w + 37) + 15 + j30) 0)) fun I31 K32 => b1 (ckG K27 K32 (w + 102)) fun _ => l_X9_writePerson_46 f I31 K32 w (nI p) (nI i + 1)) else _)) = _
      rw [R.h5, if_neg en, ixn16 (by omega), b1_so, if_pos (hw5.mpr hc), show (32 : Int32) = nI 32 from rfl, z1, b3_so, ckG_n ⟨z4, z2.b⟩, b1_so, b1_so, ((R.fo z3 hlo).w (w := i) (by omega)).1.1, a1, b2_so, ckG_n ⟨a4, a2.b⟩, b1_so, nI_s1, d1]
    · have es : peL N p (i + 1) = peL N p i := by
        show (if _ then _ else _) = _
        rw [if_neg hc]
      obtain ⟨I1, K1, a1, a2, a3, a4⟩ := ih (i + 1) (by omega) f (by omega) I K R (by rw [es]; exact hO)
      refine ⟨I1, K1, ?_, a2, a3, a4⟩
      show (if (I (w + 37) 5) ≤ nI i then _ else (b1 (ix (nI i) 16) fun j24 => if (I ((w + 37) + 15 + j24) 5) = nI p then _ else (l_X9_writePerson_46 f I K w (nI p) (nI i + 1)))) = _
      rw [R.h5, if_neg en, ixn16 (by omega), b1_so, if_neg (fun z => hc (hw5.mp z)), nI_s1, a1]
theorem rp_go (H : WF N np ns nw) (Hn : ∀ w, w < nw → NmOk N (115 + 15 * w + 8)) {p : Nat} (hp : p < np) (hB : (peB N p).length ≤ 12) : ∀ k i, i + k = nw → ∀ f, k < f → ∀ I, I (m + 1) = N → OP I m (peL N p i) → ∃ I1, l_X10_writePerson_47 f I m (nI p) (nI i) = some (nI (peL N p nw).length, I1) ∧ OP I1 m (peL N p nw) ∧ Fp I I1 m := by
  have k1 := H.p.2
  have k3 := H.w.2
  have h4 := H.w.1
  intro k
  induction k with
  | zero =>
    intro i hi f hf I hN hO
    obtain ⟨f, rfl⟩ : ∃ g, f = g + 1 := ⟨f - 1, by omega⟩
    obtain rfl : i = nw := by omega
    refine ⟨I, ?_, hO, Fp.refl⟩
    show (b1 (ix 4 355) fun j13 => if (I (m + 1) j13) ≤ nI i then (some ((I m 20), I)) else _) = _
    rw [ix4, b1_so, hN, h4, if_pos (Int32.le_refl _), hO.1]
  | succ k ih =>
    intro i hi f hf I hN hO
    obtain ⟨f, rfl⟩ : ∃ g, f = g + 1 := ⟨f - 1, by omega⟩
    have hb := peL_b H Hn hp hB (show i ≤ nw by omega)
    have en : ¬ nI nw ≤ nI i := by
      rw [Int32.le_iff_toInt_le, nI_toInt (by omega), nI_toInt (by omega)]
      omega
    have g0 := r_isOwnedBy (I := I) (m := m) (N := I (m + 1)) (w := i) (p := nI p) (by omega)
    rw [sM_i, hN] at g0
    by_cases hc : wN N i 3 = 1 ∧ wN N i 4 = nI p
    · have es : peL N p (i + 1) = peL N p i ++ [32] ++ nmL N (115 + 15 * i + 8) := by
        show (if _ then _ else _) = _
        rw [if_pos hc]
      obtain ⟨I0, z1, z2, z3⟩ := wby_row hO (by omega) (c := 32) (by decide)
      obtain ⟨I1, a1, a2, a3⟩ := rn_row (Hn i (by omega)) (by omega) (by rw [List.length_append]; show _ + 1 ≤ 100; omega) (z3.n.trans hN) z2
      rw [← es] at a2
      obtain ⟨I2, d1, d2, d3⟩ := ih (i + 1) (by omega) f (by omega) I1 ((a3.n.trans z3.n).trans hN) a2
      refine ⟨I2, ?_, d2, (z3.trans a3).trans d3⟩
      show (b1 (ix 4 355) fun j13 => if (I (m + 1) j13) ≤ nI i then _ else (b1 (f_X10_isOwnedBy I m (nI i) (nI p)) fun v14 => if v14 = 0 then _ else (b1 (f_X10_writesByte I m 32) fun I16 => b1 (b1 (f_X10_writesName I16 m ((115 + (15 * nI i)) + 8)) fun I1 => some I1) fun I18 => l_X10_writePerson_47 f I18 m (nI p) (nI i + 1)))) = _
      rw [ix4, b1_so, hN, h4, if_neg en, g0, b1_so, bI_t hc, if_neg (by decide), show (32 : Int32) = nI 32 from rfl, z1, b1_so, lk_aw (by omega), a1, b1_so, b1_so, nI_s1, d1]
    · have es : peL N p (i + 1) = peL N p i := by
        show (if _ then _ else _) = _
        rw [if_neg hc]
      obtain ⟨I1, a1, a2, a3⟩ := ih (i + 1) (by omega) f (by omega) I hN (by rw [es]; exact hO)
      refine ⟨I1, ?_, a2, a3⟩
      show (b1 (ix 4 355) fun j13 => if (I (m + 1) j13) ≤ nI i then _ else (b1 (f_X10_isOwnedBy I m (nI i) (nI p)) fun v14 => if v14 = 0 then (l_X10_writePerson_47 f I m (nI p) (nI i + 1)) else _)) = _
      rw [ix4, b1_so, hN, h4, if_neg en, g0, b1_so, bI_f hc, if_pos rfl, nI_s1, a1]
theorem lc_writePerson (S : ST I K w m kb gb D) (hK : m + 10 ≤ kb ∧ kb < 900000) (x : Int32) : LC (mX9_writePerson 10) cX9_writePerson (mX10_writePerson 3) cX10_writePerson [eIS, eIX] [.int x] I K w m kb gb (D + 300) := by
  obtain ⟨l, np, ns, nw, B, G⟩ := S.br
  have hlo := S.lo
  have hB := S.1.1.2.1
  by_cases hL : l = true
  · have R := B.2 hL
    have k1 := R.f.p.2
    have k3 := R.f.w.2
    have Hn : ∀ w, w < nw → NmOk (I (m + 1)) (115 + 15 * w + 8) := (G hL).1.2.2
    by_cases hx : ¬ x < 0 ∧ x < nI np
    · obtain ⟨p, rfl, hp⟩ := okI_of hx (by omega)
      have Hp := (G hL).1.2.1 p hp
      obtain ⟨c, c1, c2, c3⟩ := (G hL).2.2.1.c hp
      have hPB := peB_l Hp c3.symm (by omega)
      have h6 := nmL_6 Hp
      have l4 := lg_4 (x := c)
      obtain ⟨I0, z1, z2, z3⟩ := set_row S
      have R0 : RM I0 (w + 37) (I (m + 1)) np ns nw := R.fo z3 hlo
      obtain ⟨Ia, Ka, p1, p2, p3, p4⟩ := wn_row hK Hp (by decide) z2
      have ea : [] ++ nmL (I (m + 1)) (11 + 14 * p + 7) = nmL (I (m + 1)) (11 + 14 * p + 7) := rfl
      rw [ea] at p2
      obtain ⟨Ib, Kb, q1, q2, q3, q4⟩ := app_row hK p2 (by omega) (c := 58) (by decide)
      have Rb : RM Ib (w + 37) (I (m + 1)) np ns nw := (R0.fo p3 hlo).fo q3 hlo
      obtain ⟨Ic, Kc, r1, r2, r3, r4⟩ := num_row hK q2 (by rw [List.length_append]; show _ + 1 ≤ 105; omega) (x := c) (by omega)
      rw [c3] at r2
      obtain ⟨I1, K1, a1, a2, a3, a4⟩ := cp_go hK R.f Hn hp hPB nw 0 (Nat.zero_add _) FU (FU_up (by omega)) Ic Kc (Rb.fo r3 hlo) r2
      have F1 : Fo I I1 w m := (((z3.trans p3).trans q3).trans r3).trans a3
      have W1 : Gw K K1 := ((p4.trans q4).trans r4).trans a4
      have g1 : f_X9_writePerson I K w (nI p) = some (.ok (nI (peL (I (m + 1)) p nw).length), I1, K1) := by
        unfold f_X9_writePerson
        rw [h_personAt B, if_pos hL, if_pos hx, ixn6 (by omega), b1_so, e1_ok, ckA_n (by omega), b1_so, z1, b2_so, ckG_n ⟨Gw.refl, hB⟩, b1_so, (R0.p hp).1.1, p1, b2_so, ckG_n ⟨p4, p2.b⟩, b1_so, show (58 : Int32) = nI 58 from rfl, q1, b3_so, ckG_n ⟨q4, q2.b⟩, b1_so, Rb.p1 hp, c1, r1, b3_so, ckG_n ⟨r4, r2.b⟩, b1_so]
        exact a1
      have B1 := B.fo F1 hlo
      have hN1 : I1 (m + 1) = I (m + 1) := F1 _ (by omega) (by omega) (by omega)
      have hJ1 : (u2 (u2 I1 m 0 0) m 20 0) (m + 1) = I (m + 1) := by rw [u2_a (by omega), u2_a (by omega)]; exact hN1
      obtain ⟨Ja, t1, t2, t3⟩ := rn_row (I := u2 (u2 I1 m 0 0) m 20 0) (m := m) (L := []) Hp (by omega) (by decide) hJ1 ⟨u2_s, fun i c hi => by simp at hi⟩
      rw [ea] at t2
      obtain ⟨Jb, v1, v2, v3⟩ := wby_row t2 (by omega) (c := 58) (by decide)
      have hJb : Jb (m + 1) = I (m + 1) := (v3.n.trans t3.n).trans hJ1
      have hof : f_X10_ofPerson (sM Jb m (Jb (m + 1))) m (nI p) 0 = some (pN (Jb (m + 1)) p 0) := r_ofPerson (I := Jb) (m := m) (N := Jb (m + 1)) (k := 0) (by omega) (by omega)
      rw [sM_i, hJb, c1] at hof
      obtain ⟨Jc, w1, w2, w3⟩ := wnum_row v2 (by rw [List.length_append]; show _ + 1 ≤ 180; omega) (x := c) (by omega)
      rw [c3] at w2
      obtain ⟨I2, d1, d2, d3⟩ := rp_go (m := m) R.f Hn hp hPB nw 0 (Nat.zero_add _) FU (FU_up (by omega)) Jc (w3.n.trans hJb) w2
      have g2 : f_X10_writePerson I1 m (nI p) = some (nI (peL (I (m + 1)) p nw).length, I2) := by
        unfold f_X10_writePerson
        rw [r_mayPerson B1, b2_so, bI_t ⟨hL, hL, hx⟩, if_neg (by decide), th_0 hL ⟨hL, hx⟩, pu_so, b1_so, lk_ap (by omega), t1, b1_so, show (58 : Int32) = nI 58 from rfl, v1, b1_so, hof, b1_so, w1, b1_so]
        exact d1
      have C := c_X9_writePerson 0 ⟨S.lw, hB⟩ g1
      have F2 : Fp (u2 (u2 I1 m 0 0) m 20 0) I2 m := ((t3.trans v3).trans w3).trans d3
      have q1 : ∀ a, a ≠ m → a ≠ m + 7 → I2 a = I1 a := fun a h1 h2 => by rw [F2.1 a h1 h2, u2_a h1, u2_a h1]
      have q2 : ∀ j, j ≠ 0 → j ≠ 20 → I2 m j = I1 m j := fun j h1 h2 => by rw [F2.2 j h2, u2_k h2, u2_k h1]
      exact ⟨.ok (nI (peL (I (m + 1)) p nw).length), 0, nI (peL (I (m + 1)) p nw).length, I1, I2, K1, _, _, ⟨C.2, Ec0, fun Kj hM => c_X10_writePerson 0 hM g2⟩, ⟨by rw [F2.2 0 (by decide), u2_k (by decide), u2_s], fun v h => by cases h; rfl⟩, (S.out a2 (Nat.le_trans (peL_b R.f Hn hp hPB (Nat.le_refl _)) (by decide)) d2 F1 q1 q2).le (Nat.le_add_right _ _), ⟨C.1, W1.ka⟩, by show 0 + _ ≤ 2 + _; omega, by show 0 + _ ≤ 12 + _; omega⟩
    · refine lc_erG (E := eIX) S (c_X9_writePerson 0 ⟨S.lw, hB⟩ (x := .error eIX) ?_) Ec2 (fun Kj hM => c_X10_writePerson 0 hM (v := 0) ?_)
      · unfold f_X9_writePerson
        rw [h_personAt B, if_pos hL, if_neg hx, e1_er]
      · unfold f_X10_writePerson
        rw [r_mayPerson B, b2_so, bI_f (fun h => hx h.2.2), if_pos rfl, th_2 hL (fun h => hx h.2)]
  · refine lc_erG (E := eIS) S (c_X9_writePerson 0 ⟨S.lw, hB⟩ (x := .error eIS) ?_) Ec1 (fun Kj hM => c_X10_writePerson 0 hM (v := 0) ?_)
    · unfold f_X9_writePerson
      rw [h_personAt B, if_neg hL, e1_er]
    · unfold f_X10_writePerson
      rw [r_mayPerson B, b2_so, bI_f (fun h => hL h.1), if_pos rfl, th_1 hL]
end WPG
