/-! names and numbers, written on both sides -/
theorem chN : ∀ c, c < 128 → ((nI c).toUInt32 % 65536).toInt32 = nI c := by decide +kernel
theorem ng_dv : ∀ a, a < 110 → ∀ b, b < 100 → -(nI (100 * a + b)) / 100 = -(nI a) := by decide +kernel
theorem ng_t {x : Nat} (h : x < 1000000000) : (-(nI x)).toInt = -(x : Int) := by
  have := pk_sub_toInt (a := 0) (b := x) (by omega) (by omega)
  rw [show nI 0 = 0 from rfl, Int32.zero_sub] at this
  omega
theorem ng_le {x y : Nat} (hx : x < 1000000000) (hy : y < 1000000000) : (-(nI x) ≤ -(nI y)) = (y ≤ x) := by
  rw [Int32.le_iff_toInt_le, ng_t hx, ng_t hy]
  exact propext ⟨fun h => by omega, fun h => by omega⟩
theorem ng_lt {x y : Nat} (hx : x < 1000000000) (hy : y < 1000000000) : (-(nI x) < -(nI y)) = (y < x) := by
  rw [Int32.lt_iff_toInt_lt, ng_t hx, ng_t hy]
  exact propext ⟨fun h => by omega, fun h => by omega⟩
section WRN
variable {I I1 I2 J : Mem} {K K1 K2 : Kt} {w m kb gb a : Nat} {L : List Nat} {N : Nat → Int32}
def nmT (N : Nat → Int32) (a i : Nat) : List Nat := (List.range i).map fun j => (N (a + 1 + j)).toInt.toNat
def nmL (N : Nat → Int32) (a : Nat) : List Nat := nmT N a (N a).toInt.toNat
theorem nmT_s {i : Nat} : nmT N a (i + 1) = nmT N a i ++ [(N (a + 1 + i)).toInt.toNat] := by
  unfold nmT
  rw [List.range_succ, List.map_append]
  rfl
theorem nmT_l {i : Nat} : (nmT N a i).length = i := by
  unfold nmT
  rw [List.length_map, List.length_range]
theorem nm_c (H : NmOk N a) : (N a = nI (N a).toInt.toNat ∧ 1 ≤ (N a).toInt.toNat ∧ (N a).toInt.toNat ≤ 6) ∧ ∀ i, i < (N a).toInt.toNat → N (a + 1 + i) = nI (N (a + 1 + i)).toInt.toNat ∧ (N (a + 1 + i)).toInt.toNat < 128 := by
  obtain ⟨l, h1, h2, h3, h4⟩ := H
  have e : (N a).toInt.toNat = l := by
    rw [h1, nI_toInt (by omega)]
    omega
  rw [e]
  refine ⟨⟨h1, h2, h3⟩, fun i hi => ?_⟩
  obtain ⟨c, k1, k2, k3⟩ := h4 i hi
  have e2 : (N (a + 1 + i)).toInt.toNat = c := by
    rw [k1, nI_toInt (by omega)]
    omega
  rw [e2]
  exact ⟨k1, by omega⟩
theorem lk_lf (H : NmOk N a) {i : Nat} (hi : i < 6) : f_X9_letterOf (sNm N a) (nI i) = some (if i < (N a).toInt.toNat then N (a + 1 + i) else -1) := by
  obtain ⟨l, h1, h2, h3, h4, h5, h6⟩ := lk_nm H
  have e : (N a).toInt.toNat = l := by
    rw [h1, nI_toInt (by omega)]
    omega
  unfold f_X9_letterOf
  rw [e, if_neg (by rw [lt0, nI_toInt (by omega)]; omega), if_pos (show nI i < (6 : Int32) from nI_lt (b := 6) hi (by omega)), lk_am i hi, h6 i hi]
  by_cases hl : i < l
  · rw [if_pos hl, if_neg (by rw [lk_ng (h4 i)]; have := (h3 i hl).2; omega), ← (h3 i hl).1]
  · rw [if_neg hl, if_pos (by rw [h5 i (by omega)]; rfl)]
theorem wn_go (hK : m + 10 ≤ kb ∧ kb < 900000) (H : NmOk N a) (hl : L.length ≤ 100) : ∀ k i, i + k = 6 → ∀ f, k < f → ∀ I K, OS I K w m kb gb (L ++ nmT N a (min i (N a).toInt.toNat)) → ∃ I1 K1, l_X9_writeName_2 f I K w (sNm N a) (nI i) = some (I1, K1) ∧ OS I1 K1 w m kb gb (L ++ nmL N a) ∧ Fo I I1 w m ∧ Gw K K1 := by
  obtain ⟨⟨h1, h2, h3⟩, h4⟩ := nm_c H
  intro k
  induction k with
  | zero =>
    intro i hi f hf I K hO
    obtain ⟨f, rfl⟩ : ∃ g, f = g + 1 := ⟨f - 1, by omega⟩
    obtain rfl : i = 6 := by omega
    refine ⟨I, K, ?_, ?_, Fo.refl, Gw.refl⟩
    · show (if (6 : Int32) ≤ nI 6 then _ else _) = _
      rw [if_pos (by decide)]
    · rw [show min 6 (N a).toInt.toNat = (N a).toInt.toNat by omega] at hO
      exact hO
  | succ k ih =>
    intro i hi f hf I K hO
    obtain ⟨f, rfl⟩ : ∃ g, f = g + 1 := ⟨f - 1, by omega⟩
    have e6 : ¬ (6 : Int32) ≤ nI i := by
      rw [Int32.le_iff_toInt_le, nI_toInt (by omega)]
      show ¬ (6 : Int) ≤ _
      omega
    have lf := lk_lf H (i := i) (by omega)
    by_cases hc : i < (N a).toInt.toNat
    · obtain ⟨c1, c2⟩ := h4 i hc
      rw [if_pos hc] at lf
      rw [show min i (N a).toInt.toNat = i by omega] at hO
      obtain ⟨I1, K1, g1, g2, g3, g4⟩ := app_row hK hO (by rw [List.length_append, nmT_l]; omega) c2
      rw [List.append_assoc, ← nmT_s, show i + 1 = min (i + 1) (N a).toInt.toNat by omega] at g2
      obtain ⟨I2, K2, q1, q2, q3, q4⟩ := ih (i + 1) (by omega) f (by omega) I1 K1 g2
      refine ⟨I2, K2, ?_, q2, g3.trans q3, g4.trans q4⟩
      show (if (6 : Int32) ≤ nI i then _ else _) = _
      rw [if_neg e6, lf, b1_so, if_neg (by
        rw [c1]
        intro z
        have z2 := congrArg Int32.toInt z
        rw [nI_toInt (by omega), show (-1 : Int32).toInt = -1 from rfl] at z2
        omega), c1, chN _ c2, g1, b3_so, ckG_n ⟨g4, g2.b⟩, b1_so, nI_s1, q1]
    · rw [if_neg hc] at lf
      rw [show min i (N a).toInt.toNat = min (i + 1) (N a).toInt.toNat by omega] at hO
      obtain ⟨I2, K2, q1, q2, q3, q4⟩ := ih (i + 1) (by omega) f (by omega) I K hO
      refine ⟨I2, K2, ?_, q2, q3, q4⟩
      show (if (6 : Int32) ≤ nI i then _ else _) = _
      rw [if_neg e6, lf, b1_so, if_pos rfl, nI_s1, q1]
theorem wn_row (hK : m + 10 ≤ kb ∧ kb < 900000) (H : NmOk N a) (hl : L.length ≤ 100) (hO : OS I K w m kb gb L) : ∃ I1 K1, f_X9_writeName I K w (sNm N a) = some (I1, K1) ∧ OS I1 K1 w m kb gb (L ++ nmL N a) ∧ Fo I I1 w m ∧ Gw K K1 := by
  refine wn_go hK H hl 6 0 rfl FU (FU_up (by omega)) I K ?_
  rw [show min 0 (N a).toInt.toNat = 0 by omega]
  show OS I K w m kb gb (L ++ [])
  rw [List.append_nil]
  exact hO
theorem rn_go (H : NmOk N a) (ha : a + 6 < 355) (hl : L.length ≤ 100) : ∀ k i, i + k = (N a).toInt.toNat → ∀ f, k < f → ∀ I, I (m + 1) = N → OP I m (L ++ nmT N a i) → ∃ I1, l_X10_writesName_2 f I m (nI a) (nI i) = some I1 ∧ OP I1 m (L ++ nmL N a) ∧ Fp I I1 m := by
  obtain ⟨⟨h1, h2, h3⟩, h4⟩ := nm_c H
  intro k
  induction k with
  | zero =>
    intro i hi f hf I hN hO
    obtain ⟨f, rfl⟩ : ∃ g, f = g + 1 := ⟨f - 1, by omega⟩
    rw [Nat.add_zero] at hi
    refine ⟨I, ?_, by rw [hi] at hO; exact hO, Fp.refl⟩
    show (b1 (ix (nI a) 355) fun j1 => if (I (m + 1) j1) ≤ nI i then _ else _) = _
    rw [ix_n (by omega) (by decide), b1_so, hN, if_pos (by rw [h1, hi]; exact Int32.le_refl _)]
  | succ k ih =>
    intro i hi f hf I hN hO
    obtain ⟨f, rfl⟩ : ∃ g, f = g + 1 := ⟨f - 1, by omega⟩
    obtain ⟨c1, c2⟩ := h4 i (by omega)
    obtain ⟨I1, g1, g2, g3⟩ := wby_row hO (by rw [List.length_append, nmT_l]; omega) c2
    rw [List.append_assoc, ← nmT_s] at g2
    obtain ⟨I2, q1, q2, q3⟩ := ih (i + 1) (by omega) f (by omega) I1 (g3.n.trans hN) g2
    refine ⟨I2, ?_, q2, g3.trans q3⟩
    show (b1 (ix (nI a) 355) fun j1 => if (I (m + 1) j1) ≤ nI i then _ else _) = _
    rw [ix_n (by omega) (by decide), b1_so, hN, if_neg (by rw [h1, Int32.le_iff_toInt_le, nI_toInt (by omega), nI_toInt (by omega)]; omega)]
    show (b1 (ix ((nI a + 1) + nI i) 355) fun j2 => b1 (f_X10_writesByte I m (N j2)) fun I3 => l_X10_writesName_2 f I3 m (nI a) (nI i + 1)) = _
    rw [nI_s1, nI_add, ix_n (by omega) (by decide), b1_so, c1, g1, b1_so, nI_s1, q1]
theorem rn_row (H : NmOk N a) (ha : a + 6 < 355) (hl : L.length ≤ 100) (hN : I (m + 1) = N) (hO : OP I m L) : ∃ I1, f_X10_writesName I m (nI a) = some I1 ∧ OP I1 m (L ++ nmL N a) ∧ Fp I I1 m := by
  refine rn_go H ha hl _ 0 (Nat.zero_add _) FU (FU_up (by have := (nm_c H).1; omega)) I hN ?_
  show OP I m (L ++ [])
  rw [List.append_nil]
  exact hO
/-- the digits of a number -/
def dgs (x : Nat) : Nat → List Nat
  | 0 => [48 + x % 10]
  | k + 1 => (48 + x / 10 ^ (k + 1) % 10) :: dgs x k
def lg (x : Nat) : Nat := if x < 10 then 0 else if x < 100 then 1 else if x < 1000 then 2 else if x < 10000 then 3 else 4
def dig (x : Nat) : List Nat := dgs x (lg x)
theorem dgs_l {x : Nat} : ∀ k, (dgs x k).length = k + 1
  | 0 => rfl
  | k + 1 => by
    show (dgs x k).length + 1 = _
    rw [dgs_l k]
theorem lg_4 {x : Nat} : lg x ≤ 4 := by
  unfold lg
  split
  · omega
  split
  · omega
  split
  · omega
  split <;> omega
theorem lg_c {x : Nat} (hx : x < 11000) : (x < 10 ∧ lg x = 0) ∨ (10 ≤ x ∧ x < 100 ∧ lg x = 1) ∨ (100 ≤ x ∧ x < 1000 ∧ lg x = 2) ∨ (1000 ≤ x ∧ x < 10000 ∧ lg x = 3) ∨ (10000 ≤ x ∧ lg x = 4) := by
  unfold lg
  by_cases h1 : x < 10
  · rw [if_pos h1]; omega
  rw [if_neg h1]
  by_cases h2 : x < 100
  · rw [if_pos h2]; omega
  rw [if_neg h2]
  by_cases h3 : x < 1000
  · rw [if_pos h3]; omega
  rw [if_neg h3]
  by_cases h4 : x < 10000
  · rw [if_pos h4]; omega
  rw [if_neg h4]
  omega
theorem FU8 : ∃ F, FU = F + 8 := ⟨FU - 8, by have := FU_up (n := 10) (by decide); omega⟩
theorem ss_step {f x p k : Nat} (hx : x < 11000) (hp : p ≤ 100000) (hk : k < 10) : l_J6_stringSize_0f7a4_16 (f + 1) (-(nI x)) 0 (-(nI p)) (nI k) = if p ≤ x then l_J6_stringSize_0f7a4_16 f (-(nI x)) 0 (-(nI (10 * p))) (nI (k + 1)) else some (nI k) := by
  show (if (10 : Int32) ≤ nI k then _ else if (-(nI x)) ≤ (-(nI p)) then l_J6_stringSize_0f7a4_16 f (-(nI x)) 0 (10 * (-(nI p))) (nI k + 1) else some (nI k + 0)) = _
  rw [if_neg (by rw [Int32.le_iff_toInt_le, nI_toInt (by omega)]; show ¬ (10 : Int) ≤ _; omega), Int32.add_zero, nI_s1, show (10 : Int32) * -(nI p) = -(nI (10 * p)) from by rw [Int32.mul_neg, show (10 : Int32) = nI 10 from rfl, pk_mul]]
  by_cases h : p ≤ x
  · rw [if_pos h, if_pos (by rw [ng_le (by omega) (by omega)]; exact h)]
  · rw [if_neg h, if_neg (by rw [ng_le (by omega) (by omega)]; exact h)]
theorem ss_row {x : Nat} (hx : x < 11000) : f_J6_stringSize_0f7a4 (nI x) = some (nI (lg x + 1)) := by
  obtain ⟨F, hF⟩ := FU8
  unfold f_J6_stringSize_0f7a4
  rw [if_neg (by rw [lt0, nI_toInt (by omega)]; omega), hF, show (-10 : Int32) = -(nI 10) from by decide, show (1 : Int32) = nI 1 from rfl]
  rcases lg_c hx with ⟨h1, h2⟩ | ⟨h1, h3, h2⟩ | ⟨h1, h3, h2⟩ | ⟨h1, h3, h2⟩ | ⟨h1, h2⟩ <;> rw [h2]
  · rw [ss_step hx (by omega) (by omega), if_neg (by omega)]
  · rw [ss_step hx (by omega) (by omega), if_pos (by omega), ss_step hx (by omega) (by omega), if_neg (by omega)]
  · rw [ss_step hx (by omega) (by omega), if_pos (by omega), ss_step hx (by omega) (by omega), if_pos (by omega), ss_step hx (by omega) (by omega), if_neg (by omega)]
  · rw [ss_step hx (by omega) (by omega), if_pos (by omega), ss_step hx (by omega) (by omega), if_pos (by omega), ss_step hx (by omega) (by omega), if_pos (by omega), ss_step hx (by omega) (by omega), if_neg (by omega)]
  · rw [ss_step hx (by omega) (by omega), if_pos (by omega), ss_step hx (by omega) (by omega), if_pos (by omega), ss_step hx (by omega) (by omega), if_pos (by omega), ss_step hx (by omega) (by omega), if_pos (by omega), ss_step hx (by omega) (by omega), if_neg (by omega)]
theorem gc_a {f v k x n2 : Nat} (hx : x < 10) (hk : k + 1 ≤ n2) (h2 : n2 < 1000) : l_J6_getChars_ba4f3_22 (f + 1) I (-(nI x)) v n2 (nI (k + 1)) 0 = some (nI k, u2 I v k (nI (48 + x))) := by
  show (if (-100 : Int32) < -(nI x) then _ else _) = _
  rw [if_pos (by rw [show (-100 : Int32) = -(nI 100) from by decide, ng_lt (by omega) (by omega)]; omega)]
  show (b1 (ix (- -(nI x)) 100) fun j1 => b1 (ix (nI (k + 1) + (-1)) n2) fun j2 => b1 (pu I v j2 (vp_nar .byte (nI (48 + j1 % 10)))) fun I3 => if (-9 : Int32) ≤ -(nI x) then (l_J6_getChars_ba4f3_104 I3 v n2 (nI (k + 1) + (-1)) 0) else _) = _
  rw [Int32.neg_neg, ix_n (by omega) (by decide), b1_so, pk_m1, ix_n (by omega) (by omega), b1_so, pu_so, b1_so, if_pos (by rw [show (-9 : Int32) = -(nI 9) from by decide, ng_le (by omega) (by omega)]; omega), b8_v _ (by omega), show x % 10 = x by omega]
  unfold l_J6_getChars_ba4f3_104
  rw [if_pos rfl]
theorem gc_b {f v k x n2 : Nat} (hx : x < 100) (hx1 : 10 ≤ x) (hk : k + 2 ≤ n2) (h2 : n2 < 1000) : l_J6_getChars_ba4f3_22 (f + 1) I (-(nI x)) v n2 (nI (k + 2)) 0 = some (nI k, u2 (u2 I v (k + 1) (nI (48 + x % 10))) v k (nI (48 + x / 10))) := by
  show (if (-100 : Int32) < -(nI x) then _ else _) = _
  rw [if_pos (by rw [show (-100 : Int32) = -(nI 100) from by decide, ng_lt (by omega) (by omega)]; omega)]
  show (b1 (ix (- -(nI x)) 100) fun j1 => b1 (ix (nI (k + 1 + 1) + (-1)) n2) fun j2 => b1 (pu I v j2 (vp_nar .byte (nI (48 + j1 % 10)))) fun I3 => if (-9 : Int32) ≤ -(nI x) then _ else (b1 (ix (- -(nI x)) 100) fun j6 => b1 (ix ((nI (k + 1 + 1) + (-1)) + (-1)) n2) fun j7 => b1 (pu I3 v j7 (vp_nar .byte (nI (48 + j6 / 10)))) fun I8 => l_J6_getChars_ba4f3_104 I8 v n2 ((nI (k + 1 + 1) + (-1)) + (-1)) 0)) = _
  rw [Int32.neg_neg, ix_n (by omega) (by decide), b1_so, pk_m1, ix_n (by omega) (by omega), b1_so, pu_so, b1_so, if_neg (by rw [show (-9 : Int32) = -(nI 9) from by decide, ng_le (by omega) (by omega)]; omega), b8_v _ (by omega), b1_so, pk_m1, ix_n (by omega) (by omega), b1_so, pu_so, b1_so, b8_v _ (by omega)]
  unfold l_J6_getChars_ba4f3_104
  rw [if_pos rfl]
theorem gc_c {f v k x n2 : Nat} (hx : x < 11000) (hx1 : 100 ≤ x) (hk : k + 2 ≤ n2) (h2 : n2 < 1000) : l_J6_getChars_ba4f3_22 (f + 1) I (-(nI x)) v n2 (nI (k + 2)) 0 = l_J6_getChars_ba4f3_22 f (u2 (u2 I v (k + 1) (nI (48 + x % 10))) v k (nI (48 + x / 10 % 10))) (-(nI (x / 100))) v n2 (nI k) 0 := by
  have e1 : -(nI x) / 100 = -(nI (x / 100)) := by
    have := ng_dv (x / 100) (by omega) (x % 100) (by omega)
    rwa [show 100 * (x / 100) + x % 100 = x by omega] at this
  have e2 : (-(nI x) / 100) * 100 - -(nI x) = nI (x % 100) := by
    rw [e1, Int32.neg_mul, Int32.sub_neg, Int32.add_comm, ← Int32.sub_eq_add_neg, show (100 : Int32) = nI 100 from rfl, pk_mul, pk_sub (by omega)]
    congr 1
    omega
  show (if (-100 : Int32) < -(nI x) then _ else _) = _
  rw [if_neg (by rw [show (-100 : Int32) = -(nI 100) from by decide, ng_lt (by omega) (by omega)]; omega)]
  show (b1 (ix (((-(nI x) / 100) * 100) - -(nI x)) 100) fun j9 => b1 (ix (nI (k + 1 + 1) + (-1)) n2) fun j10 => b1 (pu I v j10 (vp_nar .byte (nI (48 + j9 % 10)))) fun I11 => b1 (ix (((-(nI x) / 100) * 100) - -(nI x)) 100) fun j12 => b1 (ix ((nI (k + 1 + 1) + (-1)) + (-1)) n2) fun j13 => b1 (pu I11 v j13 (vp_nar .byte (nI (48 + j12 / 10)))) fun I14 => l_J6_getChars_ba4f3_22 f I14 (-(nI x) / 100) v n2 ((nI (k + 1 + 1) + (-1)) + (-1)) 0) = _
  rw [e2, e1, ix_n (by omega) (by decide), b1_so, pk_m1, ix_n (by omega) (by omega), b1_so, pu_so, b1_so, b1_so, pk_m1, ix_n (by omega) (by omega), b1_so, pu_so, b1_so, b8_v _ (by omega), b8_v _ (by omega), show x % 100 % 10 = x % 10 by omega, show x % 100 / 10 = x / 10 % 10 by omega]
/-- the digits stand where they should -/
theorem gc_row {n v n2 x : Nat} (hx : x < 11000) (hn : n + (lg x + 1) ≤ n2) (h2 : n2 < 1000) : ∃ I1, f_J6_getChars_ba4f3 I (nI x) (nI (n + (lg x + 1))) v n2 = some (nI n, I1) ∧ (∀ a, a ≠ v → I1 a = I a) ∧ (∀ i c, (dig x)[i]? = some c → c < 128 ∧ I1 v (n + i) = nI c) ∧ ∀ j, (j < n ∨ n + (lg x + 1) ≤ j) → I1 v j = I v j := by
  obtain ⟨F, hF⟩ := FU8
  have e : ∀ y, f_J6_getChars_ba4f3 I (nI x) y v n2 = l_J6_getChars_ba4f3_22 (F + 8) I (-(nI x)) v n2 y 0 := fun y => by
    unfold f_J6_getChars_ba4f3 l_J6_getChars_ba4f3_12
    rw [if_pos (by rw [show (0 : Int32) = nI 0 from rfl, Int32.le_iff_toInt_le, nI_toInt (by omega), nI_toInt (by omega)]; omega), if_pos rfl, hF]
  rw [e]
  rcases lg_c hx with ⟨h1, h2⟩ | ⟨h1, h3, h2⟩ | ⟨h1, h3, h2⟩ | ⟨h1, h3, h2⟩ | ⟨h1, h2⟩ <;> rw [h2] at hn ⊢
  · refine ⟨_, gc_a h1 (by omega) (by omega), fun a ha => u2_a ha, fun i c hi => ?_, fun j hj => u2_k (by omega)⟩
    unfold dig at hi
    rw [h2] at hi
    match i with
    | 0 =>
      cases hi
      exact ⟨by omega, by rw [show x % 10 = x by omega]; exact u2_s⟩
    | i + 1 => simp [dgs] at hi
  · refine ⟨_, gc_b h3 h1 (by omega) (by omega), fun a ha => by rw [u2_a ha, u2_a ha], fun i c hi => ?_, fun j hj => by rw [u2_k (by omega), u2_k (by omega)]⟩
    unfold dig at hi
    rw [h2] at hi
    match i with
    | 0 =>
      cases hi
      refine ⟨by omega, ?_⟩
      rw [show x / 10 ^ (0 + 1) % 10 = x / 10 by omega]
      exact u2_s
    | 1 =>
      cases hi
      refine ⟨by omega, ?_⟩
      rw [u2_k (by omega)]
      exact u2_s
    | i + 2 => simp [dgs] at hi
  · refine ⟨_, (gc_c (f := F + 7) (k := n + 1) hx h1 (by omega) (by omega)).trans (gc_a (by omega) (by omega) (by omega)), fun a ha => by rw [u2_a ha, u2_a ha, u2_a ha], fun i c hi => ?_, fun j hj => by rw [u2_k (by omega), u2_k (by omega), u2_k (by omega)]⟩
    unfold dig at hi
    rw [h2] at hi
    match i with
    | 0 =>
      cases hi
      refine ⟨by omega, ?_⟩
      rw [show x / 10 ^ (1 + 1) % 10 = x / 100 by omega]
      exact u2_s
    | 1 =>
      cases hi
      refine ⟨by omega, ?_⟩
      rw [u2_k (by omega), show x / 10 ^ (0 + 1) % 10 = x / 10 % 10 by omega]
      exact u2_s
    | 2 =>
      cases hi
      refine ⟨by omega, ?_⟩
      rw [u2_k (by omega), u2_k (by omega)]
      exact u2_s
    | i + 3 => simp [dgs] at hi
  · refine ⟨_, (gc_c (f := F + 7) (k := n + 2) hx (by omega) (by omega) (by omega)).trans (gc_b (by omega) (by omega) (by omega) (by omega)), fun a ha => by rw [u2_a ha, u2_a ha, u2_a ha, u2_a ha], fun i c hi => ?_, fun j hj => by rw [u2_k (by omega), u2_k (by omega), u2_k (by omega), u2_k (by omega)]⟩
    unfold dig at hi
    rw [h2] at hi
    match i with
    | 0 =>
      cases hi
      refine ⟨by omega, ?_⟩
      rw [show x / 10 ^ (2 + 1) % 10 = x / 100 / 10 by omega]
      exact u2_s
    | 1 =>
      cases hi
      refine ⟨by omega, ?_⟩
      rw [u2_k (by omega), show x / 10 ^ (1 + 1) % 10 = x / 100 % 10 by omega]
      exact u2_s
    | 2 =>
      cases hi
      refine ⟨by omega, ?_⟩
      rw [u2_k (by omega), u2_k (by omega), show x / 10 ^ (0 + 1) % 10 = x / 10 % 10 by omega]
      exact u2_s
    | 3 =>
      cases hi
      refine ⟨by omega, ?_⟩
      rw [u2_k (by omega), u2_k (by omega), u2_k (by omega)]
      exact u2_s
    | i + 4 => simp [dgs] at hi
  · refine ⟨_, ((gc_c (f := F + 7) (k := n + 3) hx (by omega) (by omega) (by omega)).trans (gc_c (f := F + 6) (k := n + 1) (by omega) (by omega) (by omega) (by omega))).trans (gc_a (by omega) (by omega) (by omega)), fun a ha => by rw [u2_a ha, u2_a ha, u2_a ha, u2_a ha, u2_a ha], fun i c hi => ?_, fun j hj => by rw [u2_k (by omega), u2_k (by omega), u2_k (by omega), u2_k (by omega), u2_k (by omega)]⟩
    unfold dig at hi
    rw [h2] at hi
    match i with
    | 0 =>
      cases hi
      refine ⟨by omega, ?_⟩
      rw [show x / 10 ^ (3 + 1) % 10 = x / 100 / 100 by omega]
      exact u2_s
    | 1 =>
      cases hi
      refine ⟨by omega, ?_⟩
      rw [u2_k (by omega), show x / 10 ^ (2 + 1) % 10 = x / 100 / 10 % 10 by omega]
      exact u2_s
    | 2 =>
      cases hi
      refine ⟨by omega, ?_⟩
      rw [u2_k (by omega), u2_k (by omega), show x / 10 ^ (1 + 1) % 10 = x / 100 % 10 by omega]
      exact u2_s
    | 3 =>
      cases hi
      refine ⟨by omega, ?_⟩
      rw [u2_k (by omega), u2_k (by omega), u2_k (by omega), show x / 10 ^ (0 + 1) % 10 = x / 10 % 10 by omega]
      exact u2_s
    | 4 =>
      cases hi
      refine ⟨by omega, ?_⟩
      rw [u2_k (by omega), u2_k (by omega), u2_k (by omega), u2_k (by omega)]
      exact u2_s
    | i + 5 => simp [dgs] at hi
theorem num_row (hK : m + 10 ≤ kb ∧ kb < 900000) (h : OS I K w m kb gb L) (hl : L.length ≤ 105) {x : Nat} (hx : x < 11000) : ∃ I1 K1, f_J4_append_bf812 I K (w + 102) (nI x) = some (w + 102, I1, K1) ∧ OS I1 K1 w m kb gb (L ++ dig x) ∧ Fo I I1 w m ∧ Gw K K1 := by
  have h4 := h.2.1.2.1
  have l4 := lg_4 (x := x)
  obtain ⟨I1, K1, g1, g2, g3, g4, g5, g6⟩ := ens_row hK h (r := L.length + (lg x + 1)) (by omega) (by omega)
  have hv := g2.v
  have hlo := g2.lo
  have hcap := g2.cap
  obtain ⟨I2, q1, q2, q3, q4⟩ := gc_row (I := I1) (v := vOf K1 (w + 102)) hx g5 (by omega)
  have dl : (dig x).length = lg x + 1 := dgs_l _
  refine ⟨u2 I2 (w + 102) 3 (nI (L.length + (lg x + 1))), K1, ?_, g2.app (T := dig x) (fun i d hi => ?_) (by rw [dl]; exact g5) ?_ (by rw [u2_s, dl]) (fun j hj => ?_), fun a h1 h2 h3 => ?_, g4⟩
  · have e : f_J5_append_c97b9 I K (w + 102) (nI x) = some (w + 102, u2 I2 (w + 102) 3 (nI (L.length + (lg x + 1))), K1) := by
      unfold f_J5_append_c97b9
      rw [ss_row hx, b1_so, h.len, nI_add, g1, b2_so, ckG_n ⟨g4, g2.b⟩, b1_so, lat_row g2.one, b1_so, if_neg (by decide), q1, b2_so, pu_so, b1_so]
    unfold f_J4_append_bf812
    rw [e, b3_so, ckG_n ⟨g4, g2.b⟩, b1_so]
  · have := q3 i d hi
    rw [u2_a (by omega)]
    exact this
  · rw [u2_k (by decide), q2 _ (by omega)]; exact g2.one
  · rw [dl] at hj
    rw [u2_a (by omega)]
    exact q4 j hj
  · rw [u2_a h2, q2 _ (by omega)]; exact g3 a h1 h2 h3
theorem p10 {k : Nat} (h : k ≤ 4) : 0 < 10 ^ k ∧ 10 ^ k ≤ 10000 := by
  rcases (show k = 0 ∨ k = 1 ∨ k = 2 ∨ k = 3 ∨ k = 4 by omega) with rfl | rfl | rfl | rfl | rfl <;> decide
theorem lw_go {x : Nat} (hx : x < 11000) : ∀ k, k ≤ 4 → ∀ f, k + 1 < f → ∀ I L, OP I m L → L.length + k + 1 ≤ 190 → ∃ I1, l_X10_writesNumber_18 f I m (nI x) (nI (10 ^ k)) = some I1 ∧ OP I1 m (L ++ dgs x k) ∧ Fp I I1 m := by
  intro k
  induction k with
  | zero =>
    intro hk f hf I L hO hl
    obtain ⟨f, rfl⟩ : ∃ g, f = g + 2 := ⟨f - 2, by omega⟩
    obtain ⟨I1, g1, g2, g3⟩ := wby_row hO (by omega) (c := 48 + x % 10) (by omega)
    refine ⟨I1, ?_, g2, g3⟩
    show (if nI 1 ≤ 0 then _ else (b1 (nz (nI 1)) fun _ => b1 (f_X10_writesByte I m (48 + ((nI x / nI 1) - (nI x / nI 1) / 10 * 10))) fun I1 => (if nI 1 / 10 ≤ 0 then some I1 else _))) = _
    rw [if_neg (by decide), nz_so (by decide), b1_so, pk_div (by omega) (by decide) (by decide), Nat.div_one, show (10 : Int32) = nI 10 from rfl, pk_rem (by omega) (by decide) (by decide), show (48 : Int32) = nI 48 from rfl, nI_add, g1, b1_so, if_pos (by decide)]
  | succ k ih =>
    intro hk f hf I L hO hl
    obtain ⟨f, rfl⟩ : ∃ g, f = g + 1 := ⟨f - 1, by omega⟩
    obtain ⟨p1, p2⟩ := p10 hk
    have hd : x / 10 ^ (k + 1) ≤ x := Nat.div_le_self _ _
    obtain ⟨I1, g1, g2, g3⟩ := wby_row hO (by omega) (c := 48 + x / 10 ^ (k + 1) % 10) (by omega)
    obtain ⟨I2, q1, q2, q3⟩ := ih (by omega) f (by omega) I1 (L ++ [48 + x / 10 ^ (k + 1) % 10]) g2 (by rw [List.length_append]; show L.length + 1 + k + 1 ≤ 190; omega)
    refine ⟨I2, ?_, ?_, g3.trans q3⟩
    · show (if nI (10 ^ (k + 1)) ≤ 0 then _ else (b1 (nz (nI (10 ^ (k + 1)))) fun _ => b1 (f_X10_writesByte I m (48 + ((nI x / nI (10 ^ (k + 1))) - (nI x / nI (10 ^ (k + 1))) / 10 * 10))) fun I1 => l_X10_writesNumber_18 f I1 m (nI x) (nI (10 ^ (k + 1)) / 10))) = _
      rw [if_neg (by rw [show (0 : Int32) = nI 0 from rfl, Int32.le_iff_toInt_le, nI_toInt (by omega), nI_toInt (by omega)]; omega), nz_so (nI_ne0 (by omega) (by omega)), b1_so, pk_div (by omega) p1 (by omega), show (10 : Int32) = nI 10 from rfl, pk_rem (by omega) (by decide) (by decide), show (48 : Int32) = nI 48 from rfl, nI_add, g1, b1_so, pk_div (by omega) (by decide) (by decide), show 10 ^ (k + 1) / 10 = 10 ^ k from by rw [Nat.pow_succ, Nat.mul_div_cancel _ (by decide)], q1]
    · rw [List.append_assoc] at q2
      exact q2
theorem lg_d {x : Nat} (hx : x < 11000) {k : Nat} (hk : k ≤ lg x) : (x / 10 ^ k ≤ 9) = (k = lg x) := by
  have l4 := lg_4 (x := x)
  have h := lg_c hx
  rcases (show k = 0 ∨ k = 1 ∨ k = 2 ∨ k = 3 ∨ k = 4 by omega) with rfl | rfl | rfl | rfl | rfl <;> refine propext ⟨fun h => ?_, fun h => ?_⟩ <;> omega
theorem ln_go {x : Nat} (hx : x < 11000) : ∀ d k, k + d = lg x → ∀ f, d < f → l_X10_writesNumber_2 f I m (nI x) (nI (10 ^ k)) = l_X10_writesNumber_18 FU I m (nI x) (nI (10 ^ lg x)) := by
  have l4 := lg_4 (x := x)
  intro d
  induction d with
  | zero =>
    intro k hk f hf
    obtain ⟨f, rfl⟩ : ∃ g, f = g + 1 := ⟨f - 1, by omega⟩
    obtain rfl : k = lg x := by omega
    obtain ⟨p1, p2⟩ := p10 l4
    have hd : x / 10 ^ lg x ≤ x := Nat.div_le_self _ _
    show (b1 (nz (nI (10 ^ lg x))) fun _ => if nI x / nI (10 ^ lg x) ≤ 9 then _ else _) = _
    rw [nz_so (nI_ne0 (by omega) (by omega)), b1_so, pk_div (by omega) p1 (by omega), if_pos (by
      rw [show (9 : Int32) = nI 9 from rfl, Int32.le_iff_toInt_le, nI_toInt (by omega), nI_toInt (by omega)]
      have := (lg_d hx (Nat.le_refl (lg x))).mpr rfl
      omega)]
  | succ d ih =>
    intro k hk f hf
    obtain ⟨f, rfl⟩ : ∃ g, f = g + 1 := ⟨f - 1, by omega⟩
    obtain ⟨p1, p2⟩ := p10 (show k ≤ 4 by omega)
    have hd : x / 10 ^ k ≤ x := Nat.div_le_self _ _
    have := ih (k + 1) (by omega) f (by omega)
    rw [← this]
    show (b1 (nz (nI (10 ^ k))) fun _ => if nI x / nI (10 ^ k) ≤ 9 then _ else l_X10_writesNumber_2 f I m (nI x) (nI (10 ^ k) * 10)) = _
    rw [nz_so (nI_ne0 (by omega) (by omega)), b1_so, pk_div (by omega) p1 (by omega), if_neg (by
      rw [show (9 : Int32) = nI 9 from rfl, Int32.le_iff_toInt_le, nI_toInt (by omega), nI_toInt (by omega)]
      have h9 : ¬ x / 10 ^ k ≤ 9 := by
        rw [lg_d hx (by omega)]
        omega
      omega), show (10 : Int32) = nI 10 from rfl, pk_mul, ← Nat.pow_succ]
theorem wnum_row (h : OP I m L) (hl : L.length ≤ 180) {x : Nat} (hx : x < 11000) : ∃ I1, f_X10_writesNumber I m (nI x) = some I1 ∧ OP I1 m (L ++ dig x) ∧ Fp I I1 m := by
  have l4 := lg_4 (x := x)
  have e := ln_go (I := I) (m := m) hx (lg x) 0 (Nat.zero_add _) FU (FU_up (by omega))
  unfold f_X10_writesNumber
  rw [show (1 : Int32) = nI (10 ^ 0) from rfl, e]
  exact lw_go hx (lg x) l4 FU (FU_up (by omega)) I L h (by omega)
end WRN
