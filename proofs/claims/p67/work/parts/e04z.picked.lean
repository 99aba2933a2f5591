section
variable {N : Nat → Int32} {a : Nat}
variable {I : Mem} {w m np ns nw : Nat}
theorem lk_sh : ∀ i, i < 6 → ∀ k, k < 6 → ∀ d, d < 32 → (((nI d <<< nI (5 * i)) >>> nI (5 * k)) &&& (31 : Int32)) = if i = k then nI d else 0 := by decide +kernel
theorem lk_s0 : ∀ d, d < 32 → nI d = nI d <<< nI (5 * 0) := by decide +kernel
theorem lk_0 : ∀ i, i < 6 → (0 : Int32) = nI 0 <<< nI (5 * i) := by decide +kernel
theorem lk_am : ∀ k, k < 6 → ((nI k * 5) &&& (31 : Int32)) = nI (5 * k) := by decide +kernel
theorem lk_and {x y : Int32} : (x ||| y) &&& (31 : Int32) = (x &&& 31) ||| (y &&& 31) := Int32.toBitVec_inj.1 (by
  rw [Int32.toBitVec_and, Int32.toBitVec_or, Int32.toBitVec_or, Int32.toBitVec_and, Int32.toBitVec_and]
  exact BitVec.and_or_distrib_right)
theorem lk_or {x y s : Int32} : ((x ||| y) >>> s) &&& (31 : Int32) = ((x >>> s) &&& 31) ||| ((y >>> s) &&& 31) := by rw [Int32.shiftRight_or, lk_and]
/-- the numbers of the letters -/
def sLt (N : Nat → Int32) (a l i : Nat) : Nat := if i < l then (N (a + 1 + i) - 96).toInt.toNat else 0
theorem lk_lt (H : NmOk N a) : ∃ l, N a = nI l ∧ (1 ≤ l ∧ l ≤ 6) ∧ (∀ i, i < l → N (a + 1 + i) - 96 = nI (sLt N a l i) ∧ N (a + 1 + i) = 96 + nI (sLt N a l i) ∧ 1 ≤ sLt N a l i) ∧ (∀ i, sLt N a l i < 32) ∧ ∀ i, l ≤ i → sLt N a l i = 0 := by
  obtain ⟨l, h1, h2, h3, h4⟩ := H
  refine ⟨l, h1, ⟨h2, h3⟩, fun i hi => ?_, fun i => ?_, fun i hi => if_neg (by omega)⟩
  · obtain ⟨c, k1, k2, k3⟩ := h4 i hi
    have e : N (a + 1 + i) - 96 = nI (c - 96) := by
      rw [k1]
      exact pk_sub (a := c) (b := 96) (by omega)
    have e2 : sLt N a l i = c - 96 := by
      unfold sLt
      rw [if_pos hi, e, nI_toInt (by omega)]
      omega
    refine ⟨by rw [e, e2], ?_, by omega⟩
    rw [e2, k1, show (96 : Int32) = nI 96 from rfl, nI_add]
    congr 1
    omega
  · unfold sLt
    by_cases hi : i < l
    · obtain ⟨c, k1, k2, k3⟩ := h4 i hi
      have e : N (a + 1 + i) - 96 = nI (c - 96) := by
        rw [k1]
        exact pk_sub (a := c) (b := 96) (by omega)
      rw [if_pos hi, e, nI_toInt (by omega)]
      omega
    · rw [if_neg hi]
      omega
theorem lk_tm {l i : Nat} (hi : i < 6) (hl : l ≤ 6) {x : Int32} (hx : i < l → x - 96 = nI (sLt N a l i)) (h0 : l ≤ i → sLt N a l i = 0) : (if nI i < nI l then ((x - 96) <<< nI (5 * i)) else 0) = nI (sLt N a l i) <<< nI (5 * i) := by
  by_cases h : i < l
  · rw [if_pos (by rw [ltn (by omega), nI_toInt (by omega)]; omega), hx h]
  · rw [if_neg (by rw [ltn (by omega), nI_toInt (by omega)]; omega), h0 (by omega)]
    exact lk_0 i hi
theorem lk_nm (H : NmOk N a) : ∃ l, N a = nI l ∧ (1 ≤ l ∧ l ≤ 6) ∧ (∀ i, i < l → N (a + 1 + i) = 96 + nI (sLt N a l i) ∧ 1 ≤ sLt N a l i) ∧ (∀ i, sLt N a l i < 32) ∧ (∀ i, l ≤ i → sLt N a l i = 0) ∧ ∀ k, k < 6 → ((sNm N a >>> nI (5 * k)) &&& (31 : Int32)) = nI (sLt N a l k) := by
  obtain ⟨l, h1, h2, h3, h4, h5⟩ := lk_lt H
  refine ⟨l, h1, h2, fun i hi => (h3 i hi).2, h4, h5, fun k hk => ?_⟩
  have t0 := lk_tm (N := N) (a := a) (l := l) (i := 0) (by omega) (by omega) (x := N (a + 1)) (fun h => (h3 0 h).1) (h5 0)
  have t1 := lk_tm (N := N) (a := a) (l := l) (i := 1) (by omega) (by omega) (x := N (a + 2)) (fun h => (h3 1 h).1) (h5 1)
  have t2 := lk_tm (N := N) (a := a) (l := l) (i := 2) (by omega) (by omega) (x := N (a + 3)) (fun h => (h3 2 h).1) (h5 2)
  have t3 := lk_tm (N := N) (a := a) (l := l) (i := 3) (by omega) (by omega) (x := N (a + 4)) (fun h => (h3 3 h).1) (h5 3)
  have t4 := lk_tm (N := N) (a := a) (l := l) (i := 4) (by omega) (by omega) (x := N (a + 5)) (fun h => (h3 4 h).1) (h5 4)
  have t5 := lk_tm (N := N) (a := a) (l := l) (i := 5) (by omega) (by omega) (x := N (a + 6)) (fun h => (h3 5 h).1) (h5 5)
  have e0 : (if (0 : Int32) < nI l then (N (a + 1) - 96) else 0) = nI (sLt N a l 0) <<< nI (5 * 0) := by
    have e := h3 0 (by omega)
    rw [if_pos (show (0 : Int32) < nI l from by rw [show (0 : Int32) = nI 0 from rfl, ltn (by omega), nI_toInt (by omega)]; omega)]
    exact e.1.trans (lk_s0 _ (h4 0))
  unfold sNm sNmF
  rw [h1, e0]
  have T : ∀ {A B C D E F : Int32}, (nI (sLt N a l 0) <<< nI (5 * 0)) = A → (nI (sLt N a l 1) <<< nI (5 * 1)) = B → (nI (sLt N a l 2) <<< nI (5 * 2)) = C → (nI (sLt N a l 3) <<< nI (5 * 3)) = D → (nI (sLt N a l 4) <<< nI (5 * 4)) = E → (nI (sLt N a l 5) <<< nI (5 * 5)) = F → ((((((A ||| B) ||| C) ||| D) ||| E) ||| F) >>> nI (5 * k)) &&& (31 : Int32) = nI (sLt N a l k) := by
    intro A B C D E F g0 g1 g2 g3 g4 g5
    subst g0; subst g1; subst g2; subst g3; subst g4; subst g5
    rw [lk_or, lk_or, lk_or, lk_or, lk_or, lk_sh 0 (by omega) k hk _ (h4 0), lk_sh 1 (by omega) k hk _ (h4 1), lk_sh 2 (by omega) k hk _ (h4 2), lk_sh 3 (by omega) k hk _ (h4 3), lk_sh 4 (by omega) k hk _ (h4 4), lk_sh 5 (by omega) k hk _ (h4 5)]
    obtain rfl | rfl | rfl | rfl | rfl | rfl : k = 0 ∨ k = 1 ∨ k = 2 ∨ k = 3 ∨ k = 4 ∨ k = 5 := by omega
    all_goals simp
  exact T rfl t1.symm t2.symm t3.symm t4.symm t5.symm
theorem lk_ng {d : Nat} (h : d < 32) : (nI d = 0) = (d = 0) := by
  revert h
  revert d
  decide +kernel
theorem lk_ap {p : Nat} (h : p < 100) : (11 + 14 * nI p) + 7 = nI (11 + 14 * p + 7) := by
  rw [show (14 : Int32) = nI 14 from rfl, pk_mul, show (11 : Int32) = nI 11 from rfl, nI_add, show (7 : Int32) = nI 7 from rfl, nI_add]
theorem lk_aw {p : Nat} (h : p < 100) : (115 + 15 * nI p) + 8 = nI (115 + 15 * p + 8) := by
  rw [show (15 : Int32) = nI 15 from rfl, pk_mul, show (115 : Int32) = nI 115 from rfl, nI_add, show (8 : Int32) = nI 8 from rfl, nI_add]
end
section
variable {I I1 I2 : Mem} {K K1 K2 : Kt} {w m kb gb D : Nat} {L : List Nat} {N : Nat → Int32}
theorem shl0 {x : Int32} : x <<< (0 : Int32) = x := by simp
end
section
theorem cB0 : cB 0 = some () := rfl
end
section
variable {I I1 I2 J : Mem} {K K1 K2 : Kt} {w m kb gb D np ns nw : Nat} {L : List Nat} {N : Nat → Int32}
theorem nI_le0 {n : Nat} (h : n < 1000) : (nI n ≤ 0) = (n = 0) := by
  rw [show (0 : Int32) = nI 0 from rfl, Int32.le_iff_toInt_le, nI_toInt (by omega), nI_toInt (by omega)]
  exact propext ⟨fun h => by omega, fun h => by omega⟩
end
section
variable {I I1 I2 J : Mem} {K K1 K2 : Kt} {w m kb gb a : Nat} {L : List Nat} {N : Nat → Int32}
theorem nm_c (H : NmOk N a) : (N a = nI (N a).toInt.toNat ∧ 1 ≤ (N a).toInt.toNat ∧ (N a).toInt.toNat ≤ 6) ∧ ∀ i, i < (N a).toInt.toNat → N (a + 1 + i) = nI (N (a + 1 + i)).toInt.toNat ∧ (N (a + 1 + i)).toInt.toNat < 128 := by
  obtain ⟨l, h1, h2, h3, h4⟩ := H
  have e : (N a).toInt.toNat = l := by
    rw [h1, nI_toInt (by omega)]
    omega
  rw [e]
  refine ⟨⟨h1, h2, h3⟩, fun i hi => ?_⟩
  obtain ⟨c, k1, k2, k3⟩ := h4 i hi
  have e2 : (N (a + 1 + i)).toInt.toNat = c := by
    rw [k1, nI_toInt (by omega)]
    omega
  rw [e2]
  exact ⟨k1, by omega⟩
theorem FU8 : ∃ F, FU = F + 8 := ⟨FU - 8, by have := FU_up (n := 10) (by decide); omega⟩
end
