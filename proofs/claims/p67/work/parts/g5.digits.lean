/-! digits -/
section
variable {K : Kt}
variable {I I1 I2 J : Mem} {K K1 K2 : Kt} {w m kb gb a : Nat} {L : List Nat} {N : Nat → Int32}
theorem chN : ∀ c, c < 128 → ((nI c).toUInt32 % 65536).toInt32 = nI c := by decide +kernel
theorem ng_dv : ∀ a, a < 110 → ∀ b, b < 100 → -(nI (100 * a + b)) / 100 = -(nI a) := by decide +kernel
theorem ng_t {x : Nat} (h : x < 1000000000) : (-(nI x)).toInt = -(x : Int) := by
  have := pk_sub_toInt (a := 0) (b := x) (by omega) (by omega)
  rw [show nI 0 = 0 from rfl, Int32.zero_sub] at this
  omega
theorem ng_le {x y : Nat} (hx : x < 1000000000) (hy : y < 1000000000) : (-(nI x) ≤ -(nI y)) = (y ≤ x) := by
  rw [Int32.le_iff_toInt_le, ng_t hx, ng_t hy]
  exact propext ⟨fun h => by omega, fun h => by omega⟩
theorem ng_lt {x y : Nat} (hx : x < 1000000000) (hy : y < 1000000000) : (-(nI x) < -(nI y)) = (y < x) := by
  rw [Int32.lt_iff_toInt_lt, ng_t hx, ng_t hy]
  exact propext ⟨fun h => by omega, fun h => by omega⟩
/-- the digits of a number -/
def dgs (x : Nat) : Nat → List Nat
  | 0 => [48 + x % 10]
  | k + 1 => (48 + x / 10 ^ (k + 1) % 10) :: dgs x k
def lg (x : Nat) : Nat := if x < 10 then 0 else if x < 100 then 1 else if x < 1000 then 2 else if x < 10000 then 3 else 4
def dig (x : Nat) : List Nat := dgs x (lg x)
theorem dgs_l {x : Nat} : ∀ k, (dgs x k).length = k + 1
  | 0 => rfl
  | k + 1 => by
    show (dgs x k).length + 1 = _
    rw [dgs_l k]
theorem lg_4 {x : Nat} : lg x ≤ 4 := by
  unfold lg
  split
  · omega
  split
  · omega
  split
  · omega
  split <;> omega
theorem lg_c {x : Nat} (hx : x < 11000) : (x < 10 ∧ lg x = 0) ∨ (10 ≤ x ∧ x < 100 ∧ lg x = 1) ∨ (100 ≤ x ∧ x < 1000 ∧ lg x = 2) ∨ (1000 ≤ x ∧ x < 10000 ∧ lg x = 3) ∨ (10000 ≤ x ∧ lg x = 4) := by
  unfold lg
  by_cases h1 : x < 10
  · rw [if_pos h1]; omega
  rw [if_neg h1]
  by_cases h2 : x < 100
  · rw [if_pos h2]; omega
  rw [if_neg h2]
  by_cases h3 : x < 1000
  · rw [if_pos h3]; omega
  rw [if_neg h3]
  by_cases h4 : x < 10000
  · rw [if_pos h4]; omega
  rw [if_neg h4]
  omega
theorem ss_step {f x p k : Nat} (hx : x < 11000) (hp : p ≤ 100000) (hk : k < 10) : l_J6_stringSize_0f7a4_16 (f + 1) I K (-(nI x)) 0 (-(nI p)) (nI k) = if p ≤ x then l_J6_stringSize_0f7a4_16 f I K (-(nI x)) 0 (-(nI (10 * p))) (nI (k + 1)) else some (nI k) := by
  show (if (10 : Int32) ≤ nI k then _ else if (-(nI x)) ≤ (-(nI p)) then l_J6_stringSize_0f7a4_16 f I K (-(nI x)) 0 (10 * (-(nI p))) (nI k + 1) else some (nI k + 0)) = _
  rw [if_neg (by rw [Int32.le_iff_toInt_le, nI_toInt (by omega)]; show ¬ (10 : Int) ≤ _; omega), Int32.add_zero, nI_s1, show (10 : Int32) * -(nI p) = -(nI (10 * p)) from by rw [Int32.mul_neg, show (10 : Int32) = nI 10 from rfl, pk_mul]]
  by_cases h : p ≤ x
  · rw [if_pos h, if_pos (by rw [ng_le (by omega) (by omega)]; exact h)]
  · rw [if_neg h, if_neg (by rw [ng_le (by omega) (by omega)]; exact h)]
theorem ss_row {x : Nat} (hx : x < 11000) : f_J6_stringSize_0f7a4 I K (nI x) = some (nI (lg x + 1)) := by
  obtain ⟨F, hF⟩ := FU8
  unfold f_J6_stringSize_0f7a4
  rw [if_neg (by rw [lt0, nI_toInt (by omega)]; omega), hF, show (-10 : Int32) = -(nI 10) from by decide, show (1 : Int32) = nI 1 from rfl]
  rcases lg_c hx with ⟨h1, h2⟩ | ⟨h1, h3, h2⟩ | ⟨h1, h3, h2⟩ | ⟨h1, h3, h2⟩ | ⟨h1, h2⟩ <;> rw [h2]
  · rw [ss_step hx (by omega) (by omega), if_neg (by omega)]
  · rw [ss_step hx (by omega) (by omega), if_pos (by omega), ss_step hx (by omega) (by omega), if_neg (by omega)]
  · rw [ss_step hx (by omega) (by omega), if_pos (by omega), ss_step hx (by omega) (by omega), if_pos (by omega), ss_step hx (by omega) (by omega), if_neg (by omega)]
  · rw [ss_step hx (by omega) (by omega), if_pos (by omega), ss_step hx (by omega) (by omega), if_pos (by omega), ss_step hx (by omega) (by omega), if_pos (by omega), ss_step hx (by omega) (by omega), if_neg (by omega)]
  · rw [ss_step hx (by omega) (by omega), if_pos (by omega), ss_step hx (by omega) (by omega), if_pos (by omega), ss_step hx (by omega) (by omega), if_pos (by omega), ss_step hx (by omega) (by omega), if_pos (by omega), ss_step hx (by omega) (by omega), if_neg (by omega)]
theorem b8_v : ∀ c, c < 128 → vp_nar .byte (nI c) = nI c := by decide +kernel
theorem gc_a {f v k x n2 : Nat} (hx : x < 10) (hk : k + 1 ≤ n2) (h2 : n2 < 1000000) (hA : cA K 101 v = some n2) : l_J6_getChars_ba4f3_22 (f + 1) I K (-(nI x)) v (nI (k + 1)) 0 = some (nI k, u2 I v k (nI (48 + x))) := by
  show (if (-100 : Int32) < -(nI x) then _ else _) = _
  rw [if_pos (by rw [show (-100 : Int32) = -(nI 100) from by decide, ng_lt (by omega) (by omega)]; omega)]
  show (b1 (ix (- -(nI x)) 100) fun j1 => b1 (cA K 101 v) fun m4 => b1 (ix (nI (k + 1) + (-1)) m4) fun j2 => b1 (pu I v j2 (vp_nar .byte (nI (48 + j1 % 10)))) fun I3 => if (-9 : Int32) ≤ -(nI x) then (l_J6_getChars_ba4f3_104 I3 K v (nI (k + 1) + (-1)) 0) else _) = _
  rw [Int32.neg_neg, ix_n (by omega) (by decide), b1_so, hA, b1_so, pk_m1, ix_n (by omega) (by omega), b1_so, pu_so, b1_so, if_pos (by rw [show (-9 : Int32) = -(nI 9) from by decide, ng_le (by omega) (by omega)]; omega), b8_v _ (by omega), show x % 10 = x by omega]
  unfold l_J6_getChars_ba4f3_104
  rw [if_pos rfl]
theorem gc_b {f v k x n2 : Nat} (hx : x < 100) (hx1 : 10 ≤ x) (hk : k + 2 ≤ n2) (h2 : n2 < 1000000) (hA : cA K 101 v = some n2) : l_J6_getChars_ba4f3_22 (f + 1) I K (-(nI x)) v (nI (k + 2)) 0 = some (nI k, u2 (u2 I v (k + 1) (nI (48 + x % 10))) v k (nI (48 + x / 10))) := by
  show (if (-100 : Int32) < -(nI x) then _ else _) = _
  rw [if_pos (by rw [show (-100 : Int32) = -(nI 100) from by decide, ng_lt (by omega) (by omega)]; omega)]
  show (b1 (ix (- -(nI x)) 100) fun j1 => b1 (cA K 101 v) fun m4 => b1 (ix (nI (k + 1 + 1) + (-1)) m4) fun j2 => b1 (pu I v j2 (vp_nar .byte (nI (48 + j1 % 10)))) fun I3 => if (-9 : Int32) ≤ -(nI x) then _ else (b1 (ix (- -(nI x)) 100) fun j6 => b1 (cA K 101 v) fun m8 => b1 (ix ((nI (k + 1 + 1) + (-1)) + (-1)) m8) fun j7 => b1 (pu I3 v j7 (vp_nar .byte (nI (48 + j6 / 10)))) fun I8 => l_J6_getChars_ba4f3_104 I8 K v ((nI (k + 1 + 1) + (-1)) + (-1)) 0)) = _
  rw [Int32.neg_neg, ix_n (by omega) (by decide), b1_so, hA, b1_so, pk_m1, ix_n (by omega) (by omega), b1_so, pu_so, b1_so, if_neg (by rw [show (-9 : Int32) = -(nI 9) from by decide, ng_le (by omega) (by omega)]; omega), b8_v _ (by omega), b1_so, b1_so, pk_m1, ix_n (by omega) (by omega), b1_so, pu_so, b1_so, b8_v _ (by omega)]
  unfold l_J6_getChars_ba4f3_104
  rw [if_pos rfl]
theorem gc_c {f v k x n2 : Nat} (hx : x < 11000) (hx1 : 100 ≤ x) (hk : k + 2 ≤ n2) (h2 : n2 < 1000000) (hA : cA K 101 v = some n2) : l_J6_getChars_ba4f3_22 (f + 1) I K (-(nI x)) v (nI (k + 2)) 0 = l_J6_getChars_ba4f3_22 f (u2 (u2 I v (k + 1) (nI (48 + x % 10))) v k (nI (48 + x / 10 % 10))) K (-(nI (x / 100))) v (nI k) 0 := by
  have e1 : -(nI x) / 100 = -(nI (x / 100)) := by
    have := ng_dv (x / 100) (by omega) (x % 100) (by omega)
    rwa [show 100 * (x / 100) + x % 100 = x by omega] at this
  have e2 : (-(nI x) / 100) * 100 - -(nI x) = nI (x % 100) := by
    rw [e1, Int32.neg_mul, Int32.sub_neg, Int32.add_comm, ← Int32.sub_eq_add_neg, show (100 : Int32) = nI 100 from rfl, pk_mul, pk_sub (by omega)]
    congr 1
    omega
  show (if (-100 : Int32) < -(nI x) then _ else _) = _
  rw [if_neg (by rw [show (-100 : Int32) = -(nI 100) from by decide, ng_lt (by omega) (by omega)]; omega)]
  show (b1 (ix (((-(nI x) / 100) * 100) - -(nI x)) 100) fun j9 => b1 (cA K 101 v) fun m4 => b1 (ix (nI (k + 1 + 1) + (-1)) m4) fun j10 => b1 (pu I v j10 (vp_nar .byte (nI (48 + j9 % 10)))) fun I11 => b1 (ix (((-(nI x) / 100) * 100) - -(nI x)) 100) fun j12 => b1 (cA K 101 v) fun m8 => b1 (ix ((nI (k + 1 + 1) + (-1)) + (-1)) m8) fun j13 => b1 (pu I11 v j13 (vp_nar .byte (nI (48 + j12 / 10)))) fun I14 => l_J6_getChars_ba4f3_22 f I14 K (-(nI x) / 100) v ((nI (k + 1 + 1) + (-1)) + (-1)) 0) = _
  rw [e2, e1, ix_n (by omega) (by decide), b1_so, hA, b1_so, pk_m1, ix_n (by omega) (by omega), b1_so, pu_so, b1_so, b1_so, b1_so, pk_m1, ix_n (by omega) (by omega), b1_so, pu_so, b1_so, b8_v _ (by omega), b8_v _ (by omega), show x % 100 % 10 = x % 10 by omega, show x % 100 / 10 = x / 10 % 10 by omega]

theorem gc_row {n v n2 x : Nat} (hx : x < 1000) (hn : n + (lg x + 1) ≤ n2) (h2 : n2 < 1000000) (hA : cA K 101 v = some n2) : ∃ I1, f_J6_getChars_ba4f3 I K (nI x) (nI (n + (lg x + 1))) v = some (nI n, I1) ∧ (∀ a, a ≠ v → I1 a = I a) ∧ (∀ i c, (dig x)[i]? = some c → c < 128 ∧ I1 v (n + i) = nI c) ∧ ∀ j, (j < n ∨ n + (lg x + 1) ≤ j) → I1 v j = I v j := by
  obtain ⟨F, hF⟩ := FU8
  have e : ∀ y, f_J6_getChars_ba4f3 I K (nI x) y v = l_J6_getChars_ba4f3_22 (F + 8) I K (-(nI x)) v y 0 := fun y => by
    unfold f_J6_getChars_ba4f3 l_J6_getChars_ba4f3_12
    rw [if_pos (by rw [show (0 : Int32) = nI 0 from rfl, Int32.le_iff_toInt_le, nI_toInt (by omega), nI_toInt (by omega)]; omega), if_pos rfl, hF]
  rw [e]
  rcases lg_c (x := x) (by omega) with ⟨h1, h2⟩ | ⟨h1, h3, h2⟩ | ⟨h1, h3, h2⟩ | ⟨h1, h3, h2⟩ | ⟨h1, h2⟩ <;> rw [h2] at hn ⊢
  · refine ⟨_, gc_a h1 (by omega) (by omega) hA, fun a ha => u2_a ha, fun i c hi => ?_, fun j hj => u2_k (by omega)⟩
    unfold dig at hi
    rw [h2] at hi
    match i with
    | 0 =>
      cases hi
      exact ⟨by omega, by rw [show x % 10 = x by omega]; exact u2_s⟩
    | i + 1 => simp [dgs] at hi
  · refine ⟨_, gc_b h3 h1 (by omega) (by omega) hA, fun a ha => by rw [u2_a ha, u2_a ha], fun i c hi => ?_, fun j hj => by rw [u2_k (by omega), u2_k (by omega)]⟩
    unfold dig at hi
    rw [h2] at hi
    match i with
    | 0 =>
      cases hi
      refine ⟨by omega, ?_⟩
      rw [show x / 10 ^ (0 + 1) % 10 = x / 10 by omega]
      exact u2_s
    | 1 =>
      cases hi
      refine ⟨by omega, ?_⟩
      rw [u2_k (by omega)]
      exact u2_s
    | i + 2 => simp [dgs] at hi
  · refine ⟨_, (gc_c (f := F + 7) (k := n + 1) (by omega) h1 (by omega) (by omega) hA).trans (gc_a (by omega) (by omega) (by omega) hA), fun a ha => by rw [u2_a ha, u2_a ha, u2_a ha], fun i c hi => ?_, fun j hj => by rw [u2_k (by omega), u2_k (by omega), u2_k (by omega)]⟩
    unfold dig at hi
    rw [h2] at hi
    match i with
    | 0 =>
      cases hi
      refine ⟨by omega, ?_⟩
      rw [show x / 10 ^ (1 + 1) % 10 = x / 100 by omega]
      exact u2_s
    | 1 =>
      cases hi
      refine ⟨by omega, ?_⟩
      rw [u2_k (by omega), show x / 10 ^ (0 + 1) % 10 = x / 10 % 10 by omega]
      exact u2_s
    | 2 =>
      cases hi
      refine ⟨by omega, ?_⟩
      rw [u2_k (by omega), u2_k (by omega)]
      exact u2_s
    | i + 3 => simp [dgs] at hi
  · omega
  · omega
end
