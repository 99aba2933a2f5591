/-! lists of the law -/
section LST
variable {I I' : Mem} {K K' : Kt} {a r k x j v : Nat}
theorem kp_s : kG (kPut K a j v) a j = some v := u2_s
theorem kp_a {c : Nat} (h : c ≠ a) : kG (kPut K a j v) c = kG K c := u2_a h
theorem kp_k {i : Nat} (h : i ≠ j) : kG (kPut K a j v) a i = kG K a i := u2_k h
theorem kn_S {sh : Nat × Nat} : kS (kNew K sh) (kN K) = sh := u1_s
theorem kn_s {sh : Nat × Nat} {c : Nat} (h : c ≠ kN K) : kS (kNew K sh) c = kS K c := u1_n h
theorem kn_g {sh : Nat × Nat} {c : Nat} (h : c ≠ kN K) : kG (kNew K sh) c = kG K c := u1_n h
theorem kn_n {sh : Nat × Nat} : kN (kNew K sh) = kN K + 1 := rfl
theorem puG_e : puG K a j v = some (kPut K a j v) := rfl
theorem puN_e {sh : Nat × Nat} : puN I K sh = some (u1 I (kN K) (fun _ => 0), kNew K sh) := rfl
theorem gR_e (h : kG K a j = some v) : gR K a j = some v := h
theorem LO.nw {ci : Nat} {sh : Nat × Nat} (h : LO K ci a) : LO (kNew K sh) ci a := ⟨by rw [kn_s (Nat.ne_of_lt h.2)]; exact h.1, Nat.lt_succ_of_lt h.2⟩
theorem LA.nw {ci n : Nat} {sh : Nat × Nat} (h : LA K ci n a) : LA (kNew K sh) ci n a := ⟨by rw [kn_s (Nat.ne_of_lt h.2)]; exact h.1, Nat.lt_succ_of_lt h.2⟩
theorem LO.mk {ci n : Nat} : LO (kNew K (ci, n)) ci (kN K) := ⟨by rw [kn_S], Nat.lt_succ_self _⟩
theorem LA.mk {ci n : Nat} : LA (kNew K (ci, n)) ci n (kN K) := ⟨kn_S, Nat.lt_succ_self _⟩
theorem chk_n {i n : Nat} (h : i < n) (hn : n < 1000000) : f_J3_checkIndex_8e157 (nI i) (nI n) = some (nI i) := by
  unfold f_J3_checkIndex_8e157
  rw [if_neg (by rw [show (0 : Int32) = nI 0 from rfl, nJ_lf (Nat.zero_le _) (by omega)]; exact id), if_pos (nI_lt h (by omega))]
/-- the list at a, its array at r (when there is one), k elements -/
def AL (K : Kt) (I : Mem) (a r k : Nat) : Prop := LO K 11 a ∧ I a 2 = nI k ∧ ((k = 0 ∧ kG K a 1 = some (xE 43)) ∨ (1 ≤ k ∧ kG K a 1 = some r ∧ LA K 109 10 r))
theorem AL.size (A : AL K I a r k) : f_Jx4a65c_size_8abf5 I K a = some (nI k) := by
  unfold f_Jx4a65c_size_8abf5
  rw [cO_n A.1, b1_so, A.2.1]
theorem AL.get {i : Nat} (A : AL K I a r k) (hi : i < k) (hk : k ≤ 10) (e : kG K r i = some x) : f_Jx4a65c_get_915e3 I K a (nI i) = some x := by
  obtain ⟨h1, h2, h3⟩ := A
  rcases h3 with h3 | ⟨-, h4, h5⟩
  · omega
  unfold f_Jx4a65c_get_915e3 f_J15_checkIndex_7cf53 f_Jx4a65c_elementData_915e3
  rw [cO_n h1, b1_so, h2, chk_n hi (by omega), b1_so, b1_so, b1_so, b1_so, gR_e h4, b1_so, cA_n h5, b1_so, ix_n (by omega) (by decide), b1_so, gR_e e, b1_so, b1_so]
theorem add72 (h1 : LO K 11 a) (hr : LA K 109 10 r) (hk : k < 10) (hx : cAny K x = some ()) : l_Jx4a65c_add_72be8_11 I K a x r (nI k) = some (u2 I a 2 (nI (k + 1)), kPut K r k x) := by
  unfold l_Jx4a65c_add_72be8_11
  rw [cA_n hr, b1_so, ix_n hk (by decide), b1_so, hx, b1_so, puG_e, b1_so, cO_n (show LO (kPut K r k x) 11 a from h1), b1_so, nI_s1, pu_so, b1_so]
theorem AL.add (A : AL K I a r k) (hr : k = 0 → kN K = r) (hk : k < 10) (hx : cAny K x = some ()) (hL : kN K < 900000) (har : a ≠ r) : ∃ I' K', f_Jx4a65c_add_9ea2d I K a x = some (1, I', K') ∧ AL K' I' a r (k + 1) ∧ kG K' r k = some x ∧ (kN K' = kN K + if k = 0 then 1 else 0) ∧ gz K' ≤ gz K + 1000 * (kN K' - kN K) ∧
    (∀ c, c ≠ a → c ≠ r → I' c = I c) ∧ (∀ c, c < kN K → kS K' c = kS K c) ∧ (∀ c, c < kN K → c ≠ a → c ≠ r → kG K' c = kG K c) ∧ ∀ j, 1 ≤ k → j ≠ k → kG K' r j = kG K r j := by
  obtain ⟨h1, h2, h3⟩ := A
  have h2' : u2 I a 0 (I a 0 + 1) a 2 = nI k := by rw [u2_k (by decide)]; exact h2
  rcases h3 with ⟨k0, g1⟩ | ⟨k1, g1, g2⟩
  · subst k0
    have hrr := hr rfl
    have hx43 : cLen K (xE 43) = some 0 := if_pos rfl
    have q1 : f_Jx4a65c_grow_d5877 (u2 I a 0 (I a 0 + 1)) K a = some (kN K, u1 (u2 I a 0 (I a 0 + 1)) (kN K) (fun _ => 0), kPut (kNew K (109, 10)) a 1 (kN K)) := by
      unfold f_Jx4a65c_grow_d5877 f_Jx4a65c_grow_92f84
      rw [cO_n h1, b1_so, b1_so, h2', b1_so, gR_e g1, b1_so, hx43, b1_so, if_neg (by decide), b1_so, b1_so, ckE_n, b1_so, show ixn (if (10 : Int32) < nI 0 + 1 then nI 0 + 1 else 10) = some 10 from ixn_n (n := 10) (by decide), b1_so, cL_n hL, b1_so, puN_e, b2_so, cO_n h1.nw, b1_so, puG_e, b1_so, b3_so]
    have eI : ∀ c, c ≠ a → c ≠ r → u2 (u1 (u2 I a 0 (I a 0 + 1)) (kN K) (fun _ => 0)) a 2 (nI (0 + 1)) c = I c := fun c c1 c2 => by
      rw [u2_a c1, u1_n (by rw [hrr]; exact c2), u2_a c1]
    refine ⟨u2 (u1 (u2 I a 0 (I a 0 + 1)) (kN K) (fun _ => 0)) a 2 (nI (0 + 1)), kPut (kPut (kNew K (109, 10)) a 1 (kN K)) (kN K) 0 x, ?_, ⟨?_, u2_s, Or.inr ⟨by decide, ?_, ?_⟩⟩, ?_, ?_, ?_, eI, ?_, ?_, fun j h => absurd h (by decide)⟩
    · unfold f_Jx4a65c_add_9ea2d f_Jx4a65c_add_72be8
      rw [cO_n h1, b1_so, b1_so, pu_so, b1_so, b1_so, gR_e g1, b1_so, b1_so, b1_so, hx43, b1_so, h2', if_pos rfl, b1_so, q1, b3_so]
      have q2 := add72 (I := u1 (u2 I a 0 (I a 0 + 1)) (kN K) (fun _ => 0)) (K := kPut (kNew K (109, 10)) a 1 (kN K)) (a := a) (r := kN K) (k := 0) (x := x) (show LO (kNew K (109, 10)) 11 a from h1.nw) (show LA (kNew K (109, 10)) 109 10 (kN K) from LA.mk) (by decide) (by
        unfold cAny at hx ⊢
        split at hx
        · next hc => exact if_pos ⟨by rw [show kS (kPut (kNew K (109, 10)) a 1 (kN K)) x = kS K x from kn_s (by omega)]; exact hc.1, Nat.lt_succ_of_lt hc.2⟩
        · cases hx)
      rw [q2, b2_so]
    · exact (show LO (kNew K (109, 10)) 11 a from h1.nw)
    · rw [kp_a (by omega), ← hrr]; exact kp_s
    · rw [← hrr]; exact (show LA (kNew K (109, 10)) 109 10 (kN K) from LA.mk)
    · rw [← hrr]; exact kp_s
    · rfl
    · show gz (kNew K (109, 10)) ≤ gz K + 1000 * (kN K + 1 - kN K)
      rw [gz_new]
      omega
    · intro c hc
      exact kn_s (by omega)
    · intro c hc c1 c2
      rw [kp_a (by omega), kp_a c1]
      exact kn_g (by omega)
  · have hl : cLen K r = some 10 := if_neg (fun e => by
      have := xE_ge 43
      have h9 : xB ≤ r := by rw [e]; exact xE_ge 43
      have := g2.2
      have : (900000 : Nat) ≤ xB := by decide
      omega) |>.trans (if_pos ⟨by rw [g2.1]; decide, g2.2⟩) |>.trans (by rw [g2.1])
    refine ⟨u2 (u2 I a 0 (I a 0 + 1)) a 2 (nI (k + 1)), kPut K r k x, ?_, ⟨h1, u2_s, Or.inr ⟨by omega, by rw [kp_a har]; exact g1, g2⟩⟩, kp_s, by rw [if_neg (by omega)]; rfl, by show gz K ≤ gz K + _; omega, fun c c1 c2 => by rw [u2_a c1, u2_a c1], fun c hc => rfl, fun c hc c1 c2 => kp_a c2, fun j _ hj => kp_k hj⟩
    unfold f_Jx4a65c_add_9ea2d f_Jx4a65c_add_72be8
    rw [cO_n h1, b1_so, b1_so, pu_so, b1_so, b1_so, gR_e g1, b1_so, b1_so, b1_so, hl, b1_so, h2', if_neg (show ¬ nI k = nI 10 by rw [nJ_i (by omega) (by decide)]; omega), add72 h1 g2 hk hx, b2_so]
end LST
