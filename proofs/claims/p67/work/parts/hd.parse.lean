/-! the class takes the law's text -/
section PSX
variable {I : Mem} {I0 : Mem} {ns y w k f : Nat} {L : List Nat} {v : Int32}
theorem ghost (n : Nat) (B : Nat → Int32) : ∃ J : Mem, (J 0 10 = 0 ∧ J 0 12 = nI n ∧ J 0 13 = nI 0 ∧ J 0 11 = -1) ∧ (J 0 17 = 0 ∧ J 0 18 = 0) ∧ (∀ i, J (0 + 6) i = B i) ∧ NB (J (0 + 1)) :=
  ⟨fun a j => if a = 0 then (if j = 12 then nI n else if j = 11 then -1 else 0) else if a = 1 then (if j = 5 then 3 else if j = 6 then 10 else if j = 8 then -1 else if j = 9 then -1 else 0) else B j, ⟨rfl, rfl, rfl, rfl⟩, ⟨rfl, rfl⟩, fun i => rfl, ⟨rfl, rfl, rfl, rfl⟩, ⟨rfl, rfl, rfl, rfl⟩, rfl, rfl⟩
theorem parse_row (hn : 1 ≤ ns ∧ ns ≤ 2) (V : HV I0 ns ns 2 4 y) (hL : L = tAll I0 ns v) (h450 : L.length ≤ 450) (Bm : BM I (w + 1 + 3)) (h9 : ∃ q, q < 8 ∧ I w 9 = nI q) (f2 : I (w + 1 + 1) 1 = nI f) (hf : L.length ≤ f ∧ f ≤ 500) (hb : ∀ i c, L[i]? = some c → I (w + 1 + 1 + 1) i = nI c ∧ c < 128) : ∃ N I9 k9, f_X9_parseSetup I k w (nI L.length) = some (.ok 4, I9, k9) ∧ k9 < 7 ∧ PI I9 w N ns ∧ NV N ns 2 := by
  obtain ⟨n, hnL⟩ : ∃ n, n = L.length := ⟨_, rfl⟩
  rw [← hnL] at h450 hf ⊢
  obtain ⟨I5, a1, a2, a3, a4⟩ := read_row (r := w + 1) (k := k) f2 hf
  obtain ⟨J, ⟨j10, j12, j13, j11⟩, ⟨j17, j18⟩, jB, jN⟩ := ghost n (I (w + 1 + 1 + 1))
  have S : RN J 0 (I (w + 1 + 1 + 1)) n (tAll I0 ns v) (J (0 + 1)) 0 0 := ⟨0, ⟨⟨by omega, Nat.zero_le _⟩, ⟨by rw [Nat.zero_add, hnL, hL], fun i c hi => by rw [Nat.zero_add]; rw [← hL] at hi; exact hb i c hi⟩⟩, ⟨⟨j10, j12, fun i _ => jB i⟩, j13, j11⟩, rfl, j17, j18⟩
  obtain ⟨J', r1, r2, r3, r4⟩ := y_text hn jN V S
  rcases text_row (B := I (w + 1 + 1 + 1)) (n := n) (I := I5) (J := J) (r := w + 1) (m := 0) (k := k) (Bm.fr fun a _ _ => a3 a (by omega) (by omega)) (by omega) ⟨⟨a2.1, a2.2⟩, fun i hi => by rw [a3 _ (by omega) (by omega)]⟩ ⟨⟨j10, j12, fun i _ => jB i⟩, j13, j11⟩ jN a4.1 a4.2.1 a4.2.2.1 a4.2.2.2 j17 j18 with ⟨I2, J2, k2, N, np, ns', nw, Dd, ⟨X1, R1, k7⟩, -, P, -, fr0, -⟩ | ⟨c, s, I2, J2, k2, ⟨X1, R1, k7⟩, ⟨-, -, F⟩, -⟩
  · obtain rfl : J2 = J' := Option.some.inj (R1.symm.trans r1)
    have X2 : tX I5 k (w + 1) = some (1, I2, k2) := X1
    have hNJ := P.2.1
    rw [hNJ] at r3 r4
    have B2 := P.1.2
    have R2 := P.1.1
    obtain rfl : 2 = np := by
      have := R2.f.p.1.symm.trans r3.p.1
      have h6 := R2.f.p.2
      rw [nJ_i (by omega) (by omega)] at this
      exact this.symm
    obtain rfl : ns = ns' := by
      have := R2.f.s.1.symm.trans r3.s.1
      have h6 := R2.f.s.2
      rw [nJ_i (by omega) (by omega)] at this
      exact this.symm
    obtain rfl : 4 = nw := by
      have := R2.f.w.1.symm.trans r3.w.1
      have h6 := R2.f.w.2
      rw [nJ_i (by omega) (by omega)] at this
      exact this.symm
    obtain ⟨I6, c1, c2, c3⟩ := h_copyFrom (I := u2 I2 (w + 1 + 1) 1 0) (d := w + 37) (s := w + 1 + 3) (Or.inr (by omega)) (B2.fr fun a _ _ => u2_a (by omega))
    have hcl : f_X9_parseSetup I k w (nI n) = some (.ok (u2 (u2 (u2 (u2 I6 w 7 1) w 8 0) (w + 101) 0 0) (w + 101) 1 0 (w + 37) 5), u2 (u2 (u2 (u2 I6 w 7 1) w 8 0) (w + 101) 0 0) (w + 101) 1 0, k2) := by
      unfold f_X9_parseSetup
      rw [if_neg (nln (by omega)), f2, if_pos (show nI n ≤ nI f from by rw [ile (by omega) (by omega)]; exact hf.1), a1, X2, b3_so, pu_so, b1_so, if_neg (by decide), c1, b1_so, pu_so, b1_so, pu_so, b1_so, l88]
    obtain ⟨q, hq, hq9⟩ := h9
    have e2 : ∀ a, (a < w + 1 ∨ w + 36 < a) → I2 a = I a := fun a ha => (fr0 a (by omega)).trans (a3 a (by omega) (by omega))
    have w7 : u2 (u2 (u2 (u2 I6 w 7 1) w 8 0) (w + 101) 0 0) (w + 101) 1 0 w 7 = 1 := by rw [u2_a (by omega), u2_a (by omega), u2_k (by decide), u2_s]
    have w8 : u2 (u2 (u2 (u2 I6 w 7 1) w 8 0) (w + 101) 0 0) (w + 101) 1 0 w 8 = 0 := by rw [u2_a (by omega), u2_a (by omega), u2_s]
    have w9 : u2 (u2 (u2 (u2 I6 w 7 1) w 8 0) (w + 101) 0 0) (w + 101) 1 0 w 9 = nI q := by rw [u2_a (by omega), u2_a (by omega), u2_k (by decide), u2_k (by decide), c3 w (by omega), u2_a (by omega), e2 w (by omega), hq9]
    have e9c : ∀ a, w + 37 ≤ a → a ≤ w + 67 → u2 (u2 (u2 (u2 I6 w 7 1) w 8 0) (w + 101) 0 0) (w + 101) 1 0 a = I6 a := fun a h1 h2 => by rw [u2_a (by omega), u2_a (by omega), u2_a (by omega), u2_a (by omega)]
    generalize u2 (u2 (u2 (u2 I6 w 7 1) w 8 0) (w + 101) 0 0) (w + 101) 1 0 = I9 at hcl w7 w8 w9 e9c
    have R9 : RM I9 (w + 37) N 2 ns 4 := (c2.rm (R2.fr fun a _ _ => u2_a (by omega))).fr fun a h1 h2 => e9c a h1 (by omega)
    have B9 : BM I9 (w + 37) := (c2.bm (B2.fr fun a _ _ => u2_a (by omega))).fr fun a h1 h2 => e9c a h1 (by omega)
    refine ⟨N, I9, k2, ?_, k7, ⟨⟨w7, R9⟩, B9, 0, q, ⟨by decide, hq⟩, w8, w9⟩, r4⟩
    rw [hcl, R9.h5]
    rfl
  · obtain rfl : J2 = J' := Option.some.inj (R1.symm.trans r1)
    exact absurd r2 F.n0
end PSX
