/-! the text goes into the class's buffer -/
section OUT
variable {I I' I1 I2 : Mem} {K : Kt} {t : Nat} {D Q L : List Nat}
theorem ll_v : ∀ c, c < 128 → (nI c).toBitVec = BitVec.ofNat 32 c := by decide +kernel
def wsh (x : Int32) (c : Nat) : Int32 := (x <<< (8 &&& 31)) ||| nI c
theorem bvc {c j : Nat} (hc : c < 128) (hj : 8 ≤ j) : (BitVec.ofNat 32 c).getLsbD j = false := by
  rw [BitVec.getLsbD_ofNat, Nat.testBit_lt_two_pow (Nat.lt_of_lt_of_le hc (Nat.le_trans (by decide : 128 ≤ 2 ^ 8) (Nat.pow_le_pow_right (by decide) hj))), Bool.and_false]
theorem wsh_b {x : Int32} {c : Nat} : (wsh x c).toBitVec = (x.toBitVec <<< 8) ||| (nI c).toBitVec := rfl
theorem wsh_8 {x : Int32} {c : Nat} (hc : c < 128) (s : Nat) (hs : s + 16 ≤ 32) : ((wsh x c).toBitVec.sshiftRight (s + 8)).setWidth 8 = (x.toBitVec.sshiftRight s).setWidth 8 := by
  apply BitVec.eq_of_getLsbD_eq
  intro i hi
  rw [wsh_b, ll_v c hc]
  simp only [BitVec.getLsbD_setWidth, BitVec.getLsbD_sshiftRight, BitVec.getLsbD_or, BitVec.getLsbD_shiftLeft, hi, decide_true, Bool.true_and]
  rw [if_pos (show s + 8 + i < 32 by omega), if_pos (show s + i < 32 by omega), bvc hc (by omega)]
  simp [show ¬ 32 ≤ i by omega, show s + 8 + i < 32 by omega, show ¬ s + 8 + i < 8 by omega, show s + 8 + i - 8 = s + i by omega]
theorem wsh_0 {x : Int32} {c : Nat} (hc : c < 128) : ((wsh x c).toBitVec.sshiftRight 0).setWidth 8 = BitVec.ofNat 8 c := by
  apply BitVec.eq_of_getLsbD_eq
  intro i hi
  rw [wsh_b, ll_v c hc]
  simp only [BitVec.getLsbD_setWidth, BitVec.getLsbD_sshiftRight, BitVec.getLsbD_or, BitVec.getLsbD_shiftLeft, BitVec.getLsbD_ofNat, hi, decide_true, Bool.true_and]
  simp [show ¬ 32 ≤ i by omega, show i < 32 by omega, hi]
def wby (x : Int32) (s : Int32) : Int32 := vp_nar .byte ((x >>> (s &&& 31))).toInt8.toInt32
theorem b8l : ∀ c, c < 128 → (nI c).toInt8 = ⟨⟨BitVec.ofNat 8 c⟩⟩ := by decide +kernel
theorem wby_e {x : Int32} (s : Int32) (k : Nat) (h : (x >>> (s &&& 31)).toBitVec = x.toBitVec.sshiftRight k) {c : Nat} (hc : c < 128) (e : (x.toBitVec.sshiftRight k).setWidth 8 = BitVec.ofNat 8 c) : wby x s = nI c := by
  have h8 : (x >>> (s &&& 31)).toInt8 = ⟨⟨BitVec.ofNat 8 c⟩⟩ := by
    show (⟨⟨((x >>> (s &&& 31)).toBitVec).signExtend 8⟩⟩ : Int8) = _
    rw [h, BitVec.signExtend_eq_setWidth_of_le _ (by decide), e]
  unfold wby
  rw [h8, ← b8l c hc]
  exact b8c c hc
theorem wby_4 {z : Int32} {a b c d : Nat} (ha : a < 128) (hb : b < 128) (hc : c < 128) (hd : d < 128) : let x := wsh (wsh (wsh (wsh z a) b) c) d
    wby x 24 = nI a ∧ wby x 16 = nI b ∧ wby x 8 = nI c ∧ wby x 0 = nI d := by
  intro x
  have e0 := fun y => wsh_0 (x := y) hd
  refine ⟨wby_e 24 24 rfl ha ?_, wby_e 16 16 rfl hb ?_, wby_e 8 8 rfl hc ?_, wby_e 0 0 rfl hd ?_⟩
  · exact (wsh_8 hd 16 (by decide)).trans ((wsh_8 hc 8 (by decide)).trans ((wsh_8 hb 0 (by decide)).trans (wsh_0 ha)))
  · exact (wsh_8 hd 8 (by decide)).trans ((wsh_8 hc 0 (by decide)).trans (wsh_0 hb))
  · exact (wsh_8 hd 0 (by decide)).trans (wsh_0 hc)
  · exact wsh_0 hd
/-- one byte into the class's buffer -/
def w1 (I : Mem) (a b k f : Nat) (v : Int32) : Mem := u2 (u2 I b f v) a k (nI (f + 1))
theorem st7 {n f : Nat} {x s : Int32} (h : I t 1 = nI f) (hf : f < 500) (h0 : ¬ s < 0) : l_X7_putFourBytes_3 (n + 1) I t x s = l_X7_putFourBytes_3 n (w1 I t (t + 1) 1 f (wby x s)) t x (s + (-8)) := by
  have h5 : ¬ (500 : Int32) ≤ nI f := fun z => by have := nle (a := 500) z (by decide) (by omega); omega
  show (if s < 0 then _ else _) = _
  rw [if_neg h0, h, if_neg h5, ix_n hf (by decide), b1_so, pu_so, b1_so, u2_a (by omega), h, nI_s1, pu_so, b1_so]
  rfl
/-- the buffer holds D; what differs -/
def OB (I : Mem) (D : List Nat) : Prop := I 2 1 = nI D.length ∧ ∀ i c, D[i]? = some c → I 3 i = nI c
def OF (I I' : Mem) : Prop := (∀ a, a ≠ 2 → a ≠ 3 → a ≠ 414 → I' a = I a) ∧ (∀ j, j ≠ 1 → I' 2 j = I 2 j) ∧ ∀ j, 500 ≤ j → I' 3 j = I 3 j
theorem OF.refl : OF I I := ⟨fun _ _ _ _ => rfl, fun _ _ => rfl, fun _ _ => rfl⟩
theorem OF.trans (h : OF I I1) (g : OF I1 I2) : OF I I2 := ⟨fun a x y z => (g.1 a x y z).trans (h.1 a x y z), fun j hj => (g.2.1 j hj).trans (h.2.1 j hj), fun j hj => (g.2.2 j hj).trans (h.2.2 j hj)⟩
theorem w1_p {v : Int32} {c : Nat} (B : OB I D) (hD : D.length < 500) (e : v = nI c) : OB (w1 I 2 (2 + 1) 1 D.length v) (D ++ [c]) ∧ OF I (w1 I 2 (2 + 1) 1 D.length v) ∧ w1 I 2 (2 + 1) 1 D.length v 414 = I 414 := by
  refine ⟨⟨by rw [List.length_append]; exact u2_s, fun i d hi => ?_⟩, ⟨fun a h2 h3 _ => ?_, fun j hj => ?_, fun j hj => ?_⟩, ?_⟩
  · show u2 (u2 I 3 D.length v) 2 1 _ 3 i = nI d
    rw [u2_a (by decide)]
    by_cases h : i < D.length
    · rw [List.getElem?_append_left h] at hi
      rw [u2_k (by omega)]
      exact B.2 i d hi
    · have hl := (List.getElem?_eq_some_iff.mp hi).1
      rw [List.length_append] at hl
      have hl2 : i < D.length + 1 := hl
      obtain rfl : i = D.length := by omega
      rw [List.getElem?_append_right (Nat.le_refl _), Nat.sub_self] at hi
      cases hi
      rw [u2_s, e]
  · show u2 (u2 I 3 D.length v) 2 1 _ a = I a
    rw [u2_a h2, u2_a h3]
  · show u2 (u2 I 3 D.length v) 2 1 _ 2 j = I 2 j
    rw [u2_k hj, u2_a (by decide)]
  · show u2 (u2 I 3 D.length v) 2 1 _ 3 j = I 3 j
    rw [u2_a (by decide), u2_k (by omega)]
  · show u2 (u2 I 3 D.length v) 2 1 _ 414 = I 414
    rw [u2_a (by decide), u2_a (by decide)]
theorem four {z x : Int32} {a b c d : Nat} (B : OB I D) (hD : D.length + 4 ≤ 500) (ha : a < 128) (hb : b < 128) (hc : c < 128) (hd : d < 128) (hx : x = wsh (wsh (wsh (wsh z a) b) c) d) : ∃ I', f_X7_putFourBytes I 2 x = some I' ∧ OB I' (D ++ [a, b, c, d]) ∧ OF I I' ∧ I' 414 = I 414 := by
  obtain ⟨q1, q2, q3, q4⟩ := wby_4 (z := z) ha hb hc hd
  rw [← hx] at q1 q2 q3 q4
  obtain ⟨F, hF⟩ : ∃ F, FU = F + 5 := ⟨FU - 5, by have := FU_ge; omega⟩
  obtain ⟨B1, O1, f1⟩ := w1_p B (by omega) q1
  obtain ⟨B2, O2, f2⟩ := w1_p B1 (by rw [List.length_append]; show _ + 1 < _; omega) q2
  obtain ⟨B3, O3, f3⟩ := w1_p B2 (by simp only [List.length_append]; show _ + 1 + 1 < _; omega) q3
  obtain ⟨B4, O4, f4⟩ := w1_p B3 (by simp only [List.length_append]; show _ + 1 + 1 + 1 < _; omega) q4
  refine ⟨_, ?_, by simpa using B4, O1.trans (O2.trans (O3.trans O4)), f4.trans (f3.trans (f2.trans f1))⟩
  unfold f_X7_putFourBytes
  rw [hF, st7 B.1 (by omega) (by decide), show (24 : Int32) + (-8) = 16 from by decide, st7 B1.1 (by rw [List.length_append]; show _ + 1 < _; omega) (by decide), show (16 : Int32) + (-8) = 8 from by decide, st7 B2.1 (by simp only [List.length_append]; show _ + 1 + 1 < _; omega) (by decide), show (8 : Int32) + (-8) = 0 from by decide, st7 B3.1 (by simp only [List.length_append]; show _ + 1 + 1 + 1 < _; omega) (by decide)]
  rfl
end OUT
