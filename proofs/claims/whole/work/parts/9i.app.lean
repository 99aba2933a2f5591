/-! bytes are appended -/
section AP
variable {I J I' J' : Mem} {K : Kt} {w m kb gb D t : Nat}
def w1 (I : Mem) (a b k f : Nat) (v : Int32) : Mem := u2 (u2 I b f v) a k (nI (f + 1))
def RB2 (t m : Nat) (I J : Mem) (f : Nat) : Prop := (I t 1 = nI f ∧ J m 9 = nI f) ∧ ∀ i, i < f → I (t + 1) i = J (m + 6) i
def F7 (a b k : Nat) (I I' : Mem) : Prop := (∀ c, c ≠ a → c ≠ b → I' c = I c) ∧ ∀ j, j ≠ k → I' a j = I a j
theorem F7.trans {a b k : Nat} {I2 : Mem} (h : F7 a b k I I') (g : F7 a b k I' I2) : F7 a b k I I2 := ⟨fun c h1 h2 => (g.1 c h1 h2).trans (h.1 c h1 h2), fun j hj => (g.2 j hj).trans (h.2 j hj)⟩
theorem F7.ww {a b k f : Nat} {v : Int32} (hab : a ≠ b) : F7 a b k I (w1 I a b k f v) := ⟨fun c h1 h2 => (u2_a h1).trans (u2_a h2), fun j hj => by
  unfold w1
  rw [u2_k hj, u2_a hab]⟩
theorem RB2.ww {f : Nat} {v : Int32} (h : RB2 t m I J f) : RB2 t m (w1 I t (t + 1) 1 f v) (w1 J m (m + 6) 9 f v) (f + 1) := by
  refine ⟨⟨u2_s, u2_s⟩, fun i hi => ?_⟩
  have e1 : w1 I t (t + 1) 1 f v (t + 1) = u2 I (t + 1) f v (t + 1) := u2_a (by omega)
  have e2 : w1 J m (m + 6) 9 f v (m + 6) = u2 J (m + 6) f v (m + 6) := u2_a (by omega)
  rw [e1, e2]
  by_cases e : i = f
  · subst e; rw [u2_s, u2_s]
  · rw [u2_k e, u2_k e]; exact h.2 i (by omega)
theorem st7 {n f : Nat} {x s : Int32} (h : I t 1 = nI f) (hf : f < 500) (h0 : ¬ s < 0) : l_X7_putFourBytes_3 (n + 1) I t x s = l_X7_putFourBytes_3 n (w1 I t (t + 1) 1 f (vp_nar .byte ((x >>> (s &&& 31))).toInt8.toInt32)) t x (s + (-8)) := by
  have h5 : ¬ (500 : Int32) ≤ nI f := fun z => by have := nle (a := 500) z (by decide) (by omega); omega
  show (if s < 0 then _ else _) = _
  rw [if_neg h0, h, if_neg h5, ix_n hf (by decide), b1_so, pu_so, b1_so, u2_a (by omega), h, nI_s1, pu_so, b1_so]
  rfl
theorem st10 {n f : Nat} {x s : Int32} (h : J m 9 = nI f) (hf : f < 500) (h0 : ¬ s < 0) : l_X10_four_2 (n + 1) J m x s = l_X10_four_2 n (w1 J m (m + 6) 9 f (vp_nar .byte ((x >>> ((8 * s) &&& 31))).toInt8.toInt32)) m x (s + (-1)) := by
  show (if s < 0 then _ else _) = _
  rw [if_neg h0, h, ix_n hf (by decide), b1_so, pu_so, b1_so, u2_a (by omega), h, nI_s1, pu_so, b1_so]
  rfl
theorem FU5 : ∃ F, FU = F + 5 := ⟨FU - 5, by have := FU_up (n := 10) (by decide); omega⟩
theorem four2 {f : Nat} {x : Int32} (R : RB2 t m I J f) (hf : f + 4 ≤ 500) : ∃ I' J', f_X7_putFourBytes I t x = some I' ∧ f_X10_four J m x = some J' ∧ RB2 t m I' J' (f + 4) ∧ F7 t (t + 1) 1 I I' ∧ F7 m (m + 6) 9 J J' := by
  obtain ⟨F, hF⟩ := FU5
  have ht : t ≠ t + 1 := by omega
  have hm : m ≠ m + 6 := by omega
  have R1 := R.ww (v := vp_nar .byte ((x >>> ((24 : Int32) &&& 31))).toInt8.toInt32)
  have R2 := R1.ww (v := vp_nar .byte ((x >>> (((24 : Int32) + -8) &&& 31))).toInt8.toInt32)
  have R3 := R2.ww (v := vp_nar .byte ((x >>> (((24 : Int32) + -8 + -8) &&& 31))).toInt8.toInt32)
  have R4 := R3.ww (v := vp_nar .byte ((x >>> (((24 : Int32) + -8 + -8 + -8) &&& 31))).toInt8.toInt32)
  refine ⟨_, _, ?_, ?_, R4, (((F7.ww ht).trans (F7.ww ht)).trans (F7.ww ht)).trans (F7.ww ht), (((F7.ww hm).trans (F7.ww hm)).trans (F7.ww hm)).trans (F7.ww hm)⟩
  · unfold f_X7_putFourBytes
    rw [hF, st7 R.1.1 (by omega) (by decide), st7 R1.1.1 (by omega) (by decide), st7 R2.1.1 (by omega) (by decide), st7 R3.1.1 (by omega) (by decide)]
    rfl
  · unfold f_X10_four
    rw [hF, st10 R.1.2 (by omega) (by decide)]
    rw [show ((8 * 3 : Int32) &&& 31) = ((24 : Int32) &&& 31) from by decide, st10 R1.1.2 (by omega) (by decide)]
    rw [show ((8 * (3 + -1) : Int32) &&& 31) = (((24 : Int32) + -8) &&& 31) from by decide, st10 R2.1.2 (by omega) (by decide)]
    rw [show ((8 * (3 + -1 + -1) : Int32) &&& 31) = (((24 : Int32) + -8 + -8) &&& 31) from by decide, st10 R3.1.2 (by omega) (by decide)]
    rw [show ((8 * (3 + -1 + -1 + -1) : Int32) &&& 31) = (((24 : Int32) + -8 + -8 + -8) &&& 31) from by decide]
    rfl
end AP
