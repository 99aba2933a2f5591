/-! twenty bytes are appended -/
section AQ
variable {I J I' J' : Mem} {K : Kt} {w m kb gb D t : Nat}
theorem four3 {f : Nat} {x : Int32} (R : RB2 t m I J f) (hf : f + 4 ≤ 500) : ∃ I', f_X7_putFourBytes I t x = some I' ∧ F7 t (t + 1) 1 I I' ∧ ∀ J2, RB2 t m I J2 f → ∃ J', f_X10_four J2 m x = some J' ∧ RB2 t m I' J' (f + 4) ∧ F7 m (m + 6) 9 J2 J' := by
  obtain ⟨I', -, h1, -, -, h4, -⟩ := four2 (x := x) R hf
  refine ⟨I', h1, h4, fun J2 R2 => ?_⟩
  obtain ⟨I'', J', g1, g2, g3, -, g5⟩ := four2 (x := x) R2 hf
  obtain rfl : I'' = I' := Option.some.inj (g1.symm.trans h1)
  exact ⟨J', g2, g3, g5⟩
theorem ST2.sf (h : ST2 I J K w m kb gb D) (hI : F7 (w + 1 + 1) (w + 1 + 1 + 1) 1 I I') (hJ : F7 m (m + 6) 9 J J') {f : Nat} (hf : f ≤ 500) (R : RB2 (w + 1 + 1) m I' J' f) : ST2 I' J' K w m kb gb D := by
  obtain ⟨hL, ⟨l, hA⟩, hBB, ⟨u, v, hU⟩, hV, hP, -, hO⟩ := h
  have hu := hU.1
  have hvv := hL.2.2.2
  have hm := hL.2.2.1
  have eI : ∀ a, a ≠ w + 2 → a ≠ w + 3 → I' a = I a := fun a h1 h2 => hI.1 a (by omega) (by omega)
  have eJ : ∀ a, a ≠ m → a ≠ m + 6 → J' a = J a := hJ.1
  have eJm : ∀ k, k ≠ 9 → J' m k = J m k := hJ.2
  have ew : I' w = I w := eI w (by omega) (by omega)
  refine ⟨hL, ⟨l, ⟨by rw [ew]; exact hA.1.1, by rw [eJm 6 (by decide)]; exact hA.1.2⟩, fun h => by rw [eJ (m + 1) (by omega) (by omega)]; exact (hA.2 h).fr fun a _ _ => eI a (by omega) (by omega)⟩, hBB.fr fun a _ _ => eI a (by omega) (by omega), ⟨u, v, hU.1, ⟨by rw [ew]; exact hU.2.1.1, by rw [eJm 7 (by decide)]; exact hU.2.1.2.1, by rw [ew]; exact hU.2.1.2.2⟩, fun j hj => by rw [eJ (m + 3) (by omega) (by omega)]; exact (hU.2.2 j hj).fr fun a _ _ => eI a (by omega) (by omega)⟩, fun i hi => ?_, ⟨by rw [eI _ (by omega) (by omega), eJm 10 (by decide)]; exact hP.1, by rw [eI _ (by omega) (by omega), eJm 11 (by decide)]; exact hP.2⟩, ⟨f, ⟨hf, R.1⟩, R.2⟩, ?_⟩
  · rw [eI (w + 101) (by omega) (by omega), eJ (m + 5) (by omega) (by omega), eJ (m + 4) (by omega) (by omega)]
    exact (hV i hi).imp id fun h => ⟨h.1, h.2.1, h.2.2.fr fun a _ _ => eI a (by omega) (by omega)⟩
  · obtain ⟨⟨n, n1, n2, n3, n4⟩, o2, o3⟩ := hO
    have h2 : I' (vOf K (w + 102)) = I (vOf K (w + 102)) := eI _ (by omega) (by omega)
    exact ⟨⟨n, n1, by rw [eI (w + 102) (by omega) (by omega), eJm 20 (by decide)]; exact n2, n3, by rw [h2, eJ (m + 7) (by omega) (by omega)]; exact n4⟩, by rw [h2]; exact o2, o3⟩
theorem nlei {a b : Nat} (h : a ≤ b) (hb : b < 2147483648) : nI a ≤ nI b := by
  rw [Int32.le_iff_toInt_le, nI_toInt (by omega), nI_toInt hb]
  omega
theorem lc_append (S : ST I K w m kb gb D) {x1 x2 x3 x4 x5 : Int32} : LN (mX9_append 1) cX9_append (mX10_append 1) cX10_append [.int x1, .int x2, .int x3, .int x4, .int x5] I K w m kb gb (D + 300) := by
  have hm := S.lo
  obtain ⟨f, ⟨f1, f2, f3⟩, f4⟩ := S.2.2.2.2.2.2.1
  have R0 : RB2 (w + 1 + 1) m I I f := ⟨⟨f2, f3⟩, f4⟩
  have e20 : nI f + 20 = nI (f + 20) := nI_add f 20
  by_cases hf : f ≤ 480
  · obtain ⟨I1, c1, d1, e1⟩ := four3 (x := x1) R0 (by omega)
    obtain ⟨J1, -, R1, -⟩ := e1 I R0
    obtain ⟨I2, c2, d2, e2⟩ := four3 (x := x2) R1 (by omega)
    obtain ⟨J2, -, R2, -⟩ := e2 J1 R1
    obtain ⟨I3, c3, d3, e3⟩ := four3 (x := x3) R2 (by omega)
    obtain ⟨J3, -, R3, -⟩ := e3 J2 R2
    obtain ⟨I4, c4, d4, e4⟩ := four3 (x := x4) R3 (by omega)
    obtain ⟨J4, -, R4, -⟩ := e4 J3 R3
    obtain ⟨I5, c5, d5, e5⟩ := four3 (x := x5) R4 (by omega)
    have F := (((d1.trans d2).trans d3).trans d4).trans d5
    have em : ∀ a, m ≤ a → I5 a = I a := fun a h => F.1 a (by omega) (by omega)
    have Q0 : RB2 (w + 1 + 1) m I (u2 I5 m 0 0) f := ⟨⟨f2, by rw [u2_k (by decide), em m (by omega)]; exact f3⟩, fun i hi => by rw [u2_a (by omega), em _ (by omega)]; exact f4 i hi⟩
    obtain ⟨K1, k1, r1, g1⟩ := e1 _ Q0
    obtain ⟨K2, k2, r2, g2⟩ := e2 _ r1
    obtain ⟨K3, k3, r3, g3⟩ := e3 _ r2
    obtain ⟨K4, k4, r4, g4⟩ := e4 _ r3
    obtain ⟨K5, k5, r5, g5⟩ := e5 _ r4
    have G := (((g1.trans g2).trans g3).trans g4).trans g5
    have S0 : ST2 I (u2 I5 m 0 0) K w m kb gb D := (ST.two.mp S).jfr (fun a h1 h2 => by rw [u2_a (by omega), em _ (by omega)]) (fun k hk => by rw [u2_k hk, em m (by omega)])
    have hS := (S0.sf F G (by omega) r5).fin fun a ha => (G.1 a (by omega) (by omega)).trans (u2_a (by omega))
    refine ⟨nI (f + 4 + 4 + 4 + 4 + 4), I5, K5, c_X9_append 0 S.lw ?_, c_X10_append 0 S.mk ?_, hS.le (Nat.le_add_right _ _)⟩
    · unfold f_X9_append
      rw [f2, e20, if_pos (show nI (f + 20) ≤ (500 : Int32) from nlei (b := 500) (by omega) (by decide)), c1, b1_so, c2, b1_so, c3, b1_so, c4, b1_so, c5, b1_so, r5.1.1]
    · unfold f_X10_append
      rw [pu_so, b1_so, Q0.1.2, if_pos (show nI f ≤ (480 : Int32) from nlei (b := 480) hf (by decide)), k1, b1_so, k2, b1_so, k3, b1_so, k4, b1_so, k5, b1_so, r5.1.2]
  · refine ⟨-1, I, u2 I m 0 0, c_X9_append 0 S.lw ?_, c_X10_append 0 S.mk ?_, S.th.le (Nat.le_add_right _ _)⟩
    · unfold f_X9_append
      rw [f2, e20, if_neg (fun z => by have := nle (b := 500) z (by omega) (by decide); omega)]
    · unfold f_X10_append
      rw [pu_so, b1_so, u2_k (by decide), f3, if_neg (fun z => by have := nle (b := 480) z (by omega) (by decide); omega)]
end AQ
