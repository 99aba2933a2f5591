/-! two slots -/
section SV
variable {I : Mem} {K : Kt} {w m kb gb D : Nat}
theorem r_isSlot {x : Int32} : f_X10_isSlot x = some (bI (¬ x < 0 ∧ x < nI 2)) := by
  have h := r_inIx (x := x) (n := 2) (by decide)
  rw [show nI 2 - 1 = 1 from rfl] at h
  unfold f_X10_isSlot
  rw [h, b1_so, cB_bI, b1_so]
theorem slot_of {x : Int32} (h : ¬ x < 0 ∧ x < nI 2) : ∃ p, x = nI p ∧ p < 2 := okI_of h (by decide)
theorem lc_saveState (S : ST I K w m kb gb D) {x : Int32} : LC (mX9_saveState 7) cX9_saveState (mX10_saveState 2) cX10_saveState [eIS, eIX] [.int x] I K w m kb gb (D + 300) := by
  have S0 := S
  obtain ⟨l, np, ns, nw, B, G⟩ := S.br
  by_cases hL : l = true
  · have R := B.2 hL
    by_cases hx : ¬ x < 0 ∧ x < nI 2
    · obtain ⟨p, rfl, hp⟩ := slot_of hx
      obtain ⟨hLL, ⟨l', hA⟩, hBB, ⟨u, v, ⟨hu, hv⟩, ⟨hu1, hu2, hv1⟩, hU⟩, hV, hP, ⟨f, hF⟩, hO⟩ := S
      have hm := hLL.2.2.1
      have hvv := hLL.2.2.2
      obtain ⟨I7, c1, c2, c3⟩ := h_copyFrom (I := I) (d := w + 352 + 31 * p) (s := w + 37) (Or.inr (by omega)) hBB.1.2.1
      have eI : ∀ a, a ≠ w + 101 → (a < w + 352 + 31 * p ∨ w + 352 + 31 * p + 30 < a) → u2 I7 (w + 101) p 1 a = I a := fun a h1 h2 => by rw [u2_a h1, c3 a (by omega)]
      have eq : ∀ a, w + 352 + 31 * p ≤ a → a ≤ w + 352 + 31 * p + 30 → u2 I7 (w + 101) p 1 a = I7 a := fun a h1 h2 => u2_a (by omega)
      have f1 : u2 I7 (w + 101) p 1 (w + 101) p = 1 := u2_s
      have f2 : ∀ i, i ≠ p → u2 I7 (w + 101) p 1 (w + 101) i = I (w + 101) i := fun i h => by rw [u2_k h, c3 _ (by omega)]
      have hcl : f_X9_saveState I w (nI p) = some (.ok ((I (m + 1)) 1), u2 I7 (w + 101) p 1) := by
        unfold f_X9_saveState
        rw [h_loaded B.1.1, if_pos hL, e1_ok, ckE_n, b1_so, h_checkIndex, if_pos (show ¬ nI p < 0 ∧ nI p < 2 from hx), e1_ok, ix_n hp (by decide), b1_so, c1, b1_so, b1_so, show vp_nar .boolean 1 = 1 from rfl, pu_so, b1_so, eI (w + 37) (by omega) (by omega), R.h6]
      generalize u2 I7 (w + 101) p 1 = I5 at hcl eI eq f1 f2
      have em : ∀ a, m ≤ a → a ≤ m + 7 → I5 a = I a := fun a h1 h2 => eI a (by omega) (by omega)
      obtain ⟨J5, j1, j2, j3, j4⟩ := r_lays (I := u2 I5 m 0 0) (a := m + 1) (b := m + 4) (na := 355) (nb := 710) (i := 0) (j := p * 355) (by omega) (by decide) (by decide) (by omega) (by decide)
      have eJ : ∀ a, a ≠ m → a ≠ m + 4 → a ≠ m + 5 → u2 J5 (m + 5) p 1 a = I5 a := fun a h1 h2 h3 => by rw [u2_a h3, j2 a h2, u2_a h1]
      have eJm : ∀ k, k ≠ 0 → u2 J5 (m + 5) p 1 m k = I m k := fun k h1 => by rw [u2_a (by omega), j2 m (by omega), u2_k h1, em m (by omega) (by omega)]
      have eJ0 : u2 J5 (m + 5) p 1 m 0 = 0 := by rw [u2_a (by omega), j2 m (by omega), u2_s]
      have g1 : u2 J5 (m + 5) p 1 (m + 5) p = 1 := u2_s
      have g2 : ∀ i, i ≠ p → u2 J5 (m + 5) p 1 (m + 5) i = I (m + 5) i := fun i h => by rw [u2_k h, j2 _ (by omega), u2_a (by omega), em _ (by omega) (by omega)]
      have g3 : ∀ k, k < 355 → u2 J5 (m + 5) p 1 (m + 4) (355 * p + k) = I (m + 1) k := fun k hk => by
        have := j3 k hk
        rw [Nat.mul_comm p 355, u2_a (by omega), Nat.zero_add, em _ (by omega) (by omega)] at this
        rw [u2_a (by omega)]
        exact this
      have g4 : ∀ i k, i < 2 → i ≠ p → k < 355 → u2 J5 (m + 5) p 1 (m + 4) (355 * i + k) = I (m + 4) (355 * i + k) := fun i k h1 h2 hk => by
        rw [u2_a (by omega), j4 _ (by omega), u2_a (by omega), em _ (by omega) (by omega)]
      have hj : f_X10_saveState I5 m (nI p) = some ((I (m + 1)) 1, u2 J5 (m + 5) p 1) := by
        have h9 := r_mayTwo (I := I5) (m := m) (a := l = true) (b := ¬ nI p < 0 ∧ nI p < nI 2)
        rw [bI_t (p := l = true ∧ ¬ nI p < 0 ∧ nI p < nI 2) ⟨hL, hx⟩, th_0 hL hx] at h9
        unfold f_X10_saveState
        rw [r_isSlot, b1_so, em m (by omega) (by omega), B.1.2, h9, b2_so, if_neg (by decide), show nI p * 355 = nI (p * 355) from pk_mul p 355]
        have j1' : f_X10_lays (u2 I5 m 0 0) (m + 1) 355 0 (m + 4) 710 (nI (p * 355)) = some J5 := j1
        rw [j1', b1_so, ix_n hp (by decide), b1_so, show vp_nar .boolean 1 = 1 from rfl, pu_so, b1_so, show ix 1 355 = some 1 from rfl, b1_so, eJ (m + 1) (by omega) (by omega) (by omega), em _ (by omega) (by omega)]
      generalize u2 J5 (m + 5) p 1 = J6 at eJ eJm eJ0 g1 g2 g3 g4 hj
      have hS2 : ST2 I5 J6 K w m kb gb D := by
        have ew : I5 w = I w := eI w (by omega) (by omega)
        refine ⟨hLL, ⟨l', ⟨by rw [ew]; exact hA.1.1, by rw [eJm 6 (by decide)]; exact hA.1.2⟩, fun h => by rw [eJ (m + 1) (by omega) (by omega) (by omega), em _ (by omega) (by omega)]; exact (hA.2 h).fr fun a _ _ => eI a (by omega) (by omega)⟩, ⟨⟨hBB.1.1.fr fun a _ _ => eI a (by omega) (by omega), hBB.1.2.1.fr fun a _ _ => eI a (by omega) (by omega), hBB.1.2.2.fr fun a _ _ => eI a (by omega) (by omega)⟩, fun i h => (hBB.2.1 i h).fr fun a _ _ => eI a (by omega) (by omega), fun i h => ?_⟩, ⟨u, v, ⟨hu, hv⟩, ⟨by rw [ew]; exact hu1, by rw [eJm 7 (by decide)]; exact hu2, by rw [ew]; exact hv1⟩, fun j hj => by rw [eJ (m + 3) (by omega) (by omega) (by omega), em _ (by omega) (by omega)]; exact (hU j hj).fr fun a _ _ => eI a (by omega) (by omega)⟩, fun i h => ?_, ⟨by rw [eI _ (by omega) (by omega), eJm 10 (by decide)]; exact hP.1, by rw [eI _ (by omega) (by omega), eJm 11 (by decide)]; exact hP.2⟩, ⟨f, ⟨hF.1.1, by rw [eI _ (by omega) (by omega)]; exact hF.1.2.1, by rw [eJm 9 (by decide)]; exact hF.1.2.2⟩, fun i h => by rw [eI _ (by omega) (by omega), eJ _ (by omega) (by omega) (by omega), em _ (by omega) (by omega)]; exact hF.2 i h⟩, ?_⟩
        · by_cases e : i = p
          · subst e
            exact (c2.bm hBB.1.2.1).fr fun a _ _ => eq a (by omega) (by omega)
          · exact (hBB.2.2 i h).fr fun a _ _ => eI a (by omega) (by omega)
        · by_cases e : i = p
          · subst e
            refine Or.inr ⟨f1, g1, Snap.eqN (N := I (m + 1)) ⟨np, ns, nw, (c2.rm R).fr fun a _ _ => eq a (by omega) (by omega), G hL⟩ g3⟩
          · rw [f2 i e, g2 i e]
            rcases hV i h with h1 | ⟨h1, h2, h3⟩
            · exact Or.inl h1
            · exact Or.inr ⟨h1, h2, (h3.fr fun a _ _ => eI a (by omega) (by omega)).eqN fun k hk => g4 i k h e hk⟩
        · obtain ⟨⟨n, n1, n2, n3, n4⟩, o2, o3⟩ := hO
          have ev : I5 (vOf K (w + 102)) = I (vOf K (w + 102)) := eI _ (by omega) (by omega)
          exact ⟨⟨n, n1, by rw [eI (w + 102) (by omega) (by omega), eJm 20 (by decide)]; exact n2, n3, by rw [ev, eJ (m + 7) (by omega) (by omega) (by omega), em _ (by omega) (by omega)]; exact n4⟩, by rw [ev]; exact o2, o3⟩
      exact lc_ch (r := .ok ((I (m + 1)) 1)) (t := 0) (b := (I (m + 1)) 1) (I1 := I5) (I2 := J6) (c_X9_saveState 0 S0.lw hcl) Ec0 (fun Kj hM => c_X10_saveState 0 hM hj) eJ0 (fun v h => by cases h; rfl) ((hS2.fin fun a ha => eJ a (by omega) (by omega) (by omega)).le (Nat.le_add_right _ _))
    · refine lc_er (E := eIX) S (c_X9_saveState 0 S.lw (x := .error eIX) ?_) Ec2 (fun Kj hM => c_X10_saveState 0 hM (v := 0) ?_)
      · unfold f_X9_saveState
        rw [h_loaded B.1.1, if_pos hL, e1_ok, ckE_n, b1_so, h_checkIndex, if_neg (show ¬ (¬ x < 0 ∧ x < 2) from hx), e1_er]
      · unfold f_X10_saveState
        rw [r_isSlot, b1_so, B.1.2, r_mayTwo, b2_so, bI_f (fun h => hx h.2), if_pos rfl, th_2 hL hx]
  · refine lc_er (E := eIS) S (c_X9_saveState 0 S.lw (x := .error eIS) ?_) Ec1 (fun Kj hM => c_X10_saveState 0 hM (v := 0) ?_)
    · unfold f_X9_saveState
      rw [h_loaded B.1.1, if_neg hL, e1_er]
    · unfold f_X10_saveState
      rw [r_isSlot, b1_so, B.1.2, r_mayTwo, b2_so, bI_f (fun h => hL h.1), if_pos rfl, th_1 hL]
end SV
