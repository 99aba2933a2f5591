/-! back to a slot -/
section RS
variable {I : Mem} {K : Kt} {w m kb gb D : Nat}
theorem lc_restoreState (S : ST I K w m kb gb D) {x : Int32} : LC (mX9_restoreState 7) cX9_restoreState (mX10_restoreState 2) cX10_restoreState [eIX, eIS] [.int x] I K w m kb gb (D + 300) := by
  have S0 := S
  obtain ⟨hLL, ⟨l', hA⟩, hBB, ⟨u, v, ⟨hu, hv⟩, ⟨hu1, hu2, hv1⟩, hU⟩, hV, hP, ⟨f, hF⟩, hO⟩ := S
  have hm := hLL.2.2.1
  have hvv := hLL.2.2.2
  by_cases hx : ¬ x < 0 ∧ x < nI 2
  · obtain ⟨p, rfl, hp⟩ := slot_of hx
    have i2 : ix (nI p) 2 = some p := ix_n hp (by decide)
    rcases hV p hp with ⟨s1, s2⟩ | ⟨s1, s2, s3⟩
    · refine lc_er (E := eIS) S0 (c_X9_restoreState 0 S0.lw (x := .error eIS) ?_) Ec2 (fun Kj hM => c_X10_restoreState 0 hM (v := 0) ?_)
      · unfold f_X9_restoreState
        rw [h_checkIndex, if_pos (show ¬ nI p < 0 ∧ nI p < 2 from hx), e1_ok, i2, b1_so, s1, if_pos rfl]
      · have h9 := r_mayTwo (I := I) (m := m) (a := True) (b := False)
        rw [bI_tr, show bI False = 0 from rfl, bI_f (p := True ∧ False) (fun h => h.2), th_2 trivial (fun h => h)] at h9
        unfold f_X10_restoreState l_X10_restoreState_24 l_X10_restoreState_25
        rw [r_isSlot, b1_so, bI_t hx, if_neg (by decide), i2, b1_so, s2, if_pos rfl, h9, b2_so, if_pos rfl]
    · obtain ⟨I7, c1, c2, c3⟩ := h_copyFrom (I := I) (d := w + 37) (s := w + 352 + 31 * p) (Or.inl (by omega)) (hBB.2.2 p hp)
      obtain ⟨np, ns, nw, R, G⟩ := s3
      have R7 : RM I7 (w + 37) (fun k => I (m + 4) (355 * p + k)) np ns nw := c2.rm R
      have eI : ∀ a, a ≠ w → (a < w + 37 ∨ w + 67 < a) → u2 I7 w 8 0 a = I a := fun a h1 h2 => by rw [u2_a h1, c3 a (by omega)]
      have eq : ∀ a, w + 37 ≤ a → a ≤ w + 67 → u2 I7 w 8 0 a = I7 a := fun a h1 h2 => u2_a (by omega)
      have e7 : ∀ k, k ≠ 8 → u2 I7 w 8 0 w k = I w k := fun k h1 => by rw [u2_k h1, c3 w (by omega)]
      have f8 : u2 I7 w 8 0 w 8 = nI 0 := u2_s
      have hcl : f_X9_restoreState I w (nI p) = some (.ok (I (m + 4) (355 * p + 1)), u2 I7 w 8 0) := by
        unfold f_X9_restoreState
        rw [h_checkIndex, if_pos (show ¬ nI p < 0 ∧ nI p < 2 from hx), e1_ok, i2, b1_so, s1, if_neg (by decide), b1_so, c1, b1_so, pu_so, b1_so, eq (w + 37) (by omega) (by omega), R7.h6]
      generalize u2 I7 w 8 0 = I5 at hcl eI eq e7 f8
      have em : ∀ a, m ≤ a → a ≤ m + 7 → I5 a = I a := fun a h1 h2 => eI a (by omega) (by omega)
      obtain ⟨J5, j1, j2, j3, -⟩ := r_lays (I := u2 I5 m 0 0) (a := m + 4) (b := m + 1) (na := 710) (nb := 355) (i := p * 355) (j := 0) (by omega) (by omega) (by decide) (by decide) (by decide)
      have eJ : ∀ a, a ≠ m → a ≠ m + 1 → u2 J5 m 7 0 a = I5 a := fun a h1 h2 => by rw [u2_a h1, j2 a h2, u2_a h1]
      have eJm : ∀ k, k ≠ 0 → k ≠ 7 → u2 J5 m 7 0 m k = I m k := fun k h1 h2 => by rw [u2_k h2, j2 m (by omega), u2_k h1, em m (by omega) (by omega)]
      have eJ0 : u2 J5 m 7 0 m 0 = 0 := by rw [u2_k (by decide), j2 m (by omega), u2_s]
      have eJ7 : u2 J5 m 7 0 m 7 = nI 0 := u2_s
      have eJ1 : ∀ k, k < 355 → u2 J5 m 7 0 (m + 1) k = I (m + 4) (355 * p + k) := fun k hk => by
        have := j3 k hk
        rw [Nat.zero_add, u2_a (by omega), em _ (by omega) (by omega), Nat.mul_comm p 355] at this
        rw [u2_a (by omega)]
        exact this
      have hj : f_X10_restoreState I5 m (nI p) = some (I (m + 4) (355 * p + 1), u2 J5 m 7 0) := by
        have h9 := r_mayTwo (I := I5) (m := m) (a := True) (b := True)
        rw [bI_tr, bI_t (p := True ∧ True) ⟨trivial, trivial⟩, th_0 trivial trivial] at h9
        have j1' : f_X10_lays (u2 I5 m 0 0) (m + 4) 710 (nI (p * 355)) (m + 1) 355 0 = some J5 := j1
        unfold f_X10_restoreState l_X10_restoreState_25
        rw [r_isSlot, b1_so, bI_t hx, if_neg (by decide), i2, b1_so, em (m + 5) (by omega) (by omega), s2, if_neg (by decide), h9, b2_so, if_neg (by decide), show nI p * 355 = nI (p * 355) from pk_mul p 355, j1', b1_so, pu_so, b1_so, show ix 1 355 = some 1 from rfl, b1_so, eJ1 1 (by decide)]
      generalize u2 J5 m 7 0 = J6 at eJ eJm eJ0 eJ7 eJ1 hj
      have hSn : Snap I5 (w + 37) (J6 (m + 1)) D := Snap.eqN (N := fun k => I (m + 4) (355 * p + k)) ⟨np, ns, nw, R7.fr fun a h1 h2 => eq a (by omega) (by omega), G⟩ eJ1
      have hS2 : ST2 I5 J6 K w m kb gb D := by
        refine ⟨hLL, ⟨l', ⟨by rw [e7 7 (by decide)]; exact hA.1.1, by rw [eJm 6 (by decide) (by decide)]; exact hA.1.2⟩, fun _ => hSn⟩, ⟨⟨hBB.1.1.fr fun a _ _ => eI a (by omega) (by omega), (c2.bm (hBB.2.2 p hp)).fr fun a _ _ => eq a (by omega) (by omega), hBB.1.2.2.fr fun a _ _ => eI a (by omega) (by omega)⟩, fun i h => (hBB.2.1 i h).fr fun a _ _ => eI a (by omega) (by omega), fun i h => (hBB.2.2 i h).fr fun a _ _ => eI a (by omega) (by omega)⟩, ⟨0, v, ⟨by decide, hv⟩, ⟨f8, eJ7, by rw [e7 9 (by decide)]; exact hv1⟩, fun j hj => absurd hj (Nat.not_lt_zero j)⟩, fun i h => ?_, ⟨by rw [eI _ (by omega) (by omega), eJm 10 (by decide) (by decide)]; exact hP.1, by rw [eI _ (by omega) (by omega), eJm 11 (by decide) (by decide)]; exact hP.2⟩, ⟨f, ⟨hF.1.1, by rw [eI _ (by omega) (by omega)]; exact hF.1.2.1, by rw [eJm 9 (by decide) (by decide)]; exact hF.1.2.2⟩, fun i h => by rw [eI _ (by omega) (by omega), eJ _ (by omega) (by omega), em _ (by omega) (by omega)]; exact hF.2 i h⟩, ?_⟩
        · rw [eI (w + 101) (by omega) (by omega), eJ (m + 5) (by omega) (by omega), eJ (m + 4) (by omega) (by omega), em _ (by omega) (by omega), em _ (by omega) (by omega)]
          exact (hV i h).imp id fun h => ⟨h.1, h.2.1, h.2.2.fr fun a _ _ => eI a (by omega) (by omega)⟩
        · obtain ⟨⟨n, n1, n2, n3, n4⟩, o2, o3⟩ := hO
          have ev : I5 (vOf K (w + 102)) = I (vOf K (w + 102)) := eI _ (by omega) (by omega)
          exact ⟨⟨n, n1, by rw [eI (w + 102) (by omega) (by omega), eJm 20 (by decide) (by decide)]; exact n2, n3, by rw [ev, eJ (m + 7) (by omega) (by omega), em _ (by omega) (by omega)]; exact n4⟩, by rw [ev]; exact o2, o3⟩
      exact lc_ch (r := .ok (I (m + 4) (355 * p + 1))) (t := 0) (b := I (m + 4) (355 * p + 1)) (I1 := I5) (I2 := J6) (c_X9_restoreState 0 S0.lw hcl) Ec0 (fun Kj hM => c_X10_restoreState 0 hM hj) eJ0 (fun v h => by cases h; rfl) ((hS2.fin fun a ha => eJ a (by omega) (by omega)).le (Nat.le_add_right _ _))
  · refine lc_er (E := eIX) S0 (c_X9_restoreState 0 S0.lw (x := .error eIX) ?_) Ec1 (fun Kj hM => c_X10_restoreState 0 hM (v := 0) ?_)
    · unfold f_X9_restoreState
      rw [h_checkIndex, if_neg (show ¬ (¬ x < 0 ∧ x < 2) from hx), e1_er]
    · have h9 := r_mayTwo (I := I) (m := m) (a := False) (b := False)
      rw [show bI False = 0 from rfl, bI_f (p := False ∧ False) (fun h => h.1), th_1 (fun h => h)] at h9
      unfold f_X10_restoreState l_X10_restoreState_24 l_X10_restoreState_25
      rw [r_isSlot, b1_so, bI_f hx, if_pos rfl, h9, b2_so, if_pos rfl]
end RS
