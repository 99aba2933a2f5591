/-! what was can come back -/
section UN
variable {I : Mem} {K : Kt} {w m kb gb D : Nat}
theorem pv8 {v : Nat} (hv : v < 8) : (nI v + 8 - 1) - (nI v + 8 - 1) / 8 * 8 = nI ((v + 7) % 8) := by
  rcases (show v = 0 ∨ v = 1 ∨ v = 2 ∨ v = 3 ∨ v = 4 ∨ v = 5 ∨ v = 6 ∨ v = 7 by omega) with rfl | rfl | rfl | rfl | rfl | rfl | rfl | rfl <;> decide
theorem lc_undo (S : ST I K w m kb gb D) : LC (mX9_undo 6) cX9_undo (mX10_undo 1) cX10_undo [eIS] [] I K w m kb gb (D + 300) := by
  have S0 := S
  obtain ⟨hL, ⟨l, hA⟩, hBB, ⟨u, v, ⟨hu, hv⟩, ⟨hu1, hu2, hv1⟩, hU⟩, hV, hP, ⟨f, hF⟩, hO⟩ := S
  have hm := hL.2.2.1
  have hvv := hL.2.2.2
  by_cases h0 : u = 0
  · subst h0
    refine lc_er (E := eIS) S0 (c_X9_undo 0 S0.lw (x := .error eIS) ?_) Ec1 (fun Kj hM => c_X10_undo 0 hM (v := 0) ?_)
    · unfold f_X9_undo
      rw [hu1, if_pos (show nI 0 = 0 from rfl)]
    · have h9 := r_may (I := I) (m := m) (a := False) (b := True) (c := True)
      rw [bI_tr, show bI False = 0 from rfl, bI_f (p := False ∧ True ∧ True) (fun h => h.1), th3_1 (fun h => h)] at h9
      unfold f_X10_undo l_X10_undo_13
      rw [hu2, if_pos (by decide), h9, b2_so, if_pos rfl]
  · obtain ⟨I2, c1, c2, c3⟩ := h_copyFrom (I := I) (d := w + 37) (s := w + 104 + 31 * v) (Or.inl (by omega)) (hBB.2.1 v hv)
    have e8 : I2 w 8 = nI u := by rw [c3 w (by omega)]; exact hu1
    have e9 : I2 w 9 = nI v := by rw [c3 w (by omega)]; exact hv1
    have hs1 : nI u - 1 = nI (u - 1) := by rw [show (1 : Int32) = nI 1 from rfl, pk_sub (by omega)]
    have eI : ∀ a, a ≠ w → (a < w + 37 ∨ w + 67 < a) → u2 (u2 I2 w 9 (nI ((v + 7) % 8))) w 8 (nI (u - 1)) a = I a := fun a h1 h2 => by rw [u2_a h1, u2_a h1, c3 a (by omega)]
    have eq : ∀ a, w + 37 ≤ a → a ≤ w + 67 → u2 (u2 I2 w 9 (nI ((v + 7) % 8))) w 8 (nI (u - 1)) a = I2 a := fun a h1 h2 => by rw [u2_a (by omega), u2_a (by omega)]
    have e7 : ∀ k, k ≠ 8 → k ≠ 9 → u2 (u2 I2 w 9 (nI ((v + 7) % 8))) w 8 (nI (u - 1)) w k = I w k := fun k h1 h2 => by rw [u2_k h1, u2_k h2, c3 w (by omega)]
    have f8 : u2 (u2 I2 w 9 (nI ((v + 7) % 8))) w 8 (nI (u - 1)) w 8 = nI (u - 1) := u2_s
    have f9 : u2 (u2 I2 w 9 (nI ((v + 7) % 8))) w 8 (nI (u - 1)) w 9 = nI ((v + 7) % 8) := by rw [u2_k (by decide), u2_s]
    have hcl : f_X9_undo I w = some (.ok (nI (u - 1)), u2 (u2 I2 w 9 (nI ((v + 7) % 8))) w 8 (nI (u - 1))) := by
      unfold f_X9_undo
      rw [hu1, if_neg (nI_ne0 (by omega) (by omega)), hv1, ix_n hv (by decide), b1_so, c1, b1_so, e9, pv8 hv, pu_so, b1_so, u2_k (by decide), e8, hs1, pu_so, b1_so, u2_s]
    generalize u2 (u2 I2 w 9 (nI ((v + 7) % 8))) w 8 (nI (u - 1)) = I5 at hcl eI eq e7 f8 f9
    have em : ∀ a, m ≤ a → a ≤ m + 7 → I5 a = I a := fun a h1 h2 => eI a (by omega) (by omega)
    obtain ⟨J5, j1, j2, j3, -⟩ := r_lays (I := u2 (u2 I5 m 0 0) m 7 (nI (u - 1))) (a := m + 3) (b := m + 1) (na := 2840) (nb := 355) (i := (u - 1) * 355) (j := 0) (by omega) (by omega) (by decide) (by decide) (by decide)
    have eJ : ∀ a, a ≠ m → a ≠ m + 1 → J5 a = I5 a := fun a h1 h2 => by rw [j2 a h2, u2_a h1, u2_a h1]
    have eJm : ∀ k, k ≠ 0 → k ≠ 7 → J5 m k = I m k := fun k h1 h2 => by rw [j2 m (by omega), u2_k h2, u2_k h1, em m (by omega) (by omega)]
    have eJ1 : ∀ k, k < 355 → J5 (m + 1) k = I (m + 3) (355 * (u - 1) + k) := fun k hk => by
      have := j3 k hk
      rw [Nat.zero_add, u2_a (by omega), u2_a (by omega), em _ (by omega) (by omega), Nat.mul_comm (u - 1) 355] at this
      exact this
    have eJ7 : J5 m 7 = nI (u - 1) := by rw [j2 m (by omega), u2_s]
    have hSn : Snap I5 (w + 37) (J5 (m + 1)) D := by
      obtain ⟨np, ns, nw, R, G⟩ := hU (u - 1) (by omega)
      have R2 : RM I2 (w + 37) (fun k => I (m + 3) (355 * (u - 1) + k)) np ns nw := c2.rm (by
        have e : w + 104 + 31 * ((v + 8 - (u - 1 - (u - 1))) % 8) = w + 104 + 31 * v := by omega
        rw [e] at R
        exact R)
      exact Snap.eqN ⟨np, ns, nw, R2.fr fun a h1 h2 => eq a (by omega) (by omega), G⟩ eJ1
    have hS2 : ST2 I5 J5 K w m kb gb D := by
      refine ⟨hL, ⟨l, ⟨by rw [e7 7 (by decide) (by decide)]; exact hA.1.1, by rw [eJm 6 (by decide) (by decide)]; exact hA.1.2⟩, fun _ => hSn⟩, ⟨⟨hBB.1.1.fr fun a _ _ => eI a (by omega) (by omega), (c2.bm (hBB.2.1 v hv)).fr fun a _ _ => eq a (by omega) (by omega), hBB.1.2.2.fr fun a _ _ => eI a (by omega) (by omega)⟩, fun i h => (hBB.2.1 i h).fr fun a _ _ => eI a (by omega) (by omega), fun i h => (hBB.2.2 i h).fr fun a _ _ => eI a (by omega) (by omega)⟩, ⟨u - 1, (v + 7) % 8, ⟨by omega, Nat.mod_lt _ (by decide)⟩, ⟨f8, eJ7, f9⟩, fun j hj => ?_⟩, fun i h => ?_, ⟨by rw [eI _ (by omega) (by omega), eJm 10 (by decide) (by decide)]; exact hP.1, by rw [eI _ (by omega) (by omega), eJm 11 (by decide) (by decide)]; exact hP.2⟩, ⟨f, ⟨hF.1.1, by rw [eI _ (by omega) (by omega)]; exact hF.1.2.1, by rw [eJm 9 (by decide) (by decide)]; exact hF.1.2.2⟩, fun i h => by rw [eI _ (by omega) (by omega), eJ _ (by omega) (by omega), em _ (by omega) (by omega)]; exact hF.2 i h⟩, ?_⟩
      · rw [eJ (m + 3) (by omega) (by omega), em _ (by omega) (by omega)]
        exact ((hU j (by omega)).fr fun a _ _ => eI a (by omega) (by omega)).congr (by omega)
      · rw [eI (w + 101) (by omega) (by omega), eJ (m + 5) (by omega) (by omega), eJ (m + 4) (by omega) (by omega), em _ (by omega) (by omega), em _ (by omega) (by omega)]
        exact (hV i h).imp id fun h => ⟨h.1, h.2.1, h.2.2.fr fun a _ _ => eI a (by omega) (by omega)⟩
      · obtain ⟨⟨n, n1, n2, n3, n4⟩, o2, o3⟩ := hO
        have ev : I5 (vOf K (w + 102)) = I (vOf K (w + 102)) := eI _ (by omega) (by omega)
        exact ⟨⟨n, n1, by rw [eI (w + 102) (by omega) (by omega), eJm 20 (by decide) (by decide)]; exact n2, n3, by rw [ev, eJ (m + 7) (by omega) (by omega), em _ (by omega) (by omega)]; exact n4⟩, by rw [ev]; exact o2, o3⟩
    refine lc_ch (r := .ok (nI (u - 1))) (t := 0) (b := nI (u - 1)) (I1 := I5) (I2 := J5) (c_X9_undo 0 S0.lw hcl) Ec0 (fun Kj hM => c_X10_undo 0 hM ?_) (by rw [j2 m (by omega), u2_k (by decide), u2_s]) (fun v h => by cases h; rfl) ((hS2.fin fun a ha => eJ a (by omega) (by omega)).le (Nat.le_add_right _ _))
    have h9 := r_may (I := I5) (m := m) (a := True) (b := True) (c := True)
    rw [bI_tr, bI_t (p := True ∧ True ∧ True) ⟨trivial, trivial, trivial⟩, th3_0 trivial trivial trivial] at h9
    have hle : ¬ nI u ≤ 0 := fun h => by have := nle (b := 0) h (by omega) (by decide); omega
    unfold f_X10_undo l_X10_undo_13
    rw [em m (by omega) (by omega), hu2, if_neg hle, h9, b2_so, if_neg (by decide), u2_k (by decide), em m (by omega) (by omega), hu2, hs1, pu_so, b1_so, u2_s, show nI (u - 1) * 355 = nI ((u - 1) * 355) from pk_mul (u - 1) 355]
    have j1' : f_X10_lays (u2 (u2 I5 m 0 0) m 7 (nI (u - 1))) (m + 3) 2840 (nI ((u - 1) * 355)) (m + 1) 355 0 = some J5 := j1
    rw [j1', b1_so, eJ7]
end UN
