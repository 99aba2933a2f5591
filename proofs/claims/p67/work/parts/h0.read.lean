/-! the class reads: single lemmas of whole -/
section PSE
variable {I J I1 I2 I3 J1 J2 J3 I' J' : Mem} {K : Kt} {n f q r k m c s w kb gb D np ns nw : Nat} {N N' M : Nat → Int32}
section
variable {I J I1 I2 I3 J1 J2 J3 I' J' : Mem} {K : Kt} {n f q r k m c s w kb gb D np ns nw : Nat} {N N' M : Nat → Int32}
/-- the class's reader, up to its text -/
noncomputable def tX (I : Mem) (k r : Nat) : Option (Int32 × Mem × Nat) := e3 (f_X5_readMarket I k r) (fun E I8 k9 => cEx E (some (0, I8, k9))) fun v7 I8 k9 => e3 (f_X5_isItemNext I8 k9 r) (fun E I12 k13 => cEx E (some (0, I12, k13))) fun v11 I12 k13 => l_X5_read_39 FU I12 k13 r v11 0
theorem read_row (h1 : I (r + 1) 1 = nI f) (hn : n ≤ f ∧ f ≤ 500) : ∃ I5, f_X5_read I k r (nI n) = tX I5 k r ∧ (I5 (r + 1) 2 = nI n ∧ I5 (r + 1) 3 = 0) ∧ (∀ a, a ≠ r → a ≠ r + 1 → I5 a = I a) ∧ I5 r 6 = 0 ∧ I5 r 7 = 0 ∧ I5 r 2 = 0 ∧ I5 r 3 = -1 := by
  refine ⟨u2 (u2 (u2 (u2 (u2 (u2 I r 2 0) r 3 (-1)) r 6 0) r 7 0) (r + 1) 2 (nI n)) (r + 1) 3 0, ?_, ⟨?_, u2_s⟩, fun a h1 h2 => ?_, ?_, ?_, ?_, ?_⟩
  · unfold f_X5_read f_X7_startAnew
    rw [pu_so, b1_so, pu_so, b1_so, pu_so, b1_so, pu_so, b1_so]
    have e : u2 (u2 (u2 (u2 I r 2 0) r 3 (-1)) r 6 0) r 7 0 (r + 1) 1 = nI f := by rw [u2_a (by omega), u2_a (by omega), u2_a (by omega), u2_a (by omega)]; exact h1
    rw [e]
    have e2 : (if nI f < nI n then nI f else nI n) = nI n := if_neg (by rw [ilt (by omega) (by omega)]; omega)
    rw [e2, pu_so, b1_so, pu_so, b1_so, b1_so]
    rfl
  · rw [u2_k (by decide), u2_s]
  · rw [u2_a h2, u2_a h2, u2_a h1, u2_a h1, u2_a h1, u2_a h1]
  · rw [u2_a (by omega), u2_a (by omega), u2_k (by decide), u2_s]
  · rw [u2_a (by omega), u2_a (by omega), u2_s]
  · rw [u2_a (by omega), u2_a (by omega), u2_k (by decide), u2_k (by decide), u2_k (by decide), u2_s]
  · rw [u2_a (by omega), u2_a (by omega), u2_k (by decide), u2_k (by decide), u2_s]
theorem l88 : l_X9_parseSetup_88 FU I k w 0 = some (.ok (u2 (u2 I (w + 101) 0 0) (w + 101) 1 0 (w + 37) 5), u2 (u2 I (w + 101) 0 0) (w + 101) 1 0, k) := by
  obtain ⟨F, hF⟩ := FU8
  rw [hF]
  show (if (2 : Int32) ≤ 0 then _ else (b1 (ix 0 2) fun j10 => b1 (pu I (w + 101) j10 (vp_nar .boolean 0)) fun I11 => l_X9_parseSetup_88 (F + 7) I11 k w (0 + 1))) = _
  rw [if_neg (by decide), show ix 0 2 = some 0 from rfl, b1_so, pu_so, b1_so]
  show (if (2 : Int32) ≤ 0 + 1 then _ else (b1 (ix (0 + 1) 2) fun j10 => b1 (pu (u2 I (w + 101) 0 (vp_nar .boolean 0)) (w + 101) j10 (vp_nar .boolean 0)) fun I11 => l_X9_parseSetup_88 (F + 6) I11 k w (0 + 1 + 1))) = _
  rw [if_neg (by decide), show ix (0 + 1) 2 = some 1 from rfl, b1_so, pu_so, b1_so]
  show (if (2 : Int32) ≤ 0 + 1 + 1 then _ else _) = _
  rw [if_pos (by decide)]
  rfl
theorem kk_id (h : kG K q 5 = some (xE k)) : kk K q k = K := by
  obtain ⟨a, b, g, c⟩ := K
  have h' : g q 5 = some (xE k) := h
  show (a, b, u2 g q 5 (some (xE k)), c) = _
  rw [show u2 g q 5 (some (xE k)) = g from by
    funext c j
    by_cases h1 : c = q
    · by_cases h2 : j = 5
      · rw [h1, h2, u2_s, h']
      · rw [h1, u2_k h2]
    · rw [u2_a h1]]
end
end PSE
