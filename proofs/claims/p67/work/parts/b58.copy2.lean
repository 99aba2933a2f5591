section CI
variable {I : Mem} {np ns nw : Nat} {N : Nat → Int32}
theorem h_copy31 {d s : Nat} (hd : d + 30 < s ∨ s + 30 < d) (B : BM I s) : ∃ I', l_X3_copyFrom_31 FU I d s 0 = some I' ∧ (∀ a, a ≠ d → (a < d + 10 ∨ d + 31 ≤ a) → I' a = I a) ∧ (∀ k, 3 ≤ k → k ≤ 13 → I' d k = I s k) ∧ (∀ i, i < 5 → ∀ k, k < 4 → I' (d + 10 + i) k = I (s + 10 + i) k) ∧ ∀ i, i < 16 → ∀ k, k < 11 → I' (d + 15 + i) k = I (s + 15 + i) k := by
  have hX := ex_loop (fun f (z : Mem × Int32) => l_X3_copyFrom_31 f z.1 d s z.2)
    (fun i z => z.2 = nI i ∧ (∀ a, (a < d + 10 ∨ d + 15 ≤ a) → z.1 a = I a) ∧ ∀ j, j < i → ∀ k, k < 4 → z.1 (d + 10 + j) k = I (s + 10 + j) k) 5
    (fun v => ∃ I', v = some I' ∧ (∀ a, a ≠ d → (a < d + 10 ∨ d + 31 ≤ a) → I' a = I a) ∧ (∀ k, 3 ≤ k → k ≤ 13 → I' d k = I s k) ∧ (∀ i, i < 5 → ∀ k, k < 4 → I' (d + 10 + i) k = I (s + 10 + i) k) ∧ ∀ i, i < 16 → ∀ k, k < 11 → I' (d + 15 + i) k = I (s + 15 + i) k)
    (fun i hi z hz => ?_) (fun z hz => ?_) (FU_up (n := 5) (by decide)) (I, 0) ⟨rfl, fun _ _ => rfl, fun j hj => absurd hj (Nat.not_lt_zero _)⟩
  · obtain ⟨v, ⟨I', rfl, h1, h2⟩, h4⟩ := hX
    exact ⟨I', h4, h1, h2⟩
  · obtain ⟨J, x2⟩ := z
    obtain ⟨e2, hf, hc⟩ := hz
    dsimp only at e2 hf hc
    subst e2
    have hs : J (s + 10 + i) = I (s + 10 + i) := hf _ (by omega)
    obtain ⟨J2, k1, k2, k3⟩ := cp_X6 (I := J) (a := d + 10 + i) (b := s + 10 + i) (by omega)
    refine ⟨(J2, nI (i + 1)), ⟨rfl, fun a ha => ?_, fun j hj k hk => ?_⟩, fun f => ?_⟩
    · dsimp only
      rw [k2 a (by omega), hf a ha]
    · dsimp only
      by_cases h : j = i
      · subst h; rw [k3 k hk, hs]
      · rw [k2 _ (by omega), hc j (by omega) k hk]
    · have e16 : ((5 : Int32) ≤ nI i) = False := nJ_ef (b := i) (a := 5) hi (by decide)
      simp (disch := omega) only [l_X3_copyFrom_31, e16, k1, b1_so, b2_so, b3_so, e1_ok, e1_er, e2_ok, e2_er, e3_ok, e3_er, bI_so, bI_so', bI_0, bI_1, cB_bI, nI_s1, nJ_et, nJ_ef, nJ_lt, nJ_lf, pu_sM, sM_s, if_true, if_false, ite_self, Nat.lt_irrefl, Int32.zero_add, Int32.add_zero, not_true_eq_false, not_false_eq_true, rfw0, rfw1, rfw2, rfw3, rfw4, rfw5, rfw6, rfw7, rfp0, rfp1, rfp2, rfp3, rfp4, rfp5, rfp6, rfs0, rfs1, rfs2, rfs3, rwp0, rwp1, rwp2, rwp3, rwp4, rwp5, rwp6, rwp7, rpp0, rpp1, rpp2, rpp3, rpp4, rpp5, rpp6, rsp0, rsp1, rsp2, rsp3, ixn16, ixn6, ixn5]
  · obtain ⟨J, x2⟩ := z
    obtain ⟨e2, hf, hc⟩ := hz
    dsimp only at e2 hf hc
    subst e2
    have hB : BM J s := by
      refine ⟨fun i hi => ?_, fun i hi => ?_⟩
      · rw [hf _ (by omega)]; exact B.1 i hi
      · rw [hf _ (by omega)]; exact B.2 i hi
    obtain ⟨J2, k1, k2, k3, k4⟩ := h_copy59 hd hB
    refine ⟨_, ⟨J2, rfl, fun a ha hb => ?_, fun k hk hk2 => ?_, fun i hi k hk => ?_, fun i hi k hk => ?_⟩, fun f => ?_⟩
    · rw [k2 a ha (by omega), hf a (by omega)]
    · rw [k3 k hk hk2, hf s (by omega)]
    · rw [k2 _ (by omega) (by omega), hc i hi k hk]
    · rw [k4 i hi k hk, hf _ (by omega)]
    · have e16 : ((5 : Int32) ≤ nI 5) = True := eq_true (by decide)
      simp only [l_X3_copyFrom_31, e16, if_true, k1]
/-- a market is copied: all that is read of it, and nothing else changes -/
theorem h_copyFrom {d s : Nat} (hd : d + 30 < s ∨ s + 30 < d) (B : BM I s) : ∃ I', f_X3_copyFrom I d s = some I' ∧ Cp I I' d s ∧ ∀ a, (a < d ∨ d + 30 < a) → I' a = I a := by
  have hX := ex_loop (fun f (z : Mem × Int32) => l_X3_copyFrom_2 f z.1 d s z.2)
    (fun i z => z.2 = nI i ∧ (∀ a, (a < d + 4 ∨ d + 10 ≤ a) → z.1 a = I a) ∧ ∀ j, j < i → ∀ k, k < 8 → z.1 (d + 4 + j) k = I (s + 4 + j) k) 6
    (fun v => ∃ I', v = some I' ∧ Cp I I' d s ∧ ∀ a, (a < d ∨ d + 30 < a) → I' a = I a)
    (fun i hi z hz => ?_) (fun z hz => ?_) (FU_up (n := 6) (by decide)) (I, 0) ⟨rfl, fun _ _ => rfl, fun j hj => absurd hj (Nat.not_lt_zero _)⟩
  · obtain ⟨v, ⟨I', rfl, h1, h2⟩, h4⟩ := hX
    exact ⟨I', h4, h1, h2⟩
  · obtain ⟨J, x2⟩ := z
    obtain ⟨e2, hf, hc⟩ := hz
    dsimp only at e2 hf hc
    subst e2
    have hs : J (s + 4 + i) = I (s + 4 + i) := hf _ (by omega)
    obtain ⟨J2, k1, k2, k3⟩ := cp_X4 (I := J) (a := d + 4 + i) (b := s + 4 + i) (by omega) (by rw [hs]; exact (B.1 i hi).1) (by rw [hs]; exact (B.1 i hi).2)
    refine ⟨(J2, nI (i + 1)), ⟨rfl, fun a ha => ?_, fun j hj k hk => ?_⟩, fun f => ?_⟩
    · dsimp only
      rw [k2 a (by omega), hf a ha]
    · dsimp only
      by_cases h : j = i
      · subst h; rw [k3 k hk, hs]
      · rw [k2 _ (by omega), hc j (by omega) k hk]
    · have e16 : ((6 : Int32) ≤ nI i) = False := nJ_ef (b := i) (a := 6) hi (by decide)
      simp (disch := omega) only [l_X3_copyFrom_2, e16, k1, b1_so, b2_so, b3_so, e1_ok, e1_er, e2_ok, e2_er, e3_ok, e3_er, bI_so, bI_so', bI_0, bI_1, cB_bI, nI_s1, nJ_et, nJ_ef, nJ_lt, nJ_lf, pu_sM, sM_s, if_true, if_false, ite_self, Nat.lt_irrefl, Int32.zero_add, Int32.add_zero, not_true_eq_false, not_false_eq_true, rfw0, rfw1, rfw2, rfw3, rfw4, rfw5, rfw6, rfw7, rfp0, rfp1, rfp2, rfp3, rfp4, rfp5, rfp6, rfs0, rfs1, rfs2, rfs3, rwp0, rwp1, rwp2, rwp3, rwp4, rwp5, rwp6, rwp7, rpp0, rpp1, rpp2, rpp3, rpp4, rpp5, rpp6, rsp0, rsp1, rsp2, rsp3, ixn16, ixn6, ixn5]
  · obtain ⟨J, x2⟩ := z
    obtain ⟨e2, hf, hc⟩ := hz
    dsimp only at e2 hf hc
    subst e2
    have hB : BM J s := by
      refine ⟨fun i hi => ?_, fun i hi => ?_⟩
      · rw [hf _ (by omega)]; exact B.1 i hi
      · rw [hf _ (by omega)]; exact B.2 i hi
    obtain ⟨J2, k1, k2, k3, k4, k5⟩ := h_copy31 hd hB
    refine ⟨_, ⟨J2, rfl, ⟨fun k hk hk2 => ?_, fun i hi k hk => ?_, fun i hi k hk => ?_, fun i hi k hk => ?_⟩, fun a ha => ?_⟩, fun f => ?_⟩
    · rw [k3 k hk hk2, hf s (by omega)]
    · rw [k2 _ (by omega) (by omega), hc i hi k hk]
    · rw [k4 i hi k hk, hf _ (by omega)]
    · rw [k5 i hi k hk, hf _ (by omega)]
    · rw [k2 a (by omega) (by omega), hf a (by omega)]
    · have e16 : ((6 : Int32) ≤ nI 6) = True := eq_true (by decide)
      simp only [l_X3_copyFrom_2, e16, if_true, k1]
end CI
