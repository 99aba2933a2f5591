section CH
variable {I : Mem} {np ns nw : Nat} {N : Nat → Int32}
theorem cp_X4 {a b : Nat} (hab : b ≠ a) (h6 : cB (I b 6) = some ()) (h7 : cB (I b 7) = some ()) : ∃ I', f_X4_copyFrom I a b = some I' ∧ (∀ c, c ≠ a → I' c = I c) ∧ ∀ k, k < 8 → I' a k = I b k := by
  refine ⟨(u2 (u2 (u2 (u2 (u2 (u2 (u2 (u2 I a 0 (I b 0)) a 1 (I b 1)) a 2 (I b 2)) a 3 (I b 3)) a 4 (I b 4)) a 5 (I b 5)) a 6 (I b 6)) a 7 (I b 7)), ?_, ?_, ?_⟩
  · simp only [f_X4_copyFrom, pu_so, b1_so, u2_a hab, h6, h7]
  · intro c hc
    simp only [u2_a hc]
  · intro k hk
    rcases (show k = 0 ∨ k = 1 ∨ k = 2 ∨ k = 3 ∨ k = 4 ∨ k = 5 ∨ k = 6 ∨ k = 7 by omega) with rfl | rfl | rfl | rfl | rfl | rfl | rfl | rfl <;> simp (disch := omega) only [u2_s, u2_k]
theorem cp_X6 {a b : Nat} (hab : b ≠ a) : ∃ I', f_X6_copyFrom I a b = some I' ∧ (∀ c, c ≠ a → I' c = I c) ∧ ∀ k, k < 4 → I' a k = I b k := by
  refine ⟨(u2 (u2 (u2 (u2 I a 0 (I b 0)) a 1 (I b 1)) a 2 (I b 2)) a 3 (I b 3)), ?_, ?_, ?_⟩
  · simp only [f_X6_copyFrom, pu_so, b1_so, u2_a hab]
  · intro c hc
    simp only [u2_a hc]
  · intro k hk
    rcases (show k = 0 ∨ k = 1 ∨ k = 2 ∨ k = 3 by omega) with rfl | rfl | rfl | rfl <;> simp (disch := omega) only [u2_s, u2_k]
theorem cp_X8 {a b : Nat} (hab : b ≠ a) (h6 : cB (I b 6) = some ()) (h7 : cB (I b 7) = some ()) : ∃ I', f_X8_copyFrom I a b = some I' ∧ (∀ c, c ≠ a → I' c = I c) ∧ ∀ k, k < 11 → I' a k = I b k := by
  refine ⟨(u2 (u2 (u2 (u2 (u2 (u2 (u2 (u2 (u2 (u2 (u2 I a 0 (I b 0)) a 1 (I b 1)) a 2 (I b 2)) a 3 (I b 3)) a 4 (I b 4)) a 5 (I b 5)) a 6 (I b 6)) a 7 (I b 7)) a 8 (I b 8)) a 9 (I b 9)) a 10 (I b 10)), ?_, ?_, ?_⟩
  · simp only [f_X8_copyFrom, pu_so, b1_so, u2_a hab, h6, h7]
  · intro c hc
    simp only [u2_a hc]
  · intro k hk
    rcases (show k = 0 ∨ k = 1 ∨ k = 2 ∨ k = 3 ∨ k = 4 ∨ k = 5 ∨ k = 6 ∨ k = 7 ∨ k = 8 ∨ k = 9 ∨ k = 10 by omega) with rfl | rfl | rfl | rfl | rfl | rfl | rfl | rfl | rfl | rfl | rfl <;> simp (disch := omega) only [u2_s, u2_k]
/-- the flags are flags, in every person and every wish that a market holds -/
def BM (I : Mem) (q : Nat) : Prop := (∀ i, i < 6 → cB (I (q + 4 + i) 6) = some () ∧ cB (I (q + 4 + i) 7) = some ()) ∧ ∀ i, i < 16 → cB (I (q + 15 + i) 6) = some () ∧ cB (I (q + 15 + i) 7) = some ()
theorem cB_of {x : Int32} (h : x = 0 ∨ x = 1) : cB x = some () := if_pos h
theorem BM.keep {I' : Mem} {q : Nat} (B : BM I q) (R : RM I' q N np ns nw) (F : Fr I I' q np nw) : BM I' q := by
  refine ⟨fun i hi => ?_, fun i hi => ?_⟩
  · by_cases h : i < np
    · rw [R.p6 h, R.p7 h]
      have := R.f.2.2.2.2.2 i h
      exact ⟨cB_of this.2.1, cB_of this.2.2⟩
    · rw [F _ (by omega)]; exact B.1 i hi
  · by_cases h : i < nw
    · rw [R.w6 h, R.w7 h]
      exact ⟨cB_bI, cB_bI⟩
    · rw [F _ (by omega)]; exact B.2 i hi
/-- a market copied -/
def Cp (I I' : Mem) (d s : Nat) : Prop := (∀ k, 3 ≤ k → k ≤ 13 → I' d k = I s k) ∧ (∀ i, i < 6 → ∀ k, k < 8 → I' (d + 4 + i) k = I (s + 4 + i) k) ∧ (∀ i, i < 5 → ∀ k, k < 4 → I' (d + 10 + i) k = I (s + 10 + i) k) ∧ ∀ i, i < 16 → ∀ k, k < 11 → I' (d + 15 + i) k = I (s + 15 + i) k
theorem Cp.rm {I' : Mem} {d s : Nat} (C : Cp I I' d s) (R : RM I s N np ns nw) : RM I' d N np ns nw := by
  have b1 := R.f.p.2
  have b2 := R.f.s.2
  have b3 := R.f.w.2
  obtain ⟨c1, c2, c3, c4⟩ := C
  refine ⟨R.1, R.2.1, ?_, fun p hp => ?_, fun s' hs => ?_, fun w hw => ?_⟩
  · have := R.h
    unfold RH at this ⊢
    rw [c1 3 (by decide) (by decide), c1 4 (by decide) (by decide), c1 5 (by decide) (by decide), c1 6 (by decide) (by decide), c1 7 (by decide) (by decide), c1 8 (by decide) (by decide), c1 9 (by decide) (by decide), c1 10 (by decide) (by decide), c1 11 (by decide) (by decide), c1 12 (by decide) (by decide), c1 13 (by decide) (by decide)]
    exact this
  · have := R.p hp
    have c := c2 p (by omega)
    unfold RP at this ⊢
    rw [c 0 (by decide), c 1 (by decide), c 2 (by decide), c 3 (by decide), c 4 (by decide), c 5 (by decide), c 6 (by decide), c 7 (by decide)]
    exact this
  · have := R.s hs
    have c := c3 s' (by omega)
    unfold RS at this ⊢
    rw [c 0 (by decide), c 1 (by decide), c 2 (by decide), c 3 (by decide)]
    exact this
  · have := R.w hw
    have c := c4 w (by omega)
    unfold RW at this ⊢
    rw [c 0 (by decide), c 1 (by decide), c 2 (by decide), c 3 (by decide), c 4 (by decide), c 5 (by decide), c 6 (by decide), c 7 (by decide), c 8 (by decide), c 9 (by decide), c 10 (by decide)]
    exact this
theorem Cp.bm {I' : Mem} {d s : Nat} (C : Cp I I' d s) (B : BM I s) : BM I' d := by
  refine ⟨fun i hi => ?_, fun i hi => ?_⟩
  · rw [C.2.1 i hi 6 (by decide), C.2.1 i hi 7 (by decide)]; exact B.1 i hi
  · rw [C.2.2.2 i hi 6 (by decide), C.2.2.2 i hi 7 (by decide)]; exact B.2 i hi
theorem h_copy59 {d s : Nat} (hd : d + 30 < s ∨ s + 30 < d) (B : BM I s) : ∃ I', l_X3_copyFrom_59 FU I d s 0 = some I' ∧ (∀ a, a ≠ d → (a < d + 15 ∨ d + 31 ≤ a) → I' a = I a) ∧ (∀ k, 3 ≤ k → k ≤ 13 → I' d k = I s k) ∧ ∀ i, i < 16 → ∀ k, k < 11 → I' (d + 15 + i) k = I (s + 15 + i) k := by
  have hX := ex_loop (fun f (z : Mem × Int32) => l_X3_copyFrom_59 f z.1 d s z.2)
    (fun i z => z.2 = nI i ∧ (∀ a, (a < d + 15 ∨ d + 31 ≤ a) → z.1 a = I a) ∧ ∀ j, j < i → ∀ k, k < 11 → z.1 (d + 15 + j) k = I (s + 15 + j) k) 16
    (fun v => ∃ I', v = some I' ∧ (∀ a, a ≠ d → (a < d + 15 ∨ d + 31 ≤ a) → I' a = I a) ∧ (∀ k, 3 ≤ k → k ≤ 13 → I' d k = I s k) ∧ ∀ i, i < 16 → ∀ k, k < 11 → I' (d + 15 + i) k = I (s + 15 + i) k)
    (fun i hi z hz => ?_) (fun z hz => ?_) (FU_up (n := 16) (by decide)) (I, 0) ⟨rfl, fun _ _ => rfl, fun j hj => absurd hj (Nat.not_lt_zero _)⟩
  · obtain ⟨v, ⟨I', rfl, h1, h2⟩, h4⟩ := hX
    exact ⟨I', h4, h1, h2⟩
  · obtain ⟨J, x2⟩ := z
    obtain ⟨e2, hf, hc⟩ := hz
    dsimp only at e2 hf hc
    subst e2
    have hs : J (s + 15 + i) = I (s + 15 + i) := hf _ (by omega)
    obtain ⟨J2, k1, k2, k3⟩ := cp_X8 (I := J) (a := d + 15 + i) (b := s + 15 + i) (by omega) (by rw [hs]; exact (B.2 i hi).1) (by rw [hs]; exact (B.2 i hi).2)
    refine ⟨(J2, nI (i + 1)), ⟨rfl, fun a ha => ?_, fun j hj k hk => ?_⟩, fun f => ?_⟩
    · dsimp only
      rw [k2 a (by omega), hf a ha]
    · dsimp only
      by_cases h : j = i
      · subst h; rw [k3 k hk, hs]
      · rw [k2 _ (by omega), hc j (by omega) k hk]
    · have e16 : ((16 : Int32) ≤ nI i) = False := nJ_ef (b := i) (a := 16) hi (by decide)
      simp (disch := omega) only [l_X3_copyFrom_59, e16, k1, b1_so, b2_so, b3_so, e1_ok, e1_er, e2_ok, e2_er, e3_ok, e3_er, bI_so, bI_so', bI_0, bI_1, cB_bI, nI_s1, nJ_et, nJ_ef, nJ_lt, nJ_lf, pu_sM, sM_s, if_true, if_false, ite_self, Nat.lt_irrefl, Int32.zero_add, Int32.add_zero, not_true_eq_false, not_false_eq_true, rfw0, rfw1, rfw2, rfw3, rfw4, rfw5, rfw6, rfw7, rfp0, rfp1, rfp2, rfp3, rfp4, rfp5, rfp6, rfs0, rfs1, rfs2, rfs3, rwp0, rwp1, rwp2, rwp3, rwp4, rwp5, rwp6, rwp7, rpp0, rpp1, rpp2, rpp3, rpp4, rpp5, rpp6, rsp0, rsp1, rsp2, rsp3, ixn16, ixn6, ixn5]
  · obtain ⟨J, x2⟩ := z
    obtain ⟨e2, hf, hc⟩ := hz
    dsimp only at e2 hf hc
    subst e2
    have hs : J s = I s := hf _ (by omega)
    have hds : s ≠ d := by omega
    refine ⟨_, ⟨(u2 (u2 (u2 (u2 (u2 (u2 (u2 (u2 (u2 (u2 (u2 J d 3 (J s 3)) d 4 (J s 4)) d 5 (J s 5)) d 6 (J s 6)) d 7 (J s 7)) d 8 (J s 8)) d 9 (J s 9)) d 10 (J s 10)) d 11 (J s 11)) d 12 (J s 12)) d 13 (J s 13)), rfl, fun a ha hb => ?_, fun k hk hk2 => ?_, fun i hi k hk => ?_⟩, fun f => ?_⟩
    · simp only [u2_a ha]
      exact hf a hb
    · rw [← hs]
      rcases (show k = 3 ∨ k = 4 ∨ k = 5 ∨ k = 6 ∨ k = 7 ∨ k = 8 ∨ k = 9 ∨ k = 10 ∨ k = 11 ∨ k = 12 ∨ k = 13 by omega) with rfl | rfl | rfl | rfl | rfl | rfl | rfl | rfl | rfl | rfl | rfl <;> simp (disch := omega) only [u2_s, u2_k]
    · have hne : d + 15 + i ≠ d := by omega
      simp only [u2_a hne]
      exact hc i hi k hk
    · have e16 : ((16 : Int32) ≤ nI 16) = True := eq_true (by decide)
      simp only [l_X3_copyFrom_59, e16, if_true, pu_so, b1_so, u2_a hds]
end CH
