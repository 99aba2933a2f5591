/-! the law's said and told -/
section OUT4
variable {I I' I1 I2 J : Mem} {K : Kt} {t s n : Nat} {D Q L T : List Nat}
theorem said_row (W : LW K 0) (l : LA K 100 7 414) {v : Int32} : ∀ k I T D Q, SQ I T D Q → (20 - Q.length) % 20 = k → T.length + k < 480 → ∀ f, k < f → ∃ I', l_L_said_5 f I K 0 414 v = some (v, I') ∧ OF I I' ∧ OB I' (T ++ List.replicate k 32) ∧ (T ++ List.replicate k 32).length % 20 = 0 := by
  have hA := cA_n l
  intro k
  induction k with
  | zero =>
    intro I T D Q S hk hT f hf
    obtain ⟨eT, ⟨B, p5, pw⟩, ⟨hQ, hD⟩, hb, h6⟩ := S
    have hQ0 : Q = [] := List.eq_nil_of_length_eq_zero (by omega)
    subst hQ0
    cases f with
    | zero => omega
    | succ f =>
      rw [List.append_nil] at eT
      subst eT
      have oa : ∀ a, a ≠ 414 → u2 I 414 6 0 a = I a := fun a h => u2_a h
      refine ⟨u2 I 414 6 0, ?_, ⟨fun a _ _ h => oa a h, fun j _ => congrFun (oa 2 (by decide)) j, fun j _ => congrFun (oa 3 (by decide)) j⟩, ?_, ?_⟩
      · unfold l_L_said_5
        rw [hA, b1_so, show ix 5 7 = some 5 from x07 (j := 5) (by decide), b1_so, p5, if_pos (show nI ([] : List Nat).length ≤ 0 by decide), b1_so, show ix 6 7 = some 6 from x07 (j := 6) (by decide), b1_so, pu_so, b1_so]
      · show OB _ (T ++ [])
        rw [List.append_nil]
        exact ⟨(congrFun (oa 2 (by decide)) 1).trans B.1, fun i d hi => (congrFun (oa 3 (by decide)) i).trans (B.2 i d hi)⟩
      · show (T ++ []).length % 20 = 0
        rw [List.append_nil]
        omega
  | succ k ih =>
    intro I T D Q S hk hT f hf
    cases f with
    | zero => omega
    | succ f =>
      obtain ⟨I1, D1, Q1, e1, O1, S1, h1⟩ := put_row (c := 32) W l S (by decide) (by omega)
      have hQ := S.2.2.1.1
      have hl1 : (T ++ [32]).length = T.length + 1 := List.length_append
      obtain ⟨I', e, O, B, h⟩ := ih I1 (T ++ [32]) D1 Q1 S1 (by omega) (by omega) f (by omega)
      have eR : T ++ List.replicate (k + 1) 32 = T ++ [32] ++ List.replicate k 32 := by rw [List.append_assoc]; rfl
      refine ⟨I', ?_, O1.trans O, by rw [eR]; exact B, by rw [eR]; exact h⟩
      unfold l_L_said_5
      rw [hA, b1_so, show ix 5 7 = some 5 from x07 (j := 5) (by decide), b1_so, S.2.1.2.1, if_neg (show ¬ nI Q.length ≤ 0 by rw [show (0 : Int32) = nI 0 from rfl, nfls (show 0 < Q.length by omega) (by omega)]; exact id), show f_L_put I K 0 414 32 = some I1 from e1, b1_so]
      exact e
theorem c255 : ∀ c, c < 128 → (((nI c &&& 255)).toUInt32 % 65536).toInt32 = nI c ∧ vp_nar .char (nI c) = nI c := by decide +kernel
theorem jch_row {i c : Nat} (S : StrAt K I s L) (hi : L[i]? = some c) (hL : L.length < 1000) (hk : kN K < 800000) : f_J0_charAt_5068e_o I K s (nI i) = some (nI c) := by
  obtain ⟨⟨o, i1⟩, q, g, lq, h⟩ := S
  have hl := (List.getElem?_eq_some_iff.mp hi).1
  obtain ⟨c1, c2⟩ := c255 c (h i c hi).1
  have lb := lq.2
  have hcl : cLen K q = some L.length := cLn lq (by decide) (by have := lq.2; omega)
  have hc : cN .char (nI c) = some () := if_pos c2
  unfold f_J0_charAt_5068e_o f_J0_isLatin1_aae02_o f_J1_charAt_3b067_o f_J0_checkIndex_df160
  rw [cO_n o, b1_so, if_neg (by decide), b1_so, if_pos i1, b1_so, if_neg (by decide), b1_so, gR_e g, b1_so, hcl, b1_so, chk_n hl (by omega), b1_so, b1_so, cA_n lq, b1_so, ix_n hl (by omega), b1_so, (h i c hi).2, c1, hc, b1_so, b1_so, hc, b1_so]
theorem jln_row (S : StrAt K I s L) (hk : kN K < 800000) : f_J0_length_8abf5_o I K s = some (nI L.length) := by
  obtain ⟨⟨o, i1⟩, q, g, lq, h⟩ := S
  have hcl : cLen K q = some L.length := cLn lq (by decide) (by have := lq.2; omega)
  unfold f_J0_length_8abf5_o f_J0_coder_7d493_o
  rw [cO_n o, b1_so, gR_e g, b1_so, hcl, b1_so, b1_so, if_neg (by decide), b1_so, i1, show cN .byte 0 = some () from if_pos (by decide), b1_so, b1_so, and0, shr0]
theorem told_row (W : LW K 0) (l : LA K 100 7 414) (hk : kN K < 800000) (hL : L.length ≤ 450) (hs : s ≠ 2 ∧ s ≠ 3 ∧ s ≠ 414) (hq : ∀ q, kG K s 0 = some q → q ≠ 2 ∧ q ≠ 3 ∧ q ≠ 414) : ∀ d i, i + d = L.length → ∀ I D Q, StrAt K I s L → SQ I (L.take i) D Q → ∀ f, d < f → ∃ I' k, l_L_told_2 f I K 0 414 s (nI i) = some (nI L.length, I') ∧ OF I I' ∧ (k < 20 ∧ OB I' (L ++ List.replicate k 32)) ∧ (L ++ List.replicate k 32).length % 20 = 0 := by
  intro d
  induction d with
  | zero =>
    intro i hi I D Q S R f hf
    obtain rfl : i = L.length := by omega
    rw [List.take_length] at R
    cases f with
    | zero => omega
    | succ f =>
      obtain ⟨I', e, O, B, h⟩ := said_row (v := nI L.length) W l ((20 - Q.length) % 20) I L D Q R rfl (by omega) FU (by have := FU_ge; omega)
      refine ⟨I', _, ?_, O, ⟨Nat.mod_lt _ (by decide), B⟩, h⟩
      unfold l_L_told_2 f_L_said
      rw [cO_n S.1.1, b1_so, jln_row S hk, b1_so, if_pos (Int32.le_refl _), cA_n l, b1_so, show ix 6 7 = some 6 from x07 (j := 6) (by decide), b1_so, R.2.2.2.2, e, b2_so]
  | succ d ih =>
    intro i hi I D Q S R f hf
    cases f with
    | zero => omega
    | succ f =>
      have hil : i < L.length := by omega
      have hg : L[i]? = some L[i] := List.getElem?_eq_getElem hil
      have hc : L[i] < 128 := by
        obtain ⟨q, -, -, h⟩ := S.2
        exact (h i _ hg).1
      have hlt : (L.take i).length = i := by rw [List.length_take]; omega
      obtain ⟨I1, D1, Q1, e1, O1, S1, -⟩ := put_row W l R hc (by omega)
      have hT : L.take i ++ [L[i]] = L.take (i + 1) := (List.take_succ_eq_append_getElem hil).symm
      rw [hT] at S1
      have S' : StrAt K I1 s L := by
        obtain ⟨⟨o, i1⟩, q, g, lq, h⟩ := S
        obtain ⟨n2, n3, n4⟩ := hq q g
        exact ⟨⟨o, by rw [O1.1 s hs.1 hs.2.1 hs.2.2]; exact i1⟩, q, g, lq, by rw [O1.1 q n2 n3 n4]; exact h⟩
      obtain ⟨I', k, e, O, B, h⟩ := ih (i + 1) (by omega) I1 D1 Q1 S' S1 f (by omega)
      refine ⟨I', k, ?_, O1.trans O, B, h⟩
      unfold l_L_told_2
      rw [cO_n S.1.1, b1_so, jln_row S hk, b1_so, if_neg (nle_f hil (by omega)), b1_so, jch_row S hg (by omega) hk, b1_so, e1, b1_so, nI_s1]
      exact e
/-- the text lies in the class's buffer, blanks behind it -/
theorem told (W : LW K 0) (l : LA K 100 7 414) (hk : kN K < 800000) (hL : L.length ≤ 450) (hs : s ≠ 2 ∧ s ≠ 3 ∧ s ≠ 414) (hq : ∀ q, kG K s 0 = some q → q ≠ 2 ∧ q ≠ 3 ∧ q ≠ 414) (S : StrAt K I s L) (z : I 414 = fun _ => 0) (z2 : I 2 1 = 0) : ∃ I' k, f_L_told I K 0 414 s = some (nI L.length, I') ∧ OF I I' ∧ (k < 20 ∧ OB I' (L ++ List.replicate k 32)) ∧ (L ++ List.replicate k 32).length % 20 = 0 :=
  told_row W l hk hL hs hq L.length 0 (by omega) I [] [] S ⟨rfl, ⟨⟨z2, fun i c hi => by simp at hi⟩, by rw [z]; rfl, fun j _ => ⟨0, by rw [z]; simp [blk]⟩⟩, ⟨by decide, rfl⟩, fun c hc => by simp at hc, by rw [z]; rfl⟩ FU (by have := FU_ge; omega)
end OUT4
