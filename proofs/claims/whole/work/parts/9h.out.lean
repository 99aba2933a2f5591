/-! a byte of the output -/
section OB
variable {I : Mem} {K : Kt} {w m kb gb D : Nat}
theorem chr_n : ∀ c, c < 128 → (((nI c &&& 255)).toUInt32 % 65536).toInt32 = nI c := by decide +kernel
theorem cNc : ∀ c, c < 128 → cN .char (nI c) = some () := by decide +kernel
theorem cap_le : ∀ e, e < 4 → capT.getD e 0 ≤ 142 := by decide
theorem lc_outputByte (S : ST I K w m kb gb D) {x : Int32} : LC (mX9_outputByte 6) cX9_outputByte (mX10_outputByte 1) cX10_outputByte [eIX] [.int x] I K w m kb gb (D + 300) := by
  have S0 := S
  obtain ⟨hLL, -, -, -, -, -, -, ⟨n, n1, ⟨n2, n3, n4⟩, n5, n6⟩, o2, e, o3, o4, -⟩ := S
  have hc := cap_le e o3
  have hm := hLL.2.2.1
  have r1 := r_inIx (x := x) (n := n) (by omega)
  by_cases hx : ¬ x < 0 ∧ x < nI n
  · obtain ⟨p, rfl, hp⟩ := okI_of hx (by omega)
    obtain ⟨c, q1, q2, q3⟩ := n6 p hp
    refine lc_ch (r := .ok (nI c)) (t := 0) (b := nI c) (I1 := I) (I2 := u2 I m 0 0) (c_X9_outputByte 0 ⟨S0.lw, hLL.1.2.1⟩ ?_) Ec0 (fun Kj hM => c_X10_outputByte 0 hM ?_) u2_s (fun v h => by cases h; rfl) (S0.th.le (Nat.le_add_right _ _))
    · have z : (nI (nOf K (w + 102)) >>> ((0 : Int32) &&& 31)) = nI (nOf K (w + 102)) := by
        rw [show ((0 : Int32) &&& 31) = 0 from by decide]
        simp
      have hck : f_J0_checkIndex_df160 (nI p) (nI n) = some () := by
        unfold f_J0_checkIndex_df160 f_J3_checkIndex_8e157
        rw [if_neg hx.1, if_pos hx.2, b1_so]
      have hlt : ¬ nI (nOf K (w + 102)) < nI n := nI_nlt (by omega) (by omega)
      have hch : f_J5_charAt_5068e I K (w + 102) (nI p) = some (nI c) := by
        unfold f_J5_charAt_5068e
        rw [n4, z, n2, if_neg hlt, hck, b1_so, if_pos rfl, ix_n (by omega) (by omega), b1_so, q2, chr_n c q1, cNc c q1, b1_so]
      unfold f_X9_outputByte f_J4_length_8abf5 f_J5_length_8abf5 f_J4_charAt_5068e
      rw [if_neg hx.1, b1_so, b1_so, n2, if_pos hx.2, hch, b1_so, cNc c q1, b1_so, b1_so]
    · have h9 := r_may (I := I) (m := m) (a := ¬ nI p < 0 ∧ nI p < nI n) (b := True) (c := True)
      rw [bI_tr, bI_t (p := (¬ nI p < 0 ∧ nI p < nI n) ∧ True ∧ True) ⟨hx, trivial, trivial⟩, th3_0 hx trivial trivial] at h9
      unfold f_X10_outputByte
      rw [n3, r1, b1_so, h9, b2_so, if_neg (by decide), ix_n (by omega) (by decide), b1_so, u2_a (by omega), q3]
  · refine lc_er (E := eIX) S0 (c_X9_outputByte 0 ⟨S0.lw, hLL.1.2.1⟩ (x := .error eIX) ?_) Ec1 (fun Kj hM => c_X10_outputByte 0 hM (v := 0) ?_)
    · unfold f_X9_outputByte f_J4_length_8abf5 f_J5_length_8abf5 l_X9_outputByte_15
      by_cases h0 : x < 0
      · rw [if_pos h0]
      · rw [if_neg h0, b1_so, b1_so, n2, if_neg (fun h => hx ⟨h0, h⟩)]
    · have h9 := r_may (I := I) (m := m) (a := ¬ x < 0 ∧ x < nI n) (b := True) (c := True)
      rw [bI_tr, bI_f (p := (¬ x < 0 ∧ x < nI n) ∧ True ∧ True) (fun h => hx h.1), th3_1 hx] at h9
      unfold f_X10_outputByte
      rw [n3, r1, b1_so, h9, b2_so, if_pos rfl]
end OB
