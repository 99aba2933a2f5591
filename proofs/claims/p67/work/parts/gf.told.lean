/-! the law's put, said, told -/
section OUT3
variable {I I' I1 I2 J : Mem} {K : Kt} {t s n : Nat} {D Q L T : List Nat}
def SQ (I : Mem) (T D Q : List Nat) : Prop := T = D ++ Q ∧ (OB I D ∧ PQ I Q) ∧ (Q.length < 20 ∧ 20 * (D.length / 20) = D.length) ∧ (∀ c, c ∈ T → c < 128) ∧ I 414 6 = nI T.length
theorem d4 : ∀ q, q < 20 → nI q / 4 = nI (q / 4) := by decide +kernel
theorem blk_s {c : Nat} (hQ : Q.length < 20) : blk (Q ++ [c]) (Q.length / 4) = blk Q (Q.length / 4) ++ [c] := by
  unfold blk
  have h : Q.length - 4 * (Q.length / 4) < 4 := by omega
  rw [List.drop_append_of_le_length (by omega), List.take_of_length_le (by rw [List.length_append, List.length_drop]; show _ + 1 ≤ 4; omega), List.take_of_length_le (by rw [List.length_drop]; omega)]
theorem blk_o {c j : Nat} (hj : j ≠ Q.length / 4) : blk (Q ++ [c]) j = blk Q j := by
  unfold blk
  by_cases h : 4 * j + 4 ≤ Q.length
  · rw [List.drop_append_of_le_length (by omega), List.take_append_of_le_length (by rw [List.length_drop]; omega)]
  · have h2 : Q.length < 4 * j := by omega
    rw [List.drop_eq_nil_of_le (by rw [List.length_append]; show _ + 1 ≤ _; omega), List.drop_eq_nil_of_le (by omega)]
theorem put_row {c : Nat} (W : LW K 0) (l : LA K 100 7 414) (S : SQ I T D Q) (hc : c < 128) (hT : T.length < 480) : ∃ I' D' Q', f_L_put I K 0 414 (nI c) = some I' ∧ OF I I' ∧ SQ I' (T ++ [c]) D' Q' ∧ Q'.length = (Q.length + 1) % 20 := by
  obtain ⟨eT, ⟨B, p5, pw⟩, ⟨hQ, hD⟩, hb, h6⟩ := S
  have hl : T.length = D.length + Q.length := by rw [eT, List.length_append]
  have hA := cA_n l
  have hs : Q.length / 4 < 5 := by omega
  obtain ⟨z, hz⟩ := pw (Q.length / 4) hs
  let J1 : Mem := u2 I 414 (Q.length / 4) (wsh (I 414 (Q.length / 4)) c)
  let J2 : Mem := u2 J1 414 5 (nI (Q.length + 1))
  let J3 : Mem := u2 J2 414 6 (nI (T.length + 1))
  have a1 : J1 414 5 = nI Q.length := (u2_k (by omega)).trans p5
  have a2 : J2 414 6 = nI T.length := (u2_k (by decide)).trans ((u2_k (by omega)).trans h6)
  have a3 : J3 414 5 = nI (Q.length + 1) := (u2_k (by decide)).trans u2_s
  have a4 : J3 414 6 = nI (T.length + 1) := u2_s
  have oa : ∀ a, a ≠ 414 → J3 a = I a := fun a h => (u2_a h).trans ((u2_a h).trans (u2_a h))
  have O3 : OF I J3 := ⟨fun a _ _ h => oa a h, fun j _ => congrFun (oa 2 (by decide)) j, fun j _ => congrFun (oa 3 (by decide)) j⟩
  have B3 : OB J3 D := ⟨(congrFun (oa 2 (by decide)) 1).trans B.1, fun i d hi => (congrFun (oa 3 (by decide)) i).trans (B.2 i d hi)⟩
  have w3 : ∀ j, j < 5 → ∃ z, J3 414 j = (blk (Q ++ [c]) j).foldl wsh z := fun j hj => by
    have e3 : J3 414 j = J1 414 j := (u2_k (by omega)).trans (u2_k (by omega))
    by_cases h : j = Q.length / 4
    · subst h
      refine ⟨z, ?_⟩
      rw [e3, blk_s hQ, List.foldl_append, ← hz]
      exact u2_s
    · obtain ⟨z', hz'⟩ := pw j hj
      refine ⟨z', ?_⟩
      rw [e3, blk_o h, ← hz']
      exact u2_k h
  have hb' : ∀ d, d ∈ T ++ [c] → d < 128 := fun d hd => by
    rcases List.mem_append.mp hd with h | h
    · exact hb d h
    · simp at h; omega
  have hlc : (Q ++ [c]).length = Q.length + 1 := List.length_append
  have hTc : (T ++ [c]).length = T.length + 1 := List.length_append
  have run : f_L_put I K 0 414 (nI c) = if nI (Q.length + 1) = 20 then (b1 (f_L_flush J3 K 0 414) fun I39 => some (I39)) else some J3 := by
    unfold f_L_put
    rw [hA, b1_so, show ix 5 7 = some 5 from x07 (j := 5) (by decide), b1_so, b1_so, p5, d4 _ hQ, x07 (show Q.length / 4 < 7 by omega), b1_so, b1_so, x07 (show Q.length / 4 < 7 by omega), b1_so, pu_so, b1_so, b1_so, show ix 5 7 = some 5 from x07 (j := 5) (by decide), b1_so, b1_so, show ix 5 7 = some 5 from x07 (j := 5) (by decide), b1_so, show (u2 I 414 (Q.length / 4) (I 414 (Q.length / 4) <<< (8 &&& 31) ||| nI c)) 414 5 = nI Q.length from a1, nI_s1, pu_so, b1_so, b1_so, show ix 6 7 = some 6 from x07 (j := 6) (by decide), b1_so, b1_so, show ix 6 7 = some 6 from x07 (j := 6) (by decide), b1_so, show (u2 (u2 I 414 (Q.length / 4) (I 414 (Q.length / 4) <<< (8 &&& 31) ||| nI c)) 414 5 (nI (Q.length + 1))) 414 6 = nI T.length from a2, nI_s1, pu_so, b1_so, b1_so, show ix 5 7 = some 5 from x07 (j := 5) (by decide), b1_so, show (u2 (u2 (u2 I 414 (Q.length / 4) (I 414 (Q.length / 4) <<< (8 &&& 31) ||| nI c)) 414 5 (nI (Q.length + 1))) 414 6 (nI (T.length + 1))) 414 5 = nI (Q.length + 1) from a3]
    rfl
  by_cases hq : Q.length + 1 = 20
  · obtain ⟨I', e, B', O', f5, f6⟩ := flush_row W l B3 (by omega) (by omega) (fun d hd => hb' d (by rw [eT, List.append_assoc]; exact List.mem_append_right _ hd)) w3
    refine ⟨I', D ++ (Q ++ [c]), [], ?_, O3.trans O', ⟨by rw [eT, List.append_nil, List.append_assoc], ⟨B', f5, fun j _ => ⟨I' 414 j, ?_⟩⟩, ⟨by decide, by rw [List.length_append]; omega⟩, hb', by rw [f6, a4, hTc]⟩, by rw [hq]; rfl⟩
    · rw [run, if_pos (show nI (Q.length + 1) = 20 by rw [hq]; rfl), e, b1_so]
    · unfold blk
      rw [List.drop_nil, List.take_nil]
      rfl
  · refine ⟨J3, D, Q ++ [c], ?_, O3, ⟨by rw [eT, List.append_assoc], ⟨B3, by rw [a3, hlc], w3⟩, ⟨by omega, hD⟩, hb', by rw [a4, hTc]⟩, by rw [hlc, Nat.mod_eq_of_lt (by omega)]⟩
    have hn : ¬ nI (Q.length + 1) = nI 20 := by rw [nJ_i (by omega) (by decide)]; omega
    rw [run]
    exact if_neg hn
end OUT3
