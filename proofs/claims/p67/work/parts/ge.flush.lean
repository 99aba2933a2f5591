/-! the law's int[7] -/
section OUT2
variable {I I' I1 I2 J : Mem} {K : Kt} {t : Nat} {D Q L T : List Nat}
theorem blk_4 {x z : Int32} {l : List Nat} (hl : l.length = 4) (hc : ∀ c, c ∈ l → c < 128) (hx : x = l.foldl wsh z) (B : OB J D) (hD : D.length + 4 ≤ 500) : ∃ J', f_X7_putFourBytes J 2 x = some J' ∧ OB J' (D ++ l) ∧ OF J J' ∧ J' 414 = J 414 := by
  match l, hl with
  | [a, b, c, d], _ => exact four B hD (hc a (by simp)) (hc b (by simp)) (hc c (by simp)) (hc d (by simp)) hx
def blk (Q : List Nat) (s : Nat) : List Nat := (Q.drop (4 * s)).take 4
def PQ (I : Mem) (Q : List Nat) : Prop := I 414 5 = nI Q.length ∧ ∀ s, s < 5 → ∃ z, I 414 s = (blk Q s).foldl wsh z
theorem blk_m {s c : Nat} (h : c ∈ blk Q s) : c ∈ Q := List.mem_of_mem_drop (List.mem_of_mem_take h)
theorem blk_l {s : Nat} (hQ : Q.length = 20) (hs : s < 5) : (blk Q s).length = 4 := by
  unfold blk
  rw [List.length_take, List.length_drop]
  omega
theorem blk_5 (hQ : Q.length = 20) : D ++ blk Q 0 ++ blk Q 1 ++ blk Q 2 ++ blk Q 3 ++ blk Q 4 = D ++ Q := by
  have h : ∀ s, blk Q s ++ Q.drop (4 * (s + 1)) = Q.drop (4 * s) := fun s => by
    unfold blk
    rw [show 4 * (s + 1) = 4 * s + 4 by omega, ← List.drop_drop]
    exact List.take_append_drop 4 _
  have e4 : blk Q 4 = Q.drop (4 * 4) := by
    have := h 4
    rw [List.drop_eq_nil_of_le (i := 4 * (4 + 1)) (by omega), List.append_nil] at this
    exact this
  have e3 := h 3
  have e2 := h 2
  have e1 := h 1
  have e0 := h 0
  rw [List.append_assoc (D ++ blk Q 0 ++ blk Q 1 ++ blk Q 2), e4, e3, List.append_assoc (D ++ blk Q 0 ++ blk Q 1), e2, List.append_assoc (D ++ blk Q 0), e1, List.append_assoc D, e0]
  rfl
theorem x07 {j : Nat} (h : j < 7) : ix (nI j) 7 = some j := ix_n h (by decide)
theorem flush_row (W : LW K 0) (l : LA K 100 7 414) (B : OB I D) (hD : D.length + 20 ≤ 500) (hQ : Q.length = 20) (hc : ∀ c, c ∈ Q → c < 128) (hP : ∀ s, s < 5 → ∃ z, I 414 s = (blk Q s).foldl wsh z) : ∃ I', f_L_flush I K 0 414 = some I' ∧ OB I' (D ++ Q) ∧ OF I I' ∧ I' 414 5 = 0 ∧ I' 414 6 = I 414 6 := by
  obtain ⟨z0, h0⟩ := hP 0 (by decide)
  obtain ⟨z1, h1⟩ := hP 1 (by decide)
  obtain ⟨z2, h2⟩ := hP 2 (by decide)
  obtain ⟨z3, h3⟩ := hP 3 (by decide)
  obtain ⟨z4, h4⟩ := hP 4 (by decide)
  have bl := fun s hs => blk_l (s := s) hQ hs
  have ll : ∀ s, s < 5 → ∀ E : List Nat, (E ++ blk Q s).length = E.length + 4 := fun s hs E => by rw [List.length_append, bl s hs]
  obtain ⟨I0, e0, B0, O0, f0⟩ := blk_4 (bl 0 (by decide)) (fun c hh => hc c (blk_m hh)) h0 B (by omega)
  have l0 := ll 0 (by decide) D
  obtain ⟨I1, e1, B1, O1, f1⟩ := blk_4 (bl 1 (by decide)) (fun c hh => hc c (blk_m hh)) h1 B0 (by omega)
  have l1 := ll 1 (by decide) (D ++ blk Q 0)
  obtain ⟨I2, e2, B2, O2, f2⟩ := blk_4 (bl 2 (by decide)) (fun c hh => hc c (blk_m hh)) h2 B1 (by omega)
  have l2 := ll 2 (by decide) (D ++ blk Q 0 ++ blk Q 1)
  obtain ⟨I3, e3, B3, O3, f3⟩ := blk_4 (bl 3 (by decide)) (fun c hh => hc c (blk_m hh)) h3 B2 (by omega)
  have l3 := ll 3 (by decide) (D ++ blk Q 0 ++ blk Q 1 ++ blk Q 2)
  obtain ⟨I4, e4, B4, O4, f4⟩ := blk_4 (bl 4 (by decide)) (fun c hh => hc c (blk_m hh)) h4 B3 (by omega)
  rw [blk_5 hQ] at B4
  have hA := cA_n l
  have hO : OF I4 (u2 I4 414 5 0) := ⟨fun a _ _ c => u2_a c, fun j _ => congrFun (u2_a (by decide)) j, fun j _ => congrFun (u2_a (by decide)) j⟩
  refine ⟨u2 I4 414 5 0, ?_, ⟨(congrFun (u2_a (by decide)) 1).trans B4.1, fun i c hi => (congrFun (u2_a (by decide)) i).trans (B4.2 i c hi)⟩, O0.trans (O1.trans (O2.trans (O3.trans (O4.trans hO)))), u2_s, ?_⟩
  · unfold f_L_flush
    rw [hA, b1_so, show ix 0 7 = some 0 from x07 (j := 0) (by decide), b1_so, b1_so, show ix 1 7 = some 1 from x07 (j := 1) (by decide), b1_so, b1_so, show ix 2 7 = some 2 from x07 (j := 2) (by decide), b1_so, b1_so, show ix 3 7 = some 3 from x07 (j := 3) (by decide), b1_so, b1_so, show ix 4 7 = some 4 from x07 (j := 4) (by decide), b1_so, cW_n W, b1_so]
    have ea : f_X9_append I 0 (I 414 0) (I 414 1) (I 414 2) (I 414 3) (I 414 4) = some (I4 (0 + 1 + 1) 1, I4) := by
      unfold f_X9_append
      have hp : I (0 + 1 + 1) 1 + 20 ≤ 500 := by
        rw [show I (0 + 1 + 1) 1 = nI D.length from B.1, show nI D.length + 20 = nI (D.length + 20) from nI_add _ 20]
        exact nI_le (b := 500) (by omega) (by decide)
      rw [if_pos hp, show f_X7_putFourBytes I (0 + 1 + 1) (I 414 0) = some I0 from e0, b1_so, show f_X7_putFourBytes I0 (0 + 1 + 1) (I 414 1) = some I1 from e1, b1_so, show f_X7_putFourBytes I1 (0 + 1 + 1) (I 414 2) = some I2 from e2, b1_so, show f_X7_putFourBytes I2 (0 + 1 + 1) (I 414 3) = some I3 from e3, b1_so, show f_X7_putFourBytes I3 (0 + 1 + 1) (I 414 4) = some I4 from e4, b1_so]
    rw [ea, b2_so, b1_so, show ix 5 7 = some 5 from x07 (j := 5) (by decide), b1_so, pu_so, b1_so]
  · rw [u2_k (by decide), f4, f3, f2, f1, f0]
end OUT2
