/-! the public calls: who may, and what it throws -/
def isIx (x : Int32) (n : Nat) : Prop := 0 ≤ x.toInt ∧ x.toInt < (n : Int)
theorem isIx_of {x : Int32} {n : Nat} (h : isIx x n) (hn : n < 1000) : ∃ p, x = nI p ∧ p < n := by
  refine ⟨x.toInt.toNat, ?_, ?_⟩
  · apply Int32.toInt_inj.mp
    have h1 := h.1
    have h2 := h.2
    rw [nI_toInt (by omega : x.toInt.toNat < 2 ^ 31)]
    omega
  · have h1 := h.1
    have h2 := h.2
    omega
theorem i0 : (0 : Int32).toInt = 0 := rfl
theorem lt0 {x : Int32} : (x < 0) = (x.toInt < 0) := propext (by rw [Int32.lt_iff_toInt_lt, i0])
theorem ltn {x : Int32} {n : Nat} (hn : n < 1000) : (x < nI n) = (x.toInt < (n : Int)) := propext (by rw [Int32.lt_iff_toInt_lt, nI_toInt (by omega)])
theorem gtn {x : Int32} {n : Nat} (hn : n < 1000) : (nI n < x) = ((n : Int) < x.toInt) := propext (by rw [Int32.lt_iff_toInt_lt, nI_toInt (by omega)])
theorem pred_lt {x : Int32} {n : Nat} (hn : n < 1000) : (nI n - 1 < x) = ((n : Int) - 1 < x.toInt) := by
  refine propext ?_
  rw [Int32.lt_iff_toInt_lt, show (1 : Int32) = nI 1 from rfl, pk_sub_toInt (by omega) (by omega)]
  rfl
section PU
variable {I : Mem} {m w : Nat}
/-- both know whether a setup has been loaded -/
def LD (I : Mem) (w m : Nat) (L : Prop) [Decidable L] : Prop := I w 7 = bI L ∧ I m 6 = bI L
theorem r_in {x a b : Int32} : f_Y_in x a b = some (bI (¬ x < a ∧ ¬ b < x)) := by
  unfold f_Y_in
  by_cases h : x < a
  · rw [if_pos h, bI_f (fun h9 => h9.1 h)]
  · rw [if_neg h]
    by_cases h2 : b < x
    · rw [if_pos h2, bI_f (fun h9 => h9.2 h2)]
    · rw [if_neg h2, bI_t ⟨h, h2⟩]
theorem r_inIx {x : Int32} {n : Nat} (hn : n < 1000) : f_Y_in x 0 (nI n - 1) = some (bI (¬ x < 0 ∧ x < nI n)) := by
  have e : (¬ nI n - 1 < x) = (x < nI n) := by
    rw [pred_lt hn, ltn hn]
    exact propext ⟨fun h => by omega, fun h => by omega⟩
  rw [r_in]
  simp only [e]
theorem r_may26 {t : Int32} : l_Y_may_26 I m t = some (bI (t = 0), u2 I m 0 t) := by
  have e : (u2 I m 0 t) m 0 = t := u2_s
  unfold l_Y_may_26
  rw [pu_so, b1_so, e]
  by_cases h : t = 0
  · rw [if_pos h, bI_t h]
  · rw [if_neg h, bI_f h]
/-- what the reference says that was thrown: the first of three that does not hold -/
def th3 (a b c : Prop) [Decidable a] [Decidable b] [Decidable c] : Int32 := if a then (if b then (if c then 0 else 3) else 2) else 1
theorem r_may {a b c : Prop} [Decidable a] [Decidable b] [Decidable c] : f_Y_may I m (bI a) (bI b) (bI c) = some (bI (a ∧ b ∧ c), u2 I m 0 (th3 a b c)) := by
  unfold f_Y_may th3
  by_cases ha : a <;> by_cases hb : b <;> by_cases hc : c <;> simp [ha, hb, hc, bI, r_may26]
theorem bI_tr : bI True = 1 := rfl
theorem r_mayTwo {a b : Prop} [Decidable a] [Decidable b] : f_Y_mayTwo I m (bI a) (bI b) = some (bI (a ∧ b), u2 I m 0 (th3 a b True)) := by
  have h := r_may (I := I) (m := m) (a := a) (b := b) (c := True)
  rw [bI_tr] at h
  unfold f_Y_mayTwo
  rw [h, b2_so, cB_bI, b1_so]
  simp only [and_true]
theorem r_mayLook {L : Prop} [Decidable L] (h6 : I m 6 = bI L) : f_Y_mayLook I m = some (bI L, u2 I m 0 (th3 L True True)) := by
  have h := r_may (I := I) (m := m) (a := L) (b := True) (c := True)
  rw [bI_tr] at h
  unfold f_Y_mayLook
  rw [h6, h, b2_so, cB_bI, b1_so]
  simp only [and_true]
/-- the first of the class's checks -/
theorem h_loaded {L : Prop} [Decidable L] (h7 : I w 7 = bI L) : f_X9_loadedMarket I w = if L then some (.ok (w + 37)) else some (.error "java/lang/IllegalStateException") := by
  unfold f_X9_loadedMarket
  by_cases h : L
  · rw [h7, bI_t h, if_neg (by decide), if_pos h]
  · rw [h7, bI_f h, if_pos rfl, if_neg h]
theorem h_checkIndex {x : Int32} {c : Int32} : f_X9_checkIndex x c = if ¬ x < 0 ∧ x < c then some (.ok ()) else some (.error "java/lang/IndexOutOfBoundsException") := by
  unfold f_X9_checkIndex l_X9_checkIndex_9
  by_cases h : x < 0
  · rw [if_pos h, if_neg (fun h9 => h9.1 h)]
  · rw [if_neg h]
    by_cases h2 : x < c
    · rw [if_pos h2, if_pos ⟨h, h2⟩]
    · rw [if_neg h2, if_neg (fun h9 => h2 h9.2)]
theorem ckE_n {a : Nat} : ckE a a = some () := if_pos rfl
/-- an index that both accept -/
def okI (x : Int32) (n : Nat) : Prop := ¬ x < 0 ∧ x < nI n
theorem okI_of {x : Int32} {n : Nat} (h : okI x n) (hn : n < 1000) : ∃ p, x = nI p ∧ p < n := by
  refine isIx_of ⟨?_, ?_⟩ hn
  · have := h.1; rw [lt0] at this; omega
  · have := h.2; rw [ltn hn] at this; exact this
theorem h_checkPerson {L : Prop} [Decidable L] (h7 : I w 7 = bI L) {n : Nat} (h3 : L → I (w + 37) 3 = nI n) {x : Int32} : f_X9_checkPerson I w x = if L then (if ¬ x < 0 ∧ x < nI n then some (.ok ()) else some (.error "java/lang/IndexOutOfBoundsException")) else some (.error "java/lang/IllegalStateException") := by
  unfold f_X9_checkPerson
  rw [h_loaded h7]
  by_cases h : L
  · rw [if_pos h, if_pos h, e1_ok, ckE_n, b1_so, h_checkIndex, h3 h]
    split <;> rfl
  · rw [if_neg h, if_neg h, e1_er]
theorem h_checkStall {L : Prop} [Decidable L] (h7 : I w 7 = bI L) {n : Nat} (h3 : L → I (w + 37) 4 = nI n) {x : Int32} : f_X9_checkStall I w x = if L then (if ¬ x < 0 ∧ x < nI n then some (.ok ()) else some (.error "java/lang/IndexOutOfBoundsException")) else some (.error "java/lang/IllegalStateException") := by
  unfold f_X9_checkStall
  rw [h_loaded h7]
  by_cases h : L
  · rw [if_pos h, if_pos h, e1_ok, ckE_n, b1_so, h_checkIndex, h3 h]
    split <;> rfl
  · rw [if_neg h, if_neg h, e1_er]
theorem h_checkWish {L : Prop} [Decidable L] (h7 : I w 7 = bI L) {n : Nat} (h3 : L → I (w + 37) 5 = nI n) {x : Int32} : f_X9_checkWish I w x = if L then (if ¬ x < 0 ∧ x < nI n then some (.ok ()) else some (.error "java/lang/IndexOutOfBoundsException")) else some (.error "java/lang/IllegalStateException") := by
  unfold f_X9_checkWish
  rw [h_loaded h7]
  by_cases h : L
  · rw [if_pos h, if_pos h, e1_ok, ckE_n, b1_so, h_checkIndex, h3 h]
    split <;> rfl
  · rw [if_neg h, if_neg h, e1_er]
end PU
