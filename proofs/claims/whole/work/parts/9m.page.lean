/-! THE BUILDER AND THE PAGE show the same bytes -/
section PGE
variable {I I1 I2 : Mem} {K K1 K2 : Kt} {w m kb gb D : Nat} {L : List Nat} {N : Nat → Int32}
/-- all but the builder stays -/
def Fo (I I1 : Mem) (w m : Nat) : Prop := ∀ a, a < m + 10 → a ≠ w + 102 → a ≠ w + 103 → I1 a = I a
theorem Fo.refl : Fo I I w m := fun _ _ _ _ => rfl
theorem Fo.trans (h : Fo I I1 w m) (h2 : Fo I1 I2 w m) : Fo I I2 w m := fun a h3 h4 h5 => (h2 a h3 h4 h5).trans (h a h3 h4 h5)
/-- the builder shows L -/
def OS (I : Mem) (K : Kt) (w m kb gb : Nat) (L : List Nat) : Prop := SL K w m ∧ ((I (w + 102) 3 = nI L.length ∧ I (w + 102) 1 = 0) ∧ L.length ≤ nOf K (w + 102) ∧ ∀ i c, L[i]? = some c → c < 128 ∧ I (vOf K (w + 102)) i = nI c) ∧ (∀ i, i < nOf K (w + 102) → fits .byte (.int (I (vOf K (w + 102)) i)) = true) ∧ ∃ e, e < 4 ∧ nOf K (w + 102) = capT.getD e 0 ∧ kN K = kb + e ∧ gz K = gb + capS.getD e 0
theorem OS.len (h : OS I K w m kb gb L) : I (w + 102) 3 = nI L.length := h.2.1.1.1
theorem OS.one (h : OS I K w m kb gb L) : I (w + 102) 1 = 0 := h.2.1.1.2
theorem OS.b (h : OS I K w m kb gb L) : LSb K (w + 102) := h.1.1.2.1
theorem OS.lo (h : OS I K w m kb gb L) : w + 414 ≤ m := h.1.2.2.1
theorem OS.cap (h : OS I K w m kb gb L) : nOf K (w + 102) ≤ 142 := by
  obtain ⟨-, -, -, e, e1, e2, -⟩ := h
  rw [e2]
  exact cap_le e e1
theorem OS.v (h : OS I K w m kb gb L) : vOf K (w + 102) = w + 103 ∨ m + 10 ≤ vOf K (w + 102) := h.1.2.2.2
theorem SL.gw (h : SL K w m) (g : Gw K K1) (hb : LSb K1 (w + 102)) (hv : vOf K1 (w + 102) = w + 103 ∨ m + 10 ≤ vOf K1 (w + 102)) : SL K1 w m := by
  obtain ⟨⟨h1, h2, h3⟩, ⟨k, k1, k2⟩, h4, h5⟩ := h
  exact ⟨⟨h1.gw g, hb, h3.gw g⟩, ⟨k, k1, h1.r.t.o.gg g (by decide) k2⟩, h4, hv⟩
theorem shr0 {n : Nat} : nI n >>> (0 : Int32) = nI n := by simp
theorem shl0 {x : Int32} : x <<< (0 : Int32) = x := by simp
theorem and0 : ((0 : Int32) &&& 31) = 0 := by decide
theorem fit0 : fits .byte (.int 0) = true := by decide
theorem fitc : ∀ c, c < 128 → fits .byte (.int (nI c)) = true := by decide +kernel
theorem nc_row (h : OS I K w m kb gb L) {r : Nat} (h1 : r ≤ nOf K (w + 102) + 18) (h3 : nOf K (w + 102) < r) (h4 : 16 ≤ nOf K (w + 102)) : f_J5_newCapacity_0f7a4 I K (w + 102) (nI r) = some (nI (2 * nOf K (w + 102) + 2)) := by
  have hc := h.cap
  have e1 : (nI r <<< (0 : Int32)) - nI (nOf K (w + 102)) = nI (r - nOf K (w + 102)) := by rw [shl0, pk_sub (by omega)]
  have e2 : nI (nOf K (w + 102)) + ((2 : Int32) <<< (0 : Int32)) = nI (nOf K (w + 102) + 2) := by
    rw [shl0, show (2 : Int32) = nI 2 from rfl, nI_add]
  have e3 : nI (nOf K (w + 102)) + (if nI (r - nOf K (w + 102)) < nI (nOf K (w + 102) + 2) then nI (nOf K (w + 102) + 2) else nI (r - nOf K (w + 102))) = nI (2 * nOf K (w + 102) + 2) := by
    by_cases hx : r - nOf K (w + 102) < nOf K (w + 102) + 2
    · rw [if_pos (nI_lt hx (by omega)), nI_add]
      congr 1
      omega
    · rw [if_neg (nI_nlt (by omega) (by omega)), nI_add]
      congr 1
      omega
  unfold f_J5_newCapacity_0f7a4 f_J8_newLength_cabcc
  rw [h.one, and0, e1, e2, e3, if_neg (by rw [Int32.le_iff_toInt_le, nI_toInt (by omega)]; show ¬ _ ≤ (0 : Int); omega), if_neg (by rw [Int32.lt_iff_toInt_lt, nI_toInt (by omega), show (2147483639 : Int32).toInt = 2147483639 from rfl]; omega), b1_so, if_neg (fun z => by
    have z2 := congrArg Int32.toInt z
    rw [nI_toInt (by omega), show (2147483647 : Int32).toInt = 2147483647 from rfl] at z2
    omega), shr0]
theorem ens_row (hK : m + 10 ≤ kb ∧ kb < 900000) (h : OS I K w m kb gb L) {r : Nat} (h1 : r ≤ nOf K (w + 102) + 16) (h2 : r ≤ 142) : ∃ I1 K1, f_J5_ensureCapacityInternal_d00df I K (w + 102) (nI r) = some (I1, K1) ∧ OS I1 K1 w m kb gb L ∧ Fo I I1 w m ∧ Gw K K1 ∧ r ≤ nOf K1 (w + 102) ∧ I1 (w + 102) = I (w + 102) := by
  have h0 := h
  have hc := h.cap
  obtain ⟨s1, ⟨⟨s2, s3⟩, s4, s5⟩, s6, e, e1, e2, e3, e4⟩ := h
  have hB := h0.b
  have hlo := h0.lo
  unfold f_J5_ensureCapacityInternal_d00df
  rw [s3, and0, shr0]
  by_cases hr : r ≤ nOf K (w + 102)
  · rw [if_pos (by rw [Int32.le_iff_toInt_le, pk_sub_toInt (by omega) (by omega)]; show _ ≤ (0 : Int); omega)]
    exact ⟨I, K, rfl, h0, Fo.refl, Gw.refl, hr, rfl⟩
  · have e5 : e < 3 := by
      rcases (show e < 3 ∨ e = 3 by omega) with h | h
      · exact h
      · subst h
        rw [show capT.getD 3 0 = 142 from rfl] at e2
        omega
    have e6 : 16 ≤ nOf K (w + 102) := by
      rw [e2]
      rcases (show e = 0 ∨ e = 1 ∨ e = 2 by omega) with h | h | h <;> rw [h] <;> decide
    rw [if_neg (by rw [Int32.le_iff_toInt_le, pk_sub_toInt (by omega) (by omega)]; show ¬ _ ≤ (0 : Int); omega), nc_row h0 (by omega) (by omega) e6, b1_so, shl0]
    unfold f_J7_copyOf_9075b
    have hN : 2 * nOf K (w + 102) + 2 ≤ 60000 := by omega
    rw [ckC_n ⟨rfl, by omega, hN, by rw [e3]; show kb + e < 1000000; omega, s6⟩, b1_so, b3_so, ckN_n Gn_new, b1_so]
    unfold pK
    rw [b1_so]
    generalize hK2 : kNew K (101, 2 * nOf K (w + 102) + 2) = K2
    have g1 : Gw K K2 := by rw [← hK2]; exact Gn_new.1
    have k2 : kN K2 = kN K + 1 := by rw [← hK2]
    have sh2 : kS K2 (kN K) = (101, 2 * nOf K (w + 102) + 2) := by rw [← hK2]; exact u1_s
    have gz2 : gz K2 = gz K + (2 * nOf K (w + 102) + 2) := by rw [← hK2]; exact gz_new
    have o2 : LO K2 0 (w + 102) := hB.o.gw g1
    generalize hK8 : kSetG K2 (u2 (kG K2) (w + 102) 0 (some (kN K))) = K8
    have n8 : kN K8 = kN K2 := by rw [← hK8]
    have s8 : kS K8 = kS K2 := by rw [← hK8]
    have q8 : kG K8 = u2 (kG K2) (w + 102) 0 (some (kN K)) := by rw [← hK8]
    have z8 : gz K8 = gz K2 := by unfold gz; rw [n8, s8]
    have v8 : vOf K8 (w + 102) = kN K := by unfold vOf; rw [q8, u2_s]; rfl
    have c8 : nOf K8 (w + 102) = 2 * nOf K (w + 102) + 2 := by unfold nOf; rw [v8, s8, sh2]; rfl
    have g2 : Gw K2 K8 := ⟨by rw [n8]; exact Nat.le_refl _, fun a _ => by rw [s8], fun a j ha hc => by
      rw [q8, u2_a]
      intro z
      rw [z] at hc
      exact hc o2.1⟩
    have L8 : LSb K8 (w + 102) := ⟨o2.gw g2, by rw [q8, u2_s, v8], by rw [v8, c8]; exact ⟨by rw [s8, sh2], by rw [n8, k2]; exact Nat.lt_succ_self _⟩⟩
    rw [ckG_n ⟨g2, L8⟩, b1_so]
    have hkN : m + 10 ≤ kN K := by omega
    have hvl : vOf K (w + 102) < kN K := hB.l.2
    have ev : ∀ a, a < kN K → u1 (u1 I (kN K) (fun _ => 0)) (kN K) (va_cpy (u1 I (kN K) (fun _ => 0) (vOf K (w + 102))) (u1 I (kN K) (fun _ => 0) (kN K)) 0 0 (nOf K (w + 102))) a = I a := fun a ha => by
      rw [u1_n (by omega), u1_n (by omega)]
    have ek : ∀ j, u1 (u1 I (kN K) (fun _ => 0)) (kN K) (va_cpy (u1 I (kN K) (fun _ => 0) (vOf K (w + 102))) (u1 I (kN K) (fun _ => 0) (kN K)) 0 0 (nOf K (w + 102))) (kN K) j = if j < nOf K (w + 102) then I (vOf K (w + 102)) j else 0 := fun j => by
      rw [u1_s]
      by_cases hj : j < nOf K (w + 102)
      · rw [pk_cpy_in (Nat.zero_le _) (by omega), if_pos hj, u1_n (by omega), Nat.zero_add, Nat.sub_zero]
      · rw [pk_cpy_out (by omega), if_neg hj, u1_s]
    refine ⟨_, _, rfl, ⟨s1.gw (g1.trans g2) L8 (by rw [v8]; exact Or.inr hkN), ⟨⟨by rw [ev _ (by omega)]; exact s2, by rw [ev _ (by omega)]; exact s3⟩, by rw [c8]; omega, fun i c hi => ?_⟩, fun i hi => ?_, e + 1, by omega, ?_, by rw [n8, k2, e3]; omega, ?_⟩, fun a h1 _ _ => ev a (by omega), g1.trans g2, by rw [c8]; omega, ev _ (by omega)⟩
    · obtain ⟨a1, a2⟩ := s5 i c hi
      have hl := (List.getElem?_eq_some_iff.mp hi).1
      refine ⟨a1, ?_⟩
      rw [v8, ek, if_pos (by omega)]
      exact a2
    · rw [v8, ek]
      by_cases hj : i < nOf K (w + 102)
      · rw [if_pos hj]; exact s6 i hj
      · rw [if_neg hj]; exact fit0
    · rw [c8, e2]
      rcases (show e = 0 ∨ e = 1 ∨ e = 2 by omega) with rfl | rfl | rfl <;> rfl
    · rw [z8, gz2, e4, e2]
      rcases (show e = 0 ∨ e = 1 ∨ e = 2 by omega) with rfl | rfl | rfl <;> rfl
/-- bytes behind the last one -/
theorem OS.app (h : OS I K w m kb gb L) {T : List Nat} (hT : ∀ i c, T[i]? = some c → c < 128 ∧ I1 (vOf K (w + 102)) (L.length + i) = nI c) (hr : L.length + T.length ≤ nOf K (w + 102)) (a1 : I1 (w + 102) 1 = 0) (a2 : I1 (w + 102) 3 = nI (L.length + T.length)) (a4 : ∀ j, (j < L.length ∨ L.length + T.length ≤ j) → I1 (vOf K (w + 102)) j = I (vOf K (w + 102)) j) : OS I1 K w m kb gb (L ++ T) := by
  obtain ⟨s1, ⟨⟨s2, s3⟩, s4, s5⟩, s6, s7⟩ := h
  refine ⟨s1, ⟨⟨by rw [List.length_append]; exact a2, a1⟩, by rw [List.length_append]; exact hr, fun i c hi => ?_⟩, fun i hi => ?_, s7⟩
  · by_cases hl : i < L.length
    · rw [List.getElem?_append_left hl] at hi
      rw [a4 i (Or.inl hl)]
      exact s5 i c hi
    · rw [List.getElem?_append_right (by omega)] at hi
      have := hT _ c hi
      rwa [show L.length + (i - L.length) = i by omega] at this
  · by_cases hl : i < L.length ∨ L.length + T.length ≤ i
    · rw [a4 i hl]; exact s6 i hi
    · have hj : i - L.length < T.length := by omega
      have := hT (i - L.length) T[i - L.length] (List.getElem?_eq_getElem hj)
      rw [show L.length + (i - L.length) = i by omega] at this
      rw [this.2]
      exact fitc _ this.1
theorem lat_row (h : I (w + 102) 1 = 0) : f_J5_isLatin1_aae02 I K (w + 102) = some 1 := by
  unfold f_J5_isLatin1_aae02
  rw [if_neg (by decide), h, if_pos rfl]
theorem b8_n : ∀ c, c < 128 → vp_nar .byte ((nI c).toInt8).toInt32 = nI c := by decide +kernel
theorem b8_v : ∀ c, c < 128 → vp_nar .byte (nI c) = nI c := by decide +kernel
theorem ce_n : ∀ c, c < 128 → f_J1_canEncode_fc78d (nI c) = some 1 := by
  intro c hc
  unfold f_J1_canEncode_fc78d
  rw [if_neg]
  rw [show (255 : Int32) = nI 255 from rfl, Int32.lt_iff_toInt_lt, nI_toInt (by omega), nI_toInt (by omega)]
  omega
theorem app_row (hK : m + 10 ≤ kb ∧ kb < 900000) (h : OS I K w m kb gb L) (hl : L.length < 110) {c : Nat} (hc : c < 128) : ∃ I1 K1, f_J4_append_cf468 I K (w + 102) (nI c) = some (w + 102, I1, K1) ∧ OS I1 K1 w m kb gb (L ++ [c]) ∧ Fo I I1 w m ∧ Gw K K1 := by
  have h4 := h.2.1.2.1
  obtain ⟨I1, K1, g1, g2, g3, g4, g5, g6⟩ := ens_row hK h (r := L.length + 1) (by omega) (by omega)
  have hv := g2.v
  have hlo := g2.lo
  have hcap := g2.cap
  refine ⟨u2 (u2 I1 (w + 102) 3 (nI (L.length + 1))) (vOf K1 (w + 102)) L.length (nI c), K1, ?_, g2.app (T := [c]) (fun i d hi => ?_) g5 ?_ ?_ (fun j hj => ?_), fun a h1 h2 h3 => ?_, g4⟩
  · have e : f_J5_append_3fe6f I K (w + 102) (nI c) = some (w + 102, u2 (u2 I1 (w + 102) 3 (nI (L.length + 1))) (vOf K1 (w + 102)) L.length (nI c), K1) := by
      unfold f_J5_append_3fe6f
      rw [h.len, nI_s1, g1, b2_so, ckG_n ⟨g4, g2.b⟩, b1_so, lat_row g2.one, b1_so, if_neg (by decide), ce_n c hc, b1_so, if_neg (by decide), g2.len, nI_s1, pu_so, b1_so, ix_n (by omega) (by omega), b1_so, b8_n c hc, pu_so, b1_so]
    unfold f_J4_append_cf468
    rw [e, b3_so, ckG_n ⟨g4, g2.b⟩, b1_so]
  · have hi0 : i = 0 ∧ d = c := by
      cases i with
      | zero => exact ⟨rfl, (Option.some.inj hi).symm⟩
      | succ i => simp at hi
    obtain ⟨rfl, rfl⟩ := hi0
    exact ⟨hc, u2_s⟩
  · rw [u2_a (by omega), u2_k (by decide)]; exact g2.one
  · rw [u2_a (by omega), u2_s]; rfl
  · rw [u2_k (by have : [c].length = 1 := rfl; omega), u2_a (by omega)]
  · rw [u2_a (by omega), u2_a (by omega)]; exact g3 a h1 h2 h3
/-- the builder is emptied -/
theorem set_row (S : ST I K w m kb gb D) : ∃ I1, f_J4_setLength_d00df I K (w + 102) 0 = some (I1, K) ∧ OS I1 K w m kb gb [] ∧ Fo I I1 w m := by
  obtain ⟨hLL, -, -, -, -, -, -, ⟨n, n1, ⟨n2, n3, n4⟩, n5, n6⟩, o2, o3⟩ := S
  have hB := hLL.1.2.1
  have hlo := hLL.2.2.1
  have hv := hLL.2.2.2
  have hc : nOf K (w + 102) ≤ 142 := by
    obtain ⟨e, e1, e2, -⟩ := o3
    rw [e2]
    exact cap_le e e1
  have e0 : f_J5_ensureCapacityInternal_d00df I K (w + 102) 0 = some (I, K) := by
    unfold f_J5_ensureCapacityInternal_d00df
    rw [n4, and0, shr0, if_pos]
    rw [show (0 : Int32) = nI 0 from rfl, Int32.le_iff_toInt_le, pk_sub_toInt (by omega) (by omega), nI_toInt (by omega)]
    omega
  have hO : ∀ {I1 : Mem}, I1 (w + 102) 3 = 0 → I1 (w + 102) 1 = 0 → I1 (vOf K (w + 102)) = I (vOf K (w + 102)) → OS I1 K w m kb gb [] := fun {I1} a1 a2 a3 => ⟨hLL, ⟨⟨a1, a2⟩, Nat.zero_le _, fun i c hi => by simp at hi⟩, fun i hi => by rw [a3]; exact o2 i hi, o3⟩
  unfold f_J4_setLength_d00df f_J5_setLength_d00df
  rw [if_pos (by decide), e0, b2_so, ckG_n ⟨Gw.refl, hB⟩, b1_so, n2, if_pos (by rw [show (0 : Int32) = nI 0 from rfl, Int32.le_iff_toInt_le, nI_toInt (by omega), nI_toInt (by omega)]; omega)]
  by_cases hn : nI n ≤ 0
  · rw [if_pos hn, pu_so, b1_so, b2_so, ckG_n ⟨Gw.refl, hB⟩, b1_so]
    exact ⟨_, rfl, hO u2_s (by rw [u2_k (by decide)]; exact n4) (u2_a (by omega)), fun a h1 h2 h3 => u2_a h2⟩
  · rw [if_neg hn, pu_so, b1_so, pu_so, b1_so, b2_so, ckG_n ⟨Gw.refl, hB⟩, b1_so]
    exact ⟨_, rfl, hO u2_s (by rw [u2_k (by decide), u2_k (by decide)]; exact n4) (by rw [u2_a (by omega), u2_a (by omega)]), fun a h1 h2 h3 => by rw [u2_a h2, u2_a h2]⟩
/-- the page -/
def OP (I : Mem) (m : Nat) (L : List Nat) : Prop := I m 20 = nI L.length ∧ ∀ i c, L[i]? = some c → I (m + 7) i = nI c
def Fp (I I1 : Mem) (m : Nat) : Prop := (∀ a, a ≠ m → a ≠ m + 7 → I1 a = I a) ∧ ∀ j, j ≠ 20 → I1 m j = I m j
theorem Fp.refl : Fp I I m := ⟨fun _ _ _ => rfl, fun _ _ => rfl⟩
theorem Fp.trans (h : Fp I I1 m) (h2 : Fp I1 I2 m) : Fp I I2 m := ⟨fun a k1 k2 => (h2.1 a k1 k2).trans (h.1 a k1 k2), fun j k1 => (h2.2 j k1).trans (h.2 j k1)⟩
theorem Fp.n (h : Fp I I1 m) : I1 (m + 1) = I (m + 1) := h.1 _ (by omega) (by omega)
theorem wby_row (h : OP I m L) (hl : L.length < 200) {c : Nat} (hc : c < 128) : ∃ I1, f_X10_writesByte I m (nI c) = some I1 ∧ OP I1 m (L ++ [c]) ∧ Fp I I1 m := by
  refine ⟨u2 (u2 I (m + 7) L.length (nI c)) m 20 (nI (L.length + 1)), ?_, ⟨?_, fun i d hi => ?_⟩, fun a k1 k2 => ?_, fun j hj => ?_⟩
  · unfold f_X10_writesByte
    rw [h.1, ix_n hl (by decide), b1_so, b8_n c hc, pu_so, b1_so, u2_a (show m ≠ m + 7 by omega), h.1, nI_s1, pu_so, b1_so]
  · rw [u2_s, List.length_append]; rfl
  · rw [u2_a (by omega)]
    by_cases hj : i < L.length
    · rw [List.getElem?_append_left hj] at hi
      rw [u2_k (by omega)]
      exact h.2 i d hi
    · rw [List.getElem?_append_right (by omega)] at hi
      have hi0 : i = L.length ∧ d = c := by
        cases hk : i - L.length with
        | zero => rw [hk] at hi; exact ⟨by omega, (Option.some.inj hi).symm⟩
        | succ k => rw [hk] at hi; simp at hi
      obtain ⟨rfl, rfl⟩ := hi0
      rw [u2_s]
  · rw [u2_a k1, u2_a k2]
  · rw [u2_k hj, u2_a (by omega)]
end PGE
