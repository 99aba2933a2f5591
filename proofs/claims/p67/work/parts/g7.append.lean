/-! the builder's appends -/
section APP
variable {I I0 I1 I' I2 : Mem} {K K0 K1 K' K2 : Kt} {b r cap kb x : Nat} {L T : List Nat}
def TB (kb : Nat) (K K' : Kt) (I I' : Mem) : Prop := (kN K ≤ kN K' ∧ gz K' ≤ gz K + 10000 * (kN K' - kN K)) ∧ ∀ c, c < kb → I' c = I c ∧ kS K' c = kS K c ∧ kG K' c = kG K c
def TS (kb : Nat) (K0 : Kt) (I0 : Mem) (K : Kt) (I : Mem) (b : Nat) (L : List Nat) : Prop := ∃ r cap, BS K I b r cap L ∧ (kb ≤ b ∧ kb ≤ r) ∧ TB kb K0 K I0 I ∧ kN K ≤ kb + 20 + L.length ∧ kb ≤ kN K
theorem TS.o (S : TS kb K0 I0 K I b L) : LO K 0 b := by
  obtain ⟨r, cap, B, -⟩ := S
  exact B.1.1.1
theorem TS.step (S : TS kb K0 I0 K I b L) (T : List Nat) (hl : L.length + T.length ≤ 500) (hk : kb ≤ 700000) : ∃ I1 K1 r1 cap1, f_J5_ensureCapacityInternal_d00df I K b (nI (L.length + T.length)) = some (I1, K1) ∧ BS K1 I1 b r1 cap1 L ∧ L.length + T.length ≤ cap1 ∧ r1 < 900000 ∧ b < 900000 ∧
    ∀ I2, (∀ c, c ≠ b → c ≠ r1 → I2 c = I1 c) → (∀ i c, T[i]? = some c → c < 128 ∧ I2 r1 (L.length + i) = nI c) → I2 b 1 = 0 → I2 b 3 = nI (L.length + T.length) → (∀ j, (j < L.length ∨ L.length + T.length ≤ j) → I2 r1 j = I1 r1 j) → TS kb K0 I0 K1 I2 b (L ++ T) := by
  obtain ⟨r, cap, B, ⟨hb, hr⟩, ⟨⟨t1, t2⟩, t3⟩, hn, hkn⟩ := S
  obtain ⟨I1, K1, r1, cap1, e1, B1, h1, h2, h3, h4, h5, h6⟩ := ens_row B (by omega) (x := L.length + T.length) (by omega)
  have lr := B1.1.2.1.2
  have lb := B1.1.1.1.2
  have lc := B.2.2.1.1
  have hr1 : kb ≤ r1 := by rcases h2 with h | h <;> omega
  refine ⟨I1, K1, r1, cap1, e1, B1, h1, by omega, by omega, fun I2 g1 g2 g3 g4 g5 => ⟨r1, cap1, B1.app g2 h1 g3 g4 g5, ⟨hb, hr1⟩, ⟨⟨by omega, by omega⟩, fun c hc => ?_⟩, by rw [List.length_append]; omega, by omega⟩⟩
  obtain ⟨a1, a2, a3⟩ := t3 c hc
  refine ⟨?_, ?_, ?_⟩
  · rw [g1 c (by omega) (by omega), (h5 c (by omega)).1]; exact a1
  · rw [(h5 c (by omega)).2]; exact a2
  · rw [h6 c (by omega) (by omega)]; exact a3
/-- the bytes of a constant -/
def sBy (x : Nat) : List Nat := (bytT.getD x []).map (fun v => v.toInt.toNat)
theorem sBy_t : ∀ x, x < 42 → lenT.getD x 0 = (sBy x).length ∧ ∀ i, i < (sBy x).length → (sBy x).getD i 0 < 128 ∧ (bytT.getD x []).getD i 0 = nI ((sBy x).getD i 0) := by decide +kernel
theorem sBy_l : ∀ x, x < 42 → (sBy x).length ≤ 21 := by decide +kernel
theorem jl_row (hx : x < 42) : f_J0_length_8abf5 I x = some (nI (sBy x).length) := by
  unfold f_J0_length_8abf5 f_J0_coder_7d493
  rw [show ckS x = some () from if_pos hx, b1_so, b1_so, b1_so, if_neg (by decide), b1_so, b1_so, and0, shr0, (sBy_t x hx).1]
theorem jc_row (hx : x < 42) : f_J0_coder_7d493 I x = some 0 := by
  unfold f_J0_coder_7d493
  rw [if_neg (by decide), show ckS x = some () from if_pos hx, b1_so]
theorem TS.str (S : TS kb K0 I0 K I b L) (hx : x < 42) (hl : L.length ≤ 450) (hk : kb ≤ 700000) : ∃ I1 K1, f_J4_append_15ec4 I K b x = some (b, I1, K1) ∧ TS kb K0 I0 K1 I1 b (L ++ sBy x) := by
  have h21 := sBy_l x hx
  obtain ⟨I1, K1, r, cap, e1, B1, h1, h2, h3, put⟩ := S.step (sBy x) (by omega) hk
  have hcs : ckS x = some () := if_pos hx
  obtain ⟨ht1, ht2⟩ := sBy_t x hx
  have o := S.o
  obtain ⟨r0, c0, B0, -⟩ := S
  obtain ⟨⟨⟨o1', g1'⟩, l1', hbr⟩, ⟨i1', i3'⟩, ⟨c1', c2'⟩, -⟩ := id B1
  refine ⟨u2 (u1 I1 r (va_cpy (fun j => (bytT.getD x []).getD j 0) (I1 r) 0 L.length (sBy x).length)) b 3 (nI (L.length + (sBy x).length)), K1, ?_, put _ (fun c c1 c2 => by rw [u2_a c1, u1_n c2]) (fun i c hi => ?_) ?_ u2_s (fun j hj => ?_)⟩
  · unfold f_J4_append_15ec4 f_J5_append_cf1ce f_J5_putStringAt_47b60 f_J5_inflateIfNeededFor_a7421 f_J0_getBytes_840e7
    rw [cO_n o, b1_so, hcs, b1_so, jl_row hx, b1_so, b1_so, b1_so, B0.2.1.2, nI_add, e1, b2_so, cO_n o1', b1_so, b1_so, b1_so, if_neg (by decide), b1_so, b1_so, jc_row hx, b1_so, i1', if_pos rfl, b1_so, b1_so, gR_e g1', b1_so, b1_so, b1_so, b1_so, b1_so, if_pos rfl, b1_so, b1_so, b1_so, cA_n l1', b1_so, b1_so, and0, shl0, i3', ht1, show cpy 0 (nI L.length) (nI (sBy x).length) (sBy x).length cap = some (0, L.length, (sBy x).length) from cpy_n (a := 0) (by omega) (by omega) (by omega) (by omega), b3_so]
    unfold puY
    rw [b1_so, b1_so, b1_so, b1_so, b1_so, u1_n hbr, i3', nI_add, pu_so, b1_so, b3_so]
  · have hi2 := (List.getElem?_eq_some_iff.mp hi).1
    have e : (sBy x).getD i 0 = c := by rw [List.getD_eq_getElem?_getD, hi]; rfl
    obtain ⟨p1, p2⟩ := ht2 i hi2
    rw [e] at p1 p2
    refine ⟨p1, ?_⟩
    rw [u2_a (Ne.symm hbr), u1_s]
    show va_cpy (fun j => (bytT.getD x []).getD j 0) (I1 r) 0 L.length (sBy x).length (L.length + i) = _
    unfold va_cpy
    rw [if_pos ⟨by omega, by omega⟩, show 0 + (L.length + i - L.length) = i by omega]
    exact p2
  · rw [u2_k (by decide), u1_n hbr]; exact i1'
  · rw [u2_a (Ne.symm hbr), u1_s]
    exact cp_out hj
theorem TS.int (S : TS kb K0 I0 K I b L) {v : Nat} (hv : v < 1000) (hl : L.length ≤ 450) (hk : kb ≤ 700000) : ∃ I1 K1, f_J4_append_bf812 I K b (nI v) = some (b, I1, K1) ∧ TS kb K0 I0 K1 I1 b (L ++ dig v) := by
  have h4 := lg_4 (x := v)
  have dl : (dig v).length = lg v + 1 := dgs_l _
  obtain ⟨I1, K1, r, cap, e1, B1, h1, h2, h3, put⟩ := S.step (dig v) (by omega) hk
  have o := S.o
  obtain ⟨r0, c0, B0, -⟩ := S
  obtain ⟨⟨⟨o1', g1'⟩, l1', hbr⟩, ⟨i1', i3'⟩, ⟨c1', c2'⟩, -⟩ := id B1
  rw [dl] at e1 h1
  obtain ⟨I2, q1, q2, q3, q4⟩ := gc_row (I := I1) (n := L.length) (v := r) (n2 := cap) hv (by omega) (by omega) (cA_n l1')
  refine ⟨u2 I2 b 3 (nI (L.length + (lg v + 1))), K1, ?_, put _ (fun c c1 c2 => by rw [u2_a c1]; exact q2 c c2) (fun i c hi => ?_) ?_ (by rw [u2_s, dl]) (fun j hj => ?_)⟩
  · unfold f_J4_append_bf812 f_J5_append_c97b9 f_J5_isLatin1_aae02
    rw [cO_n o, b1_so, ss_row (by omega), b1_so, b1_so, B0.2.1.2, nI_add, e1, b2_so, cO_n o1', b1_so, if_neg (by decide), b1_so, i1', if_pos rfl, b1_so, b1_so, if_neg (by decide), b1_so, gR_e g1', b1_so, q1, b2_so, b1_so, pu_so, b1_so, b3_so]
  · rw [u2_a (Ne.symm hbr)]
    exact q3 i c hi
  · rw [u2_k (by decide), q2 b hbr]; exact i1'
  · rw [u2_a (Ne.symm hbr)]
    rw [dl] at hj
    exact q4 j hj
theorem b8c : ∀ c, c < 128 → vp_nar .byte ((nI c).toInt8.toInt32) = nI c := by decide +kernel
theorem TS.chr (S : TS kb K0 I0 K I b L) {c : Nat} (hc : c < 128) (hl : L.length ≤ 450) (hk : kb ≤ 700000) : ∃ I1 K1, f_J4_append_cf468 I K b (nI c) = some (b, I1, K1) ∧ TS kb K0 I0 K1 I1 b (L ++ [c]) := by
  obtain ⟨I1, K1, r, cap, e1, B1, h1, h2, h3, put⟩ := S.step [c] (by show L.length + 1 ≤ _; omega) hk
  have o := S.o
  obtain ⟨r0, c0, B0, -⟩ := S
  obtain ⟨⟨⟨o1', g1'⟩, l1', hbr⟩, ⟨i1', i3'⟩, ⟨c1', c2'⟩, -⟩ := id B1
  have h1' : L.length + 1 ≤ cap := h1
  have e1' : f_J5_ensureCapacityInternal_d00df I K b (nI (L.length + 1)) = some (I1, K1) := e1
  refine ⟨u2 (u2 I1 b 3 (nI (L.length + 1))) r L.length (nI c), K1, ?_, put _ (fun q q1 q2 => by rw [u2_a q2, u2_a q1]) (fun i d hi => ?_) ?_ ?_ (fun j hj => ?_)⟩
  · unfold f_J4_append_cf468 f_J5_append_3fe6f f_J5_isLatin1_aae02 f_J1_canEncode_fc78d
    rw [cO_n o, b1_so, b1_so, b1_so, B0.2.1.2, nI_s1, e1', b2_so, cO_n o1', b1_so, if_neg (by decide), b1_so, i1', if_pos rfl, b1_so, if_neg (by decide), if_neg (show ¬ (255 : Int32) < nI c by rw [show (255 : Int32) = nI 255 from rfl, nJ_lf (by omega) (by decide)]; exact id), b1_so, if_neg (by decide), b1_so, gR_e g1', b1_so, b1_so, b1_so, i3', nI_s1, pu_so, b1_so, cA_n l1', b1_so, ix_n (by omega) (by omega), b1_so, b8c c hc, pu_so, b1_so, b3_so]
  · match i, hi with
    | 0, hi =>
      cases hi
      exact ⟨hc, u2_s⟩
    | i + 1, hi => simp at hi
  · rw [u2_a hbr, u2_k (by decide)]; exact i1'
  · rw [u2_a hbr, u2_s]; rfl
  · have hj' : j < L.length ∨ L.length + 1 ≤ j := hj
    rw [u2_k (by omega), u2_a (Ne.symm hbr)]
end APP
