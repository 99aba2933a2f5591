/-! the string; the wishes; the whole text -/
section TXT4
variable {I I0 I1 I' I2 : Mem} {K K0 K1 K' K2 : Kt} {b r cap kb x ns y B : Nat} {L L0 T : List Nat} {v : Int32}
def StrAt (K : Kt) (I : Mem) (s : Nat) (L : List Nat) : Prop := (LO K 12 s ∧ I s 1 = 0) ∧ ∃ q, kG K s 0 = some q ∧ LA K 101 L.length q ∧ ∀ i c, L[i]? = some c → c < 128 ∧ I q i = nI c
theorem crange (l : LA K 101 cap r) (hk : kN K < 800000) (hl : L.length ≤ cap) (hc : cap ≤ 5000) (hL : ∀ i c, L[i]? = some c → c < 128 ∧ I r i = nI c) (hF : ∀ i, i < cap → fits .byte (.int (I r i)) = true) : ∃ I' K', f_J7_copyOfRange_39247 I K r 0 (nI L.length) = some (kN K, I', K') ∧ (LA K' 101 L.length (kN K) ∧ ∀ i c, L[i]? = some c → c < 128 ∧ I' (kN K) i = nI c) ∧ (kN K' = kN K + 1 ∧ gz K' ≤ gz K + 5000) ∧ ∀ c, c < kN K → I' c = I c ∧ kS K' c = kS K c ∧ kG K' c = kG K c := by
  have lr := l.2
  by_cases h : L.length = cap
  · refine ⟨u1 I (kN K) (I r), kNew K (101, cap), ?_, ⟨by rw [h]; exact LA.mk, fun i c hi => by rw [u1_s]; exact hL i c hi⟩, ⟨rfl, by rw [gz_new]; show gz K + cap ≤ _; omega⟩, fun c hc => ⟨u1_n (by omega), kn_s (by omega), kn_g (by omega)⟩⟩
    unfold f_J7_copyOfRange_39247
    rw [if_pos rfl, cLn l (by decide) (by omega), b1_so, if_pos (by rw [h]), cA_n l, b1_so, cL_n (by omega), b1_so, cFit_n (f := I r) (a := 0) (fun i hi => by rw [Nat.zero_add]; exact hF i hi), b1_so]
    show (b1 (cA (kNew K (101, cap)) 101 (kN K)) fun _ => some (kN K, u1 I (kN K) (I r), kNew K (101, cap))) = _
    rw [cA_n LA.mk, b1_so]
  · let I5 := u1 I (kN K) (fun _ => (0 : Int32))
    have e5 : I5 r = I r := u1_n (by omega)
    refine ⟨u1 I5 (kN K) (va_cpy (I5 r) (I5 (kN K)) 0 0 L.length), kNew K (101, L.length), ?_, ⟨LA.mk, fun i c hi => ⟨(hL i c hi).1, ?_⟩⟩, ⟨rfl, by rw [gz_new]; show gz K + L.length ≤ _; omega⟩, fun c hc => ⟨(u1_n (by omega)).trans (u1_n (by omega)), kn_s (by omega), kn_g (by omega)⟩⟩
    · unfold f_J7_copyOfRange_39247 l_J7_copyOfRange_39247_10 f_J7_copyOfRangeByte_39247 f_J7_checkLength_df160
      rw [if_pos rfl, cLn l (by decide) (by omega), b1_so, if_neg (show ¬ nI L.length = nI cap by rw [nJ_i (by omega) (by omega)]; exact h), if_pos (zle (by omega)), b1_so, Int32.sub_zero, ixn_n (by omega), b1_so, cL_n (by omega), b1_so, puN_e, b2_so, cLn l.nw (by decide) (by omega), b1_so, cA_n LA.mk, b1_so, cA_n l.nw, b1_so, Int32.sub_zero, if_pos (nI_lt (show L.length < cap by omega) (by omega)), show cpy 0 0 (nI L.length) cap L.length = some (0, 0, L.length) from cpy_n (a := 0) (b := 0) (by omega) (by omega) (by omega) (by omega), b3_so, cFit_n (f := u1 I (kN K) (fun _ => 0) r) (a := 0) (fun i hi => by
        rw [Nat.zero_add, u1_n (by omega)]
        exact hF i (by omega)), b1_so]
      rfl
    · rw [u1_s, cp_in (List.getElem?_eq_some_iff.mp hi).1, e5]
      exact (hL i c hi).2
theorem toStr (Bb : BS K I b r cap L) (hk : kN K < 790000) : ∃ s I' K', f_J4_toString_0e30d I K b = some (s, I', K') ∧ StrAt K' I' s L ∧ (kN K ≤ kN K' ∧ kN K' ≤ kN K + 2 ∧ gz K' ≤ gz K + 6000) ∧ ∀ c, c < kN K → I' c = I c ∧ kS K' c = kS K c ∧ kG K' c = kG K c := by
  obtain ⟨⟨⟨o, g⟩, l, hbr⟩, ⟨i1, i3⟩, ⟨c4, c5⟩, hL, hF⟩ := Bb
  have lr := l.2
  have lb := o.2
  let Ia := u2 (u1 I (kN K) (fun _ => (0 : Int32))) (kN K) 1 0
  have ea : ∀ c, c < kN K → Ia c = I c := fun c hc => (u2_a (by omega)).trans (u1_n (by omega))
  have e0 : ∀ c, c < kN K → u1 I (kN K) (fun _ => (0 : Int32)) c = I c := fun c hc => u1_n (by omega)
  obtain ⟨I2, K2, q1, ⟨q2, q3⟩, ⟨q4, q5⟩, q6⟩ := crange (I := Ia) (K := kNew K (12, 4)) (L := L) l.nw (by show kN K + 1 < 800000; omega) c4 c5 (fun i c hi => by rw [ea r lr]; exact hL i c hi) (fun i hi => by rw [ea r lr]; exact hF i hi)
  have q4' : kN K2 = kN K + 2 := q4
  have s2 : LO K2 12 (kN K) := ⟨by rw [(q6 (kN K) (Nat.lt_succ_self _)).2.1, kn_S], by omega⟩
  have q5' : gz K2 ≤ gz (kNew K (12, 4)) + 5000 := q5
  rw [gz_new] at q5'
  have q5'' : gz K2 ≤ gz K + 4 + 5000 := q5'
  refine ⟨kN K, I2, kPut K2 (kN K) 0 (kN (kNew K (12, 4))), ?_, ⟨⟨(show LO K2 12 (kN K) from s2), ?_⟩, kN (kNew K (12, 4)), kp_s, q2, q3⟩, ⟨by show kN K ≤ kN K2; omega, by show kN K2 ≤ _; omega, by show gz K2 ≤ _; omega⟩, fun c hc => ⟨?_, ?_, ?_⟩⟩
  · unfold f_J4_toString_0e30d f_J0_init_81219 f_J0_init_db425 f_J5_getValue_6d5f1 f_J4_length_8abf5 f_J5_length_8abf5 f_J5_isLatin1_aae02
    rw [cL_n (by omega), b1_so, puN_e, b2_so, cO_n o.nw, b1_so, b1_so, gR_e (show kG (kNew K (12, 4)) b 0 = some r by rw [kn_g (by omega)]; exact g), b1_so, b1_so, b1_so, b1_so, b1_so, e0 b lb, i3, b1_so, b1_so, b1_so, if_neg (by decide), b1_so, i1, if_pos rfl, b1_so, if_neg (by decide), cO_n LO.mk, b1_so, cF_b, b1_so, pu_so, b1_so, q1, b3_so, cO_n s2, b1_so, puG_e, b1_so, b2_so, b2_so]
  · rw [(q6 (kN K) (Nat.lt_succ_self _)).1]; exact u2_s
  · rw [(q6 c (Nat.lt_succ_of_lt hc)).1, ea c hc]
  · exact (q6 c (Nat.lt_succ_of_lt hc)).2.1.trans (kn_s (by omega))
  · exact (kp_a (by omega)).trans ((q6 c (Nat.lt_succ_of_lt hc)).2.2.trans (kn_g (by omega)))
/-- the law's own days do not fall -/
def AdvOk : Prop := ∀ (ns y : Nat) (K : Kt) (I : Mem), 1 ≤ ns → ns ≤ 2 → HB K I ns ns 2 4 → HV I ns ns 2 4 y → ∃ u I', f_X10_advance I K 415 2 = some (u, I') ∧ ∀ c, (c < 415 ∨ 428 + ns ≤ c) → I' c = I c
end TXT4
