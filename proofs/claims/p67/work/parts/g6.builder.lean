/-! the builder of the law's text -/
section BDR
variable {I I1 I' I2 : Mem} {K K1 K' K2 : Kt} {b r cap kb x : Nat} {L T : List Nat}
theorem fit0 : fits .byte (.int 0) = true := by decide
theorem fitc : ∀ c, c < 128 → fits .byte (.int (nI c)) = true := by decide +kernel
def BS (K : Kt) (I : Mem) (b r cap : Nat) (L : List Nat) : Prop :=
  ((LO K 0 b ∧ kG K b 0 = some r) ∧ LA K 101 cap r ∧ b ≠ r) ∧ (I b 1 = 0 ∧ I b 3 = nI L.length) ∧ (L.length ≤ cap ∧ cap ≤ 5000) ∧ (∀ i c, L[i]? = some c → c < 128 ∧ I r i = nI c) ∧ ∀ i, i < cap → fits .byte (.int (I r i)) = true
theorem xb9 {a : Nat} (h : a < 900000) : a ≠ xE 43 := fun e => by
  have h9 : xB ≤ a := by rw [e]; exact xE_ge 43
  have : (900000 : Nat) ≤ xB := by decide
  omega
theorem cLn {ci n a : Nat} (h : LA K ci n a) (hc : 100 ≤ ci ∧ (ci < 104 ∨ 104 < ci ∧ ci < 110)) (ha : a < 900000) : cLen K a = some n :=
  (if_neg (xb9 ha)).trans ((if_pos ⟨by rw [h.1]; exact hc, h.2⟩).trans (by rw [h.1]))
/-- how far a builder grows -/
def ncap (cap x : Nat) : Nat := cap + if x - cap < cap + 2 then cap + 2 else x - cap
theorem nc_row (B : BS K I b r cap L) (hk : kN K < 900000) (hx : x ≤ 2000) (h : cap < x) : f_J5_newCapacity_0f7a4 I K b (nI x) = some (nI (ncap cap x)) := by
  obtain ⟨⟨⟨o, g⟩, l, -⟩, ⟨i1, -⟩, ⟨-, c5⟩, -⟩ := B
  have e1 : (nI x <<< (0 : Int32)) - nI cap = nI (x - cap) := by rw [shl0, pk_sub (by omega)]
  have e2 : nI cap + ((2 : Int32) <<< (0 : Int32)) = nI (cap + 2) := by
    rw [shl0, show (2 : Int32) = nI 2 from rfl, nI_add]
  have hn : ncap cap x ≤ 20000 := by unfold ncap; split <;> omega
  have hp : 0 < ncap cap x := by unfold ncap; split <;> omega
  have e3 : nI cap + (if nI (x - cap) < nI (cap + 2) then nI (cap + 2) else nI (x - cap)) = nI (ncap cap x) := by
    unfold ncap
    by_cases hx : x - cap < cap + 2
    · rw [if_pos (nI_lt hx (by omega)), if_pos hx, nI_add]
    · rw [if_neg (nI_nlt (by omega) (by omega)), if_neg hx, nI_add]
  unfold f_J5_newCapacity_0f7a4 f_J8_newLength_cabcc
  rw [cO_n o, b1_so, gR_e g, b1_so, cLn l (by decide) (by have := l.2; omega), b1_so, b1_so, b1_so, i1, and0, e1, e2, e3, if_neg (by rw [Int32.le_iff_toInt_le, nI_toInt (by omega)]; show ¬ _ ≤ (0 : Int); omega), if_neg (by rw [Int32.lt_iff_toInt_lt, nI_toInt (by omega), show (2147483639 : Int32).toInt = 2147483639 from rfl]; omega), b1_so, if_neg (fun z => by
    have z2 := congrArg Int32.toInt z
    rw [nI_toInt (by omega), show (2147483647 : Int32).toInt = 2147483647 from rfl] at z2
    omega), b1_so, shr0]
theorem cp_in {f g : Nat → Int32} {m j : Nat} (h : j < m) : va_cpy f g 0 0 m j = f j := by
  unfold va_cpy
  rw [if_pos ⟨Nat.zero_le _, by omega⟩]
  congr 1
  omega
theorem cp_out {f g : Nat → Int32} {s d m j : Nat} (h : j < d ∨ d + m ≤ j) : va_cpy f g s d m j = g j := if_neg (by omega)
theorem ens_row (B : BS K I b r cap L) (hk : kN K < 800000) (hx : x ≤ 1000) : ∃ I1 K1 r1 cap1, f_J5_ensureCapacityInternal_d00df I K b (nI x) = some (I1, K1) ∧ BS K1 I1 b r1 cap1 L ∧ x ≤ cap1 ∧ (r1 = r ∨ r1 = kN K) ∧ (kN K ≤ kN K1 ∧ (kN K1 = kN K ∨ kN K1 = kN K + 1 ∧ cap < x)) ∧ gz K1 ≤ gz K + 10000 * (kN K1 - kN K) ∧ (∀ c, c < kN K → I1 c = I c ∧ kS K1 c = kS K c) ∧ ∀ c, c < kN K → c ≠ b → kG K1 c = kG K c := by
  have B0 := B
  obtain ⟨⟨⟨o, g⟩, l, hbr⟩, ⟨i1, i3⟩, ⟨c4, c5⟩, hL, hF⟩ := B
  by_cases hr : x ≤ cap
  · refine ⟨I, K, r, cap, ?_, B0, hr, Or.inl rfl, ⟨Nat.le_refl _, Or.inl rfl⟩, by omega, fun _ _ => ⟨rfl, rfl⟩, fun _ _ _ => rfl⟩
    unfold f_J5_ensureCapacityInternal_d00df
    rw [cO_n o, b1_so, gR_e g, b1_so, cLn l (by decide) (by have := l.2; omega), b1_so, b1_so, i1, and0, shr0, if_pos (by rw [Int32.le_iff_toInt_le, pk_sub_toInt (by omega) (by omega)]; show _ ≤ (0 : Int); omega)]
  · have hc : ncap cap x ≤ 5000 ∧ cap < ncap cap x ∧ x ≤ ncap cap x := by unfold ncap; split <;> omega
    have lr := l.2
    let I5 := u1 I (kN K) (fun _ => (0 : Int32))
    let F := va_cpy (I5 r) (I5 (kN K)) 0 0 cap
    have e5 : I5 r = I r := u1_n (by omega)
    have e6 : I5 (kN K) = fun _ => 0 := u1_s
    have ev : ∀ a, a < kN K → u1 I5 (kN K) F a = I a := fun a ha => (u1_n (by omega)).trans (u1_n (by omega))
    have ek : u1 I5 (kN K) F (kN K) = F := u1_s
    have eF : ∀ j, F j = if j < cap then I r j else 0 := fun j => by
      by_cases hj : j < cap
      · rw [if_pos hj]
        exact (cp_in hj).trans (congrFun e5 j)
      · rw [if_neg hj]
        exact (cp_out (by omega)).trans (congrFun e6 j)
    have q1 : f_J7_copyOf_9075b I K r (nI (ncap cap x)) = some (kN K, u1 I5 (kN K) F, kNew K (101, ncap cap x)) := by
      unfold f_J7_copyOf_9075b
      rw [cLn l (by decide) (by omega), b1_so, if_neg (show ¬ nI (ncap cap x) = nI cap by rw [nJ_i (by omega) (by omega)]; omega), ixn_n (by omega), b1_so, cL_n (by omega), b1_so, puN_e, b2_so, cLn l.nw (by decide) (by omega), b1_so, cA_n LA.mk, b1_so, cA_n l.nw, b1_so, if_neg (show ¬ nI (ncap cap x) < nI cap from nI_nlt (by omega) (by omega)), show cpy 0 0 (nI cap) cap (ncap cap x) = some (0, 0, cap) from cpy_n (a := 0) (b := 0) (by omega) (by omega) (by omega) (by omega), b3_so, cFit_n (f := u1 I (kN K) (fun _ => 0) r) (a := 0) (fun i hi => by
        rw [Nat.zero_add, u1_n (by omega)]
        exact hF i hi), b1_so]
      rfl
    refine ⟨u1 I5 (kN K) F, kPut (kNew K (101, ncap cap x)) b 0 (kN K), kN K, ncap cap x, ?_, ⟨⟨⟨(show LO (kNew K (101, ncap cap x)) 0 b from o.nw), kp_s⟩, (show LA (kNew K (101, ncap cap x)) 101 _ (kN K) from LA.mk), by have := o.2; omega⟩, ⟨by rw [ev b o.2]; exact i1, by rw [ev b o.2]; exact i3⟩, ⟨by omega, hc.1⟩, fun i c hi => ⟨(hL i c hi).1, ?_⟩, fun i hi => ?_⟩, hc.2.2, Or.inr rfl, ⟨Nat.le_succ _, Or.inr ⟨rfl, by omega⟩⟩, ?_, fun c hc => ⟨ev c hc, kn_s (by omega)⟩, fun c hc h2 => (kp_a h2).trans (kn_g (by omega))⟩
    · unfold f_J5_ensureCapacityInternal_d00df
      rw [cO_n o, b1_so, gR_e g, b1_so, cLn l (by decide) (by omega), b1_so, b1_so, i1, and0, shr0, if_neg (by rw [Int32.le_iff_toInt_le, pk_sub_toInt (by omega) (by omega)]; show ¬ _ ≤ (0 : Int); omega), b1_so, b1_so, b1_so, nc_row B0 (by omega) (by omega) (by omega), b1_so, b1_so, shl0, q1, b3_so, cO_n o.nw, b1_so, puG_e, b1_so]
    · have hl := (List.getElem?_eq_some_iff.mp hi).1
      rw [ek, eF, if_pos (by omega)]
      exact (hL i c hi).2
    · rw [ek, eF]
      split
      · next h => exact hF i h
      · exact fit0
    · show gz (kNew K (101, ncap cap x)) ≤ gz K + 10000 * (kN K + 1 - kN K)
      rw [gz_new]
      show gz K + ncap cap x ≤ _
      omega
/-- bytes behind the last one -/
theorem BS.app (B : BS K I b r cap L) (hT : ∀ i c, T[i]? = some c → c < 128 ∧ I1 r (L.length + i) = nI c) (hr : L.length + T.length ≤ cap) (a1 : I1 b 1 = 0) (a2 : I1 b 3 = nI (L.length + T.length)) (a4 : ∀ j, (j < L.length ∨ L.length + T.length ≤ j) → I1 r j = I r j) : BS K I1 b r cap (L ++ T) := by
  obtain ⟨s1, -, ⟨s3, s4⟩, s5, s6⟩ := B
  refine ⟨s1, ⟨a1, by rw [List.length_append]; exact a2⟩, ⟨by rw [List.length_append]; exact hr, s4⟩, fun i c hi => ?_, fun i hi => ?_⟩
  · by_cases hl : i < L.length
    · rw [List.getElem?_append_left hl] at hi
      rw [a4 i (Or.inl hl)]
      exact s5 i c hi
    · rw [List.getElem?_append_right (by omega)] at hi
      have := hT _ c hi
      rwa [show L.length + (i - L.length) = i by omega] at this
  · by_cases hl : i < L.length ∨ L.length + T.length ≤ i
    · rw [a4 i hl]; exact s6 i hi
    · have hj : i - L.length < T.length := by omega
      have := hT (i - L.length) T[i - L.length] (List.getElem?_eq_getElem hj)
      rw [show L.length + (i - L.length) = i by omega] at this
      rw [this.2]
      exact fitc _ this.1
end BDR
