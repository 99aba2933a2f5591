/-! the law's market, built -/
section MKT
variable {n : Nat} {xs : Nat → Int32} {I I1 I' I2 : Mem} {K K1 K' K2 : Kt} {ns s p w y : Nat}
def wd (ns k : Nat) : Nat := if k = 0 then 423 + ns else 424 + ns + k
def HB (K : Kt) (I : Mem) (ns s p w : Nat) : Prop :=
  ((LO K 8 415 ∧ kG K 415 7 = some 416) ∧ kG K 415 8 = some 417 ∧ kG K 415 9 = some 418) ∧
  (AL K I 416 (421 + ns) p ∧ AL K I 417 420 s ∧ AL K I 418 (424 + ns) w) ∧
  (∀ i, i < s → kG K 420 i = some (419 + 2 * i) ∧ LA K 100 4 (419 + 2 * i)) ∧
  (∀ i, i < p → kG K (421 + ns) i = some (420 + ns + 2 * i) ∧ LO K 9 (420 + ns + 2 * i)) ∧
  ∀ i, i < w → kG K (424 + ns) i = some (wd ns i) ∧ LO K 10 (wd ns i)
def V1 (c : Nat → Int32) (y : Nat) : Prop := (c 0 = nI y ∧ 4 ≤ y ∧ y ≤ 7) ∧ c 1 = 0 ∧ (∃ r, c 2 = nI r ∧ r ≤ 3) ∧ (∃ f, c 3 = nI f ∧ f ≤ 31) ∧ (c 4 = -1 ∨ ∃ a, c 4 = nI a ∧ a < y) ∧ (c 5 = -1 ∨ ∃ a t, (c 5 = nI a ∧ a < y) ∧ c 6 = nI t ∧ t ≤ 31)
def VS (c : Nat → Int32) : Prop := ∃ a b d e, (c 0 = nI a ∧ 1 ≤ a ∧ a ≤ 4) ∧ (c 1 = nI b ∧ b ≤ 63) ∧ (c 2 = nI d ∧ d ≤ 50) ∧ c 3 = nI e ∧ e ≤ 100
def VP (c : Nat → Int32) (y : Nat) : Prop := ∃ a b d l, ((c 0 = nI a ∧ a ≤ 127) ∧ (c 1 = nI b ∧ b < y) ∧ (c 2 = nI d ∧ d ≤ 3)) ∧ (c 3 = 0 ∧ c 4 = nI l ∧ l ≤ 31) ∧ (c 5 = 0 ∨ c 5 = 1) ∧ (c 6 = 0 ∨ c 6 = 1)
def stk (I : Mem) (ns t k : Nat) : Nat := sCnt (fun j => I (wd ns j) 3 = nI t) k
def VW (I : Mem) (ns k : Nat) : Prop := ∃ a b d, (I (wd ns k) 0 = nI a ∧ 1 ≤ a ∧ a ≤ 32) ∧ (I (wd ns k) 1 = nI b ∧ b ≤ 3) ∧ (I (wd ns k) 2 = nI d ∧ d ≤ 9) ∧
  ((∃ t, t < ns ∧ I (wd ns k) 3 = nI t ∧ I (wd ns k) 4 = -1 ∧ ¬ I (419 + 2 * t) 0 ≤ nI (stk I ns t k)) ∨ (I (wd ns k) 3 = -1 ∧ ∃ o, I (wd ns k) 4 = nI o ∧ o < 2)) ∧
  (I (wd ns k) 5 = -1 ∧ I (wd ns k) 6 = -1 ∧ I (wd ns k) 7 = -1) ∧ I (wd ns k) 8 = 0 ∧ I (wd ns k) 9 = 0
def HV (I : Mem) (ns s p w y : Nat) : Prop := V1 (I 415) y ∧ (∀ i, i < s → VS (I (419 + 2 * i))) ∧ (∀ i, i < p → VP (I (420 + ns + 2 * i)) y) ∧ ∀ i, i < w → VW I ns i
/-- all that lies before the law's market is as it was -/
def Fb (K K' : Kt) (I I' : Mem) : Prop := (kN K ≤ kN K' ∧ gz K' ≤ gz K + 1000 * (kN K' - kN K)) ∧ ∀ c, c < 415 → I' c = I c ∧ kS K' c = kS K c ∧ kG K' c = kG K c
theorem Fb.refl : Fb K K I I := ⟨⟨Nat.le_refl _, by omega⟩, fun _ _ => ⟨rfl, rfl, rfl⟩⟩
theorem Fb.trans (h : Fb K K1 I I1) (g : Fb K1 K2 I1 I2) : Fb K K2 I I2 := ⟨⟨Nat.le_trans h.1.1 g.1.1, by have a1 := h.1; have a2 := g.1; omega⟩, fun c hc => ⟨(g.2 c hc).1.trans (h.2 c hc).1, (g.2 c hc).2.1.trans (h.2 c hc).2.1, (g.2 c hc).2.2.trans (h.2 c hc).2.2⟩⟩
theorem Fb.of {a r : Nat} (h : Kc K K' a r) (i : Ic I I' (kN K) a r) (hk : 415 ≤ kN K) (ha : 415 ≤ a) (hr : 415 ≤ r) : Fb K K' I I' := ⟨h.1, fun c hc => ⟨i c (by omega) (by omega) (by omega), h.2.1 c (by omega), h.2.2 c (by omega) (by omega) (by omega)⟩⟩
theorem wd_ge {k : Nat} : 423 + ns ≤ wd ns k ∧ wd ns k ≠ 424 + ns := by
  unfold wd
  split <;> omega
theorem wd_inj {j k : Nat} (h : wd ns j = wd ns k) : j = k := by
  unfold wd at h
  split at h <;> split at h <;> omega
theorem HV.mv (H : HV I ns s p w y) (h1 : I' 415 = I 415) (h2 : ∀ i, i < s → I' (419 + 2 * i) = I (419 + 2 * i)) (h3 : ∀ i, i < p → I' (420 + ns + 2 * i) = I (420 + ns + 2 * i)) (h4 : ∀ i, i < w → I' (wd ns i) = I (wd ns i)) (hs : w = 0 ∨ s = ns) : HV I' ns s p w y := by
  refine ⟨by rw [h1]; exact H.1, fun i hi => by rw [h2 i hi]; exact H.2.1 i hi, fun i hi => by rw [h3 i hi]; exact H.2.2.1 i hi, fun i hi => ?_⟩
  obtain ⟨a, b, d, q1, q2, q3, q4, q5⟩ := H.2.2.2 i hi
  refine ⟨a, b, d, ?_⟩
  rw [h4 i hi]
  refine ⟨q1, q2, q3, q4.imp (fun z => ?_) id, q5⟩
  obtain ⟨t, t1, t2, t3, t4⟩ := z
  refine ⟨t, t1, t2, t3, ?_⟩
  have e : stk I' ns t i = stk I ns t i := sCnt_eq (fun j hj => by rw [h4 j (by omega)])
  rw [e, h2 t (by omega)]
  exact t4
theorem HB.s1 (H : HB K I ns s 0 0) (hs : s < ns) (hn : ns ≤ 2) (hk : kN K = 419 + 2 * s) (g : Kc K K' 417 420) (i : Ic I I' (kN K) 417 420) (A : AL K' I' 417 420 (s + 1)) (e : kG K' 420 s = some (kN K)) (eS : kS K' (kN K) = (100, 4)) (eN : kN K < kN K') (eo : ∀ j, 1 ≤ s → j ≠ s → kG K' 420 j = kG K 420 j) : HB K' I' ns (s + 1) 0 0 := by
  obtain ⟨⟨⟨o1', o2'⟩, o3', o4'⟩, ⟨a1, a2, a3⟩, b1', b2', b3'⟩ := H
  refine ⟨⟨⟨o1'.kc g, ?_⟩, ?_, ?_⟩, ⟨a1.kc g i (by decide) (by decide), A, a3.kc g i (by decide) (by decide)⟩, fun j hj => ?_, fun j hj => absurd hj (Nat.not_lt_zero j), fun j hj => absurd hj (Nat.not_lt_zero j)⟩
  · rw [g.2.2 415 (by omega) (by decide) (by decide)]; exact o2'
  · rw [g.2.2 415 (by omega) (by decide) (by decide)]; exact o3'
  · rw [g.2.2 415 (by omega) (by decide) (by decide)]; exact o4'
  · by_cases h : j = s
    · subst h
      rw [hk] at e eS
      exact ⟨e, eS, by omega⟩
    · rw [eo j (by omega) h]
      exact ⟨(b1' j (by omega)).1, (b1' j (by omega)).2.kc g⟩
theorem HB.p1 (H : HB K I ns ns p 0) (hp : p < 2) (hn : 1 ≤ ns ∧ ns ≤ 2) (hk : kN K = 420 + ns + 2 * p) (g : Kc K K' 416 (421 + ns)) (i : Ic I I' (kN K) 416 (421 + ns)) (A : AL K' I' 416 (421 + ns) (p + 1)) (e : kG K' (421 + ns) p = some (kN K)) (eS : kS K' (kN K) = (9, 7)) (eN : kN K < kN K') (eo : ∀ j, 1 ≤ p → j ≠ p → kG K' (421 + ns) j = kG K (421 + ns) j) : HB K' I' ns ns (p + 1) 0 := by
  obtain ⟨⟨⟨o1', o2'⟩, o3', o4'⟩, ⟨a1, a2, a3⟩, b1', b2', b3'⟩ := H
  refine ⟨⟨⟨o1'.kc g, ?_⟩, ?_, ?_⟩, ⟨A, a2.kc g i (by decide) (by omega), a3.kc g i (by decide) (by omega)⟩, fun j hj => ?_, fun j hj => ?_, fun j hj => absurd hj (Nat.not_lt_zero j)⟩
  · rw [g.2.2 415 (by omega) (by decide) (by omega)]; exact o2'
  · rw [g.2.2 415 (by omega) (by decide) (by omega)]; exact o3'
  · rw [g.2.2 415 (by omega) (by decide) (by omega)]; exact o4'
  · rw [g.2.2 420 (by omega) (by decide) (by omega)]
    exact ⟨(b1' j hj).1, (b1' j hj).2.kc g⟩
  · by_cases h : j = p
    · subst h
      rw [hk] at e eS
      exact ⟨e, by rw [eS], by omega⟩
    · rw [eo j (by omega) h]
      exact ⟨(b2' j (by omega)).1, (b2' j (by omega)).2.kc g⟩
theorem HB.w1 (H : HB K I ns ns 2 w) (hw : w < 4) (hn : 1 ≤ ns ∧ ns ≤ 2) (hk : kN K = wd ns w) (g : Kc K K' 418 (424 + ns)) (i : Ic I I' (kN K) 418 (424 + ns)) (A : AL K' I' 418 (424 + ns) (w + 1)) (e : kG K' (424 + ns) w = some (kN K)) (eS : kS K' (kN K) = (10, 10)) (eN : kN K < kN K') (eo : ∀ j, 1 ≤ w → j ≠ w → kG K' (424 + ns) j = kG K (424 + ns) j) : HB K' I' ns ns 2 (w + 1) := by
  obtain ⟨⟨⟨o1', o2'⟩, o3', o4'⟩, ⟨a1, a2, a3⟩, b1', b2', b3'⟩ := H
  have hg := wd_ge (ns := ns) (k := w)
  refine ⟨⟨⟨o1'.kc g, ?_⟩, ?_, ?_⟩, ⟨a1.kc g i (by decide) (by omega), a2.kc g i (by decide) (by omega), A⟩, fun j hj => ?_, fun j hj => ?_, fun j hj => ?_⟩
  · rw [g.2.2 415 (by omega) (by decide) (by omega)]; exact o2'
  · rw [g.2.2 415 (by omega) (by decide) (by omega)]; exact o3'
  · rw [g.2.2 415 (by omega) (by decide) (by omega)]; exact o4'
  · rw [g.2.2 420 (by omega) (by decide) (by omega)]
    exact ⟨(b1' j hj).1, (b1' j hj).2.kc g⟩
  · rw [g.2.2 (421 + ns) (by omega) (by omega) (by omega)]
    exact ⟨(b2' j hj).1, (b2' j hj).2.kc g⟩
  · by_cases h : j = w
    · subst h
      rw [hk] at e eS
      exact ⟨e, by rw [eS], by omega⟩
    · rw [eo j (by omega) h]
      exact ⟨(b3' j (by omega)).1, (b3' j (by omega)).2.kc g⟩
/-- the count of wishes at a stall, as the law's market counts -/
theorem stock_row (H : HB K I ns ns 2 w) (hw : w ≤ 4) {t : Nat} : f_X10_stock I K 415 (nI t) = some (nI (stk I ns t w)) := by
  obtain ⟨⟨⟨o1', o2'⟩, o3', o4'⟩, ⟨a1, a2, a3⟩, b1', b2', b3'⟩ := H
  unfold f_X10_stock
  refine up_loop (fun f (z : Int32 × Int32) => l_X10_stock_4 f I K 415 (nI t) z.1 z.2) (fun i => (nI (stk I ns t i), nI i)) w _ (fun i hi f => ?_) (fun f => ?_) (FU_up (by omega))
  · show l_X10_stock_4 (f + 1) I K 415 (nI t) (nI (stk I ns t i)) (nI i) = l_X10_stock_4 f I K 415 (nI t) (nI (stk I ns t (i + 1))) (nI (i + 1))
    conv => lhs; unfold l_X10_stock_4
    rw [cO_n o1', b1_so, gR_e o4', b1_so, cO_n a3.1, b1_so, a3.size, b1_so, if_neg (nle_f (by omega) (by omega)), b1_so, b1_so, cO_n a3.1, b1_so, a3.get hi (by omega) (b3' i hi).1, b1_so, cO_n (b3' i hi).2, b1_so, b1_so]
    by_cases h : I (wd ns i) 3 = nI t
    · rw [if_pos h, show nI (stk I ns t i) + 1 = nI (stk I ns t (i + 1)) from sCnt_ye (P := fun j => I (wd ns j) 3 = nI t) h, nI_s1]
    · rw [if_neg h, show nI (stk I ns t i) = nI (stk I ns t (i + 1)) from sCnt_no (P := fun j => I (wd ns j) 3 = nI t) h, nI_s1]
  · show l_X10_stock_4 (f + 1) I K 415 (nI t) (nI (stk I ns t w)) (nI w) = _
    unfold l_X10_stock_4
    rw [cO_n o1', b1_so, gR_e o4', b1_so, cO_n a3.1, b1_so, a3.size, b1_so, if_pos (Int32.le_refl _)]
end MKT
