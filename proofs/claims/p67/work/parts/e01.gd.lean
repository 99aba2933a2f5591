/-! trades keep what is well: coins and cash move, prices are noted -/
section GD
variable {N N' : Nat → Int32} {np ns nw D : Nat}
theorem cSum_u {p : Nat} {x : Int32} : ∀ n, p < n → cSum (upd N (11 + 14 * p + 0) x) n + nT (pN N p 0) = cSum N n + nT x
  | 0, h => absurd h (Nat.not_lt_zero _)
  | n + 1, h => by
    show cSum (upd N (11 + 14 * p + 0) x) n + nT (pN (upd N (11 + 14 * p + 0) x) n 0) + nT (pN N p 0) = cSum N n + nT (pN N n 0) + nT x
    by_cases e : p = n
    · subst e
      rw [show cSum (upd N (11 + 14 * p + 0) x) p = cSum N p from cSum_eq p (fun q hq => upd_n (by omega)), show pN (upd N (11 + 14 * p + 0) x) p 0 = x from upd_s]
      omega
    · have := cSum_u (x := x) n (by omega : p < n)
      rw [show pN (upd N (11 + 14 * p + 0) x) n 0 = pN N n 0 from upd_n (by omega)]
      omega
theorem kSum_u {s : Nat} {x : Int32} : ∀ n, s < n → kSum (upd N (95 + 4 * s + 1) x) n + nT (sN N s 1) = kSum N n + nT x
  | 0, h => absurd h (Nat.not_lt_zero _)
  | n + 1, h => by
    show kSum (upd N (95 + 4 * s + 1) x) n + nT (sN (upd N (95 + 4 * s + 1) x) n 1) + nT (sN N s 1) = kSum N n + nT (sN N n 1) + nT x
    by_cases e : s = n
    · subst e
      rw [show kSum (upd N (95 + 4 * s + 1) x) s = kSum N s from kSum_eq s (fun q hq => upd_n (by omega)), show sN (upd N (95 + 4 * s + 1) x) s 1 = x from upd_s]
      omega
    · have := kSum_u (x := x) n (by omega : s < n)
      rw [show sN (upd N (95 + 4 * s + 1) x) n 1 = sN N n 1 from upd_n (by omega)]
      omega
theorem cSum_ge {p : Nat} : ∀ n, p < n → nT (pN N p 0) ≤ cSum N n
  | 0, h => absurd h (Nat.not_lt_zero _)
  | n + 1, h => by
    show nT (pN N p 0) ≤ cSum N n + nT (pN N n 0)
    by_cases e : p = n
    · subst e; omega
    · have := cSum_ge n (by omega : p < n); omega
theorem kSum_ge {s : Nat} : ∀ n, s < n → nT (sN N s 1) ≤ kSum N n
  | 0, h => absurd h (Nat.not_lt_zero _)
  | n + 1, h => by
    show nT (sN N s 1) ≤ kSum N n + nT (sN N n 1)
    by_cases e : s = n
    · subst e; omega
    · have := kSum_ge n (by omega : s < n); omega
theorem CB.c (h : CB N np ns) {p : Nat} (hp : p < np) : ∃ a, pN N p 0 = nI a ∧ a ≤ 10989 ∧ a = nT (pN N p 0) := ⟨_, h.1 p hp, by have := cSum_ge (N := N) np hp; have := h.2.2; omega, rfl⟩
theorem CB.k (h : CB N np ns) {s : Nat} (hs : s < ns) : ∃ a, sN N s 1 = nI a ∧ a ≤ 10989 ∧ a = nT (sN N s 1) := ⟨_, h.2.1 s hs, by have := kSum_ge (N := N) ns hs; have := h.2.2; omega, rfl⟩
theorem CB.pay (h : CB N np ns) (b1 : np ≤ 6) (b2 : ns ≤ 5) {s p : Nat} (hs : s < ns) (hp : p < np) {c : Int32} {a b : Nat} (ha : sN N s 1 - c = nI a) (hb : pN N p 0 + c = nI b) (e : a + b = nT (sN N s 1) + nT (pN N p 0)) : CB (sPay N s p c) np ns := by
  have g1 := cSum_ge (N := N) np hp
  have g2 := kSum_ge (N := N) ns hs
  have g3 := h.2.2
  have tA : nT (nI a) = a := nT_n (by omega)
  have tB : nT (nI b) = b := nT_n (by omega)
  unfold sPay
  rw [ha, hb]
  have e1 := cSum_u (N := upd N (95 + 4 * s + 1) (nI a)) (x := nI b) np hp
  have e2 : cSum (upd N (95 + 4 * s + 1) (nI a)) np = cSum N np := cSum_eq np (fun q hq => upd_n (by omega))
  have e3 : pN (upd N (95 + 4 * s + 1) (nI a)) p 0 = pN N p 0 := upd_n (by omega)
  have e4 : kSum (upd (upd N (95 + 4 * s + 1) (nI a)) (11 + 14 * p + 0) (nI b)) ns = kSum (upd N (95 + 4 * s + 1) (nI a)) ns := kSum_eq ns (fun q hq => upd_n (by omega))
  have e5 := kSum_u (N := N) (x := nI a) ns hs
  rw [e2, e3, tB] at e1
  rw [tA] at e5
  refine ⟨fun q hq => ?_, fun q hq => ?_, by omega⟩
  · by_cases z : q = p
    · subst z
      rw [show pN (upd (upd N (95 + 4 * s + 1) (nI a)) (11 + 14 * q + 0) (nI b)) q 0 = nI b from upd_s, tB]
    · rw [show pN (upd (upd N (95 + 4 * s + 1) (nI a)) (11 + 14 * p + 0) (nI b)) q 0 = pN N q 0 from (upd_n (by omega)).trans (upd_n (by omega))]
      exact h.1 q hq
  · by_cases z : q = s
    · subst z
      rw [show sN (upd (upd N (95 + 4 * q + 1) (nI a)) (11 + 14 * p + 0) (nI b)) q 1 = nI a from (upd_n (by omega)).trans upd_s, tA]
    · rw [show sN (upd (upd N (95 + 4 * s + 1) (nI a)) (11 + 14 * p + 0) (nI b)) q 1 = sN N q 1 from (upd_n (by omega)).trans (upd_n (by omega))]
      exact h.2.1 q hq
/-- the stall pays -/
theorem CB.pay1 (h : CB N np ns) (b1 : np ≤ 6) (b2 : ns ≤ 5) {s p : Nat} (hs : s < ns) (hp : p < np) {k : Nat} (hk : k ≤ nT (sN N s 1)) : CB (sPay N s p (nI k)) np ns := by
  obtain ⟨a, a1, a2, a3⟩ := h.k hs
  obtain ⟨b, d1, d2, d3⟩ := h.c hp
  exact h.pay b1 b2 hs hp (a := a - k) (b := b + k) (by rw [a1, pk_sub (by omega)]) (by rw [d1, nI_add]) (by omega)
/-- the person pays -/
theorem CB.pay2 (h : CB N np ns) (b1 : np ≤ 6) (b2 : ns ≤ 5) {s p : Nat} (hs : s < ns) (hp : p < np) {k : Nat} (hk : k ≤ nT (pN N p 0)) : CB (sPay N s p (-nI k)) np ns := by
  obtain ⟨a, a1, a2, a3⟩ := h.k hs
  obtain ⟨b, d1, d2, d3⟩ := h.c hp
  exact h.pay b1 b2 hs hp (a := a + k) (b := b - k) (by rw [a1, Int32.sub_eq_add_neg, Int32.neg_neg, nI_add]) (by rw [d1, ← Int32.sub_eq_add_neg, pk_sub (by omega)]) (by omega)
theorem mv_n {w j : Nat} {h a x y z : Int32} (hj : j < 115 + 15 * w + 3 ∨ 115 + 15 * w + 7 < j) : sMv N w h a x y z j = N j :=
  (upd_n (by omega)).trans ((upd_n (by omega)).trans ((upd_n (by omega)).trans ((upd_n (by omega)).trans (upd_n (by omega)))))
theorem mvw3 {w : Nat} {h a x y z : Int32} : wN (sMv N w h a x y z) w 3 = h := (upd_n (by omega)).trans ((upd_n (by omega)).trans ((upd_n (by omega)).trans ((upd_n (by omega)).trans upd_s)))
theorem mvw5 {w : Nat} {h a x y z : Int32} : wN (sMv N w h a x y z) w 5 = x := (upd_n (by omega)).trans ((upd_n (by omega)).trans upd_s)
theorem mvw6 {w : Nat} {h a x y z : Int32} : wN (sMv N w h a x y z) w 6 = y := (upd_n (by omega)).trans upd_s
theorem CB.mv (h : CB N np ns) (b1 : np ≤ 6) (b2 : ns ≤ 5) {w : Nat} {g a x y z : Int32} : CB (sMv N w g a x y z) np ns := h.congr (fun p hp => mv_n (by omega)) (fun s hs => mv_n (by omega))
theorem CX.mv (h : CX N nw) {w : Nat} {g a x y z : Int32} (hy : g = 1 → ¬ x = -1 → ∃ c, y = nI c ∧ c ≤ 10989) : CX (sMv N w g a x y z) nw := by
  refine ⟨by rw [mv_n (by omega)]; exact h.1, by rw [mv_n (by omega)]; exact h.2.1, fun q hq h3 h5 => ?_⟩
  by_cases e : q = w
  · subst e
    rw [mvw3] at h3
    rw [mvw5] at h5
    rw [mvw6]
    exact hy h3 h5
  · have e3 : wN (sMv N w g a x y z) q 3 = wN N q 3 := mv_n (by omega)
    have e5 : wN (sMv N w g a x y z) q 5 = wN N q 5 := mv_n (by omega)
    have e6 : wN (sMv N w g a x y z) q 6 = wN N q 6 := mv_n (by omega)
    rw [e3] at h3
    rw [e5] at h5
    rw [e6]
    exact h.2.2 q hq h3 h5
theorem CX.pay (h : CX N nw) {s p : Nat} {c : Int32} (hs : s < 5) (hp : p < 6) : CX (sPay N s p c) nw :=
  h.congr ((upd_n (by omega)).trans (upd_n (by omega))) ((upd_n (by omega)).trans (upd_n (by omega))) (fun w _ => ⟨(upd_n (by omega)).trans (upd_n (by omega)), (upd_n (by omega)).trans (upd_n (by omega)), (upd_n (by omega)).trans (upd_n (by omega))⟩)
theorem CX.up (h : CX N nw) {j : Nat} {x : Int32} (hj : j ≠ 6 ∧ j ≠ 10 ∧ j < 115) : CX (upd N j x) nw := h.congr (upd_n (Ne.symm hj.1)) (upd_n (Ne.symm hj.2.1)) (fun w _ => ⟨upd_n (by omega), upd_n (by omega), upd_n (by omega)⟩)
theorem CB.up (h : CB N np ns) {j : Nat} {x : Int32} (hp : ∀ p, p < np → j ≠ 11 + 14 * p) (hs : ∀ s, s < ns → j ≠ 95 + 4 * s + 1) : CB (upd N j x) np ns := h.congr (fun p hq => upd_n (by have := hp p hq; omega)) (fun s hq => upd_n (by have := hs s hq; omega))
theorem Gd.mk (G : Gd N np ns nw D) (b1 : np ≤ 6) (b3 : nw ≤ 16) (A : Ag N N') (c : CB N' np ns) (x : CX N' nw) : Gd N' np ns nw D := by
  obtain ⟨h1, ⟨d, h2, h3⟩, h4, h5, h6⟩ := G
  exact ⟨h1.ag (fun i hi _ => A i hi) b1 b3, ⟨d, (A 1 (Or.inl (by decide))).trans h2, h3⟩, c, x, h6⟩
abbrev CC (N : Nat → Int32) (np ns nw : Nat) : Prop := CB N np ns ∧ CX N nw
/-- what lies between two numbers -/
theorem le_n {x : Int32} {b : Nat} (h0 : 0 ≤ x.toInt) (h : x ≤ nI b) (hb : b < 2147483648) : ∃ k, x = nI k ∧ k ≤ b := by
  rw [Int32.le_iff_toInt_le, nI_toInt hb] at h
  refine ⟨x.toInt.toNat, ?_, by omega⟩
  apply Int32.toInt_inj.mp
  rw [nI_toInt (by omega)]
  omega
theorem sOff_n (H : WF N np ns nw) {w s : Nat} (hw : w < nw) (hs : s < ns) : ∃ k, sOff N w s = nI k ∧ k < 2147483648 := by
  obtain ⟨-, b, e, q1, q2, q3⟩ := H.2.2.2.1 w hw
  obtain ⟨c, t, g, a1, a2, a3, a4⟩ := H.2.2.2.2.1 _ hs
  have c1 : b * (10 - e) ≤ 99 * 10 := Nat.mul_le_mul q1.2.2 (by omega)
  have c3 : b * (10 - e) * (50 + t) ≤ 99 * 10 * 100 := Nat.mul_le_mul c1 (by omega)
  refine ⟨b * (10 - e) * (50 + t) / 1000, ?_, by have := Nat.div_le_self (b * (10 - e) * (50 + t)) 1000; omega⟩
  unfold sOff
  rw [q1.1, q2.1, a2.1, show (10 : Int32) = nI 10 from rfl, show (50 : Int32) = nI 50 from rfl, show (1000 : Int32) = nI 1000 from rfl, pk_sub (by omega), nI_add, pk_mul, pk_mul, pk_div (by omega) (by decide) (by decide)]
theorem sRef_n (X : CX N nw) {w : Nat} (hw : w < nw) (h3 : wN N w 3 = 1) (h5 : ¬ wN N w 5 = -1) : ∃ k, sRef N w = nI k ∧ k < 2147483648 := by
  obtain ⟨c, e1, e2⟩ := X.2.2 w hw h3 h5
  obtain ⟨f, f1, f2⟩ := X.1
  have c1 : c * (100 - f) ≤ 10989 * 100 := Nat.mul_le_mul e2 (by omega)
  refine ⟨c * (100 - f) / 100, ?_, by have := Nat.div_le_self (c * (100 - f)) 100; omega⟩
  unfold sRef
  rw [e1, f1, show (100 : Int32) = nI 100 from rfl, pk_sub (by omega), pk_mul, pk_div (by omega) (by decide) (by decide)]
theorem nle {a b : Nat} (h : nI a ≤ nI b) (ha : a < 2147483648) (hb : b < 2147483648) : a ≤ b := by
  rw [Int32.le_iff_toInt_le, nI_toInt ha, nI_toInt hb] at h
  omega
theorem sPrice_n (H : WF N np ns nw) {w : Nat} (hw : w < nw) (h3 : wN N w 3 = 0) : ∃ k, sPrice N w = nI k ∧ k < 2147483648 := by
  obtain ⟨k, h1, h2⟩ := sPr_n H hw h3
  unfold sPrice
  split
  · exact ⟨k, h1, by omega⟩
  · exact ⟨1, rfl, by decide⟩
theorem CC.get (H : WF N np ns nw) (C : CC N np ns nw) {p w k : Nat} (hp : p < np) (hw : w < nw) (h3 : wN N w 3 = 0) (hk : k ≤ nT (pN N p 0)) : CC (sGet N p w (nI k)) np ns nw := by
  obtain ⟨h1, h2⟩ := H.a0 hw h3
  have b1 := H.p.2
  have b2 := H.s.2
  obtain ⟨b, d1, d2, d3⟩ := C.1.c hp
  rw [sGet_mv]
  exact ⟨(C.1.pay2 b1 b2 h2 hp hk).mv b1 b2, (C.2.pay (by omega) (by omega)).mv (fun _ _ => ⟨k, rfl, by omega⟩)⟩
theorem whyBuyC {p w : Nat} (h : sWhyBuy N nw p w = 0) : sPrice N w ≤ pN N p 0 := by
  unfold sWhyBuy at h
  by_cases h3 : wN N w 3 = 0
  · rw [if_pos h3] at h
    by_cases h4 : sPrice N w ≤ pN N p 0
    · exact h4
    · rw [if_neg h4] at h; exact absurd h (by decide)
  · rw [if_neg h3] at h; exact absurd h (by decide)
theorem CC.buy (H : WF N np ns nw) (C : CC N np ns nw) {p w : Nat} (hp : p < np) (hw : w < nw) (h : sWhyBuy N nw p w = 0) : CC (sBuy N p w) np ns nw := by
  have h3 := whyBuy0 h
  obtain ⟨h1, h2⟩ := H.a0 hw h3
  have b1 := H.p.2
  have b2 := H.s.2
  obtain ⟨k, e1, e2⟩ := sPrice_n H hw h3
  obtain ⟨b, d1, d2, d3⟩ := C.1.c hp
  have hk := whyBuyC h
  rw [e1, d1] at hk
  have := nle hk e2 (by omega)
  have G := CC.get H C hp hw h3 (k := k) (by omega)
  unfold sBuy
  rw [e1]
  exact ⟨G.1.up (fun q hq => by omega) (fun q hq => by omega), G.2.up (by omega)⟩
theorem whySellC {s w : Nat} (h : sWhySell N nw w s = 0) : sOff N w s ≤ sN N s 1 := by
  unfold sWhySell at h
  split at h
  · split at h
    · exact absurd h (by decide)
    · split at h
      · assumption
      · exact absurd h (by decide)
  · exact absurd h (by decide)
theorem CC.sell (H : WF N np ns nw) (C : CC N np ns nw) {s w : Nat} (hs : s < ns) (hw : w < nw) (h3 : wN N w 3 = 1) (hk : sOff N w s ≤ sN N s 1) : CC (sSell N w s) np ns nw := by
  obtain ⟨h1, h2⟩ := H.a1 hw h3
  have b1 := H.p.2
  have b2 := H.s.2
  obtain ⟨k, e1, e2⟩ := sOff_n H hw hs
  obtain ⟨b, d1, d2, d3⟩ := C.1.k hs
  rw [e1, d1] at hk
  have := nle hk e2 (by omega)
  unfold sSell
  rw [e1, sGo_mv]
  exact ⟨(C.1.pay1 b1 b2 hs h2 (by omega)).mv b1 b2, (C.2.pay (by omega) (by omega)).mv (fun _ z => absurd rfl z)⟩
theorem whyRetC {w : Nat} (h : sWhyRet N nw w = 0) : sRef N w ≤ sN N (sE N w) 1 := by
  unfold sWhyRet at h
  split at h
  · split at h
    · exact absurd h (by decide)
    · split at h
      · split at h
        · exact absurd h (by decide)
        · split at h
          · assumption
          · exact absurd h (by decide)
      · exact absurd h (by decide)
  · exact absurd h (by decide)
theorem CC.ret (H : WF N np ns nw) (C : CC N np ns nw) {w : Nat} (hw : w < nw) (h : sWhyRet N nw w = 0) : CC (sRet N w) np ns nw := by
  obtain ⟨h3, h5, hF⟩ := whyRet1 h
  obtain ⟨h1, h2⟩ := H.a1 hw h3
  obtain ⟨h6, h7⟩ := H.a7 hw h3 h5
  have b1 := H.p.2
  have b2 := H.s.2
  obtain ⟨k, e1, e2⟩ := sRef_n C.2 hw h3 h5
  obtain ⟨b, d1, d2, d3⟩ := C.1.k h7
  have hk := whyRetC h
  rw [e1, d1] at hk
  have := nle hk e2 (by omega)
  unfold sRet
  rw [e1, sGo_mv]
  exact ⟨((C.1.pay1 b1 b2 h7 h2 (by omega)).mv b1 b2).up (fun q hq => by omega) (fun q hq => by omega), ((C.2.pay (by omega) (by omega)).mv (fun _ z => absurd rfl z)).up (by omega)⟩
theorem CC.gr (H : WF N np ns nw) (C : CC N np ns nw) {w : Nat} (hw : w < nw) (h3 : wN N w 3 = 1) : CC (sGr N w) np ns nw := by
  obtain ⟨h1, h2⟩ := H.a1 hw h3
  have b1 := H.p.2
  have b2 := H.s.2
  unfold sGr
  rw [sGo_mv]
  exact ⟨(C.1.up (fun q hq => by omega) (fun q hq => by omega)).mv b1 b2, (C.2.up (by omega)).mv (fun _ z => absurd rfl z)⟩
theorem Gd.cc (G : Gd N np ns nw D) : CC N np ns nw := ⟨G.2.2.1, G.2.2.2.1⟩
end GD

