/-! the law's market, built: the loops -/
section MK2
variable {n : Nat} {xs : Nat → Int32} {I I1 I' I2 : Mem} {K K1 K' K2 : Kt} {ns s p w y : Nat}
theorem HB.m (H : HB K I ns s p w) : LO K 8 415 := H.1.1.1
theorem HB.g7 (H : HB K I ns s p w) : kG K 415 7 = some 416 := H.1.1.2
theorem HB.g8 (H : HB K I ns s p w) : kG K 415 8 = some 417 := H.1.2.1
theorem HB.g9 (H : HB K I ns s p w) : kG K 415 9 = some 418 := H.1.2.2
theorem HB.lp (H : HB K I ns s p w) : AL K I 416 (421 + ns) p := H.2.1.1
theorem HB.ls (H : HB K I ns s p w) : AL K I 417 420 s := H.2.1.2.1
theorem HB.lw (H : HB K I ns s p w) : AL K I 418 (424 + ns) w := H.2.1.2.2
theorem mk_113 (hn : n ≤ 260) (h2 : 1 ≤ ns ∧ ns ≤ 2) : ∀ d s, s + d = ns → ∀ f, d < f → ∀ I K, HB K I ns s 0 0 → HV I ns s 0 0 y → kN K = 419 + (if s = 0 then 0 else s + 1) →
    ∃ I' K', l_L_market_113 n xs f I K 415 (nI ns) (nI s) = l_L_market_196 n xs FU I' K' 415 (nI ns) 0 ∧ HB K' I' ns ns 0 0 ∧ HV I' ns ns 0 0 y ∧ kN K' = 420 + ns ∧ Fb K K' I I' := by
  intro d
  induction d with
  | zero =>
    intro s hs f hf I K H V hk
    obtain rfl : s = ns := by omega
    cases f with
    | zero => omega
    | succ f =>
      refine ⟨I, K, ?_, H, V, by rw [hk, if_neg (by omega)]; omega, Fb.refl⟩
      unfold l_L_market_113
      rw [if_pos (Int32.le_refl _)]
  | succ d ih =>
    intro s hs f hf I K H V hk
    cases f with
    | zero => omega
    | succ f =>
      have hk2 : kN K = 419 + 2 * s := by
        rw [hk]
        split <;> omega
      obtain ⟨v, hv⟩ := cell_some (n := n) (xs := xs) (I := I) (K := K) (k := 1 + s) (by omega) hn
      obtain ⟨a, z1, ha⟩ := an_3 v
      obtain ⟨b, z2, hb⟩ := an_63 (ush v 2)
      obtain ⟨c, z3, hc⟩ := an_63 (ush v 8)
      obtain ⟨e, z4, he⟩ := an_127 (ush v 14)
      have m3 : nI c - nI c / 51 * 51 = nI (c % 51) := md_g (m := 51) (by omega) (by decide) (by decide)
      have m4 : nI e - nI e / 101 * 101 = nI (e % 101) := md_g (m := 101) (by omega) (by decide) (by decide)
      have hI : ∀ q, q ≠ kN K → u2 (u2 (u2 (u2 (u1 I (kN K) fun _ => 0) (kN K) 0 (nI (1 + a))) (kN K) 1 (nI b)) (kN K) 2 (nI (c % 51))) (kN K) 3 (nI (e % 101)) q = I q := fun q hq => by
        rw [u2_a hq, u2_a hq, u2_a hq, u2_a hq, u1_n hq]
      obtain ⟨I2, K2, q1, q2, q3, q4, q5, q6, q7, q8, q9⟩ := H.ls.obj (ci := 100) (n := 4) hI (fun h => by subst h; omega) (by decide) (by omega) (by omega) (Or.inr (Or.inr rfl)) (by decide)
      have H2 := H.s1 (by omega) h2.2 hk2 q5 q6 q2 q3 q8 (by rw [q4]; split <;> omega) q9
      have hc1 : ∀ q, q < kN K → q ≠ 417 → q ≠ 420 → I2 q = I q := q6
      have V2 : HV I2 ns (s + 1) 0 0 y := by
        refine ⟨by rw [hc1 415 (by omega) (by decide) (by decide)]; exact V.1, fun i hi => ?_, fun i hi => absurd hi (Nat.not_lt_zero i), fun i hi => absurd hi (Nat.not_lt_zero i)⟩
        by_cases h : i = s
        · subst h
          rw [← hk2, q7]
          refine ⟨1 + a, b, c % 51, e % 101, ⟨?_, by omega, by omega⟩, ⟨?_, by omega⟩, ⟨?_, by omega⟩, u2_s, by omega⟩
          · rw [u2_k (by decide), u2_k (by decide), u2_k (by decide), u2_s]
          · rw [u2_k (by decide), u2_k (by decide), u2_s]
          · rw [u2_k (by decide), u2_s]
        · rw [hc1 (419 + 2 * i) (by omega) (by omega) (by omega)]
          exact V.2.1 i (by omega)
      obtain ⟨I3, K3, r1, r2, r3, r4, r5⟩ := ih (s + 1) (by omega) f (by omega) I2 K2 H2 V2 (by rw [q4, hk2, if_neg (show ¬ s + 1 = 0 by omega)]; split <;> omega)
      refine ⟨I3, K3, ?_, r2, r3, r4, (Fb.of q5 q6 (by omega) (by decide) (by decide)).trans r5⟩
      rw [← r1]
      conv => lhs; unfold l_L_market_113
      have ca : cA (kNew K (100, 4)) 100 (kN K) = some 4 := cA_n LA.mk
      rw [if_neg (nle_f (by omega) (by omega)), show (1 : Int32) + nI s = nI (1 + s) from nI_add 1 s, hv, b1_so, cO_n H.m, b1_so, gR_e H.g8, b1_so, show ixn 4 = some 4 from rfl, b1_so, cL_n (by omega), b1_so, puN_e, b2_so, ca, b1_so, show ix 0 4 = some 0 from rfl, b1_so, z1, show (1 : Int32) + nI a = nI (1 + a) from nI_add 1 a, pu_so, b1_so, b1_so, show ix 1 4 = some 1 from rfl, b1_so, z2, pu_so, b1_so, b1_so, show ix 2 4 = some 2 from rfl, b1_so, z3, m3, pu_so, b1_so, b1_so, show ix 3 4 = some 3 from rfl, b1_so, z4, m4, pu_so, b1_so, cO_n H.ls.1.nw, b1_so, q1, b3_so, nI_s1]
theorem mk_196 (hn : n ≤ 260) (h2 : 1 ≤ ns ∧ ns ≤ 2) : ∀ d p, p + d = 2 → ∀ f, d < f → ∀ I K, HB K I ns ns p 0 → HV I ns ns p 0 y → kN K = 420 + ns + (if p = 0 then 0 else p + 1) →
    ∃ I' K', l_L_market_196 n xs f I K 415 (nI ns) (nI p) = l_L_market_347 n xs FU I' K' 415 (nI ns) 0 ∧ HB K' I' ns ns 2 0 ∧ HV I' ns ns 2 0 y ∧ kN K' = 423 + ns ∧ Fb K K' I I' := by
  intro d
  induction d with
  | zero =>
    intro p hs f hf I K H V hk
    obtain rfl : p = 2 := by omega
    cases f with
    | zero => omega
    | succ f =>
      refine ⟨I, K, ?_, H, V, by rw [hk, if_neg (by omega)]; omega, Fb.refl⟩
      unfold l_L_market_196
      rw [if_pos (show (2 : Int32) ≤ nI 2 by decide)]
  | succ d ih =>
    intro p hs f hf I K H V hk
    cases f with
    | zero => omega
    | succ f =>
      have hk2 : kN K = 420 + ns + 2 * p := by
        rw [hk]
        split <;> omega
      obtain ⟨v, hv⟩ := cell_some (n := n) (xs := xs) (I := I) (K := K) (k := 3 + p) (by omega) hn
      obtain ⟨a, z1, ha⟩ := an_127 v
      obtain ⟨b, z2, hb⟩ := an_7 (ush v 7)
      obtain ⟨c, z3, hc⟩ := an_3 (ush v 10)
      obtain ⟨e, z4, he⟩ := an_31 (ush v 16)
      obtain ⟨hy, y4, y7⟩ := V.1.1
      have m2 : nI b - nI b / nI y * nI y = nI (b % y) := md_g (by omega) (by omega) (by omega)
      have hbm : b % y < y := Nat.mod_lt _ (by omega)
      -- whatever the flags and the limit
      have core : ∀ (g1 g2 : Int32) (l : Nat), (g1 = 0 ∨ g1 = 1) → (g2 = 0 ∨ g2 = 1) → l ≤ 31 → ∃ I' K', l_L_market_325 n xs (l_L_market_196 n xs f) (u2 (u2 (u2 (u2 (u2 (u1 I (kN K) fun _ => 0) (kN K) 0 (nI a)) (kN K) 1 (nI (b % y))) (kN K) 2 (nI c)) (kN K) 5 g1) (kN K) 6 g2) (kNew K (9, 7)) 415 (nI ns) (nI p) (kN K) (nI l) (kN K) = l_L_market_347 n xs FU I' K' 415 (nI ns) 0 ∧ HB K' I' ns ns 2 0 ∧ HV I' ns ns 2 0 y ∧ kN K' = 423 + ns ∧ Fb K K' I I' := by
        intro g1 g2 l hg1 hg2 hl
        have hI : ∀ q, q ≠ kN K → u2 (u2 (u2 (u2 (u2 (u2 (u1 I (kN K) fun _ => 0) (kN K) 0 (nI a)) (kN K) 1 (nI (b % y))) (kN K) 2 (nI c)) (kN K) 5 g1) (kN K) 6 g2) (kN K) 4 (nI l) q = I q := fun q hq => by
          rw [u2_a hq, u2_a hq, u2_a hq, u2_a hq, u2_a hq, u2_a hq, u1_n hq]
        obtain ⟨I2, K2, q1, q2, q3, q4, q5, q6, q7, q8, q9⟩ := H.lp.obj (ci := 9) (n := 7) hI (fun h => by subst h; omega) (by omega) (by omega) (by omega) (Or.inl rfl) (by decide)
        have H2 := H.p1 (by omega) h2 hk2 q5 q6 q2 q3 q8 (by rw [q4]; split <;> omega) q9
        have hc1 : ∀ q, q < kN K → q ≠ 416 → q ≠ 421 + ns → I2 q = I q := q6
        have V2 : HV I2 ns ns (p + 1) 0 y := by
          refine ⟨by rw [hc1 415 (by omega) (by decide) (by omega)]; exact V.1, fun i hi => ?_, fun i hi => ?_, fun i hi => absurd hi (Nat.not_lt_zero i)⟩
          · rw [hc1 (419 + 2 * i) (by omega) (by omega) (by omega)]
            exact V.2.1 i hi
          · by_cases h : i = p
            · subst h
              rw [← hk2, q7]
              refine ⟨a, b % y, c, l, ⟨⟨?_, by omega⟩, ⟨?_, hbm⟩, ?_, by omega⟩, ⟨?_, u2_s, hl⟩, ?_, ?_⟩
              · rw [u2_k (by decide), u2_k (by decide), u2_k (by decide), u2_k (by decide), u2_k (by decide), u2_s]
              · rw [u2_k (by decide), u2_k (by decide), u2_k (by decide), u2_k (by decide), u2_s]
              · rw [u2_k (by decide), u2_k (by decide), u2_k (by decide), u2_s]
              · rw [u2_k (by decide), u2_k (by decide), u2_k (by decide), u2_k (by decide), u2_k (by decide), u2_k (by decide), u1_s]
              · rw [u2_k (by decide), u2_k (by decide), u2_s]; exact hg1
              · rw [u2_k (by decide), u2_s]; exact hg2
            · rw [hc1 (420 + ns + 2 * i) (by omega) (by omega) (by omega)]
              exact V.2.2.1 i (by omega)
        obtain ⟨I3, K3, r1, r2, r3, r4, r5⟩ := ih (p + 1) (by omega) f (by omega) I2 K2 H2 V2 (by rw [q4, hk2, if_neg (show ¬ p + 1 = 0 by omega)]; split <;> omega)
        refine ⟨I3, K3, ?_, r2, r3, r4, (Fb.of q5 q6 (by omega) (by decide) (by omega)).trans r5⟩
        rw [← r1]
        unfold l_L_market_325
        rw [cO_n LO.mk, b1_so, pu_so, b1_so, cO_n H.m.nw, b1_so, gR_e (show kG (kNew K (9, 7)) 415 7 = some 416 by rw [kn_g (by omega)]; exact H.g7), b1_so, cO_n H.lp.1.nw, b1_so, q1, b3_so, nI_s1]
      have cb : ∀ g : Int32, (g = 0 ∨ g = 1) → cF .boolean g = some () := fun g hg => by
        rcases hg with rfl | rfl
        · exact cF_z
        · exact cF_o
      have c298 : ∀ (g1 g2 : Int32), (g1 = 0 ∨ g1 = 1) → (g2 = 0 ∨ g2 = 1) → ∃ I' K', l_L_market_298 n xs (l_L_market_196 n xs f) (u2 (u2 (u2 (u2 (u1 I (kN K) fun _ => 0) (kN K) 0 (nI a)) (kN K) 1 (nI (b % y))) (kN K) 2 (nI c)) (kN K) 5 g1) (kNew K (9, 7)) 415 (nI ns) (nI p) v (kN K) g2 (kN K) = l_L_market_347 n xs FU I' K' 415 (nI ns) 0 ∧ HB K' I' ns ns 2 0 ∧ HV I' ns ns 2 0 y ∧ kN K' = 423 + ns ∧ Fb K K' I I' := by
        intro g1 g2 hg1 hg2
        unfold l_L_market_298
        rw [cO_n LO.mk, b1_so, cb g2 hg2, b1_so, pu_so, b1_so]
        by_cases h : (ush v 14) &&& 3 = 0
        · rw [if_pos h]
          exact core g1 g2 0 hg1 hg2 (by decide)
        · rw [if_neg h, z4]
          exact core g1 g2 e hg1 hg2 (by omega)
      have c278 : ∀ (g1 : Int32), (g1 = 0 ∨ g1 = 1) → ∃ I' K', l_L_market_278 n xs (l_L_market_196 n xs f) (u2 (u2 (u2 (u1 I (kN K) fun _ => 0) (kN K) 0 (nI a)) (kN K) 1 (nI (b % y))) (kN K) 2 (nI c)) (kNew K (9, 7)) 415 (nI ns) (nI p) v (kN K) g1 (kN K) = l_L_market_347 n xs FU I' K' 415 (nI ns) 0 ∧ HB K' I' ns ns 2 0 ∧ HV I' ns ns 2 0 y ∧ kN K' = 423 + ns ∧ Fb K K' I I' := by
        intro g1 hg1
        unfold l_L_market_278
        rw [cO_n LO.mk, b1_so, cb g1 hg1, b1_so, pu_so, b1_so]
        split
        · exact c298 g1 1 hg1 (Or.inr rfl)
        · exact c298 g1 0 hg1 (Or.inl rfl)
      have e415 : u2 (u1 I (kN K) fun _ => 0) (kN K) 0 (nI a) 415 0 = nI y := by
        rw [u2_a (by omega), u1_n (by omega)]
        exact hy
      unfold l_L_market_196
      rw [if_neg (show ¬ (2 : Int32) ≤ nI p from nle_f (a := 2) (by omega) (by decide)), show (3 : Int32) + nI p = nI (3 + p) from nI_add 3 p, hv, b1_so, cL_n (by omega), b1_so, puN_e, b2_so]
      unfold f_X11_init
      rw [b1_so, cO_n LO.mk, b1_so, z1, pu_so, b1_so, cO_n H.m.nw, b1_so, e415, nz_n (by omega) (by omega), b1_so, b1_so, z2, m2, pu_so, b1_so, b1_so, z3, pu_so, b1_so]
      split
      · exact c278 1 (Or.inr rfl)
      · exact c278 0 (Or.inl rfl)
end MK2
